/-! Definitions of methods -/
section
variable {f_tickLimit f_tokenCount f_outCount f_error f_errorPlace f_lastKind f_codeSize f_methodCount f_methodTokens f_cellCount f_activeCalls f_next f_ticksLeft f_state f_pos f_expressionStart f_pendingCount f_frameTop f_localCount : Int32}
variable {f_lastValue : Int64}
variable {a_tokenCode a_tokenValue a_outKind a_codeOp a_codeArg a_codeKind a_codePlace a_methodSign a_methodStart a_declared a_cellKind a_callReturn a_pendingLevel a_pendingPlace a_pendingMore a_frameKind a_frameMore a_localName : Nat → Int32}
variable {a_outValue a_cellValue : Nat → Int64}
variable {post : SX → Prop} {mc mu : Nat}
set_option maxHeartbeats 200000 in
theorem hx_copy {fr en to : Nat} (h1 : 480 ≤ fr) (h2 : fr ≤ en) (h3 : en ≤ 761) (h4 : to + (en - fr) ≤ 480)
    (g : ∀ co ca ck cp : Nat → Int32, (∀ j, (j < to ∨ to + (en - fr) ≤ j) → co j = a_codeOp j ∧ ca j = a_codeArg j ∧ ck j = a_codeKind j ∧ cp j = a_codePlace j) → (∀ i, i < en - fr → co (to + i) = a_codeOp (fr + i) ∧ ca (to + i) = a_codeArg (fr + i) ∧ ck (to + i) = a_codeKind (fr + i) ∧ cp (to + i) = a_codePlace (fr + i)) → post (f_tickLimit, f_tokenCount, f_outCount, f_error, f_errorPlace, f_lastKind, f_lastValue, f_codeSize, f_methodCount, f_methodTokens, f_cellCount, f_activeCalls, f_next, f_ticksLeft, f_state, f_pos, f_expressionStart, f_pendingCount, f_frameTop, f_localCount, a_tokenCode, a_tokenValue, a_outKind, a_outValue, co, ca, ck, cp, a_methodSign, a_methodStart, a_declared, a_cellKind, a_cellValue, a_callReturn, a_pendingLevel, a_pendingPlace, a_pendingMore, a_frameKind, a_frameMore, a_localName)) : wpX_copyCode post (f_tickLimit, f_tokenCount, f_outCount, f_error, f_errorPlace, f_lastKind, f_lastValue, f_codeSize, f_methodCount, f_methodTokens, f_cellCount, f_activeCalls, f_next, f_ticksLeft, f_state, f_pos, f_expressionStart, f_pendingCount, f_frameTop, f_localCount, a_tokenCode, a_tokenValue, a_outKind, a_outValue, a_codeOp, a_codeArg, a_codeKind, a_codePlace, a_methodSign, a_methodStart, a_declared, a_cellKind, a_cellValue, a_callReturn, a_pendingLevel, a_pendingPlace, a_pendingMore, a_frameKind, a_frameMore, a_localName) (nI fr) (nI en) (nI to) := by
  unfold wpX_copyCode
  dsimp only
  have K : ∀ (j i fu : Nat) (co ca ck cp : Nat → Int32), i + j = en - fr → j < fu → (∀ x, (x < to ∨ to + i ≤ x) → co x = a_codeOp x ∧ ca x = a_codeArg x ∧ ck x = a_codeKind x ∧ cp x = a_codePlace x) → (∀ x, x < i → co (to + x) = a_codeOp (fr + x) ∧ ca (to + x) = a_codeArg (fr + x) ∧ ck (to + x) = a_codeKind (fr + x) ∧ cp (to + x) = a_codePlace (fr + x)) → wX_copyCode_3 post (nI fr) (nI en) (nI to) f_tickLimit f_tokenCount f_outCount f_error f_errorPlace f_lastKind f_lastValue f_codeSize f_methodCount f_methodTokens f_cellCount f_activeCalls f_next f_ticksLeft f_state f_pos f_expressionStart f_pendingCount f_frameTop f_localCount fu (nI i) a_tokenCode a_tokenValue a_outKind a_outValue co ca ck cp a_methodSign a_methodStart a_declared a_cellKind a_cellValue a_callReturn a_pendingLevel a_pendingPlace a_pendingMore a_frameKind a_frameMore a_localName := by
    intro j
    induction j with
    | zero =>
      intro i fu co ca ck cp e hf a1 a2
      obtain ⟨fu', rfl⟩ : ∃ fu', fu = fu' + 1 := ⟨fu - 1, by omega⟩
      have : i = en - fr := by omega
      subst this
      unfold wX_copyCode_3
      rw [nI_add]
      exact br_t (nI_le (by omega) (by omega)) (g co ca ck cp a1 a2)
    | succ j ih =>
      intro i fu co ca ck cp e hf a1 a2
      obtain ⟨fu', rfl⟩ : ∃ fu', fu = fu' + 1 := ⟨fu - 1, by omega⟩
      unfold wX_copyCode_3
      rw [nI_add fr i, nI_add to i, nI_clamp (by omega), nI_clamp (by omega)]
      have i1 : vp_in (nI (fr + i)) 761 := vp_in_nI (by omega) (by decide)
      have i2 : vp_in (nI (to + i)) 761 := vp_in_nI (by omega) (by decide)
      refine br_f (nI_ge (by omega) (by omega)) (br_f (nI_ge (b := 480) (by omega) (by omega)) ⟨i1, i2, nm_e ⟨i1, i2, nm_e ⟨i1, i2, nm_e ⟨i1, i2, nm_e (nm_r (nI_1 i) ?_)⟩⟩⟩⟩)
      obtain ⟨b1, b2, b3, b4⟩ := a1 (fr + i) (by omega)
      refine ih (i + 1) fu' _ _ _ _ (by omega) (by omega) (fun x hx => ?_) (fun x hx => ?_)
      · obtain ⟨y1, y2, y3, y4⟩ := a1 x (by omega)
        exact ⟨(pk_un (by omega)).trans y1, (pk_un (by omega)).trans y2, (pk_un (by omega)).trans y3, (pk_un (by omega)).trans y4⟩
      · rcases Nat.lt_or_ge x i with gx | gx
        · obtain ⟨y1, y2, y3, y4⟩ := a2 x gx
          exact ⟨(pk_un (by omega)).trans y1, (pk_un (by omega)).trans y2, (pk_un (by omega)).trans y3, (pk_un (by omega)).trans y4⟩
        · have : x = i := by omega
          subst this
          exact ⟨pk_us.trans b1, pk_us.trans b2, pk_us.trans b3, pk_us.trans b4⟩
  exact ⟨en - fr + 1, K (en - fr) 0 (en - fr + 1) a_codeOp a_codeArg a_codeKind a_codePlace (by omega) (by omega) (fun _ _ => ⟨rfl, rfl, rfl, rfl⟩) (fun x hx => by omega)⟩
set_option maxHeartbeats 200000 in
theorem hx_define {at0 en sn q p0 p1 : Nat} {sf : Nat → Nat} (ha : 480 ≤ at0) (hen : at0 < en) (hen2 : en ≤ 761) (ek : a_codeKind at0 = nI (sn * 8 + q)) (hq : q < 8) (hsn : sn < 30000) (ee : nI at0 + a_codeArg at0 = nI en) (e1 : a_codePlace (en - 1) = nI p1) (e0 : a_codePlace at0 = nI p0) (hp : p0 ≤ p1 ∧ p1 < 1000) (hmc : mc ≤ 8) (hmu : mu ≤ 240) (hsf : ∀ i, i < mc → a_methodSign i = nI (sf i) ∧ sf i < 30000) (dist : ∀ i j, i < mc → j < mc → sf i = sf j → i = j) (hfit : mu + (p1 - p0 + 1) ≤ 240 → 2 * mu + (en - (at0 + 1)) ≤ 480)
    (h0 : ((mc = 8 ∧ ∀ i, i < mc → sf i ≠ sn) ∨ 240 < mu + (p1 - p0 + 1)) → post (f_tickLimit, f_tokenCount, f_outCount, 8, nI p0, f_lastKind, f_lastValue, f_codeSize, nI mc, nI mu, f_cellCount, f_activeCalls, f_next, f_ticksLeft, f_state, f_pos, f_expressionStart, f_pendingCount, f_frameTop, f_localCount, a_tokenCode, a_tokenValue, a_outKind, a_outValue, a_codeOp, a_codeArg, a_codeKind, a_codePlace, a_methodSign, a_methodStart, a_declared, a_cellKind, a_cellValue, a_callReturn, a_pendingLevel, a_pendingPlace, a_pendingMore, a_frameKind, a_frameMore, a_localName))
    (h1 : ∀ m, ((m < mc ∧ sf m = sn) ∨ (m = mc ∧ ∀ i, i < mc → sf i ≠ sn)) → m < 8 → mu + (p1 - p0 + 1) ≤ 240 → ∀ co ca ck cp : Nat → Int32, (∀ j, (j < 2 * mu ∨ 2 * mu + (en - (at0 + 1)) ≤ j) → co j = a_codeOp j ∧ ca j = a_codeArg j ∧ ck j = a_codeKind j ∧ cp j = a_codePlace j) → (∀ i, i < en - (at0 + 1) → co (2 * mu + i) = a_codeOp (at0 + 1 + i) ∧ ca (2 * mu + i) = a_codeArg (at0 + 1 + i) ∧ ck (2 * mu + i) = a_codeKind (at0 + 1 + i) ∧ cp (2 * mu + i) = a_codePlace (at0 + 1 + i)) → post (f_tickLimit, f_tokenCount, f_outCount, f_error, f_errorPlace, f_lastKind, f_lastValue, f_codeSize, nI (if m = mc then mc + 1 else mc), nI (mu + (p1 - p0 + 1)), f_cellCount, f_activeCalls, nI en, f_ticksLeft, f_state, f_pos, f_expressionStart, f_pendingCount, f_frameTop, f_localCount, a_tokenCode, a_tokenValue, a_outKind, a_outValue, co, ca, ck, cp, upd a_methodSign m (nI sn), upd a_methodStart m (nI (2 * mu)), a_declared, a_cellKind, a_cellValue, a_callReturn, a_pendingLevel, a_pendingPlace, a_pendingMore, a_frameKind, a_frameMore, a_localName)) : wpX_define post (f_tickLimit, f_tokenCount, f_outCount, f_error, f_errorPlace, f_lastKind, f_lastValue, f_codeSize, nI mc, nI mu, f_cellCount, f_activeCalls, f_next, f_ticksLeft, f_state, f_pos, f_expressionStart, f_pendingCount, f_frameTop, f_localCount, a_tokenCode, a_tokenValue, a_outKind, a_outValue, a_codeOp, a_codeArg, a_codeKind, a_codePlace, a_methodSign, a_methodStart, a_declared, a_cellKind, a_cellValue, a_callReturn, a_pendingLevel, a_pendingPlace, a_pendingMore, a_frameKind, a_frameMore, a_localName) (nI at0) := by
  have ia : vp_in (nI at0) 761 := vp_in_nI (by omega) (by decide)
  unfold wpX_define
  dsimp only
  rw [nI_clamp (by omega), ek, ee, show (8 : Int32) = nI 8 from rfl, pk_div (by omega) (by decide) (by decide), show (sn * 8 + q) / 8 = sn by omega]
  have et : a_codePlace (nI en - 1).toNatClampNeg - a_codePlace at0 + 1 = nI (p1 - p0 + 1) := by
    obtain ⟨en', rfl⟩ : ∃ en', en = en' + 1 := ⟨en - 1, by omega⟩
    rw [Nat.add_sub_cancel] at e1
    obtain ⟨dd, rfl⟩ : ∃ dd, p1 = dd + p0 := ⟨p1 - p0, by omega⟩
    rw [nI_pred, nI_clamp (by omega), e1, e0, ← nI_add, Int32.add_sub_cancel, nI_1, Nat.add_sub_cancel]
  refine ⟨ia, by decide, nm_e ⟨ia, nm_e (br_f (nI_ge (by omega) (by omega)) (br_f (nI_nlt (a := 761) (by omega) (by decide)) ⟨?_, ia, nm_r et ⟨mc + 1, ?_⟩⟩))⟩⟩
  · obtain ⟨en', rfl⟩ : ∃ en', en = en' + 1 := ⟨en - 1, by omega⟩
    rw [nI_pred]
    exact vp_in_nI (by omega) (by decide)
  have FULL : ((mc = 8 ∧ ∀ i, i < mc → sf i ≠ sn) ∨ 240 < mu + (p1 - p0 + 1)) → wX_define_115 post (nI at0) f_tickLimit f_tokenCount f_outCount f_error f_errorPlace f_lastKind f_lastValue f_codeSize (nI mc) (nI mu) f_cellCount f_activeCalls f_next f_ticksLeft f_state f_pos f_expressionStart f_pendingCount f_frameTop f_localCount a_tokenCode a_tokenValue a_outKind a_outValue a_codeOp a_codeArg a_codeKind a_codePlace a_methodSign a_methodStart a_declared a_cellKind a_cellValue a_callReturn a_pendingLevel a_pendingPlace a_pendingMore a_frameKind a_frameMore a_localName := by
    intro c
    unfold wX_define_115
    rw [nI_clamp (by omega), e0]
    exact ⟨ia, hx_fail (h0 c)⟩
  have K : ∀ (j i fu m : Nat), i + j = mc → j < fu → ((m < i ∧ sf m = sn) ∨ (m = mc ∧ ∀ x, x < i → sf x ≠ sn)) → wX_define_65 post (nI at0) (nI sn) (nI en) (nI (p1 - p0 + 1)) f_tickLimit f_tokenCount f_outCount f_error f_errorPlace f_lastKind f_lastValue f_codeSize (nI mc) (nI mu) f_cellCount f_activeCalls f_next f_ticksLeft f_state f_pos f_expressionStart f_pendingCount f_frameTop f_localCount a_tokenCode a_tokenValue a_outKind a_outValue a_codeOp a_codeArg a_codeKind a_codePlace a_methodSign a_methodStart a_declared a_cellKind a_cellValue a_callReturn a_pendingLevel a_pendingPlace a_pendingMore a_frameKind a_frameMore a_localName fu (nI m) (nI i) := by
    intro j
    induction j with
    | zero =>
      intro i fu m e hf hm
      obtain ⟨fu', rfl⟩ : ∃ fu', fu = fu' + 1 := ⟨fu - 1, by omega⟩
      have : i = mc := by omega
      subst this
      unfold wX_define_65
      refine br_t (nI_le (by omega) (by omega)) ?_
      by_cases m8 : 8 ≤ m
      · exact br_t (nI_le (a := 8) m8 (by omega)) (FULL (Or.inl (by
          rcases hm with g | g
          · omega
          · exact ⟨by omega, g.2⟩)))
      · refine br_f (nI_ge (b := 8) (by omega) (by decide)) ?_
        rw [nI_add, show (2 : Int32) = nI 2 from rfl, ls_mul, Nat.mul_comm mu 2]
        by_cases f240 : mu + (p1 - p0 + 1) ≤ 240
        · refine br_t (nI_le (b := 240) f240 (by decide)) ?_
          rw [nI_clamp (by omega)]
          refine ⟨vp_in_nI (by omega) (by decide), nm_e ⟨vp_in_nI (by omega) (by decide), nm_e ?_⟩⟩
          have W : ∀ z : Nat, z = (if m = i then i + 1 else i) → wX_define_174 post (nI at0) (nI en) (nI (p1 - p0 + 1)) (nI m) (nI z) f_tickLimit f_tokenCount f_outCount f_error f_errorPlace f_lastKind f_lastValue f_codeSize (nI i) (nI mu) f_cellCount f_activeCalls f_next f_ticksLeft f_state f_pos f_expressionStart f_pendingCount f_frameTop f_localCount a_tokenCode a_tokenValue a_outKind a_outValue a_codeOp a_codeArg a_codeKind a_codePlace (upd a_methodSign m (nI sn)) (upd a_methodStart m (nI (2 * mu))) a_declared a_cellKind a_cellValue a_callReturn a_pendingLevel a_pendingPlace a_pendingMore a_frameKind a_frameMore a_localName := by
            intro z hz
            unfold wX_define_174
            rw [nI_clamp (by omega), pk_us, nI_1]
            refine ⟨vp_in_nI (by omega) (by decide), hx_copy (by omega) (by omega) hen2 (hfit f240) (fun co ca ck cp b1 b2 => nm_r (nI_add _ _) ?_)⟩
            have := h1 m hm (by omega) f240 co ca ck cp b1 b2
            rw [← hz] at this
            exact this
          by_cases me : m = i
          · have := W (i + 1) (by rw [if_pos me])
            rw [nI_1]
            exact br_t (by rw [me]) this
          · have := W i (by rw [if_neg me])
            exact br_f (fun q' => me ((nI_eq (by omega) (by omega)).mp q')) this
        · exact br_f (nI_ge (a := 240) (by omega) (by omega)) (FULL (Or.inr (by omega)))
    | succ j ih =>
      intro i fu m e hf hm
      obtain ⟨fu', rfl⟩ : ∃ fu', fu = fu' + 1 := ⟨fu - 1, by omega⟩
      obtain ⟨s1, s2⟩ := hsf i (by omega)
      unfold wX_define_65
      rw [show (nI i).toNatClampNeg = i from nI_clamp (by omega), s1]
      refine br_f (nI_ge (by omega) (by omega)) ⟨vp_in_nI (by omega) (by decide), ?_⟩
      by_cases se : sf i = sn
      · exact br_t (by rw [se]) (nm_r (nI_1 i) (ih (i + 1) fu' i (by omega) (by omega) (Or.inl ⟨by omega, se⟩)))
      · refine br_f (fun q' => se ((nI_eq (by omega) (by omega)).mp q')) (nm_r (nI_1 i) (ih (i + 1) fu' m (by omega) (by omega) ?_))
        rcases hm with g | g
        · exact Or.inl ⟨by omega, g.2⟩
        · refine Or.inr ⟨g.1, fun x hx => ?_⟩
          rcases Nat.lt_or_ge x i with gx | gx
          · exact g.2 x gx
          · have : x = i := by omega
            subst this
            exact se
  exact K mc 0 (mc + 1) mc (by omega) (by omega) (Or.inr ⟨rfl, fun x hx => by omega⟩)
end
section
variable {f_most f_n f_stored f_nm f_nEnv f_base f_ns f_no f_nc f_pc f_mode f_err f_errAt f_ticks f_calls f_outs f_resK f_part f_cnt f_full f_flag f_need : Int32}
variable {f_resV : Int64}
variable {a_tk a_tp a_mName a_mKind a_mCount a_mPar a_mAt a_vName a_vDecl a_vKind a_sk a_oKind a_oAt a_oArgs a_cKind a_cA a_cB a_outK : Nat → Int32}
variable {a_tv a_vVal a_sv a_outV : Nat → Int64}
variable {post : SY → Prop} {qp : Int32 → Prop} {mc mu p c nm m : Nat} {nf cf : Nat → Nat} {pf : Nat → Nat → Nat} {P : Nat → Nat} {T : Nat → Nat}
set_option maxHeartbeats 200000 in
theorem hy_sameHead (hs : ls_yms mc a_mName a_mCount a_mPar nf cf pf) (hm : m < mc) (hn : nm < 16) (hc : c ≤ 3) (hp : p + 3 + 3 * c < 384) (e1 : a_tk (p + 1) = nI (nm + 54)) (e2 : ∀ i, i < c → a_tk (p + 3 + 3 * i) = nI (P i) ∧ P i ≤ 5) (h1 : (nf m = nm ∧ cf m = c ∧ ∀ i, i < c → pf m i = P i) → qp 1) (h0 : ¬ (nf m = nm ∧ cf m = c ∧ ∀ i, i < c → pf m i = P i) → qp 0) : wpY_sameHead qp (f_most, f_n, f_stored, f_nm, f_nEnv, f_base, f_ns, f_no, f_nc, nI p, f_mode, f_err, f_errAt, f_ticks, f_calls, f_outs, f_resK, f_part, f_resV, f_cnt, f_full, f_flag, f_need, a_tk, a_tv, a_tp, a_mName, a_mKind, a_mCount, a_mPar, a_mAt, a_vName, a_vDecl, a_vKind, a_vVal, a_sk, a_sv, a_oKind, a_oAt, a_oArgs, a_cKind, a_cA, a_cB, a_outK, a_outV) (nI m) (nI c) := by
  obtain ⟨h8, hh⟩ := hs
  obtain ⟨a1, a2, a3, a4, a5, a6, a7⟩ := hh m hm
  have im : vp_in (nI m) 8 := vp_in_nI (by omega) (by decide)
  unfold wpY_sameHead
  dsimp only
  rw [nI_1, nI_clamp (by omega), nI_clamp (by omega), a1, a3, e1]
  refine ⟨im, vp_in_nI (by omega) (by decide), ?_⟩
  by_cases c1 : nf m = nm
  · refine br_t (by rw [c1]) ⟨im, ?_⟩
    by_cases c2 : cf m = c
    · refine br_t (by rw [c2]) ⟨c + 1, ?_⟩
      have K : ∀ (j i fu : Nat), i + j = c → j < fu → (∀ x, x < i → pf m x = P x) → wY_sameHead_34 qp (nI m) (nI c) f_most f_n f_stored f_nm f_nEnv f_base f_ns f_no f_nc (nI p) f_mode f_err f_errAt f_ticks f_calls f_outs f_resK f_part f_resV f_cnt f_full f_flag f_need a_tk a_tv a_tp a_mName a_mKind a_mCount a_mPar a_mAt a_vName a_vDecl a_vKind a_vVal a_sk a_sv a_oKind a_oAt a_oArgs a_cKind a_cA a_cB a_outK a_outV fu (nI i) := by
        intro j
        induction j with
        | zero =>
          intro i fu e hf hx
          obtain ⟨fu', rfl⟩ : ∃ fu', fu = fu' + 1 := ⟨fu - 1, by omega⟩
          have : i = c := by omega
          subst this
          unfold wY_sameHead_34
          exact br_t (nI_le (by omega) (by omega)) (h1 ⟨c1, c2, hx⟩)
        | succ j ih =>
          intro i fu e hf hx
          obtain ⟨fu', rfl⟩ : ∃ fu', fu = fu' + 1 := ⟨fu - 1, by omega⟩
          obtain ⟨t1, t2⟩ := e2 i (by omega)
          have p5 := a6 i
          unfold wY_sameHead_34
          have s1 : (3 : Int32) * nI m + nI i = nI (3 * m + i) := by rw [show (3 : Int32) = nI 3 from rfl, ls_mul, nI_add]
          have s2 : nI p + 3 + 3 * nI i = nI (p + 3 + 3 * i) := by rw [show (3 : Int32) = nI 3 from rfl, ls_mul, nI_add, nI_add]
          rw [s1, s2, nI_clamp (by omega), nI_clamp (by omega), t1, a5 i (by omega)]
          refine br_f (nI_ge (by omega) (by omega)) ⟨vp_in_nI (by omega) (by decide), vp_in_nI (by omega) (by decide), ?_⟩
          by_cases pe : pf m i = P i
          · refine br_t (by rw [pe]) (nm_r (nI_1 i) (ih (i + 1) fu' (by omega) (by omega) (fun x hx' => ?_)))
            rcases Nat.lt_or_ge x i with g | g
            · exact hx x g
            · have : x = i := by omega
              subst this
              exact pe
          · exact br_f (fun q' => pe ((nI_eq (by omega) (by omega)).mp q')) (h0 (fun t => pe (t.2.2 i (by omega))))
      exact K c 0 (c + 1) (by omega) (by omega) (fun x hx => by omega)
    · exact br_f (fun g => c2 ((nI_eq (by omega) (by omega)).mp g)) (h0 (fun t => c2 t.2.1))
  · exact br_f (fun g => c1 (by have := (nI_eq (a := nf m + 54) (b := nm + 54) (by omega) (by omega)).mp g; omega)) (h0 (fun t => c1 t.1))
set_option maxHeartbeats 200000 in
theorem hy_method {en q lo hi : Nat} (hs : ls_yms mc a_mName a_mCount a_mPar nf cf pf) (ht : ls_tks T 0 lo hi a_tk) (hlo : lo ≤ p) (hn : nm < 16) (hc : c ≤ 3) (hq : q ≤ 5) (hmu : mu ≤ 240) (hcl : ls_bhd T (p + 2) (p + (if c = 0 then 4 else 3 + 3 * c))) (hen : ls_bhd T (p + (if c = 0 then 4 else 3 + 3 * c)) en) (hhi : en ≤ hi) (h140 : hi ≤ 140) (e0 : T p = q) (e1 : T (p + 1) = nm + 54) (e2 : ∀ i, i < c → T (p + 3 + 3 * i) = P i ∧ P i ≤ 5)
    (h0 : ((mc = 8 ∧ ∀ i, i < mc → ¬ (nf i = nm ∧ cf i = c ∧ ∀ x, x < c → pf i x = P x)) ∨ 240 < mu + (en - p)) → post (f_most, f_n, nI (140 + mu), nI mc, f_nEnv, f_base, f_ns, f_no, f_nc, nI p, f_mode, 8, ls_pl a_tp p, f_ticks, f_calls, f_outs, f_resK, f_part, f_resV, f_cnt, f_full, f_flag, f_need, a_tk, a_tv, a_tp, a_mName, a_mKind, a_mCount, a_mPar, a_mAt, a_vName, a_vDecl, a_vKind, a_vVal, a_sk, a_sv, a_oKind, a_oAt, a_oArgs, a_cKind, a_cA, a_cB, a_outK, a_outV))
    (h1 : ∀ m, ((m < mc ∧ (nf m = nm ∧ cf m = c ∧ ∀ x, x < c → pf m x = P x)) ∨ (m = mc ∧ ∀ i, i < mc → ¬ (nf i = nm ∧ cf i = c ∧ ∀ x, x < c → pf i x = P x))) → m < 8 → mu + (en - p) ≤ 240 → ∀ (tk tp mP : Nat → Int32) (tv : Nat → Int64), (∀ j, (j < 140 + mu ∨ 140 + mu + (en - p) ≤ j) → tk j = a_tk j ∧ tp j = a_tp j ∧ tv j = a_tv j) → (∀ i, i < en - p → tk (140 + mu + i) = a_tk (p + i) ∧ tp (140 + mu + i) = nI (p + i) ∧ tv (140 + mu + i) = a_tv (p + i)) → (∀ j, (j < 3 * m ∨ 3 * m + c ≤ j) → mP j = a_mPar j) → (∀ i, i < c → mP (3 * m + i) = nI (P i)) → post (f_most, f_n, nI (140 + (mu + (en - p))), nI (if m = mc then mc + 1 else mc), f_nEnv, f_base, f_ns, f_no, f_nc, nI en, f_mode, f_err, f_errAt, f_ticks, f_calls, f_outs, f_resK, f_part, f_resV, f_cnt, f_full, f_flag, f_need, tk, tv, tp, upd a_mName m (nI (nm + 54)), upd a_mKind m (nI q), upd a_mCount m (nI c), mP, upd a_mAt m (nI (140 + mu)), a_vName, a_vDecl, a_vKind, a_vVal, a_sk, a_sv, a_oKind, a_oAt, a_oArgs, a_cKind, a_cA, a_cB, a_outK, a_outV)) : wpY_method post (f_most, f_n, nI (140 + mu), nI mc, f_nEnv, f_base, f_ns, f_no, f_nc, nI p, f_mode, f_err, f_errAt, f_ticks, f_calls, f_outs, f_resK, f_part, f_resV, f_cnt, f_full, f_flag, f_need, a_tk, a_tv, a_tp, a_mName, a_mKind, a_mCount, a_mPar, a_mAt, a_vName, a_vDecl, a_vKind, a_vVal, a_sk, a_sv, a_oKind, a_oAt, a_oArgs, a_cKind, a_cA, a_cB, a_outK, a_outV) := by
  have h8 := hs.1
  have l1 := ls_bhd_lt hcl
  have l2 := ls_bhd_lt hen
  obtain ⟨h384, htk⟩ := ht
  have tk1 : ∀ x, lo ≤ x → x < hi → a_tk x = nI (T x) ∧ T x < 100 := htk
  generalize hcc : p + (if c = 0 then 4 else 3 + 3 * c) = cl at *
  have clv : (c = 0 → cl = p + 4) ∧ (c ≠ 0 → cl = p + 3 + 3 * c) := by
    refine ⟨fun z => ?_, fun z => ?_⟩
    · rw [if_pos z] at hcc; omega
    · rw [if_neg z] at hcc; omega
  have TP : a_tk p = nI q := by rw [(tk1 p hlo (by omega)).1, e0]
  have TP1 : a_tk (p + 1) = nI (nm + 54) := by rw [(tk1 (p + 1) (by omega) (by omega)).1, e1]
  have TPP : ∀ i, i < c → a_tk (p + 3 + 3 * i) = nI (P i) ∧ P i ≤ 5 := fun i hi' => by
    have := clv.2 (by omega)
    rw [(tk1 (p + 3 + 3 * i) (by omega) (by omega)).1, (e2 i hi').1]
    exact ⟨rfl, (e2 i hi').2⟩
  unfold wpY_method
  dsimp only
  rw [show nI p + 2 = nI (p + 2 + 0) by rw [show (2 : Int32) = nI 2 from rfl, nI_add]]
  refine hy_behind ⟨h384, htk⟩ (by omega) (by omega) hcl (nm_r (e' := nI (p + 3)) (by rw [show (3 : Int32) = nI 3 from rfl, nI_add]) ⟨c + 1, ?_⟩)
  rw [Nat.add_zero]
  -- the copying of tokens
  have COPY : ∀ (mN mK mC mA : Nat → Int32) (nmx m : Nat) (mP : Nat → Int32), (∀ (tk tp : Nat → Int32) (tv : Nat → Int64), (∀ j, (j < 140 + mu ∨ 140 + mu + (en - p) ≤ j) → tk j = a_tk j ∧ tp j = a_tp j ∧ tv j = a_tv j) → (∀ i, i < en - p → tk (140 + mu + i) = a_tk (p + i) ∧ tp (140 + mu + i) = nI (p + i) ∧ tv (140 + mu + i) = a_tv (p + i)) → post (f_most, f_n, nI (140 + (mu + (en - p))), nI nmx, f_nEnv, f_base, f_ns, f_no, f_nc, nI en, f_mode, f_err, f_errAt, f_ticks, f_calls, f_outs, f_resK, f_part, f_resV, f_cnt, f_full, f_flag, f_need, tk, tv, tp, mN, mK, mC, mP, mA, a_vName, a_vDecl, a_vKind, a_vVal, a_sk, a_sv, a_oKind, a_oAt, a_oArgs, a_cKind, a_cA, a_cB, a_outK, a_outV)) → mu + (en - p) ≤ 240 → ∃ fu, wY_method_228 post (nI en) f_most f_n (nI nmx) f_nEnv f_base f_ns f_no f_nc (nI p) f_mode f_err f_errAt f_ticks f_calls f_outs f_resK f_part f_resV f_cnt f_full f_flag f_need fu (nI p) (nI (140 + mu)) a_tk a_tv a_tp mN mK mC mP mA a_vName a_vDecl a_vKind a_vVal a_sk a_sv a_oKind a_oAt a_oArgs a_cKind a_cA a_cB a_outK a_outV := by
    intro mN mK mC mA nmx m mP g hle
    have K : ∀ (j i fu : Nat) (tk tp : Nat → Int32) (tv : Nat → Int64), i + j = en - p → j < fu → (∀ x, (x < 140 + mu ∨ 140 + mu + i ≤ x) → tk x = a_tk x ∧ tp x = a_tp x ∧ tv x = a_tv x) → (∀ x, x < i → tk (140 + mu + x) = a_tk (p + x) ∧ tp (140 + mu + x) = nI (p + x) ∧ tv (140 + mu + x) = a_tv (p + x)) → wY_method_228 post (nI en) f_most f_n (nI nmx) f_nEnv f_base f_ns f_no f_nc (nI p) f_mode f_err f_errAt f_ticks f_calls f_outs f_resK f_part f_resV f_cnt f_full f_flag f_need fu (nI (p + i)) (nI (140 + mu + i)) tk tv tp mN mK mC mP mA a_vName a_vDecl a_vKind a_vVal a_sk a_sv a_oKind a_oAt a_oArgs a_cKind a_cA a_cB a_outK a_outV := by
      intro j
      induction j with
      | zero =>
        intro i fu tk tp tv e hf a1 a2
        obtain ⟨fu', rfl⟩ : ∃ fu', fu = fu' + 1 := ⟨fu - 1, by omega⟩
        have : i = en - p := by omega
        subst this
        unfold wY_method_228
        have G := g tk tp tv a1 a2
        rw [← Nat.add_assoc] at G
        exact br_t (nI_le (by omega) (by omega)) G
      | succ j ih =>
        intro i fu tk tp tv e hf a1 a2
        obtain ⟨fu', rfl⟩ : ∃ fu', fu = fu' + 1 := ⟨fu - 1, by omega⟩
        obtain ⟨b1, b2, b3⟩ := a1 (p + i) (by omega)
        obtain ⟨t1, t2⟩ := tk1 (p + i) (by omega) (by omega)
        have i1 : vp_in (nI (p + i)) 384 := vp_in_nI (by omega) (by decide)
        have i2 : vp_in (nI (140 + mu + i)) 384 := vp_in_nI (by omega) (by decide)
        unfold wY_method_228
        rw [nI_clamp (by omega), nI_clamp (by omega), b1, t1, b3, ls_vnb (by omega), ls_vns2 (by omega), nI_1, nI_1]
        refine br_f (nI_ge (by omega) (by omega)) ⟨i1, i2, nm_e ⟨i1, i2, nm_e (nm_e ⟨i2, nm_e (nm_e ?_)⟩)⟩⟩
        rw [show p + i + 1 = p + (i + 1) by omega, show 140 + mu + i + 1 = 140 + mu + (i + 1) by omega]
        refine ih (i + 1) fu' _ _ _ (by omega) (by omega) (fun x hx => ?_) (fun x hx => ?_)
        · obtain ⟨y1, y2, y3⟩ := a1 x (by omega)
          exact ⟨(pk_un (by omega)).trans y1, (pk_un (by omega)).trans y2, (pk_uLn (by omega)).trans y3⟩
        · rcases Nat.lt_or_ge x i with gx | gx
          · obtain ⟨y1, y2, y3⟩ := a2 x gx
            exact ⟨(pk_un (by omega)).trans y1, (pk_un (by omega)).trans y2, (pk_uLn (by omega)).trans y3⟩
          · have : x = i := by omega
            subst this
            exact ⟨pk_us.trans t1.symm, pk_us, pk_uLs⟩
    have := K (en - p) 0 (en - p + 1) a_tk a_tp a_tv (by omega) (by omega) (fun _ _ => ⟨rfl, rfl, rfl⟩) (fun x hx => by omega)
    exact ⟨en - p + 1, this⟩
  have FULL : ((mc = 8 ∧ ∀ i, i < mc → ¬ (nf i = nm ∧ cf i = c ∧ ∀ x, x < c → pf i x = P x)) ∨ 240 < mu + (en - p)) → wY_method_94 post f_most f_n (nI (140 + mu)) (nI mc) f_nEnv f_base f_ns f_no f_nc (nI p) f_mode f_err f_errAt f_ticks f_calls f_outs f_resK f_part f_resV f_cnt f_full f_flag f_need a_tk a_tv a_tp a_mName a_mKind a_mCount a_mPar a_mAt a_vName a_vDecl a_vKind a_vVal a_sk a_sv a_oKind a_oAt a_oArgs a_cKind a_cA a_cB a_outK a_outV := by
    intro cc
    unfold wY_method_94
    exact hy_fail (by omega) (h0 cc)
  -- the table's entry
  have PUT : ∀ m, ((m < mc ∧ (nf m = nm ∧ cf m = c ∧ ∀ x, x < c → pf m x = P x)) ∨ (m = mc ∧ ∀ i, i < mc → ¬ (nf i = nm ∧ cf i = c ∧ ∀ x, x < c → pf i x = P x))) → m < 8 → mu + (en - p) ≤ 240 → ∀ z, z = (if m = mc then mc + 1 else mc) → wY_method_124 post (nI c) (nI en) (nI m) f_most f_n (nI (140 + mu)) (nI z) f_nEnv f_base f_ns f_no f_nc (nI p) f_mode f_err f_errAt f_ticks f_calls f_outs f_resK f_part f_resV f_cnt f_full f_flag f_need a_tk a_tv a_tp a_mName a_mKind a_mCount a_mPar a_mAt a_vName a_vDecl a_vKind a_vVal a_sk a_sv a_oKind a_oAt a_oArgs a_cKind a_cA a_cB a_outK a_outV := by
    intro m hm m8 hle z hz
    have G := h1 m hm m8 hle
    rw [← hz] at G
    have im : vp_in (nI m) 8 := vp_in_nI m8 (by decide)
    unfold wY_method_124
    rw [nI_1, nI_clamp (by omega), nI_clamp (by omega), nI_clamp (by omega), TP, TP1, ls_vnb (by omega), ls_vnb (by omega), ls_vnb2 (by omega), ls_vns2 (by omega)]
    refine ⟨vp_in_nI (by omega) (by decide), im, nm_e ⟨vp_in_nI (by omega) (by decide), im, nm_e ⟨im, nm_e ⟨im, nm_e ⟨c + 1, ?_⟩⟩⟩⟩⟩
    have K : ∀ (j i fu : Nat) (mP : Nat → Int32), i + j = c → j < fu → (∀ x, (x < 3 * m ∨ 3 * m + i ≤ x) → mP x = a_mPar x) → (∀ x, x < i → mP (3 * m + x) = nI (P x)) → wY_method_182 post (nI c) (nI en) (nI m) f_most f_n (nI (140 + mu)) (nI z) f_nEnv f_base f_ns f_no f_nc (nI p) f_mode f_err f_errAt f_ticks f_calls f_outs f_resK f_part f_resV f_cnt f_full f_flag f_need fu (nI i) a_tk a_tv a_tp (upd a_mName m (nI (nm + 54))) (upd a_mKind m (nI q)) (upd a_mCount m (nI c)) mP (upd a_mAt m (nI (140 + mu))) a_vName a_vDecl a_vKind a_vVal a_sk a_sv a_oKind a_oAt a_oArgs a_cKind a_cA a_cB a_outK a_outV := by
      intro j
      induction j with
      | zero =>
        intro i fu mP e hf a1 a2
        obtain ⟨fu', rfl⟩ : ∃ fu', fu = fu' + 1 := ⟨fu - 1, by omega⟩
        have : i = c := by omega
        subst this
        unfold wY_method_182
        exact br_t (nI_le (by omega) (by omega)) (COPY _ _ _ _ z m mP (fun tk tp tv b1 b2 => G tk tp mP tv b1 b2 a1 a2) hle)
      | succ j ih =>
        intro i fu mP e hf a1 a2
        obtain ⟨fu', rfl⟩ : ∃ fu', fu = fu' + 1 := ⟨fu - 1, by omega⟩
        obtain ⟨t1, t2⟩ := TPP i (by omega)
        have := clv.2 (by omega)
        unfold wY_method_182
        have s1 : (3 : Int32) * nI m + nI i = nI (3 * m + i) := by rw [show (3 : Int32) = nI 3 from rfl, ls_mul, nI_add]
        have s2 : nI p + 3 + 3 * nI i = nI (p + 3 + 3 * i) := by rw [show (3 : Int32) = nI 3 from rfl, ls_mul, nI_add, nI_add]
        rw [s1, s2, nI_clamp (by omega), nI_clamp (by omega), t1, ls_vnb (by omega)]
        refine br_f (nI_ge (by omega) (by omega)) ⟨vp_in_nI (by omega) (by decide), vp_in_nI (by omega) (by decide), nm_e (nm_r (nI_1 i) (ih (i + 1) fu' _ (by omega) (by omega) (fun x hx => ?_) (fun x hx => ?_)))⟩
        · exact (pk_un (by omega)).trans (a1 x (by omega))
        · rcases Nat.lt_or_ge x i with gx | gx
          · exact (pk_un (by omega)).trans (a2 x gx)
          · have : x = i := by omega
            subst this
            exact pk_us
    exact K c 0 (c + 1) a_mPar (by omega) (by omega) (fun _ _ => rfl) (fun x hx => by omega)
  have M70 : ∀ m, ((m < mc ∧ (nf m = nm ∧ cf m = c ∧ ∀ x, x < c → pf m x = P x)) ∨ (m = mc ∧ ∀ i, i < mc → ¬ (nf i = nm ∧ cf i = c ∧ ∀ x, x < c → pf i x = P x))) → wY_method_70 post (nI c) (nI en) (nI m) f_most f_n (nI (140 + mu)) (nI mc) f_nEnv f_base f_ns f_no f_nc (nI p) f_mode f_err f_errAt f_ticks f_calls f_outs f_resK f_part f_resV f_cnt f_full f_flag f_need a_tk a_tv a_tp a_mName a_mKind a_mCount a_mPar a_mAt a_vName a_vDecl a_vKind a_vVal a_sk a_sv a_oKind a_oAt a_oArgs a_cKind a_cA a_cB a_outK a_outV := by
    intro m hm
    unfold wY_method_70
    by_cases m8 : m = 8
    · refine br_t (by rw [m8]; rfl) (FULL (Or.inl ?_))
      rcases hm with g | g
      · omega
      · exact ⟨by omega, g.2⟩
    · refine br_f (fun q' => m8 ((nI_eq (b := 8) (by omega) (by decide)).mp q')) ?_
      have s1 : nI (140 + mu) + nI en - nI p = nI (140 + mu + (en - p)) := by
        rw [nI_add, show 140 + mu + en = 140 + mu + (en - p) + p by omega, ← nI_add, Int32.add_sub_cancel]
      rw [s1]
      by_cases f : mu + (en - p) ≤ 240
      · refine br_t (nI_le (b := 380) (by omega) (by decide)) ?_
        by_cases me : m = mc
        · exact br_t (by rw [me]) (nm_r (nI_1 mc) (PUT m hm (by omega) f (mc + 1) (by rw [if_pos me])))
        · exact br_f (fun q' => me ((nI_eq (by omega) (by omega)).mp q')) (PUT m hm (by omega) f mc (by rw [if_neg me]))
      · exact br_f (nI_ge (a := 380) (by omega) (by omega)) (FULL (Or.inr (by omega)))
  have M45 : ∀ (j i fu : Nat), i + j = mc → j < fu → (∀ x, x < i → ¬ (nf x = nm ∧ cf x = c ∧ ∀ y, y < c → pf x y = P y)) → wY_method_45 post (nI c) (nI en) f_most f_n (nI (140 + mu)) (nI mc) f_nEnv f_base f_ns f_no f_nc (nI p) f_mode f_err f_errAt f_ticks f_calls f_outs f_resK f_part f_resV f_cnt f_full f_flag f_need a_tk a_tv a_tp a_mName a_mKind a_mCount a_mPar a_mAt a_vName a_vDecl a_vKind a_vVal a_sk a_sv a_oKind a_oAt a_oArgs a_cKind a_cA a_cB a_outK a_outV fu (nI i) := by
    intro j
    induction j with
    | zero =>
      intro i fu e hf hx
      obtain ⟨fu', rfl⟩ : ∃ fu', fu = fu' + 1 := ⟨fu - 1, by omega⟩
      have : i = mc := by omega
      subst this
      unfold wY_method_45
      exact br_t (nI_le (by omega) (by omega)) (M70 i (Or.inr ⟨rfl, hx⟩))
    | succ j ih =>
      intro i fu e hf hx
      obtain ⟨fu', rfl⟩ : ∃ fu', fu = fu' + 1 := ⟨fu - 1, by omega⟩
      unfold wY_method_45
      refine br_f (nI_ge (by omega) (by omega)) (hy_sameHead hs (by omega) hn hc (by rcases Nat.eq_zero_or_pos c with z | z
                                                                                     · have := clv.1 z; omega
                                                                                     · have := clv.2 (by omega); omega) TP1 TPP (fun t => br_f (by decide) (M70 i (Or.inl ⟨by omega, t⟩))) (fun t => br_t rfl (nm_r (nI_1 i) (ih (i + 1) fu' (by omega) (by omega) (fun x hx' => ?_)))))
      rcases Nat.lt_or_ge x i with g | g
      · exact hx x g
      · have : x = i := by omega
        subst this
        exact t
  -- the parameters are counted
  have M20 : ∀ (j i fu : Nat), i + j = c → j < fu → wY_method_20 post (nI cl) f_most f_n (nI (140 + mu)) (nI mc) f_nEnv f_base f_ns f_no f_nc (nI p) f_mode f_err f_errAt f_ticks f_calls f_outs f_resK f_part f_resV f_cnt f_full f_flag f_need a_tk a_tv a_tp a_mName a_mKind a_mCount a_mPar a_mAt a_vName a_vDecl a_vKind a_vVal a_sk a_sv a_oKind a_oAt a_oArgs a_cKind a_cA a_cB a_outK a_outV fu (nI i) (nI (p + 3 + 3 * i)) := by
    intro j
    induction j with
    | zero =>
      intro i fu e hf
      obtain ⟨fu', rfl⟩ : ∃ fu', fu = fu' + 1 := ⟨fu - 1, by omega⟩
      have : i = c := by omega
      subst this
      unfold wY_method_20
      rw [nI_1]
      refine br_t (nI_le (by rcases Nat.eq_zero_or_pos i with z | z
                             · have := clv.1 z; omega
                             · have := clv.2 (by omega); omega) (by omega)) ?_
      exact hy_behind (p := cl) (q := en) (e := 0) ⟨h384, htk⟩ (by omega) hhi hen ⟨mc + 1, M45 mc 0 (mc + 1) (by omega) (by omega) (fun x hx => by omega)⟩
    | succ j ih =>
      intro i fu e hf
      obtain ⟨fu', rfl⟩ : ∃ fu', fu = fu' + 1 := ⟨fu - 1, by omega⟩
      have := clv.2 (by omega)
      unfold wY_method_20
      rw [nI_1]
      refine br_f (nI_ge (by omega) (by omega)) (nm_r (nI_1 i) (nm_r (e' := nI (p + 3 + 3 * (i + 1))) (by rw [show (3 : Int32) = nI 3 from rfl, nI_add, show p + 3 + 3 * i + 3 = p + 3 + 3 * (i + 1) by omega]) (ih (i + 1) fu' (by omega) (by omega))))
  exact M20 c 0 (c + 1) (by omega) (by omega)
end
