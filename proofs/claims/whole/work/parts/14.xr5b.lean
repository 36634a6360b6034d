/-- what stands behind the pending operators -/
def ls_peok (T : Nat → Nat) (k : LsK) (pos : Nat) (pe : List LsP) : Prop := ∀ e ∈ pe, e.1 < 14 ∧ e.2.1 < pos ∧ e.2.2 < 761 ∧ (e.1 = 0 → ls_nam (T e.2.1) ∧ e.2.2 ≤ 3) ∧ (e.1 = 2 → ls_asg (T e.2.1)) ∧ (e.1 = 13 → T e.2.1 = 15 ∨ (22 ≤ T e.2.1 ∧ T e.2.1 ≤ 25)) ∧ (2 < e.1 → e.1 ≠ 13 → ls_lv (T e.2.1) = e.1) ∧ (e.1 ≠ 13 → e.1 ≠ 2 → (T e.2.1 = 41 ∨ T e.2.1 = 42) → 480 ≤ e.2.2 ∧ e.2.2 < k.1)
set_option maxHeartbeats 200000 in
theorem ls_lv_in {t : Nat} (h : 2 < ls_lv t) : 24 ≤ t ∧ t ≤ 42 := by
  have := ls_lv_c t; omega
section
variable {f_tickLimit f_tokenCount f_outCount f_error f_errorPlace f_lastKind f_codeSize f_methodCount f_methodTokens f_cellCount f_activeCalls f_next f_ticksLeft f_state f_pos f_expressionStart f_pendingCount f_frameTop f_localCount : Int32}
variable {f_lastValue : Int64}
variable {a_tokenCode a_tokenValue a_outKind a_codeOp a_codeArg a_codeKind a_codePlace a_methodSign a_methodStart a_declared a_cellKind a_callReturn a_pendingLevel a_pendingPlace a_pendingMore a_frameKind a_frameMore a_localName : Nat → Int32}
variable {a_outValue a_cellValue : Nat → Int64}
variable {T : Nat → Nat} {V : Nat → Int32} {n : Nat} {u0 u : SX} {post : SX → Prop} {pos es e m : Nat} {pe : List LsP} {fr : List LsF} {L : List Nat} {k : LsK}
set_option maxHeartbeats 200000 in
theorem rx_red {lv pl mo : Nat} {r : List LsP} (hk : (f_tickLimit, f_tokenCount, f_outCount, f_lastKind, f_lastValue, f_methodCount, f_methodTokens, f_cellCount, f_activeCalls, f_next, f_ticksLeft, a_tokenCode, a_tokenValue, a_outKind, a_outValue, a_methodSign, a_methodStart, a_declared, a_cellKind, a_cellValue, a_callReturn) = ls_kept u0) (hlo : ls_lo u0 k) (ht : ls_tok T V n a_tokenCode a_tokenValue) (hP : ls_StP a_pendingLevel a_pendingPlace a_pendingMore ((lv, pl, mo) :: r)) (hF : ls_StF a_frameKind a_frameMore fr) (hN : ls_StN a_localName L) (etc : f_tokenCount = nI n) (ees : f_expressionStart = nI es) (b0 : 480 ≤ k.1) (b01 : k.1 + (if lv = 2 ∧ T pl ≠ 21 then 2 else 1) ≤ 761) (b1 : pos ≤ n) (b4 : r.length < 140) (l2 : 2 ≤ lv) (hpe : ls_peok T k pos ((lv, pl, mo) :: r))
    (hp : ∀ u', ls_XR T V n u0 (5, pos, es, r, fr, L, ls_red T pos lv pl mo k) u' → post u') : wpX_reduce post (f_tickLimit, nI n, f_outCount, 0, -1, f_lastKind, f_lastValue, nI k.1, f_methodCount, f_methodTokens, f_cellCount, f_activeCalls, f_next, f_ticksLeft, nI 5, nI pos, f_expressionStart, nI (r.length + 1), nI fr.length, nI L.length, a_tokenCode, a_tokenValue, a_outKind, a_outValue, k.2.1, k.2.2.1, k.2.2.2.1, k.2.2.2.2, a_methodSign, a_methodStart, a_declared, a_cellKind, a_cellValue, a_callReturn, a_pendingLevel, a_pendingPlace, a_pendingMore, a_frameKind, a_frameMore, a_localName) := by
  subst etc ees
  have n140 := ht.1
  obtain ⟨p1, p2, p3, p4, p5, p6, p7, p8⟩ := hpe _ (List.mem_cons_self ..)
  dsimp only at p1 p2 p3 p4 p5 p6 p7 p8
  obtain ⟨s1, s2, s3, s4⟩ := hP
  dsimp only at s1 s2 s3
  have i : vp_in (nI r.length) 140 := vp_in_nI b4 (by decide)
  have ei : (nI r.length).toNatClampNeg = r.length := nI_clamp (by omega)
  refine br_f (nI_nle (n := r.length + 1) (by omega) (by omega)) (nm_r (nI_pred r.length) ⟨i, ?_⟩)
  rw [ei]
  refine nm_r s1 ⟨i, nm_r s2 ⟨i, nm_r s3 ?_⟩⟩
  refine hx_wordAt ht (by omega) ?_
  unfold ls_red at hp
  have N : ∀ w, w < 100 → lv ≠ w → ¬ nI lv = nI w := fun w hw h => mt (nI_eq (by omega) (by omega)).mp h
  have W : ∀ w, w < 54 → T pl ≠ w → ¬ nI (ls_xc (T pl)) = nI w := fun w hw h => mt (ls_w hw).mp h
  by_cases q2 : lv = 2
  · subst q2
    rw [if_pos rfl] at hp
    refine br_t rfl ?_
    unfold wpX_reduceAssign
    dsimp only
    have pa := p5 rfl
    by_cases t21 : T pl = 21
    · rw [if_pos t21] at hp
      rw [if_neg (fun h => h.2 t21)] at b01
      refine br_t ((ls_w (w := 21) (by decide)).mpr t21) ?_
      rw [nI_1]
      refine hx_constantSince ht (by omega) b1 (hx_emit (by omega) ?_)
      exact hp _ ⟨hk, ls_lo_emK hlo b0, rfl, ht, rfl, rfl, rfl, rfl, rfl, rfl, rfl, rfl, rfl, rfl, rfl, rfl, (fun _ => rfl), s4, hF, hN⟩
    · rw [if_neg t21] at hp
      rw [if_pos ⟨rfl, t21⟩] at b01
      have pr : 43 ≤ T pl ∧ T pl ≤ 53 := by rcases pa with h | h; exact absurd h t21; exact h
      have ex : ls_xc (T pl) = T pl := by unfold ls_xc; rw [if_pos (by omega)]
      refine br_f (W 21 (by decide) t21) ?_
      have ea : nI (ls_xc (T pl)) + (-19) = nI (T pl - 19) := by
        rw [ex]
        have : nI (T pl) = nI (T pl - 19) + nI 19 := by rw [nI_add]; congr 1; omega
        rw [this, Int32.add_assoc]
        exact Int32.add_zero _
      rw [ea]
      refine hx_emit (by omega) (hx_emit (by omega) ?_)
      exact hp _ ⟨hk, ls_lo_emK (ls_lo_emK hlo b0) (by show 480 ≤ k.1 + 1; omega), rfl, ht, rfl, rfl, rfl, rfl, rfl, rfl, rfl, rfl, rfl, rfl, rfl, rfl, (fun _ => rfl), s4, hF, hN⟩
  rw [if_neg q2] at hp
  rw [if_neg (fun h => q2 h.1)] at b01
  refine br_f (N 2 (by decide) q2) ?_
  by_cases q13 : lv = 13
  · subst q13
    rw [if_pos rfl] at hp
    refine br_t rfl ?_
    rcases p6 rfl with t15 | tu
    · rw [if_pos t15] at hp
      refine br_t ((ls_w (w := 15) (by decide)).mpr t15) ?_
      rw [t15]
      refine hx_emit (by omega) ?_
      exact hp _ ⟨hk, ls_lo_emK hlo b0, rfl, ht, rfl, rfl, rfl, rfl, rfl, rfl, rfl, rfl, rfl, rfl, rfl, rfl, (fun _ => rfl), s4, hF, hN⟩
    · rw [if_neg (by omega)] at hp
      have ex : ls_xc (T pl) = T pl := by unfold ls_xc; rw [if_pos (by omega)]
      refine br_f (W 15 (by decide) (by omega)) ?_
      rw [ex]
      refine hx_emit (by omega) ?_
      exact hp _ ⟨hk, ls_lo_emK hlo b0, rfl, ht, rfl, rfl, rfl, rfl, rfl, rfl, rfl, rfl, rfl, rfl, rfl, rfl, (fun _ => rfl), s4, hF, hN⟩
  rw [if_neg q13] at hp
  refine br_f (N 13 (by decide) q13) ?_
  have elv := p7 (by omega) q13
  have tin := ls_lv_in (t := T pl) (by omega)
  have ex : ls_xc (T pl) = T pl := by unfold ls_xc; rw [if_pos (by omega)]
  by_cases lg : T pl = 41 ∨ T pl = 42
  · rw [if_pos lg] at hp
    obtain ⟨g1, g2⟩ := p8 q13 q2 lg
    have K : wX_reduce_118 post (nI pl) (nI mo) f_tickLimit (nI n) f_outCount 0 (-1) f_lastKind f_lastValue (nI k.1) f_methodCount f_methodTokens f_cellCount f_activeCalls f_next f_ticksLeft (nI 5) (nI pos) (nI es) (nI r.length) (nI fr.length) (nI L.length) a_tokenCode a_tokenValue a_outKind a_outValue k.2.1 k.2.2.1 k.2.2.2.1 k.2.2.2.2 a_methodSign a_methodStart a_declared a_cellKind a_cellValue a_callReturn a_pendingLevel a_pendingPlace a_pendingMore a_frameKind a_frameMore a_localName := by
      refine hx_emit (by omega) (hx_aim p3 ?_)
      exact hp _ ⟨hk, ls_lo_aimK (ls_lo_emK hlo b0) g1, rfl, ht, rfl, rfl, rfl, rfl, rfl, rfl, rfl, rfl, rfl, rfl, rfl, rfl, (fun _ => rfl), s4, hF, hN⟩
    rcases lg with h | h
    · exact br_t ((ls_w (w := 41) (by decide)).mpr h) K
    · exact br_f (W 41 (by decide) (by omega)) (br_t ((ls_w (w := 42) (by decide)).mpr h) K)
  · rw [if_neg lg] at hp
    refine br_f (W 41 (by decide) (fun h => lg (Or.inl h))) (br_f (W 42 (by decide) (fun h => lg (Or.inr h))) ?_)
    rw [ex]
    refine hx_emit (by omega) ?_
    exact hp _ ⟨hk, ls_lo_emK hlo b0, rfl, ht, rfl, rfl, rfl, rfl, rfl, rfl, rfl, rfl, rfl, rfl, rfl, rfl, (fun _ => rfl), s4, hF, hN⟩
end
section
variable {T : Nat → Nat} {V : Nat → Int32} {n : Nat} {u0 u : SX} {post : SX → Prop} {pos es : Nat} {pe : List LsP} {fr : List LsF} {L : List Nat} {k : LsK}
set_option maxHeartbeats 200000 in
theorem ls_sh4 : ∀ m : Fin 4, nI m.1 <<< ((4 : Int32) &&& 31) = nI (m.1 * 16) := by decide +kernel
set_option maxHeartbeats 200000 in
theorem rx_r5 (h : ls_XR T V n u0 (5, pos, es, pe, fr, L, k) u) (b0 : 480 ≤ k.1 ∧ k.1 ≤ 761) (b01 : T pos ≠ 72 → k.1 + 1 ≤ 761) (b02 : ∀ e, pe.head? = some e → k.1 + (if e.1 = 2 ∧ T e.2.1 ≠ 21 then 2 else 1) ≤ 761) (b1 : pos ≤ n) (b2 : fr.length ≤ 141) (b3 : L.length ≤ 8) (b4 : pe.length ≤ pos) (b5 : es ≤ pos) (hL : ∀ x ∈ L, x < 16) (hpe : ls_peok T k pos pe)
    (hfr : ∃ fk mo sp l r, fr = (fk, mo, sp, l) :: r ∧ 6 ≤ fk ∧ fk < 12 ∧ mo < k.1 ∧ k.2.2.2.2 mo = nI sp ∧ (fk = 11 → T sp < 6 ∧ ls_nam (T (sp + 1)) ∧ sp < 140) ∧ (fk = 10 → ls_mkd r ≠ none) ∧ (∀ f ∈ r, 0 < f.1 ∧ f.1 < 12) ∧ (∀ f ∈ r, f.1 = 2 → f.2.1 < k.1 ∧ k.2.2.2.1 f.2.1 &&& 7 = nI (f.2.2.2.headD 0) ∧ f.2.2.2.headD 0 < 8))
    (hp : ls_out T V n u0 (ls_r5 T pos es pe fr L k) post) : wpX_readOperator post u := by
  obtain ⟨f_tickLimit, f_tokenCount, f_outCount, f_error, f_errorPlace, f_lastKind, f_lastValue, f_codeSize, f_methodCount, f_methodTokens, f_cellCount, f_activeCalls, f_next, f_ticksLeft, f_state, f_pos, f_expressionStart, f_pendingCount, f_frameTop, f_localCount, a_tokenCode, a_tokenValue, a_outKind, a_outValue, a_codeOp, a_codeArg, a_codeKind, a_codePlace, a_methodSign, a_methodStart, a_declared, a_cellKind, a_cellValue, a_callReturn, a_pendingLevel, a_pendingPlace, a_pendingMore, a_frameKind, a_frameMore, a_localName⟩ := u
  obtain ⟨hk, hlo, rfl, ht, rfl, rfl, rfl, rfl, rfl, rfl, rfl, rfl, rfl, rfl, rfl, rfl, hes, hP, hF, hN⟩ := h
  have hes := hes (Or.inr rfl)
  subst hes
  have n140 := ht.1
  unfold wpX_readOperator
  dsimp only
  refine hx_wordAt ht (by omega) (hx_levelOf ?_)
  have lvl : ls_lv (T pos) < 13 := by have := ls_lv_c (T pos); omega
  have lv2 : 2 ≤ ls_lv (T pos) := by have := ls_lv_c (T pos); omega
  have PL : T pos ≠ 72 → pos < 140 := fun h => by have := ls_tok_lt ht h; omega
  have W : ∀ w, w < 54 → T pos ≠ w → ¬ nI (ls_xc (T pos)) = nI w := fun w hw h => mt (ls_w hw).mp h
  have XKf : ∀ e, ls_XK T V n u0 e 400 (f_tickLimit, nI n, f_outCount, 1, nI e, f_lastKind, f_lastValue, nI k.1, f_methodCount, f_methodTokens, f_cellCount, f_activeCalls, f_next, f_ticksLeft, nI 5, nI pos, nI es, nI pe.length, nI fr.length, nI L.length, a_tokenCode, a_tokenValue, a_outKind, a_outValue, k.2.1, k.2.2.1, k.2.2.2.1, k.2.2.2.2, a_methodSign, a_methodStart, a_declared, a_cellKind, a_cellValue, a_callReturn, a_pendingLevel, a_pendingPlace, a_pendingMore, a_frameKind, a_frameMore, a_localName) :=
    fun e => ⟨hk, rfl, ht, rfl, rfl, ⟨k.1, rfl, b0⟩, ⟨pos, rfl, by omega⟩, ⟨pe.length, rfl, by omega⟩, ⟨fr.length, rfl, by omega⟩, ⟨L.length, rfl, b3⟩, ls_lo_cs (cc := k.1) hlo⟩
  -- a binary operator
  have BIN : 2 < ls_lv (T pos) → ls_out T V n u0 (.ok (4, pos + 1, es, (ls_lv (T pos), pos, k.1) :: pe, fr, L, if T pos = 41 ∨ T pos = 42 then ls_em k 7 0 (nI (T pos - 41)) (nI pos) else k)) post → wpX_readBinary (fun u => match u with | (f_tickLimit, f_tokenCount, f_outCount, f_error, f_errorPlace, f_lastKind, f_lastValue, f_codeSize, f_methodCount, f_methodTokens, f_cellCount, f_activeCalls, f_next, f_ticksLeft, f_state, f_pos, f_expressionStart, f_pendingCount, f_frameTop, f_localCount, a_tokenCode, a_tokenValue, a_outKind, a_outValue, a_codeOp, a_codeArg, a_codeKind, a_codePlace, a_methodSign, a_methodStart, a_declared, a_cellKind, a_cellValue, a_callReturn, a_pendingLevel, a_pendingPlace, a_pendingMore, a_frameKind, a_frameMore, a_localName) => post (f_tickLimit, f_tokenCount, f_outCount, f_error, f_errorPlace, f_lastKind, f_lastValue, f_codeSize, f_methodCount, f_methodTokens, f_cellCount, f_activeCalls, f_next, f_ticksLeft, f_state, f_pos, f_expressionStart, f_pendingCount, f_frameTop, f_localCount, a_tokenCode, a_tokenValue, a_outKind, a_outValue, a_codeOp, a_codeArg, a_codeKind, a_codePlace, a_methodSign, a_methodStart, a_declared, a_cellKind, a_cellValue, a_callReturn, a_pendingLevel, a_pendingPlace, a_pendingMore, a_frameKind, a_frameMore, a_localName)) (f_tickLimit, nI n, f_outCount, 0, -1, f_lastKind, f_lastValue, nI k.1, f_methodCount, f_methodTokens, f_cellCount, f_activeCalls, f_next, f_ticksLeft, nI 5, nI pos, nI es, nI pe.length, nI fr.length, nI L.length, a_tokenCode, a_tokenValue, a_outKind, a_outValue, k.2.1, k.2.2.1, k.2.2.2.1, k.2.2.2.2, a_methodSign, a_methodStart, a_declared, a_cellKind, a_cellValue, a_callReturn, a_pendingLevel, a_pendingPlace, a_pendingMore, a_frameKind, a_frameMore, a_localName) (nI (ls_xc (T pos))) (nI (ls_lv (T pos))) := by
    intro hl hp
    have tin := ls_lv_in hl
    have p140 := PL (by omega)
    have b6 := b01 (by omega)
    unfold wpX_readBinary
    dsimp only
    refine hx_pend (by omega) ?_
    by_cases t41 : T pos = 41
    · rw [if_pos (Or.inl t41)] at hp
      refine br_t ((ls_w (w := 41) (by decide)).mpr t41) (br_f (W 42 (by decide) (by omega)) ?_)
      refine hx_emit (by omega) (nm_r (nI_1 pos) ?_)
      rw [show T pos - 41 = 0 by omega] at hp
      exact hp _ ⟨hk, ls_lo_emK hlo b0.1, rfl, ht, rfl, rfl, rfl, rfl, rfl, rfl, rfl, rfl, rfl, rfl, rfl, rfl, (fun _ => rfl), ls_StP_push _ pos k.1 hP, hF, hN⟩
    refine br_f (W 41 (by decide) t41) ?_
    by_cases t42 : T pos = 42
    · rw [if_pos (Or.inr t42)] at hp
      refine br_t ((ls_w (w := 42) (by decide)).mpr t42) (br_t ((ls_w (w := 42) (by decide)).mpr t42) ?_)
      refine hx_emit (by omega) (nm_r (nI_1 pos) ?_)
      rw [show T pos - 41 = 1 by omega] at hp
      exact hp _ ⟨hk, ls_lo_emK hlo b0.1, rfl, ht, rfl, rfl, rfl, rfl, rfl, rfl, rfl, rfl, rfl, rfl, rfl, rfl, (fun _ => rfl), ls_StP_push _ pos k.1 hP, hF, hN⟩
    · rw [if_neg (by omega)] at hp
      refine br_f (W 42 (by decide) t42) (nm_r (nI_1 pos) ?_)
      exact hp _ ⟨hk, hlo, rfl, ht, rfl, rfl, rfl, rfl, rfl, rfl, rfl, rfl, rfl, rfl, rfl, rfl, (fun _ => rfl), ls_StP_push _ pos k.1 hP, hF, hN⟩
  unfold ls_r5 at hp
  dsimp only at hp
  refine hx_topLevel hP (by omega) (fun e => ?_) (fun e r he => ?_)
  · subst e
    dsimp only at hp
    refine br_t ?_ ?_
    · have : nI (ls_lv (T pos)) = nI (ls_lv (T pos)) := rfl
      rw [Int32.lt_iff_toInt_lt, nI_toInt (by omega)]
      have : (-1 : Int32).toInt = -1 := by decide
      omega
    by_cases hl : 2 < ls_lv (T pos)
    · rw [if_pos hl] at hp
      exact br_f (nI_ge (a := 2) hl (by omega)) (BIN hl hp)
    · rw [if_neg hl] at hp
      refine br_t (nI_le (b := 2) (by omega) (by decide)) (br_t rfl ?_)
      exact rx_end (k := k) (es := es) hk hlo ht hF hN rfl rfl b0 b01 b1 b2 b3 b5 hL hfr hp
  · subst he
    obtain ⟨lv, pl, mo⟩ := e
    obtain ⟨p1, p2, p3, p4, p5, p6, p7, p8⟩ := hpe _ (List.mem_cons_self ..)
    dsimp only at p1 p2 p3 p4 p5 p6 p7 p8 hp
    have b4' : r.length + 1 ≤ pos := b4
    by_cases red : ls_lv (T pos) ≤ lv
    · rw [if_pos red] at hp
      refine br_f (nI_nlt red (by omega)) ?_
      exact rx_red (k := k) (es := es) hk hlo ht hP hF hN rfl rfl b0.1 (b02 _ rfl) b1 (by omega) (by omega) hpe hp
    rw [if_neg red] at hp
    refine br_t (nI_lt (by omega) (by omega)) ?_
    by_cases hl : 2 < ls_lv (T pos)
    · rw [if_pos hl] at hp
      exact br_f (nI_ge (a := 2) hl (by omega)) (BIN hl hp)
    rw [if_neg hl] at hp
    refine br_t (nI_le (b := 2) (by omega) (by decide)) (br_f (ls_nm1 (by omega)) ?_)
    have iv : vp_in (nI r.length) 140 := vp_in_nI (by omega) (by decide)
    have ei : (nI r.length).toNatClampNeg = r.length := nI_clamp (by omega)
    obtain ⟨s1, s2, s3, s4⟩ := hP
    dsimp only at s1 s2 s3
    by_cases t16 : T pos = 16
    · rw [if_pos t16] at hp
      have p140 := PL (by omega)
      have b6 := b01 (by omega)
      refine br_t ((ls_w (w := 16) (by decide)).mpr t16) ?_
      unfold wpX_closeParenthesis
      dsimp only
      refine br_f (nI_nle (n := r.length + 1) (by omega) (by omega)) (nm_r (nI_pred r.length) ?_)
      by_cases q0 : lv = 0
      · subst q0
        rw [if_pos rfl] at hp
        obtain ⟨tn, m3⟩ := p4 rfl
        refine br_t rfl ⟨iv, ?_⟩
        rw [ei]
        refine nm_r s2 ?_
        refine hx_valueName ht (by omega) tn ⟨iv, ?_⟩
        rw [s3, ls_sh4 ⟨mo, by omega⟩, nI_add]
        refine hx_emit (by omega) (nm_r (nI_1 pos) ?_)
        exact hp _ ⟨hk, ls_lo_emK hlo b0.1, rfl, ht, rfl, rfl, rfl, rfl, rfl, rfl, rfl, rfl, rfl, rfl, rfl, rfl, (fun _ => rfl), s4, hF, hN⟩
      · rw [if_neg q0] at hp
        refine br_f (nI_ne0 (by omega) (by omega)) (nm_r (nI_1 pos) ?_)
        exact hp _ ⟨hk, hlo, rfl, ht, rfl, rfl, rfl, rfl, rfl, rfl, rfl, rfl, rfl, rfl, rfl, rfl, (fun _ => rfl), s4, hF, hN⟩
    rw [if_neg t16] at hp
    refine br_f (W 16 (by decide) t16) ?_
    have FLT : ls_out T V n u0 (ls_flt es pos) post → wX_readOperator_88 post f_tickLimit (nI n) f_outCount 0 (-1) f_lastKind f_lastValue (nI k.1) f_methodCount f_methodTokens f_cellCount f_activeCalls f_next f_ticksLeft (nI 5) (nI pos) (nI es) (nI ((lv, pl, mo) :: r : List LsP).length) (nI fr.length) (nI L.length) a_tokenCode a_tokenValue a_outKind a_outValue k.2.1 k.2.2.1 k.2.2.2.1 k.2.2.2.2 a_methodSign a_methodStart a_declared a_cellKind a_cellValue a_callReturn a_pendingLevel a_pendingPlace a_pendingMore a_frameKind a_frameMore a_localName :=
      fun hp => hx_fault1 (st := 5) (Or.inr rfl) b5 (by omega) (hp _ (XKf _))
    by_cases t19 : T pos = 19
    · refine br_t ((ls_w (w := 19) (by decide)).mpr t19) ?_
      have p140 := PL (by omega)
      by_cases q0 : lv = 0
      · subst q0
        rw [if_pos ⟨t19, rfl⟩] at hp
        obtain ⟨tn, m3⟩ := p4 rfl
        refine br_t rfl ?_
        unfold wpX_readComma
        dsimp only
        refine nm_r (nI_pred r.length) (br_f (nI_pos (by omega)) ⟨iv, ?_⟩)
        rw [ei, s3]
        by_cases m3' : mo < 3
        · rw [if_pos m3'] at hp
          refine br_f (nI_ge (b := 3) m3' (by decide)) ⟨iv, iv, nm_r (by rw [nI_1]) (nm_r (nI_1 pos) ?_)⟩
          exact hp _ ⟨hk, hlo, rfl, ht, rfl, rfl, rfl, rfl, rfl, rfl, rfl, rfl, rfl, rfl, rfl, rfl, (fun _ => rfl), ⟨s1, s2, pk_us, ls_StP_more (Nat.le_refl _) s4⟩, hF, hN⟩
        · rw [if_neg m3'] at hp
          refine br_t (nI_le (a := 3) (by omega) (by omega)) ?_
          exact hx_fault1 (st := 5) (Or.inr rfl) b5 (by omega) (hp _ (XKf _))
      · rw [if_neg (fun h => q0 h.2)] at hp
        exact br_f (nI_ne0 (by omega) (by omega)) (FLT hp)
    · rw [if_neg (fun h => t19 h.1)] at hp
      exact br_f (W 19 (by decide) t19) (FLT hp)
end
