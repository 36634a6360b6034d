section
variable {f_tickLimit f_tokenCount f_outCount f_error f_errorPlace f_lastKind f_codeSize f_methodCount f_methodTokens f_cellCount f_activeCalls f_next f_ticksLeft f_state f_pos f_expressionStart f_pendingCount f_frameTop f_localCount : Int32}
variable {f_lastValue : Int64}
variable {a_tokenCode a_tokenValue a_outKind a_codeOp a_codeArg a_codeKind a_codePlace a_methodSign a_methodStart a_declared a_cellKind a_callReturn a_pendingLevel a_pendingPlace a_pendingMore a_frameKind a_frameMore a_localName : Nat → Int32}
variable {a_outValue a_cellValue : Nat → Int64}
variable {T : Nat → Nat} {V : Nat → Int32} {n : Nat} {u0 u : SX} {post : SX → Prop} {pos es e m : Nat} {pe : List LsP} {fr : List LsF} {L : List Nat} {k : LsK}
set_option maxHeartbeats 200000 in
theorem hx_aimExits {lo cs : Nat} (h : lo ≤ cs) (hc : cs ≤ 761) (hp : post (f_tickLimit, f_tokenCount, f_outCount, f_error, f_errorPlace, f_lastKind, f_lastValue, nI cs, f_methodCount, f_methodTokens, f_cellCount, f_activeCalls, f_next, f_ticksLeft, f_state, f_pos, f_expressionStart, f_pendingCount, f_frameTop, f_localCount, a_tokenCode, a_tokenValue, a_outKind, a_outValue, a_codeOp, (fun i => if lo ≤ i ∧ i < cs ∧ (a_codeOp i = 14 ∨ a_codeOp i = 15) ∧ a_codeArg i = 0 then nI cs - nI i else a_codeArg i), a_codeKind, a_codePlace, a_methodSign, a_methodStart, a_declared, a_cellKind, a_cellValue, a_callReturn, a_pendingLevel, a_pendingPlace, a_pendingMore, a_frameKind, a_frameMore, a_localName)) : wpX_aimExits post (f_tickLimit, f_tokenCount, f_outCount, f_error, f_errorPlace, f_lastKind, f_lastValue, nI cs, f_methodCount, f_methodTokens, f_cellCount, f_activeCalls, f_next, f_ticksLeft, f_state, f_pos, f_expressionStart, f_pendingCount, f_frameTop, f_localCount, a_tokenCode, a_tokenValue, a_outKind, a_outValue, a_codeOp, a_codeArg, a_codeKind, a_codePlace, a_methodSign, a_methodStart, a_declared, a_cellKind, a_cellValue, a_callReturn, a_pendingLevel, a_pendingPlace, a_pendingMore, a_frameKind, a_frameMore, a_localName) (nI lo) := by
  have H : ∀ d j : Nat, j + d = cs → lo ≤ j → ∀ A : Nat → Int32, A = (fun i => if lo ≤ i ∧ i < j ∧ (a_codeOp i = 14 ∨ a_codeOp i = 15) ∧ a_codeArg i = 0 then nI cs - nI i else a_codeArg i) → wX_aimExits_2 post f_tickLimit f_tokenCount f_outCount f_error f_errorPlace f_lastKind f_lastValue (nI cs) f_methodCount f_methodTokens f_cellCount f_activeCalls f_next f_ticksLeft f_state f_pos f_expressionStart f_pendingCount f_frameTop f_localCount (d + 1) (nI j) a_tokenCode a_tokenValue a_outKind a_outValue a_codeOp A a_codeKind a_codePlace a_methodSign a_methodStart a_declared a_cellKind a_cellValue a_callReturn a_pendingLevel a_pendingPlace a_pendingMore a_frameKind a_frameMore a_localName := by
    intro d
    induction d with
    | zero =>
      intro j hj hl A hA
      have e : j = cs := by omega
      subst e
      rw [hA]
      exact br_f (nI_pos (by omega)) (br_t (nI_le (by omega) (by omega)) hp)
    | succ d ih =>
      intro j hj hl A hA
      have ej : (nI j).toNatClampNeg = j := nI_clamp (by omega)
      have ij : vp_in (nI j) 761 := vp_in_nI (by omega) (by decide)
      have Aj : A j = a_codeArg j := by rw [hA]; exact if_neg (by omega)
      -- the array that the next turn wants
      have same : ¬ ((a_codeOp j = 14 ∨ a_codeOp j = 15) ∧ a_codeArg j = 0) → A = (fun i => if lo ≤ i ∧ i < j + 1 ∧ (a_codeOp i = 14 ∨ a_codeOp i = 15) ∧ a_codeArg i = 0 then nI cs - nI i else a_codeArg i) := by
        intro hno
        rw [hA]
        funext i
        by_cases q : i = j
        · subst q
          rw [if_neg (by omega), if_neg (fun h => hno h.2.2)]
        · by_cases z : lo ≤ i ∧ i < j ∧ (a_codeOp i = 14 ∨ a_codeOp i = 15) ∧ a_codeArg i = 0
          · rw [if_pos z, if_pos ⟨z.1, by omega, z.2.2⟩]
          · rw [if_neg z, if_neg (fun h => z ⟨h.1, by omega, h.2.2⟩)]
      have other : (a_codeOp j = 14 ∨ a_codeOp j = 15) → a_codeArg j = 0 → upd A j (nI cs - nI j) = (fun i => if lo ≤ i ∧ i < j + 1 ∧ (a_codeOp i = 14 ∨ a_codeOp i = 15) ∧ a_codeArg i = 0 then nI cs - nI i else a_codeArg i) := by
        intro h1 h2
        rw [hA]
        funext i
        unfold upd
        by_cases q : i = j
        · subst q
          rw [if_pos rfl, if_pos ⟨hl, by omega, h1, h2⟩]
        · rw [if_neg q]
          dsimp only
          by_cases z : lo ≤ i ∧ i < j ∧ (a_codeOp i = 14 ∨ a_codeOp i = 15) ∧ a_codeArg i = 0
          · rw [if_pos z, if_pos ⟨z.1, by omega, z.2.2⟩]
          · rw [if_neg z, if_neg (fun h => z ⟨h.1, by omega, h.2.2⟩)]
      have G : (a_codeOp j = 14 ∨ a_codeOp j = 15) → wX_aimExits_36 post (wX_aimExits_2 post f_tickLimit f_tokenCount f_outCount f_error f_errorPlace f_lastKind f_lastValue (nI cs) f_methodCount f_methodTokens f_cellCount f_activeCalls f_next f_ticksLeft f_state f_pos f_expressionStart f_pendingCount f_frameTop f_localCount (d + 1)) (nI j) f_tickLimit f_tokenCount f_outCount f_error f_errorPlace f_lastKind f_lastValue (nI cs) f_methodCount f_methodTokens f_cellCount f_activeCalls f_next f_ticksLeft f_state f_pos f_expressionStart f_pendingCount f_frameTop f_localCount a_tokenCode a_tokenValue a_outKind a_outValue a_codeOp A a_codeKind a_codePlace a_methodSign a_methodStart a_declared a_cellKind a_cellValue a_callReturn a_pendingLevel a_pendingPlace a_pendingMore a_frameKind a_frameMore a_localName := by
        intro h1
        refine br_f (by decide) ⟨ij, ?_⟩
        rw [ej, Aj]
        by_cases z : a_codeArg j = 0
        · refine br_t z ⟨ij, nm_e (nm_r (nI_1 j) ?_)⟩
          exact ih (j + 1) (by omega) (by omega) _ (other h1 z)
        · refine br_f z (nm_r (nI_1 j) ?_)
          exact ih (j + 1) (by omega) (by omega) _ (same (fun h => z h.2))
      refine br_f (nI_pos (by omega)) (br_f (nI_ge (by omega) (by omega)) ⟨ij, ?_⟩)
      rw [ej]
      by_cases q14 : a_codeOp j = 14
      · exact br_t q14 (G (Or.inl q14))
      · refine br_f q14 ⟨ij, ?_⟩
        by_cases q15 : a_codeOp j = 15
        · exact br_t q15 (G (Or.inr q15))
        · refine br_f q15 (br_t rfl (nm_r (nI_1 j) ?_))
          exact ih (j + 1) (by omega) (by omega) _ (same (fun h => h.1.elim q14 q15))
  refine ⟨_, H (cs - lo) lo (by omega) (Nat.le_refl _) a_codeArg ?_⟩
  funext i
  rw [if_neg (by omega)]
end
section
variable {T : Nat → Nat} {V : Nat → Int32} {n : Nat} {u0 u : SX} {post : SX → Prop} {pos es : Nat} {pe : List LsP} {fr : List LsF} {L : List Nat} {k : LsK}
set_option maxHeartbeats 200000 in
theorem ls_lo_exits {j : Nat} (h : ls_lo u0 k) (hc : 480 ≤ j) : ls_lo u0 (ls_exits k j) := by
  obtain ⟨f_tickLimit, f_tokenCount, f_outCount, f_error, f_errorPlace, f_lastKind, f_lastValue, f_codeSize, f_methodCount, f_methodTokens, f_cellCount, f_activeCalls, f_next, f_ticksLeft, f_state, f_pos, f_expressionStart, f_pendingCount, f_frameTop, f_localCount, a_tokenCode, a_tokenValue, a_outKind, a_outValue, a_codeOp, a_codeArg, a_codeKind, a_codePlace, a_methodSign, a_methodStart, a_declared, a_cellKind, a_cellValue, a_callReturn, a_pendingLevel, a_pendingPlace, a_pendingMore, a_frameKind, a_frameMore, a_localName⟩ := u0
  intro i hi
  obtain ⟨h1, h2, h3, h4⟩ := h i hi
  refine ⟨h1, ?_, h3, h4⟩
  show (if j ≤ i ∧ _ then _ else _) = _
  rw [if_neg (by omega)]; exact h2
set_option maxHeartbeats 200000 in
theorem rx_r3 (h : ls_XR T V n u0 (3, pos, es, pe, fr, L, k) u) (b0 : 480 ≤ k.1 ∧ k.1 + 1 ≤ 761) (b1 : pos ≤ 140) (b2 : fr.length < 141) (hfk : ∀ f ∈ fr, 0 < f.1 ∧ f.1 < 12) (hmo : ∀ f ∈ fr, 2 ≤ f.1 → 480 ≤ f.2.1 ∧ f.2.1 < k.1) (hmk : ∀ f ∈ fr, f.1 = 2 → f.2.1 < k.1 ∧ k.2.2.2.1 f.2.1 &&& 7 = nI (f.2.2.2.headD 0) ∧ f.2.2.2.headD 0 < 8) (hbt : ∀ f, fr.head? = some f → f.1 = 2 → fr = [f] ∧ 0 < pos)
    (hp : ls_out T V n u0 (ls_r3 T pos es pe fr L k) post) : wpX_finish post u := by
  obtain ⟨f_tickLimit, f_tokenCount, f_outCount, f_error, f_errorPlace, f_lastKind, f_lastValue, f_codeSize, f_methodCount, f_methodTokens, f_cellCount, f_activeCalls, f_next, f_ticksLeft, f_state, f_pos, f_expressionStart, f_pendingCount, f_frameTop, f_localCount, a_tokenCode, a_tokenValue, a_outKind, a_outValue, a_codeOp, a_codeArg, a_codeKind, a_codePlace, a_methodSign, a_methodStart, a_declared, a_cellKind, a_cellValue, a_callReturn, a_pendingLevel, a_pendingPlace, a_pendingMore, a_frameKind, a_frameMore, a_localName⟩ := u
  obtain ⟨hk, hlo, rfl, ht, rfl, rfl, rfl, rfl, rfl, rfl, rfl, rfl, rfl, rfl, rfl, rfl, hes, hP, hF, hN⟩ := h
  unfold wpX_finish
  dsimp only
  have ift : vp_in (nI fr.length) 142 := vp_in_nI (by omega) (by decide)
  refine ⟨ift, ?_⟩
  rw [nI_clamp (n := fr.length) (by omega)]
  refine nm_e ⟨ift, ?_⟩
  unfold ls_r3 at hp
  cases fr with
  | nil =>
    refine nm_r (show a_frameKind 0 = 0 from hF) (br_t (by decide) ?_)
    exact hp _ ⟨hk, hlo, rfl, ht, rfl, rfl, rfl, rfl, rfl, rfl, rfl, rfl, rfl, rfl, rfl, rfl, (fun h => by omega), hP, hF, hN⟩
  | cons f r =>
    obtain ⟨fk, mo, sp, l⟩ := f
    have b2' : r.length + 1 < 141 := b2
    obtain ⟨f0, f12⟩ := hfk _ (List.mem_cons_self ..)
    have hm := hmo _ (List.mem_cons_self ..)
    dsimp only at f0 f12 hp hm
    obtain ⟨hF1, hF2, hF3⟩ := hF
    have eF2 : a_frameMore ((fk, mo, sp, l) :: r : List LsF).length = nI mo := hF2
    rw [eF2]
    refine nm_r (show a_frameKind (r.length + 1) = nI fk from hF1) ?_
    have N : ∀ w, w < 100 → fk ≠ w → ¬ nI fk = nI w := fun w hw h => mt (nI_eq (by omega) (by omega)).mp h
    by_cases q3 : fk = 3
    · subst q3
      have hm := hm (by decide)
      rw [if_pos rfl] at hp
      refine br_f (by decide) (br_f (by decide) (br_f (by decide) (br_t rfl ?_)))
      unfold wpX_finishThen
      dsimp only
      refine hx_wordAt ht (by omega) ?_
      by_cases t7 : T pos = 7
      · rw [if_pos t7] at hp
        refine br_t ((ls_w (w := 7) (by decide)).mpr t7) ⟨ift, ?_⟩
        rw [show (nI ((3, mo, sp, l) :: r : List LsF).length).toNatClampNeg = r.length + 1 from nI_clamp (n := r.length + 1) (by omega)]
        refine nm_e ⟨ift, nm_e ?_⟩
        refine hx_emit (by omega) (nm_r (nI_1 pos) ?_)
        unfold wX_finishThen_70
        refine hx_aim (by omega) ?_
        exact hp _ ⟨hk, ls_lo_aimK (ls_lo_emK hlo b0.1) hm.1, rfl, ht, rfl, rfl, rfl, rfl, rfl, rfl, rfl, rfl, rfl, rfl, rfl, rfl, (fun h => by omega), hP, ls_StF_push 4 k.1 sp [] hF3, hN⟩
      · rw [if_neg t7] at hp
        refine br_f (mt (ls_w (w := 7) (by decide)).mp t7) (hx_closeFrame (ft := r.length) (by omega) ?_)
        unfold wX_finishThen_70
        refine hx_aim (by omega) ?_
        exact hp _ ⟨hk, ls_lo_aimK hlo hm.1, rfl, ht, rfl, rfl, rfl, rfl, rfl, rfl, rfl, rfl, rfl, rfl, rfl, rfl, (fun h => by omega), hP, hF3, hN⟩
    rw [if_neg q3] at hp
    by_cases q4 : fk = 4
    · subst q4
      have hm := hm (by decide)
      rw [if_pos rfl] at hp
      refine br_f (by decide) (br_f (by decide) (br_f (by decide) (br_f (by decide) (br_t rfl ?_))))
      refine hx_aim (by omega) (hx_closeFrame (ft := r.length) (by omega) ?_)
      exact hp _ ⟨hk, ls_lo_aimK hlo hm.1, rfl, ht, rfl, rfl, rfl, rfl, rfl, rfl, rfl, rfl, rfl, rfl, rfl, rfl, (fun h => by omega), hP, hF3, hN⟩
    rw [if_neg q4] at hp
    by_cases q5 : fk = 5
    · subst q5
      have hm := hm (by decide)
      rw [if_pos rfl] at hp
      refine br_f (by decide) (br_f (by decide) (br_f (by decide) (br_f (by decide) (br_f (by decide) (br_t rfl ?_)))))
      rw [nI_1]
      refine hx_emit (by omega) ?_
      dsimp only
      refine hx_aimExits (cs := k.1 + 1) (by omega) (by omega) ?_
      refine hx_closeFrame (ft := r.length) (by omega) ?_
      exact hp _ ⟨hk, ls_lo_exits (ls_lo_emK hlo b0.1) hm.1, rfl, ht, rfl, rfl, rfl, rfl, rfl, rfl, rfl, rfl, rfl, rfl, rfl, rfl, (fun h => by omega), hP, hF3, hN⟩
    rw [if_neg q5] at hp
    by_cases q2 : fk = 2
    · subst q2
      have hm := hm (by decide)
      rw [if_pos rfl] at hp
      obtain ⟨hr, hpos⟩ := hbt _ rfl rfl
      have hr0 : r = [] := by injection hr
      subst hr0
      obtain ⟨m1, m2, m3⟩ := hmk _ (List.mem_cons_self ..) rfl
      dsimp only at m1 m2 m3
      refine br_f (by decide) (br_f (by decide) (br_t rfl ?_))
      unfold wpX_finishMethod
      refine ls_mkd_walk (fr := [(2, mo, sp, l)]) rfl (by simp) ⟨hF1, hF2, hF3⟩ (fun f hf => (hfk f hf).2) (fun f hf h2 => ?_) (fun e => ?_) (fun m e m8 => ?_)
      · obtain ⟨g1, g2, g3⟩ := hmk f hf h2
        exact ⟨by omega, g2, g3⟩
      · simp [ls_mkd] at e
      · have em : m = l.headD 0 := by injection (show some (l.headD 0) = some m from e) with e; exact e.symm
        subst em
        rw [show nI pos - 1 = nI (pos - 1) from pk_sub (b := 1) hpos]
        refine hx_emit (by omega) (hx_aim (by omega) (hx_closeFrame (ft := 0) (by decide) ?_))
        exact hp _ ⟨hk, ls_lo_aimK (ls_lo_emK hlo b0.1) hm.1, rfl, ht, rfl, rfl, rfl, rfl, rfl, rfl, rfl, rfl, rfl, rfl, rfl, rfl, (fun h => by omega), hP, hF3, trivial⟩
    rw [if_neg q2] at hp
    have hp1 := hp _ (show ls_XR T V n u0 _ (f_tickLimit, nI n, f_outCount, 0, -1, f_lastKind, f_lastValue, nI k.1, f_methodCount, f_methodTokens, f_cellCount, f_activeCalls, f_next, f_ticksLeft, 0, nI pos, f_expressionStart, nI pe.length, nI (r.length + 1), nI L.length, a_tokenCode, a_tokenValue, a_outKind, a_outValue, k.2.1, k.2.2.1, k.2.2.2.1, k.2.2.2.2, a_methodSign, a_methodStart, a_declared, a_cellKind, a_cellValue, a_callReturn, a_pendingLevel, a_pendingPlace, a_pendingMore, a_frameKind, a_frameMore, a_localName) from ⟨hk, hlo, rfl, ht, rfl, rfl, rfl, rfl, rfl, rfl, rfl, rfl, rfl, rfl, rfl, rfl, (fun h => by omega), hP, ⟨hF1, hF2, hF3⟩, hN⟩)
    refine br_c (fun _ => hp1) (fun h2 => br_c (fun _ => hp1) (fun h5 => ?_))
    exact br_f (N 2 (by decide) q2) (br_f (N 3 (by decide) q3) (br_f (N 4 (by decide) q4) (br_f (N 5 (by decide) q5) trivial)))
end
