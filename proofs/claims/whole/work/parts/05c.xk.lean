section
variable {T : Nat → Nat} {V : Nat → Int32} {n : Nat} {u0 u : SX} {e m : Nat} {post : SX → Prop}
set_option maxHeartbeats 200000 in
theorem kx_addressOf {q : Int32 → Prop} {x : Int32} (h : ls_XK T V n u0 e m u) (hp : ∀ r, q r) : wpX_addressOf q u x := by
  obtain ⟨f_tickLimit, f_tokenCount, f_outCount, f_error, f_errorPlace, f_lastKind, f_lastValue, f_codeSize, f_methodCount, f_methodTokens, f_cellCount, f_activeCalls, f_next, f_ticksLeft, f_state, f_pos, f_expressionStart, f_pendingCount, f_frameTop, f_localCount, a_tokenCode, a_tokenValue, a_outKind, a_outValue, a_codeOp, a_codeArg, a_codeKind, a_codePlace, a_methodSign, a_methodStart, a_declared, a_cellKind, a_cellValue, a_callReturn, a_pendingLevel, a_pendingPlace, a_pendingMore, a_frameKind, a_frameMore, a_localName⟩ := u
  obtain ⟨hk, rfl, ht, rfl, rfl, hc, hpo, hpe, hft, ⟨lc, rfl, hl⟩, hlo⟩ := h
  have H : ∀ d i : Nat, i + d = lc → ∀ z : Int32, wX_addressOf_4 q x f_tickLimit (nI n) f_outCount 1 (nI e) f_lastKind f_lastValue f_codeSize f_methodCount f_methodTokens f_cellCount f_activeCalls f_next f_ticksLeft f_state f_pos f_expressionStart f_pendingCount f_frameTop (nI lc) a_tokenCode a_tokenValue a_outKind a_outValue a_codeOp a_codeArg a_codeKind a_codePlace a_methodSign a_methodStart a_declared a_cellKind a_cellValue a_callReturn a_pendingLevel a_pendingPlace a_pendingMore a_frameKind a_frameMore a_localName (d + 1) z (nI i) := by
    intro d
    induction d with
    | zero => intro i hi z; exact br_t (nI_le (by omega) (by omega)) (hp _)
    | succ d ih =>
      intro i hi z
      exact br_f (nI_ge (by omega) (by omega)) ⟨vp_in_nI (by omega) (by decide), br_c (fun _ => nm_e (nm_r (nI_1 i) (ih (i + 1) (by omega) _))) (fun _ => nm_r (nI_1 i) (ih (i + 1) (by omega) _))⟩
  exact ⟨lc + 1, H lc 0 (by omega) x⟩
set_option maxHeartbeats 200000 in
theorem kx_constantSince {q : Int32 → Prop} {s : Nat} (h : ls_XK T V n u0 e m u) (hs : s < 1000) (hp : ∀ r, q r) : wpX_constantSince q u (nI s) := by
  obtain ⟨f_tickLimit, f_tokenCount, f_outCount, f_error, f_errorPlace, f_lastKind, f_lastValue, f_codeSize, f_methodCount, f_methodTokens, f_cellCount, f_activeCalls, f_next, f_ticksLeft, f_state, f_pos, f_expressionStart, f_pendingCount, f_frameTop, f_localCount, a_tokenCode, a_tokenValue, a_outKind, a_outValue, a_codeOp, a_codeArg, a_codeKind, a_codePlace, a_methodSign, a_methodStart, a_declared, a_cellKind, a_cellValue, a_callReturn, a_pendingLevel, a_pendingPlace, a_pendingMore, a_frameKind, a_frameMore, a_localName⟩ := u
  obtain ⟨hk, rfl, ht, rfl, rfl, hc, ⟨p, rfl, hpp⟩, hr⟩ := h
  have H : ∀ d i : Nat, 1000 ≤ i + d → ∀ z : Int32, i ≤ 1000 → wX_constantSince_5 q f_tickLimit (nI n) f_outCount 1 (nI e) f_lastKind f_lastValue f_codeSize f_methodCount f_methodTokens f_cellCount f_activeCalls f_next f_ticksLeft f_state (nI p) f_expressionStart f_pendingCount f_frameTop f_localCount a_tokenCode a_tokenValue a_outKind a_outValue a_codeOp a_codeArg a_codeKind a_codePlace a_methodSign a_methodStart a_declared a_cellKind a_cellValue a_callReturn a_pendingLevel a_pendingPlace a_pendingMore a_frameKind a_frameMore a_localName (d + 1) z (nI i) := by
    intro d
    induction d with
    | zero =>
      intro i hi z hi2
      refine br_f (nI_pos (by omega)) (br_c (fun _ => hp _) fun _ => br_t (nI_le (a := 140) (by omega) (by omega)) (hp _))
    | succ d ih =>
      intro i hi z hi2
      by_cases h2 : i < 140
      · refine br_f (nI_pos (by omega)) (br_c (fun _ => hp _) fun _ => br_f (nI_ge (b := 140) h2 (by decide)) ⟨vp_in_nI h2 (by decide), ?_⟩)
        exact br_c (fun _ => nm_r (nI_1 i) (ih (i + 1) (by omega) _ (by omega))) (fun _ => nm_r (nI_1 i) (ih (i + 1) (by omega) _ (by omega)))
      · exact br_f (nI_pos (by omega)) (br_c (fun _ => hp _) fun _ => br_t (nI_le (a := 140) (by omega) (by omega)) (hp _))
  exact ⟨1001, H 1000 s (by omega) 8 (by omega)⟩
set_option maxHeartbeats 200000 in
theorem kx_codePlaceOf {q : Int32 → Prop} {x : Int32} (hp : ∀ r, q r) : wpX_codePlaceOf q u x := by
  obtain ⟨f_tickLimit, f_tokenCount, f_outCount, f_error, f_errorPlace, f_lastKind, f_lastValue, f_codeSize, f_methodCount, f_methodTokens, f_cellCount, f_activeCalls, f_next, f_ticksLeft, f_state, f_pos, f_expressionStart, f_pendingCount, f_frameTop, f_localCount, a_tokenCode, a_tokenValue, a_outKind, a_outValue, a_codeOp, a_codeArg, a_codeKind, a_codePlace, a_methodSign, a_methodStart, a_declared, a_cellKind, a_cellValue, a_callReturn, a_pendingLevel, a_pendingPlace, a_pendingMore, a_frameKind, a_frameMore, a_localName⟩ := u
  refine br_c (fun _ => hp _) (fun h0 => ?_)
  rcases pk_ix x (n := 761) (by decide) with h | h | ⟨j, hj, rfl⟩
  · exact absurd h h0
  · exact br_t h (hp _)
  · exact br_f (nI_ge hj (by decide)) ⟨vp_in_nI hj (by decide), hp _⟩
set_option maxHeartbeats 200000 in
theorem kx_openMethodKind {q : Int32 → Prop} (hp : ∀ r, q r) : wpX_openMethodKind q u := by
  obtain ⟨f_tickLimit, f_tokenCount, f_outCount, f_error, f_errorPlace, f_lastKind, f_lastValue, f_codeSize, f_methodCount, f_methodTokens, f_cellCount, f_activeCalls, f_next, f_ticksLeft, f_state, f_pos, f_expressionStart, f_pendingCount, f_frameTop, f_localCount, a_tokenCode, a_tokenValue, a_outKind, a_outValue, a_codeOp, a_codeArg, a_codeKind, a_codePlace, a_methodSign, a_methodStart, a_declared, a_cellKind, a_cellValue, a_callReturn, a_pendingLevel, a_pendingPlace, a_pendingMore, a_frameKind, a_frameMore, a_localName⟩ := u
  refine br_c (fun _ => hp _) (fun _ => br_c (fun _ => nm_e ?_) (fun _ => hp _))
  refine br_c (fun _ => hp _) (fun h0 => ?_)
  rcases pk_ix (a_frameMore 1) (n := 761) (by decide) with h | h | ⟨j, hj, h⟩
  · exact absurd h h0
  · exact br_t h (hp _)
  · rw [h]
    exact br_f (nI_ge hj (by decide)) ⟨vp_in_nI hj (by decide), nm_e (hp _)⟩
end
