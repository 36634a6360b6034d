section
variable {T : Nat → Nat} {V : Nat → Int32} {n : Nat} {u0 u : SX} {e m : Nat} {post : SX → Prop}
set_option maxHeartbeats 200000 in
theorem kx_openFrame {a b : Int32} (h : ls_XK T V n u0 e m u) (hp : ∀ u', ls_XK T V n u0 e m u' → post u') : wpX_openFrame post u a b := by
  obtain ⟨f_tickLimit, f_tokenCount, f_outCount, f_error, f_errorPlace, f_lastKind, f_lastValue, f_codeSize, f_methodCount, f_methodTokens, f_cellCount, f_activeCalls, f_next, f_ticksLeft, f_state, f_pos, f_expressionStart, f_pendingCount, f_frameTop, f_localCount, a_tokenCode, a_tokenValue, a_outKind, a_outValue, a_codeOp, a_codeArg, a_codeKind, a_codePlace, a_methodSign, a_methodStart, a_declared, a_cellKind, a_cellValue, a_callReturn, a_pendingLevel, a_pendingPlace, a_pendingMore, a_frameKind, a_frameMore, a_localName⟩ := u
  obtain ⟨hk, rfl, ht, rfl, rfl, hc, hpo, hpe, ⟨ft, rfl, hf⟩, hlc, hlo⟩ := h
  by_cases q : ft < 141
  · exact hx_openFrame q (hp _ ⟨hk, rfl, ht, rfl, rfl, hc, hpo, hpe, ⟨ft + 1, rfl, by omega⟩, hlc, hlo⟩)
  · exact br_t (by rw [nI_1]; exact nI_le (a := 142) (by omega) (by omega)) (hp _ ⟨hk, rfl, ht, rfl, rfl, hc, hpo, hpe, ⟨ft, rfl, hf⟩, hlc, hlo⟩)
set_option maxHeartbeats 200000 in
theorem kx_closeFrame (h : ls_XK T V n u0 e m u) (hp : ∀ u', ls_XK T V n u0 e m u' → post u') : wpX_closeFrame post u := by
  obtain ⟨f_tickLimit, f_tokenCount, f_outCount, f_error, f_errorPlace, f_lastKind, f_lastValue, f_codeSize, f_methodCount, f_methodTokens, f_cellCount, f_activeCalls, f_next, f_ticksLeft, f_state, f_pos, f_expressionStart, f_pendingCount, f_frameTop, f_localCount, a_tokenCode, a_tokenValue, a_outKind, a_outValue, a_codeOp, a_codeArg, a_codeKind, a_codePlace, a_methodSign, a_methodStart, a_declared, a_cellKind, a_cellValue, a_callReturn, a_pendingLevel, a_pendingPlace, a_pendingMore, a_frameKind, a_frameMore, a_localName⟩ := u
  obtain ⟨hk, rfl, ht, rfl, rfl, hc, hpo, hpe, ⟨ft, rfl, hf⟩, hlc, hlo⟩ := h
  cases ft with
  | zero => exact br_t (by decide) (hp _ ⟨hk, rfl, ht, rfl, rfl, hc, hpo, hpe, ⟨0, rfl, hf⟩, hlc, hlo⟩)
  | succ ft => exact hx_closeFrame (by omega) (hp _ ⟨hk, rfl, ht, rfl, rfl, hc, hpo, hpe, ⟨ft, rfl, by omega⟩, hlc, hlo⟩)
set_option maxHeartbeats 200000 in
theorem kx_startExpression (h : ls_XK T V n u0 e m u) (hp : ∀ u', ls_XK T V n u0 e m u' → post u') : wpX_startExpression post u := by
  obtain ⟨f_tickLimit, f_tokenCount, f_outCount, f_error, f_errorPlace, f_lastKind, f_lastValue, f_codeSize, f_methodCount, f_methodTokens, f_cellCount, f_activeCalls, f_next, f_ticksLeft, f_state, f_pos, f_expressionStart, f_pendingCount, f_frameTop, f_localCount, a_tokenCode, a_tokenValue, a_outKind, a_outValue, a_codeOp, a_codeArg, a_codeKind, a_codePlace, a_methodSign, a_methodStart, a_declared, a_cellKind, a_cellValue, a_callReturn, a_pendingLevel, a_pendingPlace, a_pendingMore, a_frameKind, a_frameMore, a_localName⟩ := u
  obtain ⟨hk, h1, ht, h2, h3, hc, hpo, hr⟩ := h
  exact hp _ ⟨hk, h1, ht, h2, h3, hc, hpo, hr⟩
set_option maxHeartbeats 200000 in
theorem kx_wordAt {q : Int32 → Prop} {p : Nat} (h : ls_XK T V n u0 e m u) (hpp : p < 1000) (hp : ∀ r, q r) : wpX_wordAt q u (nI p) := by
  obtain ⟨f_tickLimit, f_tokenCount, f_outCount, f_error, f_errorPlace, f_lastKind, f_lastValue, f_codeSize, f_methodCount, f_methodTokens, f_cellCount, f_activeCalls, f_next, f_ticksLeft, f_state, f_pos, f_expressionStart, f_pendingCount, f_frameTop, f_localCount, a_tokenCode, a_tokenValue, a_outKind, a_outValue, a_codeOp, a_codeArg, a_codeKind, a_codePlace, a_methodSign, a_methodStart, a_declared, a_cellKind, a_cellValue, a_callReturn, a_pendingLevel, a_pendingPlace, a_pendingMore, a_frameKind, a_frameMore, a_localName⟩ := u
  obtain ⟨hk, rfl, ht, hr⟩ := h
  exact hx_wordAny ht hpp hp
set_option maxHeartbeats 200000 in
theorem kx_valueAt {q : Int32 → Prop} {p : Nat} (h : ls_XK T V n u0 e m u) (hpp : p < 1000) (hp : ∀ r, q r) : wpX_valueAt q u (nI p) := by
  obtain ⟨f_tickLimit, f_tokenCount, f_outCount, f_error, f_errorPlace, f_lastKind, f_lastValue, f_codeSize, f_methodCount, f_methodTokens, f_cellCount, f_activeCalls, f_next, f_ticksLeft, f_state, f_pos, f_expressionStart, f_pendingCount, f_frameTop, f_localCount, a_tokenCode, a_tokenValue, a_outKind, a_outValue, a_codeOp, a_codeArg, a_codeKind, a_codePlace, a_methodSign, a_methodStart, a_declared, a_cellKind, a_cellValue, a_callReturn, a_pendingLevel, a_pendingPlace, a_pendingMore, a_frameKind, a_frameMore, a_localName⟩ := u
  obtain ⟨hk, rfl, ht, hr⟩ := h
  exact hx_valueAny ht hpp hp
set_option maxHeartbeats 200000 in
theorem kx_expect {w : Int32} (h : ls_XK T V n u0 e m u) (hm : m ≤ 900) (hp : ∀ u', ls_XK T V n u0 e (m + 1) u' → post u') : wpX_expect post u w := by
  have h' := h
  obtain ⟨f_tickLimit, f_tokenCount, f_outCount, f_error, f_errorPlace, f_lastKind, f_lastValue, f_codeSize, f_methodCount, f_methodTokens, f_cellCount, f_activeCalls, f_next, f_ticksLeft, f_state, f_pos, f_expressionStart, f_pendingCount, f_frameTop, f_localCount, a_tokenCode, a_tokenValue, a_outKind, a_outValue, a_codeOp, a_codeArg, a_codeKind, a_codePlace, a_methodSign, a_methodStart, a_declared, a_cellKind, a_cellValue, a_callReturn, a_pendingLevel, a_pendingPlace, a_pendingMore, a_frameKind, a_frameMore, a_localName⟩ := u
  obtain ⟨hk, rfl, ht, rfl, rfl, hc, ⟨p, rfl, hpp⟩, hr⟩ := h
  unfold wpX_expect
  refine kx_wordAt h' (by omega) fun r => ?_
  refine br_c (fun _ => nm_r (nI_1 p) (hp _ ⟨hk, rfl, ht, rfl, rfl, hc, ⟨p + 1, rfl, by omega⟩, hr⟩)) (fun _ => ?_)
  exact hx_faultN (hp _ ⟨hk, rfl, ht, rfl, rfl, hc, ⟨p, rfl, by omega⟩, hr⟩)
end
