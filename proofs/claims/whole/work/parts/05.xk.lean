/-! Behind a fault the component goes on to the end of its step: nothing is harmed -/
set_option maxHeartbeats 200000 in
theorem ls_lo_em {u0 : SX} {c : Nat} {o a k p : Int32} {cc cs : Nat} {op arg kd pl : Nat → Int32} (h : ls_lo u0 (cc, op, arg, kd, pl)) (hc : 480 ≤ c) : ls_lo u0 (cs, upd op c o, upd arg c a, upd kd c k, upd pl c p) := by
  obtain ⟨f_tickLimit, f_tokenCount, f_outCount, f_error, f_errorPlace, f_lastKind, f_lastValue, f_codeSize, f_methodCount, f_methodTokens, f_cellCount, f_activeCalls, f_next, f_ticksLeft, f_state, f_pos, f_expressionStart, f_pendingCount, f_frameTop, f_localCount, a_tokenCode, a_tokenValue, a_outKind, a_outValue, a_codeOp, a_codeArg, a_codeKind, a_codePlace, a_methodSign, a_methodStart, a_declared, a_cellKind, a_cellValue, a_callReturn, a_pendingLevel, a_pendingPlace, a_pendingMore, a_frameKind, a_frameMore, a_localName⟩ := u0
  intro i hi
  obtain ⟨h1, h2, h3, h4⟩ := h i hi
  refine ⟨?_, ?_, ?_, ?_⟩
  · show upd op c o i = _; rw [pk_un (by omega)]; exact h1
  · show upd arg c a i = _; rw [pk_un (by omega)]; exact h2
  · show upd kd c k i = _; rw [pk_un (by omega)]; exact h3
  · show upd pl c p i = _; rw [pk_un (by omega)]; exact h4
set_option maxHeartbeats 200000 in
theorem ls_lo_aim {u0 : SX} {c : Nat} {a : Int32} {cc cs : Nat} {op arg kd pl : Nat → Int32} (h : ls_lo u0 (cc, op, arg, kd, pl)) (hc : 480 ≤ c) : ls_lo u0 (cs, op, upd arg c a, kd, pl) := by
  obtain ⟨f_tickLimit, f_tokenCount, f_outCount, f_error, f_errorPlace, f_lastKind, f_lastValue, f_codeSize, f_methodCount, f_methodTokens, f_cellCount, f_activeCalls, f_next, f_ticksLeft, f_state, f_pos, f_expressionStart, f_pendingCount, f_frameTop, f_localCount, a_tokenCode, a_tokenValue, a_outKind, a_outValue, a_codeOp, a_codeArg, a_codeKind, a_codePlace, a_methodSign, a_methodStart, a_declared, a_cellKind, a_cellValue, a_callReturn, a_pendingLevel, a_pendingPlace, a_pendingMore, a_frameKind, a_frameMore, a_localName⟩ := u0
  intro i hi
  obtain ⟨h1, h2, h3, h4⟩ := h i hi
  refine ⟨h1, ?_, h3, h4⟩
  show upd arg c a i = _; rw [pk_un (by omega)]; exact h2
set_option maxHeartbeats 200000 in
theorem ls_lo_cs {u0 : SX} {cc cs : Nat} {op arg kd pl : Nat → Int32} (h : ls_lo u0 (cc, op, arg, kd, pl)) : ls_lo u0 (cs, op, arg, kd, pl) := by
  obtain ⟨f_tickLimit, f_tokenCount, f_outCount, f_error, f_errorPlace, f_lastKind, f_lastValue, f_codeSize, f_methodCount, f_methodTokens, f_cellCount, f_activeCalls, f_next, f_ticksLeft, f_state, f_pos, f_expressionStart, f_pendingCount, f_frameTop, f_localCount, a_tokenCode, a_tokenValue, a_outKind, a_outValue, a_codeOp, a_codeArg, a_codeKind, a_codePlace, a_methodSign, a_methodStart, a_declared, a_cellKind, a_cellValue, a_callReturn, a_pendingLevel, a_pendingPlace, a_pendingMore, a_frameKind, a_frameMore, a_localName⟩ := u0
  exact h
section
variable {T : Nat → Nat} {V : Nat → Int32} {n : Nat} {u0 u : SX} {e m : Nat} {post : SX → Prop}
set_option maxHeartbeats 200000 in
theorem ls_XK_mono {m' : Nat} (h : ls_XK T V n u0 e m u) (hm : m ≤ m') : ls_XK T V n u0 e m' u := by
  obtain ⟨f_tickLimit, f_tokenCount, f_outCount, f_error, f_errorPlace, f_lastKind, f_lastValue, f_codeSize, f_methodCount, f_methodTokens, f_cellCount, f_activeCalls, f_next, f_ticksLeft, f_state, f_pos, f_expressionStart, f_pendingCount, f_frameTop, f_localCount, a_tokenCode, a_tokenValue, a_outKind, a_outValue, a_codeOp, a_codeArg, a_codeKind, a_codePlace, a_methodSign, a_methodStart, a_declared, a_cellKind, a_cellValue, a_callReturn, a_pendingLevel, a_pendingPlace, a_pendingMore, a_frameKind, a_frameMore, a_localName⟩ := u
  obtain ⟨hk, h1, ht, h2, h3, hc, ⟨p, hp, hpp⟩, hr⟩ := h
  exact ⟨hk, h1, ht, h2, h3, hc, ⟨p, hp, by omega⟩, hr⟩
set_option maxHeartbeats 200000 in
theorem kx_emit {o a k p : Int32} (h : ls_XK T V n u0 e m u) (hp : ∀ u', ls_XK T V n u0 e m u' → post u') : wpX_emit post u o a k p := by
  obtain ⟨f_tickLimit, f_tokenCount, f_outCount, f_error, f_errorPlace, f_lastKind, f_lastValue, f_codeSize, f_methodCount, f_methodTokens, f_cellCount, f_activeCalls, f_next, f_ticksLeft, f_state, f_pos, f_expressionStart, f_pendingCount, f_frameTop, f_localCount, a_tokenCode, a_tokenValue, a_outKind, a_outValue, a_codeOp, a_codeArg, a_codeKind, a_codePlace, a_methodSign, a_methodStart, a_declared, a_cellKind, a_cellValue, a_callReturn, a_pendingLevel, a_pendingPlace, a_pendingMore, a_frameKind, a_frameMore, a_localName⟩ := u
  obtain ⟨hk, rfl, ht, rfl, rfl, ⟨c, rfl, c1, c2⟩, hpo, hpe, hft, hlc, hlo⟩ := h
  by_cases q : c < 761
  · exact hx_emit q (hp _ ⟨hk, rfl, ht, rfl, rfl, ⟨c + 1, rfl, by omega, by omega⟩, hpo, hpe, hft, hlc, ls_lo_em hlo c1⟩)
  · exact br_t (nI_le (a := 761) (by omega) (by omega)) (hp _ ⟨hk, rfl, ht, rfl, rfl, ⟨c, rfl, c1, c2⟩, hpo, hpe, hft, hlc, hlo⟩)
end
