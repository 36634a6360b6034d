/-! Behind a fault the component goes on to the end of its step: nothing is harmed -/
theorem ls_lo_em {u0 : SX} {c : Nat} {o a k p : Int32} {cc cs : Nat} {op arg kd pl : Nat → Int32} (h : ls_lo u0 (cc, op, arg, kd, pl)) (hc : 480 ≤ c) : ls_lo u0 (cs, upd op c o, upd arg c a, upd kd c k, upd pl c p) := by
  obtain ⟨f_tickLimit, f_tokenCount, f_outCount, f_error, f_errorPlace, f_lastKind, f_lastValue, f_codeSize, f_methodCount, f_methodTokens, f_cellCount, f_activeCalls, f_next, f_ticksLeft, f_state, f_pos, f_expressionStart, f_pendingCount, f_frameTop, f_localCount, a_tokenCode, a_tokenValue, a_outKind, a_outValue, a_codeOp, a_codeArg, a_codeKind, a_codePlace, a_methodSign, a_methodStart, a_declared, a_cellKind, a_cellValue, a_callReturn, a_pendingLevel, a_pendingPlace, a_pendingMore, a_frameKind, a_frameMore, a_localName⟩ := u0
  intro i hi
  obtain ⟨h1, h2, h3, h4⟩ := h i hi
  refine ⟨?_, ?_, ?_, ?_⟩
  · show upd op c o i = _; rw [pk_un (by omega)]; exact h1
  · show upd arg c a i = _; rw [pk_un (by omega)]; exact h2
  · show upd kd c k i = _; rw [pk_un (by omega)]; exact h3
  · show upd pl c p i = _; rw [pk_un (by omega)]; exact h4
theorem ls_lo_aim {u0 : SX} {c : Nat} {a : Int32} {cc cs : Nat} {op arg kd pl : Nat → Int32} (h : ls_lo u0 (cc, op, arg, kd, pl)) (hc : 480 ≤ c) : ls_lo u0 (cs, op, upd arg c a, kd, pl) := by
  obtain ⟨f_tickLimit, f_tokenCount, f_outCount, f_error, f_errorPlace, f_lastKind, f_lastValue, f_codeSize, f_methodCount, f_methodTokens, f_cellCount, f_activeCalls, f_next, f_ticksLeft, f_state, f_pos, f_expressionStart, f_pendingCount, f_frameTop, f_localCount, a_tokenCode, a_tokenValue, a_outKind, a_outValue, a_codeOp, a_codeArg, a_codeKind, a_codePlace, a_methodSign, a_methodStart, a_declared, a_cellKind, a_cellValue, a_callReturn, a_pendingLevel, a_pendingPlace, a_pendingMore, a_frameKind, a_frameMore, a_localName⟩ := u0
  intro i hi
  obtain ⟨h1, h2, h3, h4⟩ := h i hi
  refine ⟨h1, ?_, h3, h4⟩
  show upd arg c a i = _; rw [pk_un (by omega)]; exact h2
theorem ls_lo_cs {u0 : SX} {cc cs : Nat} {op arg kd pl : Nat → Int32} (h : ls_lo u0 (cc, op, arg, kd, pl)) : ls_lo u0 (cs, op, arg, kd, pl) := by
  obtain ⟨f_tickLimit, f_tokenCount, f_outCount, f_error, f_errorPlace, f_lastKind, f_lastValue, f_codeSize, f_methodCount, f_methodTokens, f_cellCount, f_activeCalls, f_next, f_ticksLeft, f_state, f_pos, f_expressionStart, f_pendingCount, f_frameTop, f_localCount, a_tokenCode, a_tokenValue, a_outKind, a_outValue, a_codeOp, a_codeArg, a_codeKind, a_codePlace, a_methodSign, a_methodStart, a_declared, a_cellKind, a_cellValue, a_callReturn, a_pendingLevel, a_pendingPlace, a_pendingMore, a_frameKind, a_frameMore, a_localName⟩ := u0
  exact h
section
variable {T : Nat → Nat} {V : Nat → Int32} {n : Nat} {u0 u : SX} {e m : Nat} {post : SX → Prop}
theorem ls_XK_mono {m' : Nat} (h : ls_XK T V n u0 e m u) (hm : m ≤ m') : ls_XK T V n u0 e m' u := by
  obtain ⟨f_tickLimit, f_tokenCount, f_outCount, f_error, f_errorPlace, f_lastKind, f_lastValue, f_codeSize, f_methodCount, f_methodTokens, f_cellCount, f_activeCalls, f_next, f_ticksLeft, f_state, f_pos, f_expressionStart, f_pendingCount, f_frameTop, f_localCount, a_tokenCode, a_tokenValue, a_outKind, a_outValue, a_codeOp, a_codeArg, a_codeKind, a_codePlace, a_methodSign, a_methodStart, a_declared, a_cellKind, a_cellValue, a_callReturn, a_pendingLevel, a_pendingPlace, a_pendingMore, a_frameKind, a_frameMore, a_localName⟩ := u
  obtain ⟨hk, h1, ht, h2, h3, hc, ⟨p, hp, hpp⟩, hr⟩ := h
  exact ⟨hk, h1, ht, h2, h3, hc, ⟨p, hp, by omega⟩, hr⟩
theorem kx_emit {o a k p : Int32} (h : ls_XK T V n u0 e m u) (hp : ∀ u', ls_XK T V n u0 e m u' → post u') : wpX_emit post u o a k p := by
  obtain ⟨f_tickLimit, f_tokenCount, f_outCount, f_error, f_errorPlace, f_lastKind, f_lastValue, f_codeSize, f_methodCount, f_methodTokens, f_cellCount, f_activeCalls, f_next, f_ticksLeft, f_state, f_pos, f_expressionStart, f_pendingCount, f_frameTop, f_localCount, a_tokenCode, a_tokenValue, a_outKind, a_outValue, a_codeOp, a_codeArg, a_codeKind, a_codePlace, a_methodSign, a_methodStart, a_declared, a_cellKind, a_cellValue, a_callReturn, a_pendingLevel, a_pendingPlace, a_pendingMore, a_frameKind, a_frameMore, a_localName⟩ := u
  obtain ⟨hk, rfl, ht, rfl, rfl, ⟨c, rfl, c1, c2⟩, hpo, hpe, hft, hlc, hlo⟩ := h
  by_cases q : c < 761
  · exact hx_emit q (hp _ ⟨hk, rfl, ht, rfl, rfl, ⟨c + 1, rfl, by omega, by omega⟩, hpo, hpe, hft, hlc, ls_lo_em hlo c1⟩)
  · exact br_t (nI_le (a := 761) (by omega) (by omega)) (hp _ ⟨hk, rfl, ht, rfl, rfl, ⟨c, rfl, c1, c2⟩, hpo, hpe, hft, hlc, hlo⟩)
theorem kx_openFrame {a b : Int32} (h : ls_XK T V n u0 e m u) (hp : ∀ u', ls_XK T V n u0 e m u' → post u') : wpX_openFrame post u a b := by
  obtain ⟨f_tickLimit, f_tokenCount, f_outCount, f_error, f_errorPlace, f_lastKind, f_lastValue, f_codeSize, f_methodCount, f_methodTokens, f_cellCount, f_activeCalls, f_next, f_ticksLeft, f_state, f_pos, f_expressionStart, f_pendingCount, f_frameTop, f_localCount, a_tokenCode, a_tokenValue, a_outKind, a_outValue, a_codeOp, a_codeArg, a_codeKind, a_codePlace, a_methodSign, a_methodStart, a_declared, a_cellKind, a_cellValue, a_callReturn, a_pendingLevel, a_pendingPlace, a_pendingMore, a_frameKind, a_frameMore, a_localName⟩ := u
  obtain ⟨hk, rfl, ht, rfl, rfl, hc, hpo, hpe, ⟨ft, rfl, hf⟩, hlc, hlo⟩ := h
  by_cases q : ft < 141
  · exact hx_openFrame q (hp _ ⟨hk, rfl, ht, rfl, rfl, hc, hpo, hpe, ⟨ft + 1, rfl, by omega⟩, hlc, hlo⟩)
  · exact br_t (by rw [nI_1]; exact nI_le (a := 142) (by omega) (by omega)) (hp _ ⟨hk, rfl, ht, rfl, rfl, hc, hpo, hpe, ⟨ft, rfl, hf⟩, hlc, hlo⟩)
theorem kx_closeFrame (h : ls_XK T V n u0 e m u) (hp : ∀ u', ls_XK T V n u0 e m u' → post u') : wpX_closeFrame post u := by
  obtain ⟨f_tickLimit, f_tokenCount, f_outCount, f_error, f_errorPlace, f_lastKind, f_lastValue, f_codeSize, f_methodCount, f_methodTokens, f_cellCount, f_activeCalls, f_next, f_ticksLeft, f_state, f_pos, f_expressionStart, f_pendingCount, f_frameTop, f_localCount, a_tokenCode, a_tokenValue, a_outKind, a_outValue, a_codeOp, a_codeArg, a_codeKind, a_codePlace, a_methodSign, a_methodStart, a_declared, a_cellKind, a_cellValue, a_callReturn, a_pendingLevel, a_pendingPlace, a_pendingMore, a_frameKind, a_frameMore, a_localName⟩ := u
  obtain ⟨hk, rfl, ht, rfl, rfl, hc, hpo, hpe, ⟨ft, rfl, hf⟩, hlc, hlo⟩ := h
  cases ft with
  | zero => exact br_t (by decide) (hp _ ⟨hk, rfl, ht, rfl, rfl, hc, hpo, hpe, ⟨0, rfl, hf⟩, hlc, hlo⟩)
  | succ ft => exact hx_closeFrame (by omega) (hp _ ⟨hk, rfl, ht, rfl, rfl, hc, hpo, hpe, ⟨ft, rfl, by omega⟩, hlc, hlo⟩)
theorem kx_startExpression (h : ls_XK T V n u0 e m u) (hp : ∀ u', ls_XK T V n u0 e m u' → post u') : wpX_startExpression post u := by
  obtain ⟨f_tickLimit, f_tokenCount, f_outCount, f_error, f_errorPlace, f_lastKind, f_lastValue, f_codeSize, f_methodCount, f_methodTokens, f_cellCount, f_activeCalls, f_next, f_ticksLeft, f_state, f_pos, f_expressionStart, f_pendingCount, f_frameTop, f_localCount, a_tokenCode, a_tokenValue, a_outKind, a_outValue, a_codeOp, a_codeArg, a_codeKind, a_codePlace, a_methodSign, a_methodStart, a_declared, a_cellKind, a_cellValue, a_callReturn, a_pendingLevel, a_pendingPlace, a_pendingMore, a_frameKind, a_frameMore, a_localName⟩ := u
  exact hp _ h
theorem kx_wordAt {q : Int32 → Prop} {p : Nat} (h : ls_XK T V n u0 e m u) (hpp : p < 1000) (hp : ∀ r, q r) : wpX_wordAt q u (nI p) := by
  obtain ⟨f_tickLimit, f_tokenCount, f_outCount, f_error, f_errorPlace, f_lastKind, f_lastValue, f_codeSize, f_methodCount, f_methodTokens, f_cellCount, f_activeCalls, f_next, f_ticksLeft, f_state, f_pos, f_expressionStart, f_pendingCount, f_frameTop, f_localCount, a_tokenCode, a_tokenValue, a_outKind, a_outValue, a_codeOp, a_codeArg, a_codeKind, a_codePlace, a_methodSign, a_methodStart, a_declared, a_cellKind, a_cellValue, a_callReturn, a_pendingLevel, a_pendingPlace, a_pendingMore, a_frameKind, a_frameMore, a_localName⟩ := u
  obtain ⟨hk, rfl, ht, hr⟩ := h
  exact hx_wordAny ht hpp hp
theorem kx_valueAt {q : Int32 → Prop} {p : Nat} (h : ls_XK T V n u0 e m u) (hpp : p < 1000) (hp : ∀ r, q r) : wpX_valueAt q u (nI p) := by
  obtain ⟨f_tickLimit, f_tokenCount, f_outCount, f_error, f_errorPlace, f_lastKind, f_lastValue, f_codeSize, f_methodCount, f_methodTokens, f_cellCount, f_activeCalls, f_next, f_ticksLeft, f_state, f_pos, f_expressionStart, f_pendingCount, f_frameTop, f_localCount, a_tokenCode, a_tokenValue, a_outKind, a_outValue, a_codeOp, a_codeArg, a_codeKind, a_codePlace, a_methodSign, a_methodStart, a_declared, a_cellKind, a_cellValue, a_callReturn, a_pendingLevel, a_pendingPlace, a_pendingMore, a_frameKind, a_frameMore, a_localName⟩ := u
  obtain ⟨hk, rfl, ht, hr⟩ := h
  exact hx_valueAny ht hpp hp
theorem kx_expect {w : Int32} (h : ls_XK T V n u0 e m u) (hm : m ≤ 900) (hp : ∀ u', ls_XK T V n u0 e (m + 1) u' → post u') : wpX_expect post u w := by
  have h' := h
  obtain ⟨f_tickLimit, f_tokenCount, f_outCount, f_error, f_errorPlace, f_lastKind, f_lastValue, f_codeSize, f_methodCount, f_methodTokens, f_cellCount, f_activeCalls, f_next, f_ticksLeft, f_state, f_pos, f_expressionStart, f_pendingCount, f_frameTop, f_localCount, a_tokenCode, a_tokenValue, a_outKind, a_outValue, a_codeOp, a_codeArg, a_codeKind, a_codePlace, a_methodSign, a_methodStart, a_declared, a_cellKind, a_cellValue, a_callReturn, a_pendingLevel, a_pendingPlace, a_pendingMore, a_frameKind, a_frameMore, a_localName⟩ := u
  obtain ⟨hk, rfl, ht, rfl, rfl, hc, ⟨p, rfl, hpp⟩, hr⟩ := h
  unfold wpX_expect
  refine kx_wordAt h' (by omega) fun r => ?_
  refine br_c (fun _ => nm_r (nI_1 p) (hp _ ⟨hk, rfl, ht, rfl, rfl, hc, ⟨p + 1, rfl, by omega⟩, hr⟩)) (fun _ => ?_)
  exact hx_faultN (hp _ ⟨hk, rfl, ht, rfl, rfl, hc, ⟨p, rfl, by omega⟩, hr⟩)
theorem kx_addressOf {q : Int32 → Prop} {x : Int32} (h : ls_XK T V n u0 e m u) (hp : ∀ r, q r) : wpX_addressOf q u x := by
  obtain ⟨f_tickLimit, f_tokenCount, f_outCount, f_error, f_errorPlace, f_lastKind, f_lastValue, f_codeSize, f_methodCount, f_methodTokens, f_cellCount, f_activeCalls, f_next, f_ticksLeft, f_state, f_pos, f_expressionStart, f_pendingCount, f_frameTop, f_localCount, a_tokenCode, a_tokenValue, a_outKind, a_outValue, a_codeOp, a_codeArg, a_codeKind, a_codePlace, a_methodSign, a_methodStart, a_declared, a_cellKind, a_cellValue, a_callReturn, a_pendingLevel, a_pendingPlace, a_pendingMore, a_frameKind, a_frameMore, a_localName⟩ := u
  obtain ⟨hk, rfl, ht, rfl, rfl, hc, hpo, hpe, hft, ⟨lc, rfl, hl⟩, hlo⟩ := h
  have H : ∀ d i : Nat, i + d = lc → ∀ z : Int32, wX_addressOf_4 q x f_tickLimit (nI n) f_outCount 1 (nI e) f_lastKind f_lastValue f_codeSize f_methodCount f_methodTokens f_cellCount f_activeCalls f_next f_ticksLeft f_state f_pos f_expressionStart f_pendingCount f_frameTop (nI lc) a_tokenCode a_tokenValue a_outKind a_outValue a_codeOp a_codeArg a_codeKind a_codePlace a_methodSign a_methodStart a_declared a_cellKind a_cellValue a_callReturn a_pendingLevel a_pendingPlace a_pendingMore a_frameKind a_frameMore a_localName (d + 1) z (nI i) := by
    intro d
    induction d with
    | zero => intro i hi z; exact br_t (nI_le (by omega) (by omega)) (hp _)
    | succ d ih =>
      intro i hi z
      exact br_f (nI_ge (by omega) (by omega)) ⟨vp_in_nI (by omega) (by decide), br_c (fun _ => nm_e (nm_r (nI_1 i) (ih (i + 1) (by omega) _))) (fun _ => nm_r (nI_1 i) (ih (i + 1) (by omega) _))⟩
  exact ⟨lc + 1, H lc 0 (by omega) x⟩
theorem kx_constantSince {q : Int32 → Prop} {s : Nat} (h : ls_XK T V n u0 e m u) (hs : s < 1000) (hp : ∀ r, q r) : wpX_constantSince q u (nI s) := by
  obtain ⟨f_tickLimit, f_tokenCount, f_outCount, f_error, f_errorPlace, f_lastKind, f_lastValue, f_codeSize, f_methodCount, f_methodTokens, f_cellCount, f_activeCalls, f_next, f_ticksLeft, f_state, f_pos, f_expressionStart, f_pendingCount, f_frameTop, f_localCount, a_tokenCode, a_tokenValue, a_outKind, a_outValue, a_codeOp, a_codeArg, a_codeKind, a_codePlace, a_methodSign, a_methodStart, a_declared, a_cellKind, a_cellValue, a_callReturn, a_pendingLevel, a_pendingPlace, a_pendingMore, a_frameKind, a_frameMore, a_localName⟩ := u
  obtain ⟨hk, rfl, ht, rfl, rfl, hc, ⟨p, rfl, hpp⟩, hr⟩ := h
  have H : ∀ d i : Nat, 1000 ≤ i + d → ∀ z : Int32, i ≤ 1000 → wX_constantSince_5 q f_tickLimit (nI n) f_outCount 1 (nI e) f_lastKind f_lastValue f_codeSize f_methodCount f_methodTokens f_cellCount f_activeCalls f_next f_ticksLeft f_state (nI p) f_expressionStart f_pendingCount f_frameTop f_localCount a_tokenCode a_tokenValue a_outKind a_outValue a_codeOp a_codeArg a_codeKind a_codePlace a_methodSign a_methodStart a_declared a_cellKind a_cellValue a_callReturn a_pendingLevel a_pendingPlace a_pendingMore a_frameKind a_frameMore a_localName (d + 1) z (nI i) := by
    intro d
    induction d with
    | zero =>
      intro i hi z hi2
      refine br_f (nI_pos (by omega)) (br_c (fun _ => hp _) fun _ => br_t (nI_le (a := 140) (by omega) (by omega)) (hp _))
    | succ d ih =>
      intro i hi z hi2
      by_cases h2 : i < 140
      · refine br_f (nI_pos (by omega)) (br_c (fun _ => hp _) fun _ => br_f (nI_ge (b := 140) h2 (by decide)) ⟨vp_in_nI h2 (by decide), ?_⟩)
        exact br_c (fun _ => nm_r (nI_1 i) (ih (i + 1) (by omega) _ (by omega))) (fun _ => nm_r (nI_1 i) (ih (i + 1) (by omega) _ (by omega)))
      · exact br_f (nI_pos (by omega)) (br_c (fun _ => hp _) fun _ => br_t (nI_le (a := 140) (by omega) (by omega)) (hp _))
  exact ⟨1001, H 1000 s (by omega) 8 (by omega)⟩
theorem kx_codePlaceOf {q : Int32 → Prop} {x : Int32} (hp : ∀ r, q r) : wpX_codePlaceOf q u x := by
  obtain ⟨f_tickLimit, f_tokenCount, f_outCount, f_error, f_errorPlace, f_lastKind, f_lastValue, f_codeSize, f_methodCount, f_methodTokens, f_cellCount, f_activeCalls, f_next, f_ticksLeft, f_state, f_pos, f_expressionStart, f_pendingCount, f_frameTop, f_localCount, a_tokenCode, a_tokenValue, a_outKind, a_outValue, a_codeOp, a_codeArg, a_codeKind, a_codePlace, a_methodSign, a_methodStart, a_declared, a_cellKind, a_cellValue, a_callReturn, a_pendingLevel, a_pendingPlace, a_pendingMore, a_frameKind, a_frameMore, a_localName⟩ := u
  refine br_c (fun _ => hp _) (fun h0 => ?_)
  rcases pk_ix x (n := 761) (by decide) with h | h | ⟨j, hj, rfl⟩
  · exact absurd h h0
  · exact br_t h (hp _)
  · exact br_f (nI_ge hj (by decide)) ⟨vp_in_nI hj (by decide), hp _⟩
theorem kx_openMethodKind {q : Int32 → Prop} (hp : ∀ r, q r) : wpX_openMethodKind q u := by
  obtain ⟨f_tickLimit, f_tokenCount, f_outCount, f_error, f_errorPlace, f_lastKind, f_lastValue, f_codeSize, f_methodCount, f_methodTokens, f_cellCount, f_activeCalls, f_next, f_ticksLeft, f_state, f_pos, f_expressionStart, f_pendingCount, f_frameTop, f_localCount, a_tokenCode, a_tokenValue, a_outKind, a_outValue, a_codeOp, a_codeArg, a_codeKind, a_codePlace, a_methodSign, a_methodStart, a_declared, a_cellKind, a_cellValue, a_callReturn, a_pendingLevel, a_pendingPlace, a_pendingMore, a_frameKind, a_frameMore, a_localName⟩ := u
  refine br_c (fun _ => hp _) (fun _ => br_c (fun _ => nm_e ?_) (fun _ => hp _))
  refine br_c (fun _ => hp _) (fun h0 => ?_)
  rcases pk_ix (a_frameMore 1) (n := 761) (by decide) with h | h | ⟨j, hj, h⟩
  · exact absurd h h0
  · exact br_t h (hp _)
  · rw [h]
    exact br_f (nI_ge hj (by decide)) ⟨vp_in_nI hj (by decide), nm_e (hp _)⟩
end
