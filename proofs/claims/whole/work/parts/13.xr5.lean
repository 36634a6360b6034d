set_option maxHeartbeats 200000 in
theorem hx_levelOf {q : Int32 → Prop} {t : Nat} (hq : q (nI (ls_lv t))) : wpX_levelOf q (nI (ls_xc t)) := by
  have W : ∀ w v, w < 54 → nI (ls_lv w) = v → nI (ls_xc t) = nI w → q v := fun w v hw hv h => by
    have := (ls_w hw).mp h
    subst this
    rw [← hv]; exact hq
  have two : (t < 24 ∨ 42 < t) → q 2 := fun h => by
    have e : ls_lv t = 2 := ls_lv_2 (by omega)
    rw [e] at hq; exact hq
  refine br_c (fun h => two (Or.inl ((ls_wlt (w := 24) (by decide)).mp h))) (fun h24 => br_c (fun h => two (Or.inr ((ls_wgt (w := 42) (by decide)).mp h))) (fun h42 => ?_))
  refine br_c (W 24 _ (by decide) rfl) (fun _ => br_c (W 25 _ (by decide) rfl) (fun _ => br_c (W 26 _ (by decide) rfl) (fun _ => br_c (W 27 _ (by decide) rfl) (fun _ => br_c (W 28 _ (by decide) rfl) (fun _ => ?_)))))
  refine br_c (W 29 _ (by decide) rfl) (fun _ => br_c (W 30 _ (by decide) rfl) (fun _ => br_c (W 31 _ (by decide) rfl) (fun _ => br_c (W 32 _ (by decide) rfl) (fun _ => br_c (W 33 _ (by decide) rfl) (fun _ => ?_)))))
  refine br_c (W 34 _ (by decide) rfl) (fun _ => br_c (W 35 _ (by decide) rfl) (fun _ => br_c (W 36 _ (by decide) rfl) (fun _ => br_c (W 37 _ (by decide) rfl) (fun _ => br_c (W 38 _ (by decide) rfl) (fun _ => ?_)))))
  exact br_c (W 39 _ (by decide) rfl) (fun _ => br_c (W 40 _ (by decide) rfl) (fun _ => br_c (W 41 _ (by decide) rfl) (fun _ => br_c (W 42 _ (by decide) rfl) (fun _ => trivial))))
section
variable {f_tickLimit f_tokenCount f_outCount f_error f_errorPlace f_lastKind f_codeSize f_methodCount f_methodTokens f_cellCount f_activeCalls f_next f_ticksLeft f_state f_pos f_expressionStart f_pendingCount f_frameTop f_localCount : Int32}
variable {f_lastValue : Int64}
variable {a_tokenCode a_tokenValue a_outKind a_codeOp a_codeArg a_codeKind a_codePlace a_methodSign a_methodStart a_declared a_cellKind a_callReturn a_pendingLevel a_pendingPlace a_pendingMore a_frameKind a_frameMore a_localName : Nat → Int32}
variable {a_outValue a_cellValue : Nat → Int64}
variable {T : Nat → Nat} {V : Nat → Int32} {n : Nat} {u0 u : SX} {post : SX → Prop} {pos es e m : Nat} {pe : List LsP} {fr : List LsF} {L : List Nat} {k : LsK}
set_option maxHeartbeats 200000 in
theorem kx_wordAtX {q : Int32 → Prop} {x : Int32} (ht : ls_tok T V n a_tokenCode a_tokenValue) (hp : ∀ r, q r) : wpX_wordAt q (f_tickLimit, nI n, f_outCount, f_error, f_errorPlace, f_lastKind, f_lastValue, f_codeSize, f_methodCount, f_methodTokens, f_cellCount, f_activeCalls, f_next, f_ticksLeft, f_state, f_pos, f_expressionStart, f_pendingCount, f_frameTop, f_localCount, a_tokenCode, a_tokenValue, a_outKind, a_outValue, a_codeOp, a_codeArg, a_codeKind, a_codePlace, a_methodSign, a_methodStart, a_declared, a_cellKind, a_cellValue, a_callReturn, a_pendingLevel, a_pendingPlace, a_pendingMore, a_frameKind, a_frameMore, a_localName) x := by
  have := ht.1
  refine br_c (fun _ => hp _) (fun h0 => ?_)
  rcases pk_ix x (n := n) (by omega) with h | h | ⟨j, hj, rfl⟩
  · exact absurd h h0
  · exact br_t h (hp _)
  · exact br_f (nI_ge hj (by omega)) ⟨vp_in_nI (by omega) (by decide), hp _⟩
set_option maxHeartbeats 200000 in
theorem kx_valueAtX {q : Int32 → Prop} {x : Int32} (ht : ls_tok T V n a_tokenCode a_tokenValue) (hp : ∀ r, q r) : wpX_valueAt q (f_tickLimit, nI n, f_outCount, f_error, f_errorPlace, f_lastKind, f_lastValue, f_codeSize, f_methodCount, f_methodTokens, f_cellCount, f_activeCalls, f_next, f_ticksLeft, f_state, f_pos, f_expressionStart, f_pendingCount, f_frameTop, f_localCount, a_tokenCode, a_tokenValue, a_outKind, a_outValue, a_codeOp, a_codeArg, a_codeKind, a_codePlace, a_methodSign, a_methodStart, a_declared, a_cellKind, a_cellValue, a_callReturn, a_pendingLevel, a_pendingPlace, a_pendingMore, a_frameKind, a_frameMore, a_localName) x := by
  have := ht.1
  refine br_c (fun _ => hp _) (fun h0 => ?_)
  rcases pk_ix x (n := n) (by omega) with h | h | ⟨j, hj, rfl⟩
  · exact absurd h h0
  · exact br_t h (hp _)
  · exact br_f (nI_ge hj (by omega)) ⟨vp_in_nI (by omega) (by decide), hp _⟩
set_option maxHeartbeats 200000 in
theorem kx_endCondition {a b c : Int32} (h : ls_XK T V n u0 e m u) (hp : ∀ u', ls_XK T V n u0 e m u' → post u') : wpX_endCondition post u a b c := by
  obtain ⟨f_tickLimit, f_tokenCount, f_outCount, f_error, f_errorPlace, f_lastKind, f_lastValue, f_codeSize, f_methodCount, f_methodTokens, f_cellCount, f_activeCalls, f_next, f_ticksLeft, f_state, f_pos, f_expressionStart, f_pendingCount, f_frameTop, f_localCount, a_tokenCode, a_tokenValue, a_outKind, a_outValue, a_codeOp, a_codeArg, a_codeKind, a_codePlace, a_methodSign, a_methodStart, a_declared, a_cellKind, a_cellValue, a_callReturn, a_pendingLevel, a_pendingPlace, a_pendingMore, a_frameKind, a_frameMore, a_localName⟩ := u
  have h' := h
  obtain ⟨hk, rfl, ht, rfl, rfl, hc, hpo, hpe, ⟨ft, rfl, hf⟩, hlc, hlo⟩ := h
  have i : vp_in (nI ft) 142 := vp_in_nI hf (by decide)
  refine ⟨i, nm_e ⟨i, nm_e ?_⟩⟩
  refine kx_emit (T := T) (V := V) (n := n) (u0 := u0) (e := e) (m := m) ⟨hk, rfl, ht, rfl, rfl, hc, hpo, hpe, ⟨ft, rfl, hf⟩, hlc, hlo⟩ fun u' g => ?_
  obtain ⟨f_tickLimit, f_tokenCount, f_outCount, f_error, f_errorPlace, f_lastKind, f_lastValue, f_codeSize, f_methodCount, f_methodTokens, f_cellCount, f_activeCalls, f_next, f_ticksLeft, f_state, f_pos, f_expressionStart, f_pendingCount, f_frameTop, f_localCount, a_tokenCode, a_tokenValue, a_outKind, a_outValue, a_codeOp, a_codeArg, a_codeKind, a_codePlace, a_methodSign, a_methodStart, a_declared, a_cellKind, a_cellValue, a_callReturn, a_pendingLevel, a_pendingPlace, a_pendingMore, a_frameKind, a_frameMore, a_localName⟩ := u'
  exact hp _ g
set_option maxHeartbeats 200000 in
theorem kx_end119 {x1 x2 x3 x4 : Int32} (h : ls_XK T V n u0 e m (f_tickLimit, f_tokenCount, f_outCount, f_error, f_errorPlace, f_lastKind, f_lastValue, f_codeSize, f_methodCount, f_methodTokens, f_cellCount, f_activeCalls, f_next, f_ticksLeft, f_state, f_pos, f_expressionStart, f_pendingCount, f_frameTop, f_localCount, a_tokenCode, a_tokenValue, a_outKind, a_outValue, a_codeOp, a_codeArg, a_codeKind, a_codePlace, a_methodSign, a_methodStart, a_declared, a_cellKind, a_cellValue, a_callReturn, a_pendingLevel, a_pendingPlace, a_pendingMore, a_frameKind, a_frameMore, a_localName)) (hp : ∀ u', ls_XK T V n u0 e m u' → post u') : wX_endExpression_119 post x1 x2 x3 x4 f_tickLimit f_tokenCount f_outCount f_error f_errorPlace f_lastKind f_lastValue f_codeSize f_methodCount f_methodTokens f_cellCount f_activeCalls f_next f_ticksLeft f_state f_pos f_expressionStart f_pendingCount f_frameTop f_localCount a_tokenCode a_tokenValue a_outKind a_outValue a_codeOp a_codeArg a_codeKind a_codePlace a_methodSign a_methodStart a_declared a_cellKind a_cellValue a_callReturn a_pendingLevel a_pendingPlace a_pendingMore a_frameKind a_frameMore a_localName := by
  have E : ∀ o a k p, wpX_emit (fun u => match u with | (f_tickLimit, f_tokenCount, f_outCount, f_error, f_errorPlace, f_lastKind, f_lastValue, f_codeSize, f_methodCount, f_methodTokens, f_cellCount, f_activeCalls, f_next, f_ticksLeft, f_state, f_pos, f_expressionStart, f_pendingCount, f_frameTop, f_localCount, a_tokenCode, a_tokenValue, a_outKind, a_outValue, a_codeOp, a_codeArg, a_codeKind, a_codePlace, a_methodSign, a_methodStart, a_declared, a_cellKind, a_cellValue, a_callReturn, a_pendingLevel, a_pendingPlace, a_pendingMore, a_frameKind, a_frameMore, a_localName) => post (f_tickLimit, f_tokenCount, f_outCount, f_error, f_errorPlace, f_lastKind, f_lastValue, f_codeSize, f_methodCount, f_methodTokens, f_cellCount, f_activeCalls, f_next, f_ticksLeft, f_state, f_pos, f_expressionStart, f_pendingCount, f_frameTop, f_localCount, a_tokenCode, a_tokenValue, a_outKind, a_outValue, a_codeOp, a_codeArg, a_codeKind, a_codePlace, a_methodSign, a_methodStart, a_declared, a_cellKind, a_cellValue, a_callReturn, a_pendingLevel, a_pendingPlace, a_pendingMore, a_frameKind, a_frameMore, a_localName)) (f_tickLimit, f_tokenCount, f_outCount, f_error, f_errorPlace, f_lastKind, f_lastValue, f_codeSize, f_methodCount, f_methodTokens, f_cellCount, f_activeCalls, f_next, f_ticksLeft, f_state, f_pos, f_expressionStart, f_pendingCount, f_frameTop, f_localCount, a_tokenCode, a_tokenValue, a_outKind, a_outValue, a_codeOp, a_codeArg, a_codeKind, a_codePlace, a_methodSign, a_methodStart, a_declared, a_cellKind, a_cellValue, a_callReturn, a_pendingLevel, a_pendingPlace, a_pendingMore, a_frameKind, a_frameMore, a_localName) o a k p := fun o a k p => kx_emit h fun u' g => by
    obtain ⟨f_tickLimit, f_tokenCount, f_outCount, f_error, f_errorPlace, f_lastKind, f_lastValue, f_codeSize, f_methodCount, f_methodTokens, f_cellCount, f_activeCalls, f_next, f_ticksLeft, f_state, f_pos, f_expressionStart, f_pendingCount, f_frameTop, f_localCount, a_tokenCode, a_tokenValue, a_outKind, a_outValue, a_codeOp, a_codeArg, a_codeKind, a_codePlace, a_methodSign, a_methodStart, a_declared, a_cellKind, a_cellValue, a_callReturn, a_pendingLevel, a_pendingPlace, a_pendingMore, a_frameKind, a_frameMore, a_localName⟩ := u'
    exact hp _ g
  have C : ∀ a b c, wpX_endCondition (fun u => match u with | (f_tickLimit, f_tokenCount, f_outCount, f_error, f_errorPlace, f_lastKind, f_lastValue, f_codeSize, f_methodCount, f_methodTokens, f_cellCount, f_activeCalls, f_next, f_ticksLeft, f_state, f_pos, f_expressionStart, f_pendingCount, f_frameTop, f_localCount, a_tokenCode, a_tokenValue, a_outKind, a_outValue, a_codeOp, a_codeArg, a_codeKind, a_codePlace, a_methodSign, a_methodStart, a_declared, a_cellKind, a_cellValue, a_callReturn, a_pendingLevel, a_pendingPlace, a_pendingMore, a_frameKind, a_frameMore, a_localName) => post (f_tickLimit, f_tokenCount, f_outCount, f_error, f_errorPlace, f_lastKind, f_lastValue, f_codeSize, f_methodCount, f_methodTokens, f_cellCount, f_activeCalls, f_next, f_ticksLeft, f_state, f_pos, f_expressionStart, f_pendingCount, f_frameTop, f_localCount, a_tokenCode, a_tokenValue, a_outKind, a_outValue, a_codeOp, a_codeArg, a_codeKind, a_codePlace, a_methodSign, a_methodStart, a_declared, a_cellKind, a_cellValue, a_callReturn, a_pendingLevel, a_pendingPlace, a_pendingMore, a_frameKind, a_frameMore, a_localName)) (f_tickLimit, f_tokenCount, f_outCount, f_error, f_errorPlace, f_lastKind, f_lastValue, f_codeSize, f_methodCount, f_methodTokens, f_cellCount, f_activeCalls, f_next, f_ticksLeft, f_state, f_pos, f_expressionStart, f_pendingCount, f_frameTop, f_localCount, a_tokenCode, a_tokenValue, a_outKind, a_outValue, a_codeOp, a_codeArg, a_codeKind, a_codePlace, a_methodSign, a_methodStart, a_declared, a_cellKind, a_cellValue, a_callReturn, a_pendingLevel, a_pendingPlace, a_pendingMore, a_frameKind, a_frameMore, a_localName) a b c := fun a b c => kx_endCondition h fun u' g => by
    obtain ⟨f_tickLimit, f_tokenCount, f_outCount, f_error, f_errorPlace, f_lastKind, f_lastValue, f_codeSize, f_methodCount, f_methodTokens, f_cellCount, f_activeCalls, f_next, f_ticksLeft, f_state, f_pos, f_expressionStart, f_pendingCount, f_frameTop, f_localCount, a_tokenCode, a_tokenValue, a_outKind, a_outValue, a_codeOp, a_codeArg, a_codeKind, a_codePlace, a_methodSign, a_methodStart, a_declared, a_cellKind, a_cellValue, a_callReturn, a_pendingLevel, a_pendingPlace, a_pendingMore, a_frameKind, a_frameMore, a_localName⟩ := u'
    exact hp _ g
  have R : wpX_endReturn (fun u => match u with | (f_tickLimit, f_tokenCount, f_outCount, f_error, f_errorPlace, f_lastKind, f_lastValue, f_codeSize, f_methodCount, f_methodTokens, f_cellCount, f_activeCalls, f_next, f_ticksLeft, f_state, f_pos, f_expressionStart, f_pendingCount, f_frameTop, f_localCount, a_tokenCode, a_tokenValue, a_outKind, a_outValue, a_codeOp, a_codeArg, a_codeKind, a_codePlace, a_methodSign, a_methodStart, a_declared, a_cellKind, a_cellValue, a_callReturn, a_pendingLevel, a_pendingPlace, a_pendingMore, a_frameKind, a_frameMore, a_localName) => post (f_tickLimit, f_tokenCount, f_outCount, f_error, f_errorPlace, f_lastKind, f_lastValue, f_codeSize, f_methodCount, f_methodTokens, f_cellCount, f_activeCalls, f_next, f_ticksLeft, f_state, f_pos, f_expressionStart, f_pendingCount, f_frameTop, f_localCount, a_tokenCode, a_tokenValue, a_outKind, a_outValue, a_codeOp, a_codeArg, a_codeKind, a_codePlace, a_methodSign, a_methodStart, a_declared, a_cellKind, a_cellValue, a_callReturn, a_pendingLevel, a_pendingPlace, a_pendingMore, a_frameKind, a_frameMore, a_localName)) (f_tickLimit, f_tokenCount, f_outCount, f_error, f_errorPlace, f_lastKind, f_lastValue, f_codeSize, f_methodCount, f_methodTokens, f_cellCount, f_activeCalls, f_next, f_ticksLeft, f_state, f_pos, f_expressionStart, f_pendingCount, f_frameTop, f_localCount, a_tokenCode, a_tokenValue, a_outKind, a_outValue, a_codeOp, a_codeArg, a_codeKind, a_codePlace, a_methodSign, a_methodStart, a_declared, a_cellKind, a_cellValue, a_callReturn, a_pendingLevel, a_pendingPlace, a_pendingMore, a_frameKind, a_frameMore, a_localName) x4 x3 := by
    unfold wpX_endReturn
    refine kx_openMethodKind fun r => kx_emit h fun u' g => ?_
    obtain ⟨f_tickLimit, f_tokenCount, f_outCount, f_error, f_errorPlace, f_lastKind, f_lastValue, f_codeSize, f_methodCount, f_methodTokens, f_cellCount, f_activeCalls, f_next, f_ticksLeft, f_state, f_pos, f_expressionStart, f_pendingCount, f_frameTop, f_localCount, a_tokenCode, a_tokenValue, a_outKind, a_outValue, a_codeOp, a_codeArg, a_codeKind, a_codePlace, a_methodSign, a_methodStart, a_declared, a_cellKind, a_cellValue, a_callReturn, a_pendingLevel, a_pendingPlace, a_pendingMore, a_frameKind, a_frameMore, a_localName⟩ := u'
    exact hp _ g
  have D : wpX_endDeclaration (fun u => match u with | (f_tickLimit, f_tokenCount, f_outCount, f_error, f_errorPlace, f_lastKind, f_lastValue, f_codeSize, f_methodCount, f_methodTokens, f_cellCount, f_activeCalls, f_next, f_ticksLeft, f_state, f_pos, f_expressionStart, f_pendingCount, f_frameTop, f_localCount, a_tokenCode, a_tokenValue, a_outKind, a_outValue, a_codeOp, a_codeArg, a_codeKind, a_codePlace, a_methodSign, a_methodStart, a_declared, a_cellKind, a_cellValue, a_callReturn, a_pendingLevel, a_pendingPlace, a_pendingMore, a_frameKind, a_frameMore, a_localName) => post (f_tickLimit, f_tokenCount, f_outCount, f_error, f_errorPlace, f_lastKind, f_lastValue, f_codeSize, f_methodCount, f_methodTokens, f_cellCount, f_activeCalls, f_next, f_ticksLeft, f_state, f_pos, f_expressionStart, f_pendingCount, f_frameTop, f_localCount, a_tokenCode, a_tokenValue, a_outKind, a_outValue, a_codeOp, a_codeArg, a_codeKind, a_codePlace, a_methodSign, a_methodStart, a_declared, a_cellKind, a_cellValue, a_callReturn, a_pendingLevel, a_pendingPlace, a_pendingMore, a_frameKind, a_frameMore, a_localName)) (f_tickLimit, f_tokenCount, f_outCount, f_error, f_errorPlace, f_lastKind, f_lastValue, f_codeSize, f_methodCount, f_methodTokens, f_cellCount, f_activeCalls, f_next, f_ticksLeft, f_state, f_pos, f_expressionStart, f_pendingCount, f_frameTop, f_localCount, a_tokenCode, a_tokenValue, a_outKind, a_outValue, a_codeOp, a_codeArg, a_codeKind, a_codePlace, a_methodSign, a_methodStart, a_declared, a_cellKind, a_cellValue, a_callReturn, a_pendingLevel, a_pendingPlace, a_pendingMore, a_frameKind, a_frameMore, a_localName) x4 x3 := by
    unfold wpX_endDeclaration
    obtain ⟨hk, h1, ht, hr⟩ := id h
    subst h1
    refine kx_wordAtX ht fun r => kx_valueAtX ht fun r => kx_addressOf h fun r => kx_emit h fun u' g => ?_
    obtain ⟨f_tickLimit, f_tokenCount, f_outCount, f_error, f_errorPlace, f_lastKind, f_lastValue, f_codeSize, f_methodCount, f_methodTokens, f_cellCount, f_activeCalls, f_next, f_ticksLeft, f_state, f_pos, f_expressionStart, f_pendingCount, f_frameTop, f_localCount, a_tokenCode, a_tokenValue, a_outKind, a_outValue, a_codeOp, a_codeArg, a_codeKind, a_codePlace, a_methodSign, a_methodStart, a_declared, a_cellKind, a_cellValue, a_callReturn, a_pendingLevel, a_pendingPlace, a_pendingMore, a_frameKind, a_frameMore, a_localName⟩ := u'
    exact hp _ g
  refine br_c (fun _ => br_c (fun _ => E _ _ _ _) (fun _ => E _ _ _ _)) (fun _ => br_c (fun _ => br_c (fun _ => E _ _ _ _) (fun _ => E _ _ _ _)) (fun _ => ?_))
  exact br_c (fun _ => C _ _ _) (fun _ => br_c (fun _ => C _ _ _) (fun _ => br_c (fun _ => E _ _ _ _) (fun _ => br_c (fun _ => R) (fun _ => br_c (fun _ => D) (fun _ => trivial)))))
set_option maxHeartbeats 200000 in
theorem kx_end104 {x1 x2 x3 x4 x5 : Int32} (h : ls_XK T V n u0 e m (f_tickLimit, f_tokenCount, f_outCount, f_error, f_errorPlace, f_lastKind, f_lastValue, f_codeSize, f_methodCount, f_methodTokens, f_cellCount, f_activeCalls, f_next, f_ticksLeft, f_state, f_pos, f_expressionStart, f_pendingCount, f_frameTop, f_localCount, a_tokenCode, a_tokenValue, a_outKind, a_outValue, a_codeOp, a_codeArg, a_codeKind, a_codePlace, a_methodSign, a_methodStart, a_declared, a_cellKind, a_cellValue, a_callReturn, a_pendingLevel, a_pendingPlace, a_pendingMore, a_frameKind, a_frameMore, a_localName)) (hm : m ≤ 390) (hp : ∀ u', ls_XK T V n u0 e (m + 1) u' → post u') : wX_endExpression_104 post x1 x2 x3 x4 x5 f_tickLimit f_tokenCount f_outCount f_error f_errorPlace f_lastKind f_lastValue f_codeSize f_methodCount f_methodTokens f_cellCount f_activeCalls f_next f_ticksLeft f_state f_pos f_expressionStart f_pendingCount f_frameTop f_localCount a_tokenCode a_tokenValue a_outKind a_outValue a_codeOp a_codeArg a_codeKind a_codePlace a_methodSign a_methodStart a_declared a_cellKind a_cellValue a_callReturn a_pendingLevel a_pendingPlace a_pendingMore a_frameKind a_frameMore a_localName := by
  refine br_c (fun _ => ?_) (fun _ => kx_end119 h fun u' g => hp _ (ls_XK_mono g (by omega)))
  refine kx_closeFrame h fun u' g => ?_
  obtain ⟨f_tickLimit, f_tokenCount, f_outCount, f_error, f_errorPlace, f_lastKind, f_lastValue, f_codeSize, f_methodCount, f_methodTokens, f_cellCount, f_activeCalls, f_next, f_ticksLeft, f_state, f_pos, f_expressionStart, f_pendingCount, f_frameTop, f_localCount, a_tokenCode, a_tokenValue, a_outKind, a_outValue, a_codeOp, a_codeArg, a_codeKind, a_codePlace, a_methodSign, a_methodStart, a_declared, a_cellKind, a_cellValue, a_callReturn, a_pendingLevel, a_pendingPlace, a_pendingMore, a_frameKind, a_frameMore, a_localName⟩ := u'
  refine kx_expect g (by omega) fun u' g => ?_
  obtain ⟨f_tickLimit, f_tokenCount, f_outCount, f_error, f_errorPlace, f_lastKind, f_lastValue, f_codeSize, f_methodCount, f_methodTokens, f_cellCount, f_activeCalls, f_next, f_ticksLeft, f_state, f_pos, f_expressionStart, f_pendingCount, f_frameTop, f_localCount, a_tokenCode, a_tokenValue, a_outKind, a_outValue, a_codeOp, a_codeArg, a_codeKind, a_codePlace, a_methodSign, a_methodStart, a_declared, a_cellKind, a_cellValue, a_callReturn, a_pendingLevel, a_pendingPlace, a_pendingMore, a_frameKind, a_frameMore, a_localName⟩ := u'
  exact kx_end119 g hp
set_option maxHeartbeats 200000 in
theorem kx_end84 {x1 x2 x3 x4 x5 z0 : Int32} (h : ls_XK T V n u0 e m (f_tickLimit, f_tokenCount, f_outCount, f_error, f_errorPlace, f_lastKind, f_lastValue, f_codeSize, f_methodCount, f_methodTokens, f_cellCount, f_activeCalls, f_next, f_ticksLeft, f_state, f_pos, f_expressionStart, f_pendingCount, f_frameTop, f_localCount, a_tokenCode, a_tokenValue, a_outKind, a_outValue, a_codeOp, a_codeArg, a_codeKind, a_codePlace, a_methodSign, a_methodStart, a_declared, a_cellKind, a_cellValue, a_callReturn, a_pendingLevel, a_pendingPlace, a_pendingMore, a_frameKind, a_frameMore, a_localName)) (hm : m ≤ 380) (hp : ∀ u', ls_XK T V n u0 e (m + 2) u' → post u') : wX_endExpression_84 post x1 x2 x3 x4 x5 z0 f_tickLimit f_tokenCount f_outCount f_error f_errorPlace f_lastKind f_lastValue f_codeSize f_methodCount f_methodTokens f_cellCount f_activeCalls f_next f_ticksLeft f_state f_pos f_expressionStart f_pendingCount f_frameTop f_localCount a_tokenCode a_tokenValue a_outKind a_outValue a_codeOp a_codeArg a_codeKind a_codePlace a_methodSign a_methodStart a_declared a_cellKind a_cellValue a_callReturn a_pendingLevel a_pendingPlace a_pendingMore a_frameKind a_frameMore a_localName := by
  have h2 : ls_XK T V n u0 e m (f_tickLimit, f_tokenCount, f_outCount, f_error, f_errorPlace, f_lastKind, f_lastValue, f_codeSize, f_methodCount, f_methodTokens, f_cellCount, f_activeCalls, f_next, f_ticksLeft, z0, f_pos, f_expressionStart, f_pendingCount, f_frameTop, f_localCount, a_tokenCode, a_tokenValue, a_outKind, a_outValue, a_codeOp, a_codeArg, a_codeKind, a_codePlace, a_methodSign, a_methodStart, a_declared, a_cellKind, a_cellValue, a_callReturn, a_pendingLevel, a_pendingPlace, a_pendingMore, a_frameKind, a_frameMore, a_localName) := by
    obtain ⟨hk, h1, ht, h2, h3, hc, hpo, hr⟩ := h
    exact ⟨hk, h1, ht, h2, h3, hc, hpo, hr⟩
  have E98 : wX_endExpression_98 post x1 x2 x3 x4 x5 f_tickLimit f_tokenCount f_outCount f_error f_errorPlace f_lastKind f_lastValue f_codeSize f_methodCount f_methodTokens f_cellCount f_activeCalls f_next f_ticksLeft z0 f_pos f_expressionStart f_pendingCount f_frameTop f_localCount a_tokenCode a_tokenValue a_outKind a_outValue a_codeOp a_codeArg a_codeKind a_codePlace a_methodSign a_methodStart a_declared a_cellKind a_cellValue a_callReturn a_pendingLevel a_pendingPlace a_pendingMore a_frameKind a_frameMore a_localName := by
    unfold wX_endExpression_98
    refine kx_expect h2 (by omega) fun u' g => ?_
    obtain ⟨f_tickLimit, f_tokenCount, f_outCount, f_error, f_errorPlace, f_lastKind, f_lastValue, f_codeSize, f_methodCount, f_methodTokens, f_cellCount, f_activeCalls, f_next, f_ticksLeft, f_state, f_pos, f_expressionStart, f_pendingCount, f_frameTop, f_localCount, a_tokenCode, a_tokenValue, a_outKind, a_outValue, a_codeOp, a_codeArg, a_codeKind, a_codePlace, a_methodSign, a_methodStart, a_declared, a_cellKind, a_cellValue, a_callReturn, a_pendingLevel, a_pendingPlace, a_pendingMore, a_frameKind, a_frameMore, a_localName⟩ := u'
    exact kx_end104 g (by omega) hp
  have E104 : wX_endExpression_104 post x1 x2 x3 x4 x5 f_tickLimit f_tokenCount f_outCount f_error f_errorPlace f_lastKind f_lastValue f_codeSize f_methodCount f_methodTokens f_cellCount f_activeCalls f_next f_ticksLeft z0 f_pos f_expressionStart f_pendingCount f_frameTop f_localCount a_tokenCode a_tokenValue a_outKind a_outValue a_codeOp a_codeArg a_codeKind a_codePlace a_methodSign a_methodStart a_declared a_cellKind a_cellValue a_callReturn a_pendingLevel a_pendingPlace a_pendingMore a_frameKind a_frameMore a_localName := kx_end104 h2 (by omega) fun u' g => hp _ (ls_XK_mono g (by omega))
  exact br_c (fun _ => br_c (fun _ => E98) (fun _ => E104)) (fun _ => E98)
set_option maxHeartbeats 200000 in
theorem kx_end18 (h : ls_XK T V n u0 e m (f_tickLimit, f_tokenCount, f_outCount, f_error, f_errorPlace, f_lastKind, f_lastValue, f_codeSize, f_methodCount, f_methodTokens, f_cellCount, f_activeCalls, f_next, f_ticksLeft, f_state, f_pos, f_expressionStart, f_pendingCount, f_frameTop, f_localCount, a_tokenCode, a_tokenValue, a_outKind, a_outValue, a_codeOp, a_codeArg, a_codeKind, a_codePlace, a_methodSign, a_methodStart, a_declared, a_cellKind, a_cellValue, a_callReturn, a_pendingLevel, a_pendingPlace, a_pendingMore, a_frameKind, a_frameMore, a_localName)) (hes : f_expressionStart = nI es) (hes2 : es < 1000) (hm : m ≤ 380) (hp : ∀ u', ls_XK T V n u0 e (m + 2) u' → post u') : wX_endExpression_18 post f_tickLimit f_tokenCount f_outCount f_error f_errorPlace f_lastKind f_lastValue f_codeSize f_methodCount f_methodTokens f_cellCount f_activeCalls f_next f_ticksLeft f_state f_pos f_expressionStart f_pendingCount f_frameTop f_localCount a_tokenCode a_tokenValue a_outKind a_outValue a_codeOp a_codeArg a_codeKind a_codePlace a_methodSign a_methodStart a_declared a_cellKind a_cellValue a_callReturn a_pendingLevel a_pendingPlace a_pendingMore a_frameKind a_frameMore a_localName := by
  subst hes
  have i : vp_in f_frameTop 142 := by
    obtain ⟨hk, h1, ht, h2, h3, hc, hpo, hpe, ⟨ft, rfl, hf⟩, hr⟩ := h
    exact vp_in_nI hf (by decide)
  refine ⟨i, nm_e ⟨i, nm_e ?_⟩⟩
  refine kx_codePlaceOf fun r => kx_constantSince h hes2 fun r2 => ?_
  have A : ∀ x1 x2 x3 x4 z0, wX_endExpression_71 post x1 x2 x3 x4 z0 f_tickLimit f_tokenCount f_outCount f_error f_errorPlace f_lastKind f_lastValue f_codeSize f_methodCount f_methodTokens f_cellCount f_activeCalls f_next f_ticksLeft f_state f_pos (nI es) f_pendingCount f_frameTop f_localCount a_tokenCode a_tokenValue a_outKind a_outValue a_codeOp a_codeArg a_codeKind a_codePlace a_methodSign a_methodStart a_declared a_cellKind a_cellValue a_callReturn a_pendingLevel a_pendingPlace a_pendingMore a_frameKind a_frameMore a_localName := fun x1 x2 x3 x4 z0 => br_c (fun _ => kx_end84 h hm hp) (fun _ => kx_end84 h hm hp)
  exact br_c (fun _ => A _ _ _ _ _) (fun _ => br_c (fun _ => A _ _ _ _ _) (fun _ => A _ _ _ _ _))
set_option maxHeartbeats 200000 in
theorem hx_constantSince {q : Int32 → Prop} {s : Nat} (ht : ls_tok T V n a_tokenCode a_tokenValue) (hs : s ≤ pos) (hpn : pos ≤ n) (hp : q (nI (ls_const T s pos))) : wpX_constantSince q (f_tickLimit, nI n, f_outCount, f_error, f_errorPlace, f_lastKind, f_lastValue, f_codeSize, f_methodCount, f_methodTokens, f_cellCount, f_activeCalls, f_next, f_ticksLeft, f_state, nI pos, f_expressionStart, f_pendingCount, f_frameTop, f_localCount, a_tokenCode, a_tokenValue, a_outKind, a_outValue, a_codeOp, a_codeArg, a_codeKind, a_codePlace, a_methodSign, a_methodStart, a_declared, a_cellKind, a_cellValue, a_callReturn, a_pendingLevel, a_pendingPlace, a_pendingMore, a_frameKind, a_frameMore, a_localName) (nI s) := by
  have n140 := ht.1
  have H : ∀ d i z : Nat, i + d = pos → q (nI (if ls_hasn T i d then 0 else z)) → wX_constantSince_5 q f_tickLimit (nI n) f_outCount f_error f_errorPlace f_lastKind f_lastValue f_codeSize f_methodCount f_methodTokens f_cellCount f_activeCalls f_next f_ticksLeft f_state (nI pos) f_expressionStart f_pendingCount f_frameTop f_localCount a_tokenCode a_tokenValue a_outKind a_outValue a_codeOp a_codeArg a_codeKind a_codePlace a_methodSign a_methodStart a_declared a_cellKind a_cellValue a_callReturn a_pendingLevel a_pendingPlace a_pendingMore a_frameKind a_frameMore a_localName (d + 1) (nI z) (nI i) := by
    intro d
    induction d with
    | zero => intro i z hi hq; exact br_f (nI_pos (by omega)) (br_t (nI_le (by omega) (by omega)) hq)
    | succ d ih =>
      intro i z hi hq
      obtain ⟨h72, e, _⟩ := ht.2.1 i (by omega)
      refine br_f (nI_pos (by omega)) (br_f (nI_ge (by omega) (by omega)) (br_f (nI_ge (b := 140) (by omega) (by decide)) ⟨vp_in_nI (by omega) (by decide), ?_⟩))
      rw [nI_clamp (by omega), e]
      by_cases q1 : ls_nam (T i)
      · refine br_t ((ls_w54 (by omega)).mpr q1) (nm_r (nI_1 i) (ih (i + 1) 0 (by omega) ?_))
        have e1 : ls_hasn T i (d + 1) = true := by
          show (decide (ls_nam (T i)) || _) = true
          rw [decide_eq_true q1]; rfl
        rw [e1] at hq
        have e2 : (if ls_hasn T (i + 1) d = true then 0 else 0) = (if true = true then 0 else z) := by split <;> rfl
        rw [e2]; exact hq
      · refine br_f (mt (ls_w54 (by omega)).mp q1) (nm_r (nI_1 i) (ih (i + 1) z (by omega) ?_))
        have e1 : ls_hasn T i (d + 1) = ls_hasn T (i + 1) d := by
          show (decide (ls_nam (T i)) || _) = _
          rw [decide_eq_false q1]; rfl
        rw [e1] at hq
        exact hq
  exact ⟨_, H (pos - s) s 8 (by omega) hp⟩
set_option maxHeartbeats 200000 in
/-- the end of an expression -/
theorem rx_end (hk : (f_tickLimit, f_tokenCount, f_outCount, f_lastKind, f_lastValue, f_methodCount, f_methodTokens, f_cellCount, f_activeCalls, f_next, f_ticksLeft, a_tokenCode, a_tokenValue, a_outKind, a_outValue, a_methodSign, a_methodStart, a_declared, a_cellKind, a_cellValue, a_callReturn) = ls_kept u0) (hlo : ls_lo u0 k) (ht : ls_tok T V n a_tokenCode a_tokenValue) (hF : ls_StF a_frameKind a_frameMore fr) (hN : ls_StN a_localName L) (etc : f_tokenCount = nI n) (ees : f_expressionStart = nI es) (b0 : 480 ≤ k.1 ∧ k.1 ≤ 761) (b01 : T pos ≠ 72 → k.1 + 1 ≤ 761) (b1 : pos ≤ n) (b2 : fr.length ≤ 141) (b3 : L.length ≤ 8) (b5 : es ≤ pos) (hL : ∀ x ∈ L, x < 16)
    (hfr : ∃ fk mo sp l r, fr = (fk, mo, sp, l) :: r ∧ 6 ≤ fk ∧ fk < 12 ∧ mo < k.1 ∧ k.2.2.2.2 mo = nI sp ∧ (fk = 11 → T sp < 6 ∧ ls_nam (T (sp + 1)) ∧ sp < 140) ∧ (fk = 10 → ls_mkd r ≠ none) ∧ (∀ f ∈ r, 0 < f.1 ∧ f.1 < 12) ∧ (∀ f ∈ r, f.1 = 2 → f.2.1 < k.1 ∧ k.2.2.2.1 f.2.1 &&& 7 = nI (f.2.2.2.headD 0) ∧ f.2.2.2.headD 0 < 8))
    (hp : ls_out T V n u0 (ls_end T pos es fr L k) post) : wpX_endExpression post (f_tickLimit, nI n, f_outCount, 0, -1, f_lastKind, f_lastValue, nI k.1, f_methodCount, f_methodTokens, f_cellCount, f_activeCalls, f_next, f_ticksLeft, nI 5, nI pos, f_expressionStart, nI 0, nI fr.length, nI L.length, a_tokenCode, a_tokenValue, a_outKind, a_outValue, k.2.1, k.2.2.1, k.2.2.2.1, k.2.2.2.2, a_methodSign, a_methodStart, a_declared, a_cellKind, a_cellValue, a_callReturn, a_pendingLevel, a_pendingPlace, a_pendingMore, a_frameKind, a_frameMore, a_localName) := by
  subst etc ees
  have n140 := ht.1
  have XKf : ∀ p ft : Nat, p < 300 → ft < 142 → ∀ st e, ls_XK T V n u0 e 310 (f_tickLimit, nI n, f_outCount, 1, nI e, f_lastKind, f_lastValue, nI k.1, f_methodCount, f_methodTokens, f_cellCount, f_activeCalls, f_next, f_ticksLeft, st, nI p, nI es, nI 0, nI ft, nI L.length, a_tokenCode, a_tokenValue, a_outKind, a_outValue, k.2.1, k.2.2.1, k.2.2.2.1, k.2.2.2.2, a_methodSign, a_methodStart, a_declared, a_cellKind, a_cellValue, a_callReturn, a_pendingLevel, a_pendingPlace, a_pendingMore, a_frameKind, a_frameMore, a_localName) :=
    fun p ft hp hft st e => ⟨hk, rfl, ht, rfl, rfl, ⟨k.1, rfl, b0⟩, ⟨p, rfl, by omega⟩, ⟨0, rfl, by omega⟩, ⟨ft, rfl, hft⟩, ⟨L.length, rfl, b3⟩, ls_lo_cs (cc := k.1) hlo⟩
  unfold wpX_endExpression
  dsimp only
  rw [pk_sub b5]
  unfold ls_end at hp
  by_cases long : es + 32 < pos
  · rw [if_pos long] at hp
    refine br_f (nI_ge (a := 32) (by omega) (by omega)) (hx_fault1 (st := 5) (Or.inr rfl) b5 (by omega) ?_)
    rw [if_pos long]
    exact kx_end18 (XKf pos fr.length (by omega) (by omega) _ _) rfl (by omega) (by omega) fun u' g => hp _ (ls_XK_mono g (by omega))
  rw [if_neg long] at hp
  refine br_t (nI_le (b := 32) (by omega) (by decide)) ?_
  obtain ⟨fk, mo, sp, l, r, rfl, f6, f12, hmo, hsp, h11, h10, hfk, hmk⟩ := hfr
  dsimp only at hp
  have b2' : r.length + 1 ≤ 141 := b2
  have ift : vp_in (nI ((fk, mo, sp, l) :: r : List LsF).length) 142 := vp_in_nI (n := r.length + 1) (by omega) (by decide)
  obtain ⟨hF1, hF2, hF3⟩ := hF
  have hF1 : a_frameKind (r.length + 1) = nI fk := hF1
  have hF2 : a_frameMore (r.length + 1) = nI mo := hF2
  have N : ∀ w, w < 100 → fk ≠ w → ¬ nI fk = nI w := fun w hw h => mt (nI_eq (by omega) (by omega)).mp h
  refine ⟨ift, ?_⟩
  rw [show (nI ((fk, mo, sp, l) :: r : List LsF).length).toNatClampNeg = r.length + 1 from nI_clamp (n := r.length + 1) (by omega)]
  refine nm_r hF1 ⟨ift, nm_r hF2 ?_⟩
  have CP : ∀ {q : Int32 → Prop}, q (nI sp) → wpX_codePlaceOf q (f_tickLimit, nI n, f_outCount, 0, -1, f_lastKind, f_lastValue, nI k.1, f_methodCount, f_methodTokens, f_cellCount, f_activeCalls, f_next, f_ticksLeft, nI 5, nI pos, nI es, nI 0, nI ((fk, mo, sp, l) :: r : List LsF).length, nI L.length, a_tokenCode, a_tokenValue, a_outKind, a_outValue, k.2.1, k.2.2.1, k.2.2.2.1, k.2.2.2.2, a_methodSign, a_methodStart, a_declared, a_cellKind, a_cellValue, a_callReturn, a_pendingLevel, a_pendingPlace, a_pendingMore, a_frameKind, a_frameMore, a_localName) (nI mo) := by
    intro q hq
    refine br_f (nI_pos (by omega)) (br_f (nI_ge (b := 761) (by omega) (by decide)) ⟨vp_in_nI (by omega) (by decide), ?_⟩)
    rw [nI_clamp (by omega), hsp]; exact hq
  refine CP (hx_constantSince ht b5 b1 ?_)
  -- a condition
  have cond : ∀ fk', (fk = 7 ∧ fk' = 3 ∨ fk = 8 ∧ fk' = 5) → ∀ mo' : Nat, (fk = 7 → mo' = k.1) → (fk = 8 → mo' = mo) →
      ls_out T V n u0 (if T pos = 16 then .ok (0, pos + 1, es, [], (fk', mo', sp, []) :: r, L, ls_em k 15 0 0 (nI sp)) else .error pos) post →
      wX_endExpression_66 post (nI fk) (nI mo) (nI sp) (nI (ls_const T es pos)) f_tickLimit (nI n) f_outCount 0 (-1) f_lastKind f_lastValue (nI k.1) f_methodCount f_methodTokens f_cellCount f_activeCalls f_next f_ticksLeft (nI 5) (nI pos) (nI es) (nI 0) (nI ((fk, mo, sp, l) :: r : List LsF).length) (nI L.length) a_tokenCode a_tokenValue a_outKind a_outValue k.2.1 k.2.2.1 k.2.2.2.1 k.2.2.2.2 a_methodSign a_methodStart a_declared a_cellKind a_cellValue a_callReturn a_pendingLevel a_pendingPlace a_pendingMore a_frameKind a_frameMore a_localName := by
    intro fk' hf mo' hm7 hm8 hp
    refine br_f (by decide) (br_f (by decide) ?_)
    unfold wX_endExpression_98
    by_cases t16 : T pos = 16
    · rw [if_pos t16] at hp
      have b6 := b01 (by omega)
      refine hx_expect (w := 16) ht (by omega) ((ls_xc_eq (by decide)).mpr t16) (br_f (by decide) ?_)
      have fin : wpX_endCondition (fun u => match u with | (f_tickLimit, f_tokenCount, f_outCount, f_error, f_errorPlace, f_lastKind, f_lastValue, f_codeSize, f_methodCount, f_methodTokens, f_cellCount, f_activeCalls, f_next, f_ticksLeft, f_state, f_pos, f_expressionStart, f_pendingCount, f_frameTop, f_localCount, a_tokenCode, a_tokenValue, a_outKind, a_outValue, a_codeOp, a_codeArg, a_codeKind, a_codePlace, a_methodSign, a_methodStart, a_declared, a_cellKind, a_cellValue, a_callReturn, a_pendingLevel, a_pendingPlace, a_pendingMore, a_frameKind, a_frameMore, a_localName) => post (f_tickLimit, f_tokenCount, f_outCount, f_error, f_errorPlace, f_lastKind, f_lastValue, f_codeSize, f_methodCount, f_methodTokens, f_cellCount, f_activeCalls, f_next, f_ticksLeft, f_state, f_pos, f_expressionStart, f_pendingCount, f_frameTop, f_localCount, a_tokenCode, a_tokenValue, a_outKind, a_outValue, a_codeOp, a_codeArg, a_codeKind, a_codePlace, a_methodSign, a_methodStart, a_declared, a_cellKind, a_cellValue, a_callReturn, a_pendingLevel, a_pendingPlace, a_pendingMore, a_frameKind, a_frameMore, a_localName)) (f_tickLimit, nI n, f_outCount, 0, -1, f_lastKind, f_lastValue, nI k.1, f_methodCount, f_methodTokens, f_cellCount, f_activeCalls, f_next, f_ticksLeft, nI 0, nI (pos + 1), nI es, nI 0, nI ((fk, mo, sp, l) :: r : List LsF).length, nI L.length, a_tokenCode, a_tokenValue, a_outKind, a_outValue, k.2.1, k.2.2.1, k.2.2.2.1, k.2.2.2.2, a_methodSign, a_methodStart, a_declared, a_cellKind, a_cellValue, a_callReturn, a_pendingLevel, a_pendingPlace, a_pendingMore, a_frameKind, a_frameMore, a_localName) (nI fk') (nI mo') (nI sp) := by
        refine ⟨ift, ?_⟩
        rw [show (nI ((fk, mo, sp, l) :: r : List LsF).length).toNatClampNeg = r.length + 1 from nI_clamp (n := r.length + 1) (by omega)]
        refine nm_e ⟨ift, nm_e (hx_emit (by omega) ?_)⟩
        exact hp _ ⟨hk, ls_lo_emK hlo b0.1, rfl, ht, rfl, rfl, rfl, rfl, rfl, rfl, rfl, rfl, rfl, rfl, rfl, rfl, (fun h => by omega), trivial, ls_StF_push fk' mo' sp [] hF3, hN⟩
      rcases hf with ⟨rfl, rfl⟩ | ⟨rfl, rfl⟩
      · have := hm7 rfl
        subst this
        exact br_f (by decide) (br_f (by decide) (br_t rfl fin))
      · have := hm8 rfl
        subst this
        exact br_f (by decide) (br_f (by decide) (br_f (by decide) (br_t rfl fin)))
    · rw [if_neg t16] at hp
      refine hx_expectF (w := 16) (st := 0) ht (by omega) (by decide) t16 (by decide) ?_
      exact kx_end104 (XKf pos (r.length + 1) (by omega) (by omega) _ _) (by omega) fun u' g => hp _ (ls_XK_mono g (by omega))
  by_cases q7 : fk = 7
  · rw [if_pos q7] at hp
    refine br_t (by rw [q7]; rfl) (cond 3 (Or.inl ⟨q7, rfl⟩) k.1 (fun _ => rfl) (fun h => by omega) hp)
  rw [if_neg q7] at hp
  refine br_f (N 7 (by decide) q7) ?_
  by_cases q8 : fk = 8
  · rw [if_pos q8] at hp
    refine br_t (by rw [q8]; rfl) (cond 5 (Or.inr ⟨q8, rfl⟩) mo (fun h => by omega) (fun _ => rfl) hp)
  rw [if_neg q8] at hp
  refine br_f (N 8 (by decide) q8) (br_t rfl (br_t rfl ?_))
  -- the rest of the state behind the ';'
  by_cases q9 : fk = 9
  · subst q9
    rw [if_pos rfl] at hp
    refine br_t rfl ?_
    unfold wX_endExpression_98
    by_cases t16 : T pos = 16
    · rw [if_pos t16] at hp
      have b6 := b01 (by omega)
      refine hx_expect (w := 16) ht (by omega) ((ls_xc_eq (by decide)).mpr t16) (br_t rfl (hx_closeFrame (ft := r.length) (by omega) ?_))
      by_cases t20 : T (pos + 1) = 20
      · rw [if_pos t20] at hp
        refine hx_expect (w := 20) ht (by omega) ((ls_xc_eq (by decide)).mpr t20) ?_
        refine br_f (by decide) (br_f (by decide) (br_f (by decide) (br_f (by decide) (br_t rfl (hx_emit (by omega) ?_)))))
        exact hp _ ⟨hk, ls_lo_emK hlo b0.1, rfl, ht, rfl, rfl, rfl, rfl, rfl, rfl, rfl, rfl, rfl, rfl, rfl, rfl, (fun h => by omega), trivial, hF3, hN⟩
      · rw [if_neg t20] at hp
        refine hx_expectF (w := 20) (st := 3) ht (by omega) (by decide) t20 (by decide) ?_
        exact kx_end119 (XKf (pos + 1) r.length (by omega) (by omega) _ _) fun u' g => hp _ (ls_XK_mono g (by omega))
    · rw [if_neg t16] at hp
      refine hx_expectF (w := 16) (st := 3) ht (by omega) (by decide) t16 (by decide) ?_
      exact kx_end104 (XKf pos (r.length + 1) (by omega) (by omega) _ _) (by omega) fun u' g => hp _ (ls_XK_mono g (by omega))
  rw [if_neg q9] at hp
  refine br_f (N 9 (by decide) q9) (br_t rfl (hx_closeFrame (ft := r.length) (by omega) ?_))
  by_cases t20 : T pos = 20
  · rw [if_pos t20] at hp
    have b6 := b01 (by omega)
    refine hx_expect (w := 20) ht (by omega) ((ls_xc_eq (by decide)).mpr t20) ?_
    by_cases q10 : fk = 10
    · subst q10
      rw [if_pos rfl] at hp
      refine br_f (by decide) (br_f (by decide) (br_f (by decide) (br_f (by decide) (br_f (by decide) (br_t rfl ?_)))))
      unfold wpX_endReturn
      refine ls_mkd_walk (fr := r) rfl (by omega) hF3 (fun f hf => (hfk f hf).2) (fun f hf h2 => ?_) (fun e => absurd e (h10 rfl)) (fun m e m8 => ?_)
      · obtain ⟨g1, g2, g3⟩ := hmk f hf h2
        exact ⟨by omega, g2, g3⟩
      · rw [e] at hp
        rw [nI_add]
        refine hx_emit (by omega) ?_
        exact hp _ ⟨hk, ls_lo_emK hlo b0.1, rfl, ht, rfl, rfl, rfl, rfl, rfl, rfl, rfl, rfl, rfl, rfl, rfl, rfl, (fun h => by omega), trivial, hF3, hN⟩
    rw [if_neg q10] at hp
    by_cases q11 : fk = 11
    · subst q11
      rw [if_pos rfl] at hp
      obtain ⟨s6, sn, s140⟩ := h11 rfl
      refine br_f (by decide) (br_f (by decide) (br_f (by decide) (br_f (by decide) (br_f (by decide) (br_f (by decide) (br_t rfl ?_))))))
      unfold wpX_endDeclaration
      refine hx_wordAt ht (by omega) ?_
      have ex : ls_xc (T sp) = T sp := by unfold ls_xc; rw [if_pos (by omega)]
      rw [ex, nI_1]
      refine hx_valueName ht (by omega) sn ?_
      refine hx_addressOf (by have := sn.2; omega) hN hL b3 ?_
      rw [nI_add, show nI sp + 2 = nI (sp + 2) from nI_add sp 2]
      refine hx_emit (by omega) ?_
      exact hp _ ⟨hk, ls_lo_emK hlo b0.1, rfl, ht, rfl, rfl, rfl, rfl, rfl, rfl, rfl, rfl, rfl, rfl, rfl, rfl, (fun h => by omega), trivial, hF3, hN⟩
    rw [if_neg q11] at hp
    have q6 : fk = 6 := by omega
    subst q6
    refine br_t (by decide) ?_
    cases r with
    | nil =>
      rw [if_pos rfl] at hp
      refine br_t rfl (hx_emit (by omega) ?_)
      exact hp _ ⟨hk, ls_lo_emK hlo b0.1, rfl, ht, rfl, rfl, rfl, rfl, rfl, rfl, rfl, rfl, rfl, rfl, rfl, rfl, (fun h => by omega), trivial, hF3, hN⟩
    | cons g r2 =>
      rw [if_neg (List.cons_ne_nil _ _)] at hp
      refine br_f (nI_ne0 (n := r2.length + 1) (by omega) (by have : (g :: r2).length = r2.length + 1 := rfl; omega)) (hx_emit (by omega) ?_)
      exact hp _ ⟨hk, ls_lo_emK hlo b0.1, rfl, ht, rfl, rfl, rfl, rfl, rfl, rfl, rfl, rfl, rfl, rfl, rfl, rfl, (fun h => by omega), trivial, hF3, hN⟩
  · rw [if_neg t20] at hp
    refine hx_expectF (w := 20) (st := 3) ht (by omega) (by decide) t20 (by decide) ?_
    exact kx_end119 (XKf pos r.length (by omega) (by omega) _ _) fun u' g => hp _ (ls_XK_mono g (by omega))
end
