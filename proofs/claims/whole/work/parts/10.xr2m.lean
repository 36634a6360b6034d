section
variable {f_tickLimit f_tokenCount f_outCount f_error f_errorPlace f_lastKind f_codeSize f_methodCount f_methodTokens f_cellCount f_activeCalls f_next f_ticksLeft f_state f_pos f_expressionStart f_pendingCount f_frameTop f_localCount : Int32}
variable {f_lastValue : Int64}
variable {a_tokenCode a_tokenValue a_outKind a_codeOp a_codeArg a_codeKind a_codePlace a_methodSign a_methodStart a_declared a_cellKind a_callReturn a_pendingLevel a_pendingPlace a_pendingMore a_frameKind a_frameMore a_localName : Nat → Int32}
variable {a_outValue a_cellValue : Nat → Int64}
variable {T : Nat → Nat} {V : Nat → Int32} {n : Nat} {u0 u : SX} {post : SX → Prop} {pos es e m : Nat} {pe : List LsP} {fr : List LsF} {L : List Nat} {k : LsK}
set_option maxHeartbeats 200000 in
theorem ls_XK_state {z : Int32} (h : ls_XK T V n u0 e m (f_tickLimit, f_tokenCount, f_outCount, f_error, f_errorPlace, f_lastKind, f_lastValue, f_codeSize, f_methodCount, f_methodTokens, f_cellCount, f_activeCalls, f_next, f_ticksLeft, f_state, f_pos, f_expressionStart, f_pendingCount, f_frameTop, f_localCount, a_tokenCode, a_tokenValue, a_outKind, a_outValue, a_codeOp, a_codeArg, a_codeKind, a_codePlace, a_methodSign, a_methodStart, a_declared, a_cellKind, a_cellValue, a_callReturn, a_pendingLevel, a_pendingPlace, a_pendingMore, a_frameKind, a_frameMore, a_localName)) : ls_XK T V n u0 e m (f_tickLimit, f_tokenCount, f_outCount, f_error, f_errorPlace, f_lastKind, f_lastValue, f_codeSize, f_methodCount, f_methodTokens, f_cellCount, f_activeCalls, f_next, f_ticksLeft, z, f_pos, f_expressionStart, f_pendingCount, f_frameTop, f_localCount, a_tokenCode, a_tokenValue, a_outKind, a_outValue, a_codeOp, a_codeArg, a_codeKind, a_codePlace, a_methodSign, a_methodStart, a_declared, a_cellKind, a_cellValue, a_callReturn, a_pendingLevel, a_pendingPlace, a_pendingMore, a_frameKind, a_frameMore, a_localName) := by
  obtain ⟨hk, h1, ht, h2, h3, hc, hpo, hr⟩ := h
  exact ⟨hk, h1, ht, h2, h3, hc, hpo, hr⟩
set_option maxHeartbeats 200000 in
theorem kx_head157 {x1 x2 x3 : Int32} (h : ls_XK T V n u0 e m (f_tickLimit, f_tokenCount, f_outCount, f_error, f_errorPlace, f_lastKind, f_lastValue, f_codeSize, f_methodCount, f_methodTokens, f_cellCount, f_activeCalls, f_next, f_ticksLeft, f_state, f_pos, f_expressionStart, f_pendingCount, f_frameTop, f_localCount, a_tokenCode, a_tokenValue, a_outKind, a_outValue, a_codeOp, a_codeArg, a_codeKind, a_codePlace, a_methodSign, a_methodStart, a_declared, a_cellKind, a_cellValue, a_callReturn, a_pendingLevel, a_pendingPlace, a_pendingMore, a_frameKind, a_frameMore, a_localName)) (hm : m ≤ 390) (hp : ∀ u', ls_XK T V n u0 e (m + 2) u' → post u') : wX_readMethodHead_157 post x1 x2 x3 f_tickLimit f_tokenCount f_outCount f_error f_errorPlace f_lastKind f_lastValue f_codeSize f_methodCount f_methodTokens f_cellCount f_activeCalls f_next f_ticksLeft f_state f_pos f_expressionStart f_pendingCount f_frameTop f_localCount a_tokenCode a_tokenValue a_outKind a_outValue a_codeOp a_codeArg a_codeKind a_codePlace a_methodSign a_methodStart a_declared a_cellKind a_cellValue a_callReturn a_pendingLevel a_pendingPlace a_pendingMore a_frameKind a_frameMore a_localName := by
  unfold wX_readMethodHead_157
  refine kx_expect h (by omega) fun u1 h1 => ?_
  obtain ⟨f_tickLimit, f_tokenCount, f_outCount, f_error, f_errorPlace, f_lastKind, f_lastValue, f_codeSize, f_methodCount, f_methodTokens, f_cellCount, f_activeCalls, f_next, f_ticksLeft, f_state, f_pos, f_expressionStart, f_pendingCount, f_frameTop, f_localCount, a_tokenCode, a_tokenValue, a_outKind, a_outValue, a_codeOp, a_codeArg, a_codeKind, a_codePlace, a_methodSign, a_methodStart, a_declared, a_cellKind, a_cellValue, a_callReturn, a_pendingLevel, a_pendingPlace, a_pendingMore, a_frameKind, a_frameMore, a_localName⟩ := u1
  refine kx_expect h1 (by omega) fun u2 h2 => ?_
  obtain ⟨f_tickLimit, f_tokenCount, f_outCount, f_error, f_errorPlace, f_lastKind, f_lastValue, f_codeSize, f_methodCount, f_methodTokens, f_cellCount, f_activeCalls, f_next, f_ticksLeft, f_state, f_pos, f_expressionStart, f_pendingCount, f_frameTop, f_localCount, a_tokenCode, a_tokenValue, a_outKind, a_outValue, a_codeOp, a_codeArg, a_codeKind, a_codePlace, a_methodSign, a_methodStart, a_declared, a_cellKind, a_cellValue, a_callReturn, a_pendingLevel, a_pendingPlace, a_pendingMore, a_frameKind, a_frameMore, a_localName⟩ := u2
  refine kx_openFrame h2 fun u3 h3 => ?_
  obtain ⟨f_tickLimit, f_tokenCount, f_outCount, f_error, f_errorPlace, f_lastKind, f_lastValue, f_codeSize, f_methodCount, f_methodTokens, f_cellCount, f_activeCalls, f_next, f_ticksLeft, f_state, f_pos, f_expressionStart, f_pendingCount, f_frameTop, f_localCount, a_tokenCode, a_tokenValue, a_outKind, a_outValue, a_codeOp, a_codeArg, a_codeKind, a_codePlace, a_methodSign, a_methodStart, a_declared, a_cellKind, a_cellValue, a_callReturn, a_pendingLevel, a_pendingPlace, a_pendingMore, a_frameKind, a_frameMore, a_localName⟩ := u3
  refine kx_emit h3 fun u4 h4 => ?_
  obtain ⟨f_tickLimit, f_tokenCount, f_outCount, f_error, f_errorPlace, f_lastKind, f_lastValue, f_codeSize, f_methodCount, f_methodTokens, f_cellCount, f_activeCalls, f_next, f_ticksLeft, f_state, f_pos, f_expressionStart, f_pendingCount, f_frameTop, f_localCount, a_tokenCode, a_tokenValue, a_outKind, a_outValue, a_codeOp, a_codeArg, a_codeKind, a_codePlace, a_methodSign, a_methodStart, a_declared, a_cellKind, a_cellValue, a_callReturn, a_pendingLevel, a_pendingPlace, a_pendingMore, a_frameKind, a_frameMore, a_localName⟩ := u4
  refine kx_openFrame h4 fun u5 h5 => ?_
  obtain ⟨f_tickLimit, f_tokenCount, f_outCount, f_error, f_errorPlace, f_lastKind, f_lastValue, f_codeSize, f_methodCount, f_methodTokens, f_cellCount, f_activeCalls, f_next, f_ticksLeft, f_state, f_pos, f_expressionStart, f_pendingCount, f_frameTop, f_localCount, a_tokenCode, a_tokenValue, a_outKind, a_outValue, a_codeOp, a_codeArg, a_codeKind, a_codePlace, a_methodSign, a_methodStart, a_declared, a_cellKind, a_cellValue, a_callReturn, a_pendingLevel, a_pendingPlace, a_pendingMore, a_frameKind, a_frameMore, a_localName⟩ := u5
  exact hp _ (ls_XK_state h5)
set_option maxHeartbeats 200000 in
theorem kx_headL {x1 x2 x3 x4 x5 : Int32} {f : Nat} (h : ls_XK T V n u0 e m (f_tickLimit, f_tokenCount, f_outCount, f_error, f_errorPlace, f_lastKind, f_lastValue, f_codeSize, f_methodCount, f_methodTokens, f_cellCount, f_activeCalls, f_next, f_ticksLeft, f_state, f_pos, f_expressionStart, f_pendingCount, f_frameTop, f_localCount, a_tokenCode, a_tokenValue, a_outKind, a_outValue, a_codeOp, a_codeArg, a_codeKind, a_codePlace, a_methodSign, a_methodStart, a_declared, a_cellKind, a_cellValue, a_callReturn, a_pendingLevel, a_pendingPlace, a_pendingMore, a_frameKind, a_frameMore, a_localName)) (hm : m ≤ 390) (hp : ∀ u', ls_XK T V n u0 e (m + 2) u' → post u') : wX_readMethodHead_60 post x1 x2 (f + 1) x3 x4 x5 f_tickLimit f_tokenCount f_outCount f_error f_errorPlace f_lastKind f_lastValue f_codeSize f_methodCount f_methodTokens f_cellCount f_activeCalls f_next f_ticksLeft f_state f_pos f_expressionStart f_pendingCount f_frameTop f_localCount a_tokenCode a_tokenValue a_outKind a_outValue a_codeOp a_codeArg a_codeKind a_codePlace a_methodSign a_methodStart a_declared a_cellKind a_cellValue a_callReturn a_pendingLevel a_pendingPlace a_pendingMore a_frameKind a_frameMore a_localName := by
  have K : wX_readMethodHead_157 post x1 x2 x3 f_tickLimit f_tokenCount f_outCount f_error f_errorPlace f_lastKind f_lastValue f_codeSize f_methodCount f_methodTokens f_cellCount f_activeCalls f_next f_ticksLeft f_state f_pos f_expressionStart f_pendingCount f_frameTop f_localCount a_tokenCode a_tokenValue a_outKind a_outValue a_codeOp a_codeArg a_codeKind a_codePlace a_methodSign a_methodStart a_declared a_cellKind a_cellValue a_callReturn a_pendingLevel a_pendingPlace a_pendingMore a_frameKind a_frameMore a_localName := kx_head157 h hm hp
  obtain ⟨hk, h1, ht, h2, hr⟩ := h
  exact br_c (fun _ => K) (fun _ => br_c (fun _ => K) (fun _ => br_f (by rw [h2]; decide) K))
set_option maxHeartbeats 200000 in
theorem kx_head126 {x1 x2 x3 x5 z0 : Int32} {f : Nat} (h : ls_XK T V n u0 e m (f_tickLimit, f_tokenCount, f_outCount, f_error, f_errorPlace, f_lastKind, f_lastValue, f_codeSize, f_methodCount, f_methodTokens, f_cellCount, f_activeCalls, f_next, f_ticksLeft, f_state, f_pos, f_expressionStart, f_pendingCount, f_frameTop, f_localCount, a_tokenCode, a_tokenValue, a_outKind, a_outValue, a_codeOp, a_codeArg, a_codeKind, a_codePlace, a_methodSign, a_methodStart, a_declared, a_cellKind, a_cellValue, a_callReturn, a_pendingLevel, a_pendingPlace, a_pendingMore, a_frameKind, a_frameMore, a_localName)) (hm : m ≤ 380) (hp : ∀ u', ls_XK T V n u0 e (m + 3) u' → post u') : wX_readMethodHead_126 post (wX_readMethodHead_60 post x1 x2 (f + 1)) x1 x2 x3 x5 z0 f_tickLimit f_tokenCount f_outCount f_error f_errorPlace f_lastKind f_lastValue f_codeSize f_methodCount f_methodTokens f_cellCount f_activeCalls f_next f_ticksLeft f_state f_pos f_expressionStart f_pendingCount f_frameTop f_localCount a_tokenCode a_tokenValue a_outKind a_outValue a_codeOp a_codeArg a_codeKind a_codePlace a_methodSign a_methodStart a_declared a_cellKind a_cellValue a_callReturn a_pendingLevel a_pendingPlace a_pendingMore a_frameKind a_frameMore a_localName := by
  have K : ∀ x4 x5, wX_readMethodHead_60 post x1 x2 (f + 1) x3 x4 x5 f_tickLimit f_tokenCount f_outCount f_error f_errorPlace f_lastKind f_lastValue f_codeSize f_methodCount f_methodTokens f_cellCount f_activeCalls f_next f_ticksLeft f_state f_pos f_expressionStart f_pendingCount f_frameTop f_localCount a_tokenCode a_tokenValue a_outKind a_outValue a_codeOp a_codeArg a_codeKind a_codePlace a_methodSign a_methodStart a_declared a_cellKind a_cellValue a_callReturn a_pendingLevel a_pendingPlace a_pendingMore a_frameKind a_frameMore a_localName := fun x4 x5 => kx_headL h (by omega) fun u' h' => hp u' (ls_XK_mono h' (by omega))
  refine br_c (fun _ => nm_e (K _ _)) (fun _ => br_c (fun _ => nm_e (K _ _)) (fun _ => ?_))
  obtain ⟨hk, h1, ht, h2, h3, hc, ⟨p, hp1, hpp⟩, hr⟩ := h
  rw [hp1]
  refine nm_r (nI_1 p) (nm_e ?_)
  exact kx_headL (m := m + 1) ⟨hk, h1, ht, h2, h3, hc, ⟨p + 1, rfl, by omega⟩, hr⟩ (by omega) hp
set_option maxHeartbeats 200000 in
theorem ls_sgn : ∀ i : Fin 3, ∀ t : Fin 6, nI t.1 <<< ((6 + (nI i.1 * 3)) &&& 31) = nI (t.1 * 2 ^ (6 + 3 * i.1)) := by decide +kernel
set_option maxHeartbeats 200000 in
/-- behind the head's last parameter -/
theorem hx_head157 {x1 x2 : Int32} {p sg kd0 : Nat} (hkk : (f_tickLimit, f_tokenCount, f_outCount, f_lastKind, f_lastValue, f_methodCount, f_methodTokens, f_cellCount, f_activeCalls, f_next, f_ticksLeft, a_tokenCode, a_tokenValue, a_outKind, a_outValue, a_methodSign, a_methodStart, a_declared, a_cellKind, a_cellValue, a_callReturn) = ls_kept u0) (hlo : ls_lo u0 k) (ht : ls_tok T V n a_tokenCode a_tokenValue) (hP : ls_StP a_pendingLevel a_pendingPlace a_pendingMore pe) (hF : ls_StF a_frameKind a_frameMore []) (hN : ls_StN a_localName L) (etc : f_tokenCount = nI n) (b0 : 480 ≤ k.1 ∧ k.1 + 1 ≤ 761) (b1 : p < 300) (b3 : L.length ≤ 8) (b4 : pe.length ≤ 140)
    (ex2 : x2 = nI kd0) (ex1 : x1 = nI pos)
    (hp : ls_out T V n u0 (if T p = 16 then if T (p + 1) = 17 then .ok (0, p + 2, es, pe, [(1, L.length, p + 2, L), (2, k.1, pos, [kd0])], L, ls_em k 21 0 (nI (sg * 8 + kd0)) (nI pos)) else .error (p + 1) else .error p) post) :
    wX_readMethodHead_157 post x1 x2 (nI sg) f_tickLimit (nI n) f_outCount 0 (-1) f_lastKind f_lastValue (nI k.1) f_methodCount f_methodTokens f_cellCount f_activeCalls f_next f_ticksLeft (nI 2) (nI p) f_expressionStart (nI pe.length) (nI 0) (nI L.length) a_tokenCode a_tokenValue a_outKind a_outValue k.2.1 k.2.2.1 k.2.2.2.1 k.2.2.2.2 a_methodSign a_methodStart a_declared a_cellKind a_cellValue a_callReturn a_pendingLevel a_pendingPlace a_pendingMore a_frameKind a_frameMore a_localName := by
  subst etc ex1 ex2
  unfold wX_readMethodHead_157
  by_cases t16 : T p = 16
  · rw [if_pos t16] at hp
    refine hx_expect (w := 16) ht (by omega) ((ls_xc_eq (by decide)).mpr t16) ?_
    dsimp only
    by_cases t17 : T (p + 1) = 17
    · rw [if_pos t17] at hp
      refine hx_expect (w := 17) ht (by omega) ((ls_xc_eq (by decide)).mpr t17) ?_
      refine hx_openFrame (ft := 0) (by decide) ?_
      dsimp only
      rw [show (8 : Int32) = nI 8 from rfl, pk_mul, nI_add]
      refine hx_emit (by omega) ?_
      refine hx_openFrame (ft := 1) (by decide) ?_
      exact hp _ ⟨hkk, ls_lo_emK hlo b0.1, rfl, ht, rfl, rfl, rfl, rfl, rfl, rfl, rfl, rfl, rfl, rfl, rfl, rfl, (fun h => by omega), hP, ls_StF_push (fr := [(2, k.1, pos, [kd0])]) 1 L.length (p + 2) L (ls_StF_push 2 k.1 pos [kd0] hF), hN⟩
    · rw [if_neg t17] at hp
      refine hx_expectF (w := 17) (st := 2) ht (by omega) (by decide) t17 (by decide) ?_
      have X1 : ls_XK T V n u0 (p + 1) 310 (f_tickLimit, nI n, f_outCount, 1, nI (p + 1), f_lastKind, f_lastValue, nI k.1, f_methodCount, f_methodTokens, f_cellCount, f_activeCalls, f_next, f_ticksLeft, nI 2, nI (p + 1), f_expressionStart, nI pe.length, nI 0, nI L.length, a_tokenCode, a_tokenValue, a_outKind, a_outValue, k.2.1, k.2.2.1, k.2.2.2.1, k.2.2.2.2, a_methodSign, a_methodStart, a_declared, a_cellKind, a_cellValue, a_callReturn, a_pendingLevel, a_pendingPlace, a_pendingMore, a_frameKind, a_frameMore, a_localName) := ⟨hkk, rfl, ht, rfl, rfl, ⟨k.1, rfl, b0.1, by omega⟩, ⟨p + 1, rfl, by omega⟩, ⟨pe.length, rfl, b4⟩, ⟨0, rfl, by omega⟩, ⟨L.length, rfl, b3⟩, ls_lo_cs (cc := k.1) hlo⟩
      refine kx_openFrame X1 fun u3 h3 => ?_
      obtain ⟨f_tickLimit, f_tokenCount, f_outCount, f_error, f_errorPlace, f_lastKind, f_lastValue, f_codeSize, f_methodCount, f_methodTokens, f_cellCount, f_activeCalls, f_next, f_ticksLeft, f_state, f_pos, f_expressionStart, f_pendingCount, f_frameTop, f_localCount, a_tokenCode, a_tokenValue, a_outKind, a_outValue, a_codeOp, a_codeArg, a_codeKind, a_codePlace, a_methodSign, a_methodStart, a_declared, a_cellKind, a_cellValue, a_callReturn, a_pendingLevel, a_pendingPlace, a_pendingMore, a_frameKind, a_frameMore, a_localName⟩ := u3
      refine kx_emit h3 fun u4 h4 => ?_
      obtain ⟨f_tickLimit, f_tokenCount, f_outCount, f_error, f_errorPlace, f_lastKind, f_lastValue, f_codeSize, f_methodCount, f_methodTokens, f_cellCount, f_activeCalls, f_next, f_ticksLeft, f_state, f_pos, f_expressionStart, f_pendingCount, f_frameTop, f_localCount, a_tokenCode, a_tokenValue, a_outKind, a_outValue, a_codeOp, a_codeArg, a_codeKind, a_codePlace, a_methodSign, a_methodStart, a_declared, a_cellKind, a_cellValue, a_callReturn, a_pendingLevel, a_pendingPlace, a_pendingMore, a_frameKind, a_frameMore, a_localName⟩ := u4
      refine kx_openFrame h4 fun u5 h5 => ?_
      obtain ⟨f_tickLimit, f_tokenCount, f_outCount, f_error, f_errorPlace, f_lastKind, f_lastValue, f_codeSize, f_methodCount, f_methodTokens, f_cellCount, f_activeCalls, f_next, f_ticksLeft, f_state, f_pos, f_expressionStart, f_pendingCount, f_frameTop, f_localCount, a_tokenCode, a_tokenValue, a_outKind, a_outValue, a_codeOp, a_codeArg, a_codeKind, a_codePlace, a_methodSign, a_methodStart, a_declared, a_cellKind, a_cellValue, a_callReturn, a_pendingLevel, a_pendingPlace, a_pendingMore, a_frameKind, a_frameMore, a_localName⟩ := u5
      exact hp _ (ls_XK_state (ls_XK_mono h5 (by omega)))
  · rw [if_neg t16] at hp
    refine hx_expectF (w := 16) (st := 2) ht (by omega) (by decide) t16 (by decide) ?_
    have X1 : ls_XK T V n u0 p 310 (f_tickLimit, nI n, f_outCount, 1, nI p, f_lastKind, f_lastValue, nI k.1, f_methodCount, f_methodTokens, f_cellCount, f_activeCalls, f_next, f_ticksLeft, nI 2, nI p, f_expressionStart, nI pe.length, nI 0, nI L.length, a_tokenCode, a_tokenValue, a_outKind, a_outValue, k.2.1, k.2.2.1, k.2.2.2.1, k.2.2.2.2, a_methodSign, a_methodStart, a_declared, a_cellKind, a_cellValue, a_callReturn, a_pendingLevel, a_pendingPlace, a_pendingMore, a_frameKind, a_frameMore, a_localName) := ⟨hkk, rfl, ht, rfl, rfl, ⟨k.1, rfl, b0.1, by omega⟩, ⟨p, rfl, by omega⟩, ⟨pe.length, rfl, b4⟩, ⟨0, rfl, by omega⟩, ⟨L.length, rfl, b3⟩, ls_lo_cs (cc := k.1) hlo⟩
    refine kx_expect X1 (by omega) fun u2 h2 => ?_
    obtain ⟨f_tickLimit, f_tokenCount, f_outCount, f_error, f_errorPlace, f_lastKind, f_lastValue, f_codeSize, f_methodCount, f_methodTokens, f_cellCount, f_activeCalls, f_next, f_ticksLeft, f_state, f_pos, f_expressionStart, f_pendingCount, f_frameTop, f_localCount, a_tokenCode, a_tokenValue, a_outKind, a_outValue, a_codeOp, a_codeArg, a_codeKind, a_codePlace, a_methodSign, a_methodStart, a_declared, a_cellKind, a_cellValue, a_callReturn, a_pendingLevel, a_pendingPlace, a_pendingMore, a_frameKind, a_frameMore, a_localName⟩ := u2
    refine kx_openFrame h2 fun u3 h3 => ?_
    obtain ⟨f_tickLimit, f_tokenCount, f_outCount, f_error, f_errorPlace, f_lastKind, f_lastValue, f_codeSize, f_methodCount, f_methodTokens, f_cellCount, f_activeCalls, f_next, f_ticksLeft, f_state, f_pos, f_expressionStart, f_pendingCount, f_frameTop, f_localCount, a_tokenCode, a_tokenValue, a_outKind, a_outValue, a_codeOp, a_codeArg, a_codeKind, a_codePlace, a_methodSign, a_methodStart, a_declared, a_cellKind, a_cellValue, a_callReturn, a_pendingLevel, a_pendingPlace, a_pendingMore, a_frameKind, a_frameMore, a_localName⟩ := u3
    refine kx_emit h3 fun u4 h4 => ?_
    obtain ⟨f_tickLimit, f_tokenCount, f_outCount, f_error, f_errorPlace, f_lastKind, f_lastValue, f_codeSize, f_methodCount, f_methodTokens, f_cellCount, f_activeCalls, f_next, f_ticksLeft, f_state, f_pos, f_expressionStart, f_pendingCount, f_frameTop, f_localCount, a_tokenCode, a_tokenValue, a_outKind, a_outValue, a_codeOp, a_codeArg, a_codeKind, a_codePlace, a_methodSign, a_methodStart, a_declared, a_cellKind, a_cellValue, a_callReturn, a_pendingLevel, a_pendingPlace, a_pendingMore, a_frameKind, a_frameMore, a_localName⟩ := u4
    refine kx_openFrame h4 fun u5 h5 => ?_
    obtain ⟨f_tickLimit, f_tokenCount, f_outCount, f_error, f_errorPlace, f_lastKind, f_lastValue, f_codeSize, f_methodCount, f_methodTokens, f_cellCount, f_activeCalls, f_next, f_ticksLeft, f_state, f_pos, f_expressionStart, f_pendingCount, f_frameTop, f_localCount, a_tokenCode, a_tokenValue, a_outKind, a_outValue, a_codeOp, a_codeArg, a_codeKind, a_codePlace, a_methodSign, a_methodStart, a_declared, a_cellKind, a_cellValue, a_callReturn, a_pendingLevel, a_pendingPlace, a_pendingMore, a_frameKind, a_frameMore, a_localName⟩ := u5
    exact hp _ (ls_XK_state (ls_XK_mono h5 (by omega)))
/-- the continuation of the method's head -/
def ls_hout (T : Nat → Nat) (V : Nat → Int32) (n : Nat) (u0 : SX) (es : Nat) (pe : List LsP) (k : LsK) (pos : Nat) (kd0 : Nat) (r : Except Nat (Nat × List Nat × Nat)) (post : SX → Prop) : Prop := match r with
  | .ok (p, L, sg) => ∀ u', ls_XR T V n u0 (0, p, es, pe, [(1, L.length, p, L), (2, k.1, pos, [kd0])], L, ls_em k 21 0 (nI (sg * 8 + kd0)) (nI pos)) u' → post u'
  | .error e => ∀ u', ls_XK T V n u0 e 400 u' → post u'
set_option maxHeartbeats 200000 in
theorem hx_par {kd0 : Nat} (hkk : (f_tickLimit, f_tokenCount, f_outCount, f_lastKind, f_lastValue, f_methodCount, f_methodTokens, f_cellCount, f_activeCalls, f_next, f_ticksLeft, a_tokenCode, a_tokenValue, a_outKind, a_outValue, a_methodSign, a_methodStart, a_declared, a_cellKind, a_cellValue, a_callReturn) = ls_kept u0) (hlo : ls_lo u0 k) (ht : ls_tok T V n a_tokenCode a_tokenValue) (hP : ls_StP a_pendingLevel a_pendingPlace a_pendingMore pe) (hF : ls_StF a_frameKind a_frameMore []) (etc : f_tokenCount = nI n) (b0 : 480 ≤ k.1 ∧ k.1 + 1 ≤ 761) (b4 : pe.length ≤ 140) :
    ∀ f i p L sg a_localName, i + f = 3 → L.length = i → p + 4 * f < 200 → (∀ x ∈ L, x < 16) → ls_StN a_localName L → ls_hout T V n u0 es pe k pos kd0 (ls_par T f i p L sg) post → 0 < f →
    wX_readMethodHead_60 post (nI pos) (nI kd0) (f + 1) (nI sg) 1 (nI i) f_tickLimit (nI n) f_outCount 0 (-1) f_lastKind f_lastValue (nI k.1) f_methodCount f_methodTokens f_cellCount f_activeCalls f_next f_ticksLeft (nI 2) (nI p) f_expressionStart (nI pe.length) (nI 0) (nI L.length) a_tokenCode a_tokenValue a_outKind a_outValue k.2.1 k.2.2.1 k.2.2.2.1 k.2.2.2.2 a_methodSign a_methodStart a_declared a_cellKind a_cellValue a_callReturn a_pendingLevel a_pendingPlace a_pendingMore a_frameKind a_frameMore a_localName := by
  subst etc
  intro f
  induction f with
  | zero => intro i p L sg ln _ _ _ _ _ _ h; omega
  | succ f ih =>
    intro i p L sg ln hi hLi hpf hL hN hp _
    unfold ls_par at hp
    refine br_f (nI_ge (b := 3) (by omega) (by decide)) (br_f (by decide) (br_t rfl ?_))
    refine hx_wordAt ht (by omega) ?_
    unfold wpX_readParameter
    refine hx_wordAt ht (by omega) ?_
    refine ls_isKind (fun t6 => ?_) (fun t6 => ?_)
    · rw [if_pos t6] at hp
      refine br_f (by decide) (nm_r (nI_1 p) ?_)
      refine hx_wordAt ht (by omega) ?_
      have ex : ls_xc (T p) = T p := by unfold ls_xc; rw [if_pos (by omega)]
      have XKa : ls_XK T V n u0 (p + 1) 210 (f_tickLimit, nI n, f_outCount, 1, nI (p + 1), f_lastKind, f_lastValue, nI k.1, f_methodCount, f_methodTokens, f_cellCount, f_activeCalls, f_next, f_ticksLeft, nI 2, nI (p + 1), f_expressionStart, nI pe.length, nI 0, nI L.length, a_tokenCode, a_tokenValue, a_outKind, a_outValue, k.2.1, k.2.2.1, k.2.2.2.1, k.2.2.2.2, a_methodSign, a_methodStart, a_declared, a_cellKind, a_cellValue, a_callReturn, a_pendingLevel, a_pendingPlace, a_pendingMore, a_frameKind, a_frameMore, ln) := ⟨hkk, rfl, ht, rfl, rfl, ⟨k.1, rfl, b0.1, by omega⟩, ⟨p + 1, rfl, by omega⟩, ⟨pe.length, rfl, b4⟩, ⟨0, rfl, by omega⟩, ⟨L.length, rfl, by omega⟩, ls_lo_cs (cc := k.1) hlo⟩
      have XKb : ls_XK T V n u0 (p + 1) 210 (f_tickLimit, nI n, f_outCount, 1, nI (p + 1), f_lastKind, f_lastValue, nI k.1, f_methodCount, f_methodTokens, f_cellCount, f_activeCalls, f_next, f_ticksLeft, nI 2, nI (p + 2), f_expressionStart, nI pe.length, nI 0, nI L.length, a_tokenCode, a_tokenValue, a_outKind, a_outValue, k.2.1, k.2.2.1, k.2.2.2.1, k.2.2.2.2, a_methodSign, a_methodStart, a_declared, a_cellKind, a_cellValue, a_callReturn, a_pendingLevel, a_pendingPlace, a_pendingMore, a_frameKind, a_frameMore, ln) := ⟨hkk, rfl, ht, rfl, rfl, ⟨k.1, rfl, b0.1, by omega⟩, ⟨p + 2, rfl, by omega⟩, ⟨pe.length, rfl, b4⟩, ⟨0, rfl, by omega⟩, ⟨L.length, rfl, by omega⟩, ls_lo_cs (cc := k.1) hlo⟩
      by_cases tn : ls_nam (T (p + 1))
      · refine hx_valueName ht (by omega) tn ?_
        have hnm : T (p + 1) - 54 < 16 := by have := tn.2; omega
        refine br_t ((ls_w54 (ls_tok_le ht _)).mpr tn) ?_
        refine hx_addLocal (mo := 0) hnm hN hL (by omega) (by omega) (fun h8 hnot => ?_) (fun hno => ?_)
        · rw [Nat.sub_zero, List.take_length] at hnot
          rw [if_pos ⟨tn, hnot⟩] at hp
          refine br_f (by decide) (nm_r (nI_1 (p + 1)) ?_)
          dsimp only
          have N1 : ls_StN (upd ln L.length (nI (T (p + 1) - 54))) ((T (p + 1) - 54) :: L) := ls_StN_push _ hN
          have L1 : ∀ x ∈ (T (p + 1) - 54) :: L, x < 16 := by
            intro x hx
            rcases List.mem_cons.mp hx with rfl | hx
            · exact hnm
            · exact hL x hx
          have es1 : nI sg + (16 + nI (ls_xc (T p)) <<< ((6 + nI i * 3) &&& 31)) = nI (sg + 16 + T p * 2 ^ (6 + 3 * i)) := by
            rw [ex, ls_sgn ⟨i, by omega⟩ ⟨T p, by omega⟩, show (16 : Int32) = nI 16 from rfl, nI_add, nI_add, Nat.add_assoc]
          refine nm_r es1 ?_
          refine hx_wordAt ht (by omega) ?_
          by_cases t19 : T (p + 2) = 19
          · rw [if_pos t19] at hp
            refine br_t ((ls_w (w := 19) (by decide)).mpr t19) (br_f (by decide) ?_)
            rw [nI_1]
            by_cases i3 : i + 1 < 3
            · rw [if_pos i3] at hp
              refine br_f (nI_ge (b := 3) i3 (by decide)) (nm_r (nI_1 (p + 2)) (nm_e ?_))
              exact ih (i + 1) (p + 3) ((T (p + 1) - 54) :: L) _ _ (by omega) (by show L.length + 1 = _; omega) (by omega) L1 N1 hp (by omega)
            · rw [if_neg i3] at hp
              refine br_t (nI_le (a := 3) (by omega) (by omega)) (nm_e ?_)
              have f0 : f = 0 := by omega
              subst f0
              refine br_t (nI_le (a := 3) (by omega) (by omega)) ?_
              refine hx_head157 (L := (T (p + 1) - 54) :: L) (es := es) (p := p + 2) hkk hlo ht hP hF N1 rfl b0 (by omega) (by show L.length + 1 ≤ 8; omega) b4 rfl rfl ?_
              rw [if_neg (by omega)]
              exact hp
          · rw [if_neg t19] at hp
            refine br_f (mt (ls_w (w := 19) (by decide)).mp t19) (br_t rfl (nm_e ?_))
            have g : wX_readMethodHead_157 post (nI pos) (nI kd0) (nI (sg + 16 + T p * 2 ^ (6 + 3 * i))) f_tickLimit (nI n) f_outCount 0 (-1) f_lastKind f_lastValue (nI k.1) f_methodCount f_methodTokens f_cellCount f_activeCalls f_next f_ticksLeft (nI 2) (nI (p + 1 + 1)) f_expressionStart (nI pe.length) (nI 0) (nI (L.length + 1)) a_tokenCode a_tokenValue a_outKind a_outValue k.2.1 k.2.2.1 k.2.2.2.1 k.2.2.2.2 a_methodSign a_methodStart a_declared a_cellKind a_cellValue a_callReturn a_pendingLevel a_pendingPlace a_pendingMore a_frameKind a_frameMore (upd ln L.length (nI (T (p + 1) - 54))) := by
              refine hx_head157 (L := (T (p + 1) - 54) :: L) (es := es) (p := p + 2) hkk hlo ht hP hF N1 rfl b0 (by omega) (by show L.length + 1 ≤ 8; omega) b4 rfl rfl ?_
              by_cases t16 : T (p + 2) = 16
              · rw [if_pos t16] at hp ⊢
                by_cases t17 : T (p + 3) = 17
                · rw [if_pos t17] at hp
                  rw [if_pos t17]
                  exact hp
                · rw [if_neg t17] at hp
                  rw [if_neg t17]
                  exact hp
              · rw [if_neg t16] at hp ⊢
                exact hp
            cases f with
            | zero => exact br_c (fun _ => g) (fun _ => br_t rfl g)
            | succ f => exact br_c (fun _ => g) (fun _ => br_t rfl g)
        · rw [Nat.sub_zero, List.take_length] at hno
          rw [if_neg (fun h => hno ⟨by omega, h.2⟩)] at hp
          refine br_t rfl (hx_fault0 (st := 2) (by decide) (nm_r (nI_1 (p + 1)) ?_))
          dsimp only
          refine nm_e (kx_wordAt XKb (by omega) fun r => ?_)
          exact br_c (fun _ => kx_head126 XKb (by omega) fun u' h' => hp _ (ls_XK_mono h' (by omega))) (fun _ => kx_head126 XKb (by omega) fun u' h' => hp _ (ls_XK_mono h' (by omega)))
      · rw [if_neg (fun h => tn h.1)] at hp
        refine hx_valueAny ht (by omega) fun r => ?_
        refine br_f (mt (ls_w54 (ls_tok_le ht _)).mp tn) (hx_fault0 (st := 2) (by decide) (nm_r (nI_1 (p + 1)) ?_))
        dsimp only
        refine nm_e (kx_wordAt XKb (by omega) fun r => ?_)
        exact br_c (fun _ => kx_head126 XKb (by omega) fun u' h' => hp _ (ls_XK_mono h' (by omega))) (fun _ => kx_head126 XKb (by omega) fun u' h' => hp _ (ls_XK_mono h' (by omega)))
    · rw [if_neg t6] at hp
      refine br_t rfl (hx_fault0 (st := 2) (by decide) ?_)
      dsimp only
      have XKc : ls_XK T V n u0 p 210 (f_tickLimit, nI n, f_outCount, 1, nI p, f_lastKind, f_lastValue, nI k.1, f_methodCount, f_methodTokens, f_cellCount, f_activeCalls, f_next, f_ticksLeft, nI 2, nI p, f_expressionStart, nI pe.length, nI 0, nI L.length, a_tokenCode, a_tokenValue, a_outKind, a_outValue, k.2.1, k.2.2.1, k.2.2.2.1, k.2.2.2.2, a_methodSign, a_methodStart, a_declared, a_cellKind, a_cellValue, a_callReturn, a_pendingLevel, a_pendingPlace, a_pendingMore, a_frameKind, a_frameMore, ln) := ⟨hkk, rfl, ht, rfl, rfl, ⟨k.1, rfl, b0.1, by omega⟩, ⟨p, rfl, by omega⟩, ⟨pe.length, rfl, b4⟩, ⟨0, rfl, by omega⟩, ⟨L.length, rfl, by omega⟩, ls_lo_cs (cc := k.1) hlo⟩
      refine nm_e (kx_wordAt XKc (by omega) fun r => ?_)
      exact br_c (fun _ => kx_head126 XKc (by omega) fun u' h' => hp _ (ls_XK_mono h' (by omega))) (fun _ => kx_head126 XKc (by omega) fun u' h' => hp _ (ls_XK_mono h' (by omega)))
end
section
variable {T : Nat → Nat} {V : Nat → Int32} {n : Nat} {u0 u : SX} {post : SX → Prop} {pos es : Nat} {pe : List LsP} {fr : List LsF} {L : List Nat} {k : LsK}
set_option maxHeartbeats 200000 in
theorem rx_r2 (h : ls_XR T V n u0 (2, pos, es, pe, fr, L, k) u) (b0 : 480 ≤ k.1 ∧ k.1 + 2 ≤ 761) (b1 : pos < 140) (b2 : fr.length < 141) (b3 : L.length ≤ 8) (b4 : pe.length ≤ 140) (hL : ∀ x ∈ L, x < 16) (hL0 : fr = [] → L = []) (t6 : T pos < 6) (hmo : ∀ f, fr.head? = some f → f.2.1 ≤ L.length)
    (hp : ls_out T V n u0 (ls_r2 T pos es pe fr L k) post) : wpX_beginDeclaration post u := by
  obtain ⟨f_tickLimit, f_tokenCount, f_outCount, f_error, f_errorPlace, f_lastKind, f_lastValue, f_codeSize, f_methodCount, f_methodTokens, f_cellCount, f_activeCalls, f_next, f_ticksLeft, f_state, f_pos, f_expressionStart, f_pendingCount, f_frameTop, f_localCount, a_tokenCode, a_tokenValue, a_outKind, a_outValue, a_codeOp, a_codeArg, a_codeKind, a_codePlace, a_methodSign, a_methodStart, a_declared, a_cellKind, a_cellValue, a_callReturn, a_pendingLevel, a_pendingPlace, a_pendingMore, a_frameKind, a_frameMore, a_localName⟩ := u
  obtain ⟨hk, hlo, rfl, ht, rfl, rfl, rfl, rfl, rfl, rfl, rfl, rfl, rfl, rfl, rfl, rfl, hes, hP, hF, hN⟩ := h
  unfold wpX_beginDeclaration
  dsimp only
  rw [nI_1]
  refine hx_wordAt ht (by omega) ?_
  rw [show nI pos + 2 = nI (pos + 2) from nI_add pos 2]
  refine hx_wordAt ht (by omega) ?_
  unfold ls_r2 at hp
  by_cases tn : ls_nam (T (pos + 1))
  · rw [if_pos tn] at hp
    refine br_t ((ls_w54 (ls_tok_le ht _)).mpr tn) ?_
    have VV : ¬ (fr = [] ∧ T (pos + 2) = 15) → wX_beginDeclaration_65 post f_tickLimit (nI n) f_outCount 0 (-1) f_lastKind f_lastValue (nI k.1) f_methodCount f_methodTokens f_cellCount f_activeCalls f_next f_ticksLeft (nI 2) (nI pos) f_expressionStart (nI pe.length) (nI fr.length) (nI L.length) a_tokenCode a_tokenValue a_outKind a_outValue k.2.1 k.2.2.1 k.2.2.2.1 k.2.2.2.2 a_methodSign a_methodStart a_declared a_cellKind a_cellValue a_callReturn a_pendingLevel a_pendingPlace a_pendingMore a_frameKind a_frameMore a_localName := by
      intro hno
      rw [if_neg hno] at hp
      unfold wX_beginDeclaration_65
      exact rx_var (es := es) hk hlo ht hP hF hN rfl b0 b1 b2 b3 b4 hL t6 tn hmo hp
    cases fr with
    | nil =>
      refine br_t rfl ?_
      by_cases t15 : T (pos + 2) = 15
      · rw [if_pos ⟨rfl, t15⟩] at hp
        refine br_t ((ls_w (w := 15) (by decide)).mpr t15) ?_
        have L0 := hL0 rfl
        subst L0
        unfold wpX_readMethodHead
        dsimp only
        refine hx_wordAt ht (by omega) ?_
        rw [nI_1]
        refine hx_valueName ht (by omega) tn ?_
        have ex : ls_xc (T pos) = T pos := by unfold ls_xc; rw [if_pos (by omega)]
        rw [ex]
        refine hx_emit (by omega) (nm_r (nI_add pos 3) ?_)
        refine hx_wordAt ht (by omega) ?_
        have lo1 : ls_lo u0 (ls_em k 1 0 0 (nI pos)) := ls_lo_emK hlo b0.1
        unfold ls_head at hp
        by_cases t16 : T (pos + 3) = 16
        · rw [if_pos t16] at hp
          refine br_t ((ls_w (w := 16) (by decide)).mpr t16) ⟨1, br_f (by decide) (br_t rfl ?_)⟩
          refine hx_head157 (k := ls_em k 1 0 0 (nI pos)) (L := []) (es := es) (p := pos + 3) hk lo1 ht hP hF hN rfl ⟨by show 480 ≤ k.1 + 1; omega, by show k.1 + 1 + 1 ≤ 761; omega⟩ (by omega) (by decide) b4 rfl rfl ?_
          rw [if_pos t16]
          by_cases t17 : T (pos + 4) = 17
          · rw [if_pos t17] at hp
            rw [if_pos t17]
            exact hp
          · rw [if_neg t17] at hp
            rw [if_neg t17]
            exact hp
        · rw [if_neg t16] at hp
          refine br_f (mt (ls_w (w := 16) (by decide)).mp t16) ⟨4, ?_⟩
          refine hx_par (k := ls_em k 1 0 0 (nI pos)) (es := es) hk lo1 ht hP hF rfl ⟨by show 480 ≤ k.1 + 1; omega, by show k.1 + 1 + 1 ≤ 761; omega⟩ b4 3 0 (pos + 3) [] (T (pos + 1) - 54) a_localName rfl rfl (by omega) (by simp) trivial ?_ (by decide)
          unfold ls_hout
          split
          · next heq => rw [heq] at hp; exact hp
          · next heq => rw [heq] at hp; exact hp
      · exact br_f (mt (ls_w (w := 15) (by decide)).mp t15) (VV (fun h => t15 h.2))
    | cons f r => exact br_f (nI_ne0 (n := r.length + 1) (by omega) (by have : r.length + 1 < 141 := b2; omega)) (VV (fun h => List.cons_ne_nil _ _ h.1))
  · rw [if_neg tn] at hp
    refine br_f (mt (ls_w54 (ls_tok_le ht _)).mp tn) (nm_e (hx_fault0 (st := 2) (by decide) ?_))
    exact hp _ ⟨hk, rfl, ht, rfl, rfl, ⟨k.1, rfl, b0.1, by omega⟩, ⟨pos + 1, rfl, by omega⟩, ⟨pe.length, rfl, b4⟩, ⟨fr.length, rfl, by omega⟩, ⟨L.length, rfl, b3⟩, ls_lo_cs (cc := k.1) hlo⟩
end
