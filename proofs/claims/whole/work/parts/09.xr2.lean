section
variable {f_tickLimit f_tokenCount f_outCount f_error f_errorPlace f_lastKind f_codeSize f_methodCount f_methodTokens f_cellCount f_activeCalls f_next f_ticksLeft f_state f_pos f_expressionStart f_pendingCount f_frameTop f_localCount : Int32}
variable {f_lastValue : Int64}
variable {a_tokenCode a_tokenValue a_outKind a_codeOp a_codeArg a_codeKind a_codePlace a_methodSign a_methodStart a_declared a_cellKind a_callReturn a_pendingLevel a_pendingPlace a_pendingMore a_frameKind a_frameMore a_localName : Nat → Int32}
variable {a_outValue a_cellValue : Nat → Int64}
variable {T : Nat → Nat} {V : Nat → Int32} {n : Nat} {u0 u : SX} {post : SX → Prop} {pos es e m : Nat} {pe : List LsP} {fr : List LsF} {L : List Nat} {k : LsK}
set_option maxHeartbeats 200000 in
theorem kx_var148 {x4 x6 : Int32} (h : ls_XK T V n u0 e m (f_tickLimit, f_tokenCount, f_outCount, f_error, f_errorPlace, f_lastKind, f_lastValue, f_codeSize, f_methodCount, f_methodTokens, f_cellCount, f_activeCalls, f_next, f_ticksLeft, f_state, f_pos, f_expressionStart, f_pendingCount, f_frameTop, f_localCount, a_tokenCode, a_tokenValue, a_outKind, a_outValue, a_codeOp, a_codeArg, a_codeKind, a_codePlace, a_methodSign, a_methodStart, a_declared, a_cellKind, a_cellValue, a_callReturn, a_pendingLevel, a_pendingPlace, a_pendingMore, a_frameKind, a_frameMore, a_localName)) (hm : m ≤ 390) (hp : ∀ u', ls_XK T V n u0 e (m + 1) u' → post u') : wX_readVariable_148 post x4 x6 f_tickLimit f_tokenCount f_outCount f_error f_errorPlace f_lastKind f_lastValue f_codeSize f_methodCount f_methodTokens f_cellCount f_activeCalls f_next f_ticksLeft f_state f_pos f_expressionStart f_pendingCount f_frameTop f_localCount a_tokenCode a_tokenValue a_outKind a_outValue a_codeOp a_codeArg a_codeKind a_codePlace a_methodSign a_methodStart a_declared a_cellKind a_cellValue a_callReturn a_pendingLevel a_pendingPlace a_pendingMore a_frameKind a_frameMore a_localName := by
  refine br_c (fun _ => ?_) (fun _ => ?_)
  · refine kx_expect h (by omega) fun u' h' => ?_
    obtain ⟨f_tickLimit, f_tokenCount, f_outCount, f_error, f_errorPlace, f_lastKind, f_lastValue, f_codeSize, f_methodCount, f_methodTokens, f_cellCount, f_activeCalls, f_next, f_ticksLeft, f_state, f_pos, f_expressionStart, f_pendingCount, f_frameTop, f_localCount, a_tokenCode, a_tokenValue, a_outKind, a_outValue, a_codeOp, a_codeArg, a_codeKind, a_codePlace, a_methodSign, a_methodStart, a_declared, a_cellKind, a_cellValue, a_callReturn, a_pendingLevel, a_pendingPlace, a_pendingMore, a_frameKind, a_frameMore, a_localName⟩ := u'
    exact hp _ h'
  · obtain ⟨hk, h1, ht, h2, h3, hc, ⟨p, hp1, hpp⟩, hr⟩ := h
    rw [hp1]
    refine nm_r (nI_1 p) ?_
    refine kx_openFrame (T := T) (V := V) (n := n) (u0 := u0) (e := e) (m := m + 1) ⟨hk, h1, ht, h2, h3, hc, ⟨p + 1, rfl, by omega⟩, hr⟩ fun u' h' => ?_
    obtain ⟨f_tickLimit, f_tokenCount, f_outCount, f_error, f_errorPlace, f_lastKind, f_lastValue, f_codeSize, f_methodCount, f_methodTokens, f_cellCount, f_activeCalls, f_next, f_ticksLeft, f_state, f_pos, f_expressionStart, f_pendingCount, f_frameTop, f_localCount, a_tokenCode, a_tokenValue, a_outKind, a_outValue, a_codeOp, a_codeArg, a_codeKind, a_codePlace, a_methodSign, a_methodStart, a_declared, a_cellKind, a_cellValue, a_callReturn, a_pendingLevel, a_pendingPlace, a_pendingMore, a_frameKind, a_frameMore, a_localName⟩ := u'
    refine kx_startExpression h' fun u'' h'' => ?_
    obtain ⟨f_tickLimit, f_tokenCount, f_outCount, f_error, f_errorPlace, f_lastKind, f_lastValue, f_codeSize, f_methodCount, f_methodTokens, f_cellCount, f_activeCalls, f_next, f_ticksLeft, f_state, f_pos, f_expressionStart, f_pendingCount, f_frameTop, f_localCount, a_tokenCode, a_tokenValue, a_outKind, a_outValue, a_codeOp, a_codeArg, a_codeKind, a_codePlace, a_methodSign, a_methodStart, a_declared, a_cellKind, a_cellValue, a_callReturn, a_pendingLevel, a_pendingPlace, a_pendingMore, a_frameKind, a_frameMore, a_localName⟩ := u''
    exact hp _ h''
set_option maxHeartbeats 200000 in
theorem kx_var131 {x1 x2 x3 x4 x6 : Int32} (h : ls_XK T V n u0 e m (f_tickLimit, f_tokenCount, f_outCount, f_error, f_errorPlace, f_lastKind, f_lastValue, f_codeSize, f_methodCount, f_methodTokens, f_cellCount, f_activeCalls, f_next, f_ticksLeft, f_state, f_pos, f_expressionStart, f_pendingCount, f_frameTop, f_localCount, a_tokenCode, a_tokenValue, a_outKind, a_outValue, a_codeOp, a_codeArg, a_codeKind, a_codePlace, a_methodSign, a_methodStart, a_declared, a_cellKind, a_cellValue, a_callReturn, a_pendingLevel, a_pendingPlace, a_pendingMore, a_frameKind, a_frameMore, a_localName)) (hm : m ≤ 390) (hp : ∀ u', ls_XK T V n u0 e (m + 1) u' → post u') : wX_readVariable_131 post x1 x2 x3 x4 x6 f_tickLimit f_tokenCount f_outCount f_error f_errorPlace f_lastKind f_lastValue f_codeSize f_methodCount f_methodTokens f_cellCount f_activeCalls f_next f_ticksLeft f_state f_pos f_expressionStart f_pendingCount f_frameTop f_localCount a_tokenCode a_tokenValue a_outKind a_outValue a_codeOp a_codeArg a_codeKind a_codePlace a_methodSign a_methodStart a_declared a_cellKind a_cellValue a_callReturn a_pendingLevel a_pendingPlace a_pendingMore a_frameKind a_frameMore a_localName := by
  refine kx_addressOf h fun r => kx_emit h fun u' h' => ?_
  obtain ⟨f_tickLimit, f_tokenCount, f_outCount, f_error, f_errorPlace, f_lastKind, f_lastValue, f_codeSize, f_methodCount, f_methodTokens, f_cellCount, f_activeCalls, f_next, f_ticksLeft, f_state, f_pos, f_expressionStart, f_pendingCount, f_frameTop, f_localCount, a_tokenCode, a_tokenValue, a_outKind, a_outValue, a_codeOp, a_codeArg, a_codeKind, a_codePlace, a_methodSign, a_methodStart, a_declared, a_cellKind, a_cellValue, a_callReturn, a_pendingLevel, a_pendingPlace, a_pendingMore, a_frameKind, a_frameMore, a_localName⟩ := u'
  exact kx_var148 h' hm hp
set_option maxHeartbeats 200000 in
theorem kx_var91 {x1 x2 x3 x4 x5 : Int32} (h : ls_XK T V n u0 e m (f_tickLimit, f_tokenCount, f_outCount, f_error, f_errorPlace, f_lastKind, f_lastValue, f_codeSize, f_methodCount, f_methodTokens, f_cellCount, f_activeCalls, f_next, f_ticksLeft, f_state, f_pos, f_expressionStart, f_pendingCount, f_frameTop, f_localCount, a_tokenCode, a_tokenValue, a_outKind, a_outValue, a_codeOp, a_codeArg, a_codeKind, a_codePlace, a_methodSign, a_methodStart, a_declared, a_cellKind, a_cellValue, a_callReturn, a_pendingLevel, a_pendingPlace, a_pendingMore, a_frameKind, a_frameMore, a_localName)) (hm : m ≤ 380) (hp : ∀ u', ls_XK T V n u0 e (m + 2) u' → post u') : wX_readVariable_91 post x1 x2 x3 x4 x5 f_tickLimit f_tokenCount f_outCount f_error f_errorPlace f_lastKind f_lastValue f_codeSize f_methodCount f_methodTokens f_cellCount f_activeCalls f_next f_ticksLeft f_state f_pos f_expressionStart f_pendingCount f_frameTop f_localCount a_tokenCode a_tokenValue a_outKind a_outValue a_codeOp a_codeArg a_codeKind a_codePlace a_methodSign a_methodStart a_declared a_cellKind a_cellValue a_callReturn a_pendingLevel a_pendingPlace a_pendingMore a_frameKind a_frameMore a_localName := by
  obtain ⟨hk, h1, ht, h2, h3, hc, ⟨p, hp1, hpp⟩, hr⟩ := h
  unfold wX_readVariable_91
  rw [hp1]
  refine nm_r (nI_1 p) ?_
  have h' : ls_XK T V n u0 e (m + 1) (f_tickLimit, f_tokenCount, f_outCount, f_error, f_errorPlace, f_lastKind, f_lastValue, f_codeSize, f_methodCount, f_methodTokens, f_cellCount, f_activeCalls, f_next, f_ticksLeft, f_state, nI (p + 1), f_expressionStart, f_pendingCount, f_frameTop, f_localCount, a_tokenCode, a_tokenValue, a_outKind, a_outValue, a_codeOp, a_codeArg, a_codeKind, a_codePlace, a_methodSign, a_methodStart, a_declared, a_cellKind, a_cellValue, a_callReturn, a_pendingLevel, a_pendingPlace, a_pendingMore, a_frameKind, a_frameMore, a_localName) := ⟨hk, h1, ht, h2, h3, hc, ⟨p + 1, rfl, by omega⟩, hr⟩
  refine kx_wordAt h' (by omega) fun r => ?_
  have A : ∀ z0, wX_readVariable_119 post x1 x2 x3 x4 x5 z0 f_tickLimit f_tokenCount f_outCount f_error f_errorPlace f_lastKind f_lastValue f_codeSize f_methodCount f_methodTokens f_cellCount f_activeCalls f_next f_ticksLeft f_state (nI (p + 1)) f_expressionStart f_pendingCount f_frameTop f_localCount a_tokenCode a_tokenValue a_outKind a_outValue a_codeOp a_codeArg a_codeKind a_codePlace a_methodSign a_methodStart a_declared a_cellKind a_cellValue a_callReturn a_pendingLevel a_pendingPlace a_pendingMore a_frameKind a_frameMore a_localName := fun z0 =>
    br_c (fun _ => br_c (fun _ => kx_var131 h' (by omega) hp) (fun _ => kx_var148 h' (by omega) hp)) (fun _ => kx_var131 h' (by omega) hp)
  exact br_c (fun _ => A 1) (fun _ => A 0)
set_option maxHeartbeats 200000 in
/-- the text's or a block's declaration of a variable -/
theorem rx_var (hkk : (f_tickLimit, f_tokenCount, f_outCount, f_lastKind, f_lastValue, f_methodCount, f_methodTokens, f_cellCount, f_activeCalls, f_next, f_ticksLeft, a_tokenCode, a_tokenValue, a_outKind, a_outValue, a_methodSign, a_methodStart, a_declared, a_cellKind, a_cellValue, a_callReturn) = ls_kept u0) (hlo : ls_lo u0 k) (ht : ls_tok T V n a_tokenCode a_tokenValue) (hP : ls_StP a_pendingLevel a_pendingPlace a_pendingMore pe) (hF : ls_StF a_frameKind a_frameMore fr) (hN : ls_StN a_localName L) (etc : f_tokenCount = nI n) (b0 : 480 ≤ k.1 ∧ k.1 + 2 ≤ 761) (b1 : pos < 140) (b2 : fr.length < 141) (b3 : L.length ≤ 8) (b4 : pe.length ≤ 140)
    (hL : ∀ x ∈ L, x < 16) (t6 : T pos < 6) (tn : ls_nam (T (pos + 1))) (hmo : ∀ f, fr.head? = some f → f.2.1 ≤ L.length)
    (hp : ls_out T V n u0 (ls_var T pos es pe fr L k) post) : wpX_readVariable post (f_tickLimit, nI n, f_outCount, 0, -1, f_lastKind, f_lastValue, nI k.1, f_methodCount, f_methodTokens, f_cellCount, f_activeCalls, f_next, f_ticksLeft, nI 2, nI pos, f_expressionStart, nI pe.length, nI fr.length, nI L.length, a_tokenCode, a_tokenValue, a_outKind, a_outValue, k.2.1, k.2.2.1, k.2.2.2.1, k.2.2.2.2, a_methodSign, a_methodStart, a_declared, a_cellKind, a_cellValue, a_callReturn, a_pendingLevel, a_pendingPlace, a_pendingMore, a_frameKind, a_frameMore, a_localName) := by
  subst etc
  unfold wpX_readVariable
  dsimp only
  refine hx_wordAt ht (by omega) ?_
  rw [nI_1]
  refine hx_valueName ht (by omega) tn ?_
  have ex : ls_xc (T pos) = T pos := by unfold ls_xc; rw [if_pos (by omega)]
  rw [ex]
  have hnm : T (pos + 1) - 54 < 16 := by have := tn.2; omega
  unfold ls_var at hp
  cases fr with
  | nil =>
    dsimp only at hp
    refine br_t (by decide) ?_
    refine nm_r (nI_1 pos) (br_t rfl (hx_emit (by omega) ?_))
    refine nm_r (nI_1 (pos + 1)) ?_
    refine hx_wordAt ht (by omega) ?_
    have lo1 : ls_lo u0 (ls_em k 1 0 0 (nI pos)) := ls_lo_emK hlo b0.1
    by_cases t21 : T (pos + 2) = 21
    · rw [if_pos t21] at hp
      refine br_t ((ls_w (w := 21) (by decide)).mpr t21) (br_t rfl (br_f (by decide) (br_f (by decide) (nm_r (nI_1 (pos + 2)) ?_))))
      refine hx_openFrame (ft := 0) (by decide) (hp _ ⟨hkk, lo1, rfl, ht, rfl, rfl, rfl, rfl, rfl, rfl, rfl, rfl, rfl, rfl, rfl, rfl, (fun _ => rfl), hP, ls_StF_push 11 k.1 pos [] hF, hN⟩)
    · rw [if_neg t21] at hp
      refine br_f (mt (ls_w (w := 21) (by decide)).mp t21) (br_t rfl (br_t rfl ?_))
      refine hx_addressOf hnm hN hL b3 (hx_emit (by omega) (br_t rfl ?_))
      by_cases t20 : T (pos + 2) = 20
      · rw [if_pos t20] at hp
        exact hx_expect (w := 20) ht (by omega) ((ls_xc_eq (by decide)).mpr t20) (hp _ ⟨hkk, ls_lo_emK lo1 (by show 480 ≤ k.1 + 1; omega), rfl, ht, rfl, rfl, rfl, rfl, rfl, rfl, rfl, rfl, rfl, rfl, rfl, rfl, (fun h => by omega), hP, hF, hN⟩)
      · rw [if_neg t20] at hp
        exact hx_expectF (w := 20) (st := 0) ht (by omega) (by decide) t20 (by decide) (hp _ ⟨hkk, rfl, ht, rfl, rfl, ⟨k.1 + 1 + 1, rfl, by omega, by omega⟩, ⟨pos + 2, rfl, by omega⟩, ⟨pe.length, rfl, b4⟩, ⟨0, rfl, by omega⟩, ⟨L.length, rfl, b3⟩, ls_lo_em (cc := k.1 + 1) lo1 (by omega)⟩)
  | cons f r =>
    obtain ⟨fk, mo, sp, l⟩ := f
    dsimp only at hp
    have b2' : r.length + 1 < 141 := b2
    have hmo' : mo ≤ L.length := hmo _ rfl
    refine br_f (nI_nle (n := r.length + 1) (by omega) (by omega)) ?_
    refine nm_r (nI_1 pos) (br_f (by decide) ⟨vp_in_nI (n := r.length + 1) (by omega) (by decide), ?_⟩)
    rw [show (nI ((fk, mo, sp, l) :: r : List LsF).length).toNatClampNeg = r.length + 1 from nI_clamp (n := r.length + 1) (by omega), show a_frameMore (r.length + 1) = nI mo from hF.2.1]
    refine hx_addLocal hnm hN hL b3 hmo' (fun h8 hnot => ?_) (fun hno => ?_)
    · rw [if_pos ⟨h8, hnot⟩] at hp
      refine br_f (by decide) (nm_r (nI_1 (pos + 1)) ?_)
      refine hx_wordAt ht (by omega) ?_
      have N1 : ls_StN (upd a_localName L.length (nI (T (pos + 1) - 54))) ((T (pos + 1) - 54) :: L) := ls_StN_push _ hN
      have L1 : ∀ x ∈ (T (pos + 1) - 54) :: L, x < 16 := by
        intro x hx
        rcases List.mem_cons.mp hx with rfl | hx
        · exact hnm
        · exact hL x hx
      have lo1 : ls_lo u0 (ls_em k 19 (nI (ls_addr ((T (pos + 1) - 54) :: L) (T (pos + 1) - 54))) (nI (T pos)) (nI pos)) := ls_lo_emK hlo b0.1
      by_cases t21 : T (pos + 2) = 21
      · rw [if_pos t21] at hp
        refine br_t ((ls_w (w := 21) (by decide)).mpr t21) (br_f (by decide) ?_)
        refine hx_addressOf (L := (T (pos + 1) - 54) :: L) hnm N1 L1 (by show L.length + 1 ≤ 8; omega) (hx_emit (by omega) (br_f (by decide) (nm_r (nI_1 (pos + 2)) ?_)))
        exact hx_openFrame (ft := r.length + 1) (by omega) (hp _ ⟨hkk, lo1, rfl, ht, rfl, rfl, rfl, rfl, rfl, rfl, rfl, rfl, rfl, rfl, rfl, rfl, (fun _ => rfl), hP, ls_StF_push 11 k.1 pos [] hF, N1⟩)
      · rw [if_neg t21] at hp
        refine br_f (mt (ls_w (w := 21) (by decide)).mp t21) (br_f (by decide) ?_)
        refine hx_addressOf (L := (T (pos + 1) - 54) :: L) hnm N1 L1 (by show L.length + 1 ≤ 8; omega) (hx_emit (by omega) (br_t rfl ?_))
        by_cases t20 : T (pos + 2) = 20
        · rw [if_pos t20] at hp
          exact hx_expect (w := 20) ht (by omega) ((ls_xc_eq (by decide)).mpr t20) (hp _ ⟨hkk, lo1, rfl, ht, rfl, rfl, rfl, rfl, rfl, rfl, rfl, rfl, rfl, rfl, rfl, rfl, (fun h => by omega), hP, hF, N1⟩)
        · rw [if_neg t20] at hp
          exact hx_expectF (w := 20) (st := 0) ht (by omega) (by decide) t20 (by decide) (hp _ ⟨hkk, rfl, ht, rfl, rfl, ⟨k.1 + 1, rfl, by omega, by omega⟩, ⟨pos + 2, rfl, by omega⟩, ⟨pe.length, rfl, b4⟩, ⟨r.length + 1, rfl, by omega⟩, ⟨L.length + 1, rfl, by omega⟩, ls_lo_em (cc := k.1) hlo b0.1⟩)
    · rw [if_neg hno] at hp
      refine br_t rfl ?_
      refine hx_fault0 (st := 0) (by decide) ?_
      refine kx_var91 (T := T) (V := V) (n := n) (u0 := u0) (e := pos + 1) (m := 200) ⟨hkk, rfl, ht, rfl, rfl, ⟨k.1, rfl, b0.1, by omega⟩, ⟨pos + 1, rfl, by omega⟩, ⟨pe.length, rfl, b4⟩, ⟨r.length + 1, rfl, by omega⟩, ⟨L.length, rfl, b3⟩, ls_lo_cs (cc := k.1) hlo⟩ (by omega) fun u' h' => hp _ (ls_XK_mono h' (by omega))
end
