section
variable {f_tickLimit f_tokenCount f_outCount f_error f_errorPlace f_lastKind f_codeSize f_methodCount f_methodTokens f_cellCount f_activeCalls f_next f_ticksLeft f_state f_pos f_expressionStart f_pendingCount f_frameTop f_localCount : Int32}
variable {f_lastValue : Int64}
variable {a_tokenCode a_tokenValue a_outKind a_codeOp a_codeArg a_codeKind a_codePlace a_methodSign a_methodStart a_declared a_cellKind a_callReturn a_pendingLevel a_pendingPlace a_pendingMore a_frameKind a_frameMore a_localName : Nat → Int32}
variable {a_outValue a_cellValue : Nat → Int64}
variable {q : Int32 → Prop} {pe : List LsP}
set_option maxHeartbeats 200000 in
theorem hx_topLevel (hP : ls_StP a_pendingLevel a_pendingPlace a_pendingMore pe) (b : pe.length ≤ 140) (h0 : pe = [] → q (-1)) (h1 : ∀ e r, pe = e :: r → q (nI e.1)) : wpX_topLevel q (f_tickLimit, f_tokenCount, f_outCount, f_error, f_errorPlace, f_lastKind, f_lastValue, f_codeSize, f_methodCount, f_methodTokens, f_cellCount, f_activeCalls, f_next, f_ticksLeft, f_state, f_pos, f_expressionStart, nI pe.length, f_frameTop, f_localCount, a_tokenCode, a_tokenValue, a_outKind, a_outValue, a_codeOp, a_codeArg, a_codeKind, a_codePlace, a_methodSign, a_methodStart, a_declared, a_cellKind, a_cellValue, a_callReturn, a_pendingLevel, a_pendingPlace, a_pendingMore, a_frameKind, a_frameMore, a_localName) := by
  cases pe with
  | nil => exact br_t (by decide) (h0 rfl)
  | cons e r =>
    have b' : r.length + 1 ≤ 140 := b
    refine br_f (nI_nle (n := r.length + 1) (by omega) (by omega)) ?_
    rw [show nI (e :: r : List LsP).length - 1 = nI r.length from nI_pred r.length]
    refine ⟨vp_in_nI (by omega) (by decide), ?_⟩
    rw [nI_clamp (by omega), hP.1]
    exact h1 e r rfl
end
section
variable {T : Nat → Nat} {V : Nat → Int32} {n : Nat} {u0 u : SX} {post : SX → Prop} {pos es : Nat} {pe : List LsP} {fr : List LsF} {L : List Nat} {k : LsK}
set_option maxHeartbeats 200000 in
theorem rx_r4 (h : ls_XR T V n u0 (4, pos, es, pe, fr, L, k) u) (b0 : 480 ≤ k.1 ∧ k.1 ≤ 761) (b01 : T pos ≠ 72 → k.1 + 1 ≤ 761) (b1 : pos ≤ 140) (b2 : fr.length ≤ 141) (b3 : L.length ≤ 8) (b4 : pe.length ≤ pos) (b5 : es ≤ pos) (hL : ∀ x ∈ L, x < 16) (hlv : ∀ e ∈ pe, e.1 < 14)
    (hp : ls_out T V n u0 (ls_r4 T V pos es pe fr L k) post) : wpX_readOperand post u := by
  obtain ⟨f_tickLimit, f_tokenCount, f_outCount, f_error, f_errorPlace, f_lastKind, f_lastValue, f_codeSize, f_methodCount, f_methodTokens, f_cellCount, f_activeCalls, f_next, f_ticksLeft, f_state, f_pos, f_expressionStart, f_pendingCount, f_frameTop, f_localCount, a_tokenCode, a_tokenValue, a_outKind, a_outValue, a_codeOp, a_codeArg, a_codeKind, a_codePlace, a_methodSign, a_methodStart, a_declared, a_cellKind, a_cellValue, a_callReturn, a_pendingLevel, a_pendingPlace, a_pendingMore, a_frameKind, a_frameMore, a_localName⟩ := u
  obtain ⟨hk, hlo, rfl, ht, rfl, rfl, rfl, rfl, rfl, rfl, rfl, rfl, rfl, rfl, rfl, rfl, hes, hP, hF, hN⟩ := h
  have hes := hes (Or.inl rfl)
  subst hes
  unfold wpX_readOperand
  dsimp only
  refine hx_wordAt ht (by omega) ?_
  have n140 := ht.1
  have PL : T pos ≠ 72 → pos < 140 := fun h => by have := ls_tok_lt ht h; omega
  have XKf : ∀ p, p < 300 → ∀ (q : List LsP) (pl pp pm : Nat → Int32) e, q.length ≤ 140 → ls_XK T V n u0 e 400 (f_tickLimit, nI n, f_outCount, 1, nI e, f_lastKind, f_lastValue, nI k.1, f_methodCount, f_methodTokens, f_cellCount, f_activeCalls, f_next, f_ticksLeft, nI 4, nI p, nI es, nI q.length, nI fr.length, nI L.length, a_tokenCode, a_tokenValue, a_outKind, a_outValue, k.2.1, k.2.2.1, k.2.2.2.1, k.2.2.2.2, a_methodSign, a_methodStart, a_declared, a_cellKind, a_cellValue, a_callReturn, pl, pp, pm, a_frameKind, a_frameMore, a_localName) :=
    fun p hp q pl pp pm e hq => ⟨hk, rfl, ht, rfl, rfl, ⟨k.1, rfl, b0⟩, ⟨p, rfl, by omega⟩, ⟨q.length, rfl, hq⟩, ⟨fr.length, rfl, by omega⟩, ⟨L.length, rfl, b3⟩, ls_lo_cs (cc := k.1) hlo⟩
  have N : ∀ w, w < 54 → T pos ≠ w → ¬ nI (ls_xc (T pos)) = nI w := fun w hw h => mt (ls_w hw).mp h
  unfold ls_r4 at hp
  by_cases tn : ls_nam (T pos)
  · rw [if_pos tn] at hp
    have tn1 := tn.1
    have tn2 := tn.2
    have p140 := PL (by omega)
    have b6 := b01 (by omega)
    dsimp only at hp
    refine br_f (N 13 (by decide) (by omega)) (br_f (N 14 (by decide) (by omega)) (br_f (N 15 (by decide) (by omega)) (br_f (N 22 (by decide) (by omega)) (br_f (N 23 (by decide) (by omega)) (br_f (N 24 (by decide) (by omega)) (br_f (N 25 (by decide) (by omega)) (br_t ((ls_w54 (ls_tok_le ht _)).mpr tn) ?_)))))))
    unfold wpX_readName
    dsimp only
    refine hx_valueName ht (by omega) tn ?_
    rw [nI_1]
    refine hx_wordAt ht (by omega) ?_
    have hnm : T pos - 54 < 16 := by omega
    refine hx_addressOf hnm hN hL b3 ?_
    have A : ∀ z0 : Int32, (z0 = 0 ∧ ls_starts pe = false ∨ z0 = 1 ∧ ls_starts pe = true) → wX_readName_39 post (nI (T pos - 54)) (nI (ls_xc (T (pos + 1)))) (nI (ls_addr L (T pos - 54))) z0 f_tickLimit (nI n) f_outCount 0 (-1) f_lastKind f_lastValue (nI k.1) f_methodCount f_methodTokens f_cellCount f_activeCalls f_next f_ticksLeft (nI 4) (nI pos) (nI es) (nI pe.length) (nI fr.length) (nI L.length) a_tokenCode a_tokenValue a_outKind a_outValue k.2.1 k.2.2.1 k.2.2.2.1 k.2.2.2.2 a_methodSign a_methodStart a_declared a_cellKind a_cellValue a_callReturn a_pendingLevel a_pendingPlace a_pendingMore a_frameKind a_frameMore a_localName := by
      intro z0 hz
      by_cases t15 : T (pos + 1) = 15
      · rw [if_pos t15] at hp
        refine br_t ((ls_w (w := 15) (by decide)).mpr t15) ?_
        unfold wpX_readCall
        dsimp only
        rw [show nI pos + 2 = nI (pos + 2) from nI_add pos 2]
        refine hx_wordAt ht (by omega) ?_
        by_cases t16 : T (pos + 2) = 16
        · rw [if_pos t16] at hp
          refine br_t ((ls_w (w := 16) (by decide)).mpr t16) (hx_emit (by omega) (nm_r (nI_add pos 3) ?_))
          exact hp _ ⟨hk, ls_lo_emK hlo b0.1, rfl, ht, rfl, rfl, rfl, rfl, rfl, rfl, rfl, rfl, rfl, rfl, rfl, rfl, (fun _ => rfl), hP, hF, hN⟩
        · rw [if_neg t16] at hp
          refine br_f (mt (ls_w (w := 16) (by decide)).mp t16) (hx_pend (by omega) (nm_r (nI_add pos 2) ?_))
          exact hp _ ⟨hk, hlo, rfl, ht, rfl, rfl, rfl, rfl, rfl, rfl, rfl, rfl, rfl, rfl, rfl, rfl, (fun _ => rfl), ls_StP_push 0 pos 1 hP, hF, hN⟩
      · rw [if_neg t15] at hp
        refine br_f (mt (ls_w (w := 15) (by decide)).mp t15) ?_
        have LD : ¬ (ls_starts pe = true ∧ ls_asg (T (pos + 1))) → wX_readName_109 post (nI (ls_addr L (T pos - 54))) f_tickLimit (nI n) f_outCount 0 (-1) f_lastKind f_lastValue (nI k.1) f_methodCount f_methodTokens f_cellCount f_activeCalls f_next f_ticksLeft (nI 4) (nI pos) (nI es) (nI pe.length) (nI fr.length) (nI L.length) a_tokenCode a_tokenValue a_outKind a_outValue k.2.1 k.2.2.1 k.2.2.2.1 k.2.2.2.2 a_methodSign a_methodStart a_declared a_cellKind a_cellValue a_callReturn a_pendingLevel a_pendingPlace a_pendingMore a_frameKind a_frameMore a_localName := by
          intro hno
          rw [if_neg hno] at hp
          refine hx_emit (by omega) (nm_r (nI_1 pos) ?_)
          exact hp _ ⟨hk, ls_lo_emK hlo b0.1, rfl, ht, rfl, rfl, rfl, rfl, rfl, rfl, rfl, rfl, rfl, rfl, rfl, rfl, (fun _ => rfl), hP, hF, hN⟩
        rcases hz with ⟨rfl, hz⟩ | ⟨rfl, hz⟩
        · exact br_t rfl (LD (by rw [hz]; simp))
        · refine br_f (by decide) ?_
          have N1 : ∀ w, w < 54 → T (pos + 1) ≠ w → ¬ nI (ls_xc (T (pos + 1))) = nI w := fun w hw h => mt (ls_w hw).mp h
          by_cases t21 : T (pos + 1) = 21
          · rw [if_pos ⟨hz, Or.inl t21⟩, if_pos t21] at hp
            refine br_t ((ls_w (w := 21) (by decide)).mpr t21) (br_f (by decide) (br_t ((ls_w (w := 21) (by decide)).mpr t21) ?_))
            unfold wX_readName_84
            rw [nI_1]
            refine hx_pend (by omega) (nm_r (nI_add pos 2) ?_)
            exact hp _ ⟨hk, hlo, rfl, ht, rfl, rfl, rfl, rfl, rfl, rfl, rfl, rfl, rfl, rfl, rfl, rfl, (fun _ => rfl), ls_StP_push 2 (pos + 1) _ hP, hF, hN⟩
          · refine br_f (N1 21 (by decide) t21) ?_
            by_cases l43 : T (pos + 1) < 43
            · exact br_t ((ls_wlt (w := 43) (by decide)).mpr l43) (br_t rfl (LD (by intro ⟨_, h⟩; unfold ls_asg at h; omega)))
            · refine br_f (mt (ls_wlt (w := 43) (by decide)).mp l43) ?_
              by_cases g53 : 53 < T (pos + 1)
              · exact br_t ((ls_wgt (w := 53) (by decide)).mpr g53) (br_t rfl (LD (by intro ⟨_, h⟩; unfold ls_asg at h; omega)))
              · refine br_f (mt (ls_wgt (w := 53) (by decide)).mp g53) (br_f (by decide) (br_f (N1 21 (by decide) t21) ?_))
                rw [if_pos ⟨hz, Or.inr ⟨by omega, by omega⟩⟩, if_neg t21] at hp
                refine hx_emit (by omega) ?_
                dsimp only
                unfold wX_readName_84
                rw [nI_1]
                refine hx_pend (by omega) (nm_r (nI_add pos 2) ?_)
                exact hp _ ⟨hk, ls_lo_emK hlo b0.1, rfl, ht, rfl, rfl, rfl, rfl, rfl, rfl, rfl, rfl, rfl, rfl, rfl, rfl, (fun _ => rfl), ls_StP_push 2 (pos + 1) _ hP, hF, hN⟩
    refine hx_topLevel hP (by omega) (fun e => ?_) (fun e r he => ?_)
    · subst e
      exact br_f (by decide) (A 1 (Or.inr ⟨rfl, rfl⟩))
    · have e14 := hlv e (by rw [he]; exact List.mem_cons_self ..)
      by_cases e2 : 2 < e.1
      · exact br_t (nI_lt (a := 2) e2 (by omega)) (A 0 (Or.inl ⟨rfl, by rw [he]; show decide (e.1 ≤ 2) = false; exact decide_eq_false (by omega)⟩))
      · exact br_f (nI_nlt (b := e.1) (a := 2) (by omega) (by decide)) (A 1 (Or.inr ⟨rfl, by rw [he]; show decide (e.1 ≤ 2) = true; exact decide_eq_true (by omega)⟩))
  rw [if_neg tn] at hp
  have NN : ¬ nI (ls_xc (T pos)) = 54 := mt (ls_w54 (ls_tok_le ht _)).mp tn
  by_cases t70 : T pos = 70
  · rw [if_pos t70] at hp
    have b6 := b01 (by omega)
    have p140 := PL (by omega)
    have hv : wpX_readLiteral post (f_tickLimit, nI n, f_outCount, 0, -1, f_lastKind, f_lastValue, nI k.1, f_methodCount, f_methodTokens, f_cellCount, f_activeCalls, f_next, f_ticksLeft, nI 4, nI pos, nI es, nI pe.length, nI fr.length, nI L.length, a_tokenCode, a_tokenValue, a_outKind, a_outValue, k.2.1, k.2.2.1, k.2.2.2.1, k.2.2.2.2, a_methodSign, a_methodStart, a_declared, a_cellKind, a_cellValue, a_callReturn, a_pendingLevel, a_pendingPlace, a_pendingMore, a_frameKind, a_frameMore, a_localName) 3 := by
      unfold wpX_readLiteral
      dsimp only
      refine hx_valueNum ht (by omega) (by omega) (by omega) (br_f (by decide) (hx_emit (by omega) (nm_r (nI_1 pos) ?_)))
      exact hp _ ⟨hk, ls_lo_emK hlo b0.1, rfl, ht, rfl, rfl, rfl, rfl, rfl, rfl, rfl, rfl, rfl, rfl, rfl, rfl, (fun _ => rfl), hP, hF, hN⟩
    rw [t70]
    repeat first | refine br_f (by decide) ?_ | refine br_t (by decide) ?_
    exact hv
  rw [if_neg t70] at hp
  by_cases t71 : T pos = 71
  · rw [if_pos t71] at hp
    have b6 := b01 (by omega)
    have p140 := PL (by omega)
    have hv : wpX_readLiteral post (f_tickLimit, nI n, f_outCount, 0, -1, f_lastKind, f_lastValue, nI k.1, f_methodCount, f_methodTokens, f_cellCount, f_activeCalls, f_next, f_ticksLeft, nI 4, nI pos, nI es, nI pe.length, nI fr.length, nI L.length, a_tokenCode, a_tokenValue, a_outKind, a_outValue, k.2.1, k.2.2.1, k.2.2.2.1, k.2.2.2.2, a_methodSign, a_methodStart, a_declared, a_cellKind, a_cellValue, a_callReturn, a_pendingLevel, a_pendingPlace, a_pendingMore, a_frameKind, a_frameMore, a_localName) 4 := by
      unfold wpX_readLiteral
      dsimp only
      refine hx_valueNum ht (by omega) (by omega) (by omega) (br_f (by decide) (hx_emit (by omega) (nm_r (nI_1 pos) ?_)))
      exact hp _ ⟨hk, ls_lo_emK hlo b0.1, rfl, ht, rfl, rfl, rfl, rfl, rfl, rfl, rfl, rfl, rfl, rfl, rfl, rfl, (fun _ => rfl), hP, hF, hN⟩
    rw [t71]
    repeat first | refine br_f (by decide) ?_ | refine br_t (by decide) ?_
    exact hv
  rw [if_neg t71] at hp
  by_cases t13 : T pos = 13
  · rw [if_pos t13] at hp
    have b6 := b01 (by omega)
    have p140 := PL (by omega)
    refine br_t ((ls_w (w := 13) (by decide)).mpr t13) ?_
    unfold wX_readOperand_123 wpX_readLiteral
    dsimp only
    refine hx_valueAny ht (by omega) fun r => (br_t rfl (hx_wordAt ht (by omega) (br_t ((ls_w (w := 13) (by decide)).mpr t13) ?_)))
    unfold wX_readLiteral_31 wX_readLiteral_32
    refine hx_emit (by omega) (nm_r (nI_1 pos) ?_)
    exact hp _ ⟨hk, ls_lo_emK hlo b0.1, rfl, ht, rfl, rfl, rfl, rfl, rfl, rfl, rfl, rfl, rfl, rfl, rfl, rfl, (fun _ => rfl), hP, hF, hN⟩
  rw [if_neg t13] at hp
  by_cases t14 : T pos = 14
  · rw [if_pos t14] at hp
    have b6 := b01 (by omega)
    have p140 := PL (by omega)
    refine br_f (N 13 (by decide) t13) (br_t ((ls_w (w := 14) (by decide)).mpr t14) ?_)
    unfold wX_readOperand_123 wpX_readLiteral
    dsimp only
    refine hx_valueAny ht (by omega) fun r => (br_t rfl (hx_wordAt ht (by omega) (br_f (N 13 (by decide) t13) ?_)))
    unfold wX_readLiteral_31 wX_readLiteral_32
    refine hx_emit (by omega) (nm_r (nI_1 pos) ?_)
    exact hp _ ⟨hk, ls_lo_emK hlo b0.1, rfl, ht, rfl, rfl, rfl, rfl, rfl, rfl, rfl, rfl, rfl, rfl, rfl, rfl, (fun _ => rfl), hP, hF, hN⟩
  rw [if_neg t14] at hp
  by_cases t15 : T pos = 15
  · rw [if_pos t15] at hp
    have p140 := PL (by omega)
    refine br_f (N 13 (by decide) t13) (br_f (N 14 (by decide) t14) (br_t ((ls_w (w := 15) (by decide)).mpr t15) ?_))
    unfold wpX_readOpen
    refine nm_r (nI_1 pos) ?_
    refine hx_wordAt ht (by omega) ?_
    refine ls_isKind (fun k6 => br_f (by decide) ?_) (fun k6 => br_t rfl ?_)
    · by_cases k5 : T (pos + 1) = 5
      · rw [if_neg (by omega), if_pos k5] at hp
        refine br_t ((ls_w (w := 5) (by decide)).mpr k5) (hx_fault1 (st := 4) (Or.inl rfl) (by omega) (by omega) ?_)
        exact hp _ (XKf (pos + 1) (by omega) pe _ _ _ _ (by omega))
      · rw [if_pos (by omega)] at hp
        have ex : ls_xc (T (pos + 1)) = T (pos + 1) := by unfold ls_xc; rw [if_pos (by omega)]
        refine br_f (mt (ls_w (w := 5) (by decide)).mp k5) ?_
        rw [ex]
        refine hx_pend (by omega) (nm_r (nI_1 (pos + 1)) ?_)
        by_cases t16 : T (pos + 2) = 16
        · rw [if_pos t16] at hp
          refine hx_expect (w := 16) ht (by omega) ((ls_xc_eq (by decide)).mpr t16) ?_
          exact hp _ ⟨hk, hlo, rfl, ht, rfl, rfl, rfl, rfl, rfl, rfl, rfl, rfl, rfl, rfl, rfl, rfl, (fun _ => rfl), ls_StP_push 13 pos _ hP, hF, hN⟩
        · rw [if_neg t16] at hp
          refine hx_expectG (w := 16) (st := 4) ht (by omega) (by decide) t16 (Or.inl rfl) (by omega) ?_
          exact hp _ (XKf (pos + 2) (by omega) ((13, pos, T (pos + 1)) :: pe) _ _ _ _ (by show pe.length + 1 ≤ 140; omega))
    · rw [if_neg (by omega), if_neg (by omega)] at hp
      refine hx_pend (by omega) ?_
      exact hp _ ⟨hk, hlo, rfl, ht, rfl, rfl, rfl, rfl, rfl, rfl, rfl, rfl, rfl, rfl, rfl, rfl, (fun _ => rfl), ls_StP_push 1 pos 0 hP, hF, hN⟩
  rw [if_neg t15] at hp
  refine br_f (N 13 (by decide) t13) (br_f (N 14 (by decide) t14) (br_f (N 15 (by decide) t15) ?_))
  by_cases tu : 22 ≤ T pos ∧ T pos ≤ 25
  · rw [if_pos tu] at hp
    have p140 := PL (by omega)
    have K : wX_readOperand_138 post f_tickLimit (nI n) f_outCount 0 (-1) f_lastKind f_lastValue (nI k.1) f_methodCount f_methodTokens f_cellCount f_activeCalls f_next f_ticksLeft (nI 4) (nI pos) (nI es) (nI pe.length) (nI fr.length) (nI L.length) a_tokenCode a_tokenValue a_outKind a_outValue k.2.1 k.2.2.1 k.2.2.2.1 k.2.2.2.2 a_methodSign a_methodStart a_declared a_cellKind a_cellValue a_callReturn a_pendingLevel a_pendingPlace a_pendingMore a_frameKind a_frameMore a_localName := by
      refine hx_pend (by omega) (nm_r (nI_1 pos) ?_)
      exact hp _ ⟨hk, hlo, rfl, ht, rfl, rfl, rfl, rfl, rfl, rfl, rfl, rfl, rfl, rfl, rfl, rfl, (fun _ => rfl), ls_StP_push 13 pos 0 hP, hF, hN⟩
    refine br_c (fun _ => K) (fun n22 => br_c (fun _ => K) (fun n23 => br_c (fun _ => K) (fun n24 => br_c (fun _ => K) (fun n25 => ?_))))
    exfalso
    have a22 : T pos ≠ 22 := fun e => n22 ((ls_w (w := 22) (by decide)).mpr e)
    have a23 : T pos ≠ 23 := fun e => n23 ((ls_w (w := 23) (by decide)).mpr e)
    have a24 : T pos ≠ 24 := fun e => n24 ((ls_w (w := 24) (by decide)).mpr e)
    have a25 : T pos ≠ 25 := fun e => n25 ((ls_w (w := 25) (by decide)).mpr e)
    omega
  · rw [if_neg tu] at hp
    have N55 : ¬ nI (ls_xc (T pos)) = 55 := fun e => by
      have := (nI_eq (b := 55) (by have := ls_xc_lt (T pos); omega) (by decide)).mp e
      revert this
      unfold ls_xc ls_nam at *
      (repeat' split) <;> omega
    have N56 : ¬ nI (ls_xc (T pos)) = 56 := fun e => by
      have := (nI_eq (b := 56) (by have := ls_xc_lt (T pos); omega) (by decide)).mp e
      revert this
      unfold ls_xc ls_nam at *
      (repeat' split) <;> omega
    refine br_f (N 22 (by decide) (by omega)) (br_f (N 23 (by decide) (by omega)) (br_f (N 24 (by decide) (by omega)) (br_f (N 25 (by decide) (by omega)) (br_f NN (br_f N55 (br_f N56 ?_))))))
    refine hx_fault1 (st := 4) (Or.inl rfl) b5 (by omega) ?_
    exact hp _ (XKf pos (by omega) pe _ _ _ _ (by omega))
end
