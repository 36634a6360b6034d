/-! The calls but run -/
section
variable {f_tickLimit f_tokenCount f_outCount f_error f_errorPlace f_lastKind f_codeSize f_methodCount f_methodTokens f_cellCount f_activeCalls f_next f_ticksLeft f_state f_pos f_expressionStart f_pendingCount f_frameTop f_localCount : Int32}
variable {f_lastValue : Int64}
variable {a_tokenCode a_tokenValue a_outKind a_codeOp a_codeArg a_codeKind a_codePlace a_methodSign a_methodStart a_declared a_cellKind a_callReturn a_pendingLevel a_pendingPlace a_pendingMore a_frameKind a_frameMore a_localName : Nat → Int32}
variable {a_outValue a_cellValue : Nat → Int64}
variable {f_most f_n f_stored f_nm f_nEnv f_base f_ns f_no f_nc f_pc f_mode f_err f_errAt f_ticks f_calls f_outs f_resK f_part f_cnt f_full f_flag f_need : Int32}
variable {f_resV : Int64}
variable {a_tk a_tp a_mName a_mKind a_mCount a_mPar a_mAt a_vName a_vDecl a_vKind a_sk a_oKind a_oAt a_oArgs a_cKind a_cA a_cB a_outK : Nat → Int32}
variable {a_tv a_vVal a_sv a_outV : Nat → Int64}
set_option maxHeartbeats 200000 in
theorem lc_name (I : ls_R (f_tickLimit, f_tokenCount, f_outCount, f_error, f_errorPlace, f_lastKind, f_lastValue, f_codeSize, f_methodCount, f_methodTokens, f_cellCount, f_activeCalls, f_next, f_ticksLeft, f_state, f_pos, f_expressionStart, f_pendingCount, f_frameTop, f_localCount, a_tokenCode, a_tokenValue, a_outKind, a_outValue, a_codeOp, a_codeArg, a_codeKind, a_codePlace, a_methodSign, a_methodStart, a_declared, a_cellKind, a_cellValue, a_callReturn, a_pendingLevel, a_pendingPlace, a_pendingMore, a_frameKind, a_frameMore, a_localName) (f_most, f_n, f_stored, f_nm, f_nEnv, f_base, f_ns, f_no, f_nc, f_pc, f_mode, f_err, f_errAt, f_ticks, f_calls, f_outs, f_resK, f_part, f_resV, f_cnt, f_full, f_flag, f_need, a_tk, a_tv, a_tp, a_mName, a_mKind, a_mCount, a_mPar, a_mAt, a_vName, a_vDecl, a_vKind, a_vVal, a_sk, a_sv, a_oKind, a_oAt, a_oArgs, a_cKind, a_cA, a_cB, a_outK, a_outV)) (v1 : Int32) : wpX_name (fun r u' => wpY_name (fun r' v' => r' = r ∧ ls_R u' v') (f_most, f_n, f_stored, f_nm, f_nEnv, f_base, f_ns, f_no, f_nc, f_pc, f_mode, f_err, f_errAt, f_ticks, f_calls, f_outs, f_resK, f_part, f_resV, f_cnt, f_full, f_flag, f_need, a_tk, a_tv, a_tp, a_mName, a_mKind, a_mCount, a_mPar, a_mAt, a_vName, a_vDecl, a_vKind, a_vVal, a_sk, a_sv, a_oKind, a_oAt, a_oArgs, a_cKind, a_cA, a_cB, a_outK, a_outV) v1) (f_tickLimit, f_tokenCount, f_outCount, f_error, f_errorPlace, f_lastKind, f_lastValue, f_codeSize, f_methodCount, f_methodTokens, f_cellCount, f_activeCalls, f_next, f_ticksLeft, f_state, f_pos, f_expressionStart, f_pendingCount, f_frameTop, f_localCount, a_tokenCode, a_tokenValue, a_outKind, a_outValue, a_codeOp, a_codeArg, a_codeKind, a_codePlace, a_methodSign, a_methodStart, a_declared, a_cellKind, a_cellValue, a_callReturn, a_pendingLevel, a_pendingPlace, a_pendingMore, a_frameKind, a_frameMore, a_localName) v1 := by
  by_cases h0 : v1 < 0
  · exact br_t h0 (br_t h0 ⟨rfl, I⟩)
  by_cases h1 : 16 ≤ v1
  · exact br_f h0 (br_t h1 (br_f h0 (br_t h1 ⟨rfl, I⟩)))
  obtain ⟨j, hj, rfl⟩ := nI_of h0
  have j16 : j < 16 := by
    apply Decidable.byContradiction
    intro q
    exact h1 (nI_le (a := 16) (by omega) hj)
  have xc : ls_xc (54 + j) = 54 := by unfold ls_xc; rw [if_neg (by omega), if_pos (by omega)]
  have ec : (54 : Int32) = nI (ls_xc (54 + j)) := by rw [xc]; rfl
  have ey : (54 : Int32) + nI j = nI (54 + j) := nI_add 54 j
  obtain ⟨n, e1, e2, n1, R⟩ := ls_R_tok (t := 54 + j) (x := nI j) (z := 0) I (by omega) (fun _ => by rw [Nat.add_sub_cancel_left]) (fun q => by omega)
  subst e1 e2
  refine br_f h0 (br_f h1 (hx_addToken ec n1 (fun q => ?_) (fun q => ?_)))
  · exact br_t rfl (br_f h0 (br_f h1 (hy_put ey n1 (by omega) (fun _ => br_t rfl ⟨rfl, I⟩) (fun g => by omega))))
  · exact br_f (by decide) (br_f h0 (br_f h1 (hy_put ey n1 (by omega) (fun g => by omega) (fun _ => br_f (by decide) ⟨rfl, R q⟩))))
set_option maxHeartbeats 200000 in
theorem lc_number (I : ls_R (f_tickLimit, f_tokenCount, f_outCount, f_error, f_errorPlace, f_lastKind, f_lastValue, f_codeSize, f_methodCount, f_methodTokens, f_cellCount, f_activeCalls, f_next, f_ticksLeft, f_state, f_pos, f_expressionStart, f_pendingCount, f_frameTop, f_localCount, a_tokenCode, a_tokenValue, a_outKind, a_outValue, a_codeOp, a_codeArg, a_codeKind, a_codePlace, a_methodSign, a_methodStart, a_declared, a_cellKind, a_cellValue, a_callReturn, a_pendingLevel, a_pendingPlace, a_pendingMore, a_frameKind, a_frameMore, a_localName) (f_most, f_n, f_stored, f_nm, f_nEnv, f_base, f_ns, f_no, f_nc, f_pc, f_mode, f_err, f_errAt, f_ticks, f_calls, f_outs, f_resK, f_part, f_resV, f_cnt, f_full, f_flag, f_need, a_tk, a_tv, a_tp, a_mName, a_mKind, a_mCount, a_mPar, a_mAt, a_vName, a_vDecl, a_vKind, a_vVal, a_sk, a_sv, a_oKind, a_oAt, a_oArgs, a_cKind, a_cA, a_cB, a_outK, a_outV)) (v1 b : Int32) : wpX_number (fun r u' => wpY_number (fun r' v' => r' = r ∧ ls_R u' v') (f_most, f_n, f_stored, f_nm, f_nEnv, f_base, f_ns, f_no, f_nc, f_pc, f_mode, f_err, f_errAt, f_ticks, f_calls, f_outs, f_resK, f_part, f_resV, f_cnt, f_full, f_flag, f_need, a_tk, a_tv, a_tp, a_mName, a_mKind, a_mCount, a_mPar, a_mAt, a_vName, a_vDecl, a_vKind, a_vVal, a_sk, a_sv, a_oKind, a_oAt, a_oArgs, a_cKind, a_cA, a_cB, a_outK, a_outV) v1 b) (f_tickLimit, f_tokenCount, f_outCount, f_error, f_errorPlace, f_lastKind, f_lastValue, f_codeSize, f_methodCount, f_methodTokens, f_cellCount, f_activeCalls, f_next, f_ticksLeft, f_state, f_pos, f_expressionStart, f_pendingCount, f_frameTop, f_localCount, a_tokenCode, a_tokenValue, a_outKind, a_outValue, a_codeOp, a_codeArg, a_codeKind, a_codePlace, a_methodSign, a_methodStart, a_declared, a_cellKind, a_cellValue, a_callReturn, a_pendingLevel, a_pendingPlace, a_pendingMore, a_frameKind, a_frameMore, a_localName) v1 b := by
  by_cases h : b = 0
  · obtain ⟨n, e1, e2, n1, R⟩ := ls_R_tok (t := 70) (x := v1) (z := v1.toInt64) I (by decide) (fun q => absurd q.2 (by decide)) (fun _ => rfl)
    subst e1 e2
    refine br_t h ?_
    unfold wX_number_12
    refine hx_addToken (cc := ls_xc 70) rfl n1 (fun q => ⟨rfl, br_t h ?_⟩) (fun q => ⟨rfl, br_t h ?_⟩)
    · unfold wY_number_12
      exact hy_put (t := 70) rfl n1 (by decide) (fun _ => ⟨rfl, rfl, I⟩) (fun g => by omega)
    · unfold wY_number_12
      exact hy_put (t := 70) rfl n1 (by decide) (fun g => by omega) (fun _ => ⟨rfl, rfl, R q⟩)
  · obtain ⟨n, e1, e2, n1, R⟩ := ls_R_tok (t := 71) (x := v1) (z := v1.toInt64) I (by decide) (fun q => absurd q.2 (by decide)) (fun _ => rfl)
    subst e1 e2
    refine br_f h ?_
    unfold wX_number_12
    refine hx_addToken (cc := ls_xc 71) rfl n1 (fun q => ⟨rfl, br_f h ?_⟩) (fun q => ⟨rfl, br_f h ?_⟩)
    · unfold wY_number_12
      exact hy_put (t := 71) rfl n1 (by decide) (fun _ => ⟨rfl, rfl, I⟩) (fun g => by omega)
    · unfold wY_number_12
      exact hy_put (t := 71) rfl n1 (by decide) (fun g => by omega) (fun _ => ⟨rfl, rfl, R q⟩)
set_option maxHeartbeats 200000 in
theorem lc_word (I : ls_R (f_tickLimit, f_tokenCount, f_outCount, f_error, f_errorPlace, f_lastKind, f_lastValue, f_codeSize, f_methodCount, f_methodTokens, f_cellCount, f_activeCalls, f_next, f_ticksLeft, f_state, f_pos, f_expressionStart, f_pendingCount, f_frameTop, f_localCount, a_tokenCode, a_tokenValue, a_outKind, a_outValue, a_codeOp, a_codeArg, a_codeKind, a_codePlace, a_methodSign, a_methodStart, a_declared, a_cellKind, a_cellValue, a_callReturn, a_pendingLevel, a_pendingPlace, a_pendingMore, a_frameKind, a_frameMore, a_localName) (f_most, f_n, f_stored, f_nm, f_nEnv, f_base, f_ns, f_no, f_nc, f_pc, f_mode, f_err, f_errAt, f_ticks, f_calls, f_outs, f_resK, f_part, f_resV, f_cnt, f_full, f_flag, f_need, a_tk, a_tv, a_tp, a_mName, a_mKind, a_mCount, a_mPar, a_mAt, a_vName, a_vDecl, a_vKind, a_vVal, a_sk, a_sv, a_oKind, a_oAt, a_oArgs, a_cKind, a_cA, a_cB, a_outK, a_outV)) (v1 : Int32) : wpX_word (fun r u' => wpY_word (fun r' v' => r' = r ∧ ls_R u' v') (f_most, f_n, f_stored, f_nm, f_nEnv, f_base, f_ns, f_no, f_nc, f_pc, f_mode, f_err, f_errAt, f_ticks, f_calls, f_outs, f_resK, f_part, f_resV, f_cnt, f_full, f_flag, f_need, a_tk, a_tv, a_tp, a_mName, a_mKind, a_mCount, a_mPar, a_mAt, a_vName, a_vDecl, a_vKind, a_vVal, a_sk, a_sv, a_oKind, a_oAt, a_oArgs, a_cKind, a_cA, a_cB, a_outK, a_outV) v1) (f_tickLimit, f_tokenCount, f_outCount, f_error, f_errorPlace, f_lastKind, f_lastValue, f_codeSize, f_methodCount, f_methodTokens, f_cellCount, f_activeCalls, f_next, f_ticksLeft, f_state, f_pos, f_expressionStart, f_pendingCount, f_frameTop, f_localCount, a_tokenCode, a_tokenValue, a_outKind, a_outValue, a_codeOp, a_codeArg, a_codeKind, a_codePlace, a_methodSign, a_methodStart, a_declared, a_cellKind, a_cellValue, a_callReturn, a_pendingLevel, a_pendingPlace, a_pendingMore, a_frameKind, a_frameMore, a_localName) v1 := by
  by_cases h0 : v1 < 0
  · exact br_t h0 (br_t h0 ⟨rfl, I⟩)
  obtain ⟨j, hj, rfl⟩ := nI_of h0
  by_cases j54 : j < 54
  · have hx : ¬ (53 : Int32) < nI j := fun h => by have := (nI_ltI (a := 53) (by decide) hj).mp h; omega
    have hy : ¬ (54 : Int32) ≤ nI j := nI_ge (b := 54) j54 (by decide)
    have xc : ls_xc j = j := by unfold ls_xc; rw [if_pos j54]
    have ec : nI j = nI (ls_xc j) := by rw [xc]
    obtain ⟨n, e1, e2, n1, R⟩ := ls_R_tok (t := j) (x := 0) (z := 0) I (by omega) (fun q => absurd q.1 (by omega)) (fun q => by omega)
    subst e1 e2
    refine br_f h0 (br_f hx (hx_addToken ec n1 (fun q => ?_) (fun q => ?_)))
    · exact br_t rfl (br_f h0 (br_f hy (hy_put rfl n1 (by omega) (fun _ => br_t rfl ⟨rfl, I⟩) (fun g => by omega))))
    · exact br_f (by decide) (br_f h0 (br_f hy (hy_put rfl n1 (by omega) (fun g => by omega) (fun _ => br_f (by decide) ⟨rfl, R q⟩))))
  · exact br_f h0 (br_t (nI_lt (a := 53) (by omega) hj) (br_f h0 (br_t (nI_le (a := 54) (by omega) hj) ⟨rfl, I⟩)))
set_option maxHeartbeats 200000 in
theorem lc_outputKind (I : ls_R (f_tickLimit, f_tokenCount, f_outCount, f_error, f_errorPlace, f_lastKind, f_lastValue, f_codeSize, f_methodCount, f_methodTokens, f_cellCount, f_activeCalls, f_next, f_ticksLeft, f_state, f_pos, f_expressionStart, f_pendingCount, f_frameTop, f_localCount, a_tokenCode, a_tokenValue, a_outKind, a_outValue, a_codeOp, a_codeArg, a_codeKind, a_codePlace, a_methodSign, a_methodStart, a_declared, a_cellKind, a_cellValue, a_callReturn, a_pendingLevel, a_pendingPlace, a_pendingMore, a_frameKind, a_frameMore, a_localName) (f_most, f_n, f_stored, f_nm, f_nEnv, f_base, f_ns, f_no, f_nc, f_pc, f_mode, f_err, f_errAt, f_ticks, f_calls, f_outs, f_resK, f_part, f_resV, f_cnt, f_full, f_flag, f_need, a_tk, a_tv, a_tp, a_mName, a_mKind, a_mCount, a_mPar, a_mAt, a_vName, a_vDecl, a_vKind, a_vVal, a_sk, a_sv, a_oKind, a_oAt, a_oArgs, a_cKind, a_cA, a_cB, a_outK, a_outV)) (v1 : Int32) : wpX_outputKind (fun r => wpY_outputKind (fun r' => r' = r ∧ ls_R (f_tickLimit, f_tokenCount, f_outCount, f_error, f_errorPlace, f_lastKind, f_lastValue, f_codeSize, f_methodCount, f_methodTokens, f_cellCount, f_activeCalls, f_next, f_ticksLeft, f_state, f_pos, f_expressionStart, f_pendingCount, f_frameTop, f_localCount, a_tokenCode, a_tokenValue, a_outKind, a_outValue, a_codeOp, a_codeArg, a_codeKind, a_codePlace, a_methodSign, a_methodStart, a_declared, a_cellKind, a_cellValue, a_callReturn, a_pendingLevel, a_pendingPlace, a_pendingMore, a_frameKind, a_frameMore, a_localName) (f_most, f_n, f_stored, f_nm, f_nEnv, f_base, f_ns, f_no, f_nc, f_pc, f_mode, f_err, f_errAt, f_ticks, f_calls, f_outs, f_resK, f_part, f_resV, f_cnt, f_full, f_flag, f_need, a_tk, a_tv, a_tp, a_mName, a_mKind, a_mCount, a_mPar, a_mAt, a_vName, a_vDecl, a_vKind, a_vVal, a_sk, a_sv, a_oKind, a_oAt, a_oArgs, a_cKind, a_cA, a_cB, a_outK, a_outV)) (f_most, f_n, f_stored, f_nm, f_nEnv, f_base, f_ns, f_no, f_nc, f_pc, f_mode, f_err, f_errAt, f_ticks, f_calls, f_outs, f_resK, f_part, f_resV, f_cnt, f_full, f_flag, f_need, a_tk, a_tv, a_tp, a_mName, a_mKind, a_mCount, a_mPar, a_mAt, a_vName, a_vDecl, a_vKind, a_vVal, a_sk, a_sv, a_oKind, a_oAt, a_oArgs, a_cKind, a_cA, a_cB, a_outK, a_outV) v1) (f_tickLimit, f_tokenCount, f_outCount, f_error, f_errorPlace, f_lastKind, f_lastValue, f_codeSize, f_methodCount, f_methodTokens, f_cellCount, f_activeCalls, f_next, f_ticksLeft, f_state, f_pos, f_expressionStart, f_pendingCount, f_frameTop, f_localCount, a_tokenCode, a_tokenValue, a_outKind, a_outValue, a_codeOp, a_codeArg, a_codeKind, a_codePlace, a_methodSign, a_methodStart, a_declared, a_cellKind, a_cellValue, a_callReturn, a_pendingLevel, a_pendingPlace, a_pendingMore, a_frameKind, a_frameMore, a_localName) v1 := by
  have I' := I
  obtain ⟨T, V, n, mt, oc, mc, mu, _, _, _, ⟨o1, o2, o3, o4⟩, _⟩ := I'
  by_cases h0 : v1 < 0
  · exact br_t h0 (br_t h0 ⟨rfl, I⟩)
  obtain ⟨j, hj, rfl⟩ := nI_of h0
  by_cases g : oc ≤ j
  · have a : f_outCount ≤ nI j := by rw [o2]; exact nI_le g hj
    have b : f_outs ≤ nI j := by rw [o3]; exact nI_le g hj
    exact br_f h0 (br_t a (br_f h0 (br_t b ⟨rfl, I⟩)))
  · have a : ¬ f_outCount ≤ nI j := by rw [o2]; exact nI_ge (by omega) (by omega)
    have b : ¬ f_outs ≤ nI j := by rw [o3]; exact nI_ge (by omega) (by omega)
    refine br_f h0 (br_f a ⟨vp_in_nI (by omega) (by decide), br_f h0 (br_f b ⟨vp_in_nI (by omega) (by decide), ?_, I⟩)⟩)
    rw [nI_clamp hj]
    exact ((o4 j (by omega)).1).symm
set_option maxHeartbeats 200000 in
theorem lc_outputValue (I : ls_R (f_tickLimit, f_tokenCount, f_outCount, f_error, f_errorPlace, f_lastKind, f_lastValue, f_codeSize, f_methodCount, f_methodTokens, f_cellCount, f_activeCalls, f_next, f_ticksLeft, f_state, f_pos, f_expressionStart, f_pendingCount, f_frameTop, f_localCount, a_tokenCode, a_tokenValue, a_outKind, a_outValue, a_codeOp, a_codeArg, a_codeKind, a_codePlace, a_methodSign, a_methodStart, a_declared, a_cellKind, a_cellValue, a_callReturn, a_pendingLevel, a_pendingPlace, a_pendingMore, a_frameKind, a_frameMore, a_localName) (f_most, f_n, f_stored, f_nm, f_nEnv, f_base, f_ns, f_no, f_nc, f_pc, f_mode, f_err, f_errAt, f_ticks, f_calls, f_outs, f_resK, f_part, f_resV, f_cnt, f_full, f_flag, f_need, a_tk, a_tv, a_tp, a_mName, a_mKind, a_mCount, a_mPar, a_mAt, a_vName, a_vDecl, a_vKind, a_vVal, a_sk, a_sv, a_oKind, a_oAt, a_oArgs, a_cKind, a_cA, a_cB, a_outK, a_outV)) (v1 : Int32) : wpX_outputValue (fun r => wpY_outputValue (fun r' => r' = r ∧ ls_R (f_tickLimit, f_tokenCount, f_outCount, f_error, f_errorPlace, f_lastKind, f_lastValue, f_codeSize, f_methodCount, f_methodTokens, f_cellCount, f_activeCalls, f_next, f_ticksLeft, f_state, f_pos, f_expressionStart, f_pendingCount, f_frameTop, f_localCount, a_tokenCode, a_tokenValue, a_outKind, a_outValue, a_codeOp, a_codeArg, a_codeKind, a_codePlace, a_methodSign, a_methodStart, a_declared, a_cellKind, a_cellValue, a_callReturn, a_pendingLevel, a_pendingPlace, a_pendingMore, a_frameKind, a_frameMore, a_localName) (f_most, f_n, f_stored, f_nm, f_nEnv, f_base, f_ns, f_no, f_nc, f_pc, f_mode, f_err, f_errAt, f_ticks, f_calls, f_outs, f_resK, f_part, f_resV, f_cnt, f_full, f_flag, f_need, a_tk, a_tv, a_tp, a_mName, a_mKind, a_mCount, a_mPar, a_mAt, a_vName, a_vDecl, a_vKind, a_vVal, a_sk, a_sv, a_oKind, a_oAt, a_oArgs, a_cKind, a_cA, a_cB, a_outK, a_outV)) (f_most, f_n, f_stored, f_nm, f_nEnv, f_base, f_ns, f_no, f_nc, f_pc, f_mode, f_err, f_errAt, f_ticks, f_calls, f_outs, f_resK, f_part, f_resV, f_cnt, f_full, f_flag, f_need, a_tk, a_tv, a_tp, a_mName, a_mKind, a_mCount, a_mPar, a_mAt, a_vName, a_vDecl, a_vKind, a_vVal, a_sk, a_sv, a_oKind, a_oAt, a_oArgs, a_cKind, a_cA, a_cB, a_outK, a_outV) v1) (f_tickLimit, f_tokenCount, f_outCount, f_error, f_errorPlace, f_lastKind, f_lastValue, f_codeSize, f_methodCount, f_methodTokens, f_cellCount, f_activeCalls, f_next, f_ticksLeft, f_state, f_pos, f_expressionStart, f_pendingCount, f_frameTop, f_localCount, a_tokenCode, a_tokenValue, a_outKind, a_outValue, a_codeOp, a_codeArg, a_codeKind, a_codePlace, a_methodSign, a_methodStart, a_declared, a_cellKind, a_cellValue, a_callReturn, a_pendingLevel, a_pendingPlace, a_pendingMore, a_frameKind, a_frameMore, a_localName) v1 := by
  have I' := I
  obtain ⟨T, V, n, mt, oc, mc, mu, _, _, _, ⟨o1, o2, o3, o4⟩, _⟩ := I'
  by_cases h0 : v1 < 0
  · exact br_t h0 (br_t h0 ⟨rfl, I⟩)
  obtain ⟨j, hj, rfl⟩ := nI_of h0
  by_cases g : oc ≤ j
  · have a : f_outCount ≤ nI j := by rw [o2]; exact nI_le g hj
    have b : f_outs ≤ nI j := by rw [o3]; exact nI_le g hj
    exact br_f h0 (br_t a (br_f h0 (br_t b ⟨rfl, I⟩)))
  · have a : ¬ f_outCount ≤ nI j := by rw [o2]; exact nI_ge (by omega) (by omega)
    have b : ¬ f_outs ≤ nI j := by rw [o3]; exact nI_ge (by omega) (by omega)
    refine br_f h0 (br_f a ⟨vp_in_nI (by omega) (by decide), br_f h0 (br_f b ⟨vp_in_nI (by omega) (by decide), ?_, I⟩)⟩)
    rw [nI_clamp hj]
    exact ((o4 j (by omega)).2).symm
set_option maxHeartbeats 200000 in
theorem lc_globalKind (I : ls_R (f_tickLimit, f_tokenCount, f_outCount, f_error, f_errorPlace, f_lastKind, f_lastValue, f_codeSize, f_methodCount, f_methodTokens, f_cellCount, f_activeCalls, f_next, f_ticksLeft, f_state, f_pos, f_expressionStart, f_pendingCount, f_frameTop, f_localCount, a_tokenCode, a_tokenValue, a_outKind, a_outValue, a_codeOp, a_codeArg, a_codeKind, a_codePlace, a_methodSign, a_methodStart, a_declared, a_cellKind, a_cellValue, a_callReturn, a_pendingLevel, a_pendingPlace, a_pendingMore, a_frameKind, a_frameMore, a_localName) (f_most, f_n, f_stored, f_nm, f_nEnv, f_base, f_ns, f_no, f_nc, f_pc, f_mode, f_err, f_errAt, f_ticks, f_calls, f_outs, f_resK, f_part, f_resV, f_cnt, f_full, f_flag, f_need, a_tk, a_tv, a_tp, a_mName, a_mKind, a_mCount, a_mPar, a_mAt, a_vName, a_vDecl, a_vKind, a_vVal, a_sk, a_sv, a_oKind, a_oAt, a_oArgs, a_cKind, a_cA, a_cB, a_outK, a_outV)) (v1 : Int32) : wpX_globalKind (fun r => wpY_globalKind (fun r' => r' = r ∧ ls_R (f_tickLimit, f_tokenCount, f_outCount, f_error, f_errorPlace, f_lastKind, f_lastValue, f_codeSize, f_methodCount, f_methodTokens, f_cellCount, f_activeCalls, f_next, f_ticksLeft, f_state, f_pos, f_expressionStart, f_pendingCount, f_frameTop, f_localCount, a_tokenCode, a_tokenValue, a_outKind, a_outValue, a_codeOp, a_codeArg, a_codeKind, a_codePlace, a_methodSign, a_methodStart, a_declared, a_cellKind, a_cellValue, a_callReturn, a_pendingLevel, a_pendingPlace, a_pendingMore, a_frameKind, a_frameMore, a_localName) (f_most, f_n, f_stored, f_nm, f_nEnv, f_base, f_ns, f_no, f_nc, f_pc, f_mode, f_err, f_errAt, f_ticks, f_calls, f_outs, f_resK, f_part, f_resV, f_cnt, f_full, f_flag, f_need, a_tk, a_tv, a_tp, a_mName, a_mKind, a_mCount, a_mPar, a_mAt, a_vName, a_vDecl, a_vKind, a_vVal, a_sk, a_sv, a_oKind, a_oAt, a_oArgs, a_cKind, a_cA, a_cB, a_outK, a_outV)) (f_most, f_n, f_stored, f_nm, f_nEnv, f_base, f_ns, f_no, f_nc, f_pc, f_mode, f_err, f_errAt, f_ticks, f_calls, f_outs, f_resK, f_part, f_resV, f_cnt, f_full, f_flag, f_need, a_tk, a_tv, a_tp, a_mName, a_mKind, a_mCount, a_mPar, a_mAt, a_vName, a_vDecl, a_vKind, a_vVal, a_sk, a_sv, a_oKind, a_oAt, a_oArgs, a_cKind, a_cA, a_cB, a_outK, a_outV) v1) (f_tickLimit, f_tokenCount, f_outCount, f_error, f_errorPlace, f_lastKind, f_lastValue, f_codeSize, f_methodCount, f_methodTokens, f_cellCount, f_activeCalls, f_next, f_ticksLeft, f_state, f_pos, f_expressionStart, f_pendingCount, f_frameTop, f_localCount, a_tokenCode, a_tokenValue, a_outKind, a_outValue, a_codeOp, a_codeArg, a_codeKind, a_codePlace, a_methodSign, a_methodStart, a_declared, a_cellKind, a_cellValue, a_callReturn, a_pendingLevel, a_pendingPlace, a_pendingMore, a_frameKind, a_frameMore, a_localName) v1 := by
  have I' := I
  obtain ⟨T, V, n, mt, oc, mc, mu, _, _, _, _, _, _, hG, _⟩ := I'
  by_cases h0 : v1 < 0
  · exact br_t h0 (br_t rfl (br_t h0 ⟨rfl, I⟩))
  obtain ⟨j, hj, rfl⟩ := nI_of h0
  by_cases g : j < 16
  · have a : ¬ (16 : Int32) ≤ nI j := nI_ge (b := 16) g (by decide)
    have b : ¬ (15 : Int32) < nI j := fun h => by have := (nI_ltI (a := 15) (by decide) hj).mp h; omega
    have E : (80 : Int32) + nI j = nI (80 + j) := nI_add 80 j
    have E2 : ((80 : Int32) + nI j).toNatClampNeg = 80 + j := by rw [E]; exact nI_clamp (by omega)
    have iy : vp_in ((80 : Int32) + nI j) 96 := by rw [E]; exact vp_in_nI (by omega) (by decide)
    rcases hG j g with ⟨d, k, d5, k4, x1, x2, y1, y2, y3, _, _⟩ | ⟨x1, y1⟩
    · have dn : ¬ a_declared (nI j).toNatClampNeg = -1 := by
        rw [nI_clamp hj, x1]
        intro q
        exact nI_pos (n := d) (by omega) (by rw [q]; decide)
      have y0 : 0 ≤ a_vDecl ((80 : Int32) + nI j).toNatClampNeg := by
        rw [E2, y1]
        exact nI_le (a := 0) (by omega) (by omega)
      refine br_f h0 (br_f a ⟨vp_in_nI (by omega) (by decide), br_f dn (br_f (by decide) ⟨vp_in_nI (by omega) (by decide), ?_⟩)⟩)
      by_cases q : d = 5
      · have qx : a_declared (nI j).toNatClampNeg = 5 := by rw [nI_clamp hj, x1, q]; rfl
        have qy : a_vDecl ((80 : Int32) + nI j).toNatClampNeg = 5 := by rw [E2, y1, q]; rfl
        refine br_t qx ⟨vp_in_nI (by omega) (by decide), nm_e (br_f h0 (br_f b ⟨iy, br_t y0 ⟨iy, iy, br_t qy ⟨?_, I⟩⟩⟩))⟩
        rw [E2, nI_clamp hj, y2, x2, Int32.add_zero]
      · have qx : ¬ a_declared (nI j).toNatClampNeg = 5 := by
          rw [nI_clamp hj, x1]
          exact fun h => q ((nI_eq (b := 5) (by omega) (by decide)).mp h)
        have qy : ¬ a_vDecl ((80 : Int32) + nI j).toNatClampNeg = 5 := by
          rw [E2, y1]
          exact fun h => q ((nI_eq (b := 5) (by omega) (by decide)).mp h)
        refine br_f qx ⟨vp_in_nI (by omega) (by decide), nm_e (br_f h0 (br_f b ⟨iy, br_t y0 ⟨iy, iy, br_f qy ⟨?_, I⟩⟩⟩))⟩
        rw [E2, nI_clamp hj, y2, x2]
    · have dn : a_declared (nI j).toNatClampNeg = -1 := by rw [nI_clamp hj, x1]
      have y0 : ¬ 0 ≤ a_vDecl ((80 : Int32) + nI j).toNatClampNeg := by
        rw [E2, y1]
        decide
      exact br_f h0 (br_f a ⟨vp_in_nI (by omega) (by decide), br_t dn (br_t rfl (br_f h0 (br_f b ⟨iy, br_f y0 ⟨rfl, I⟩⟩)))⟩)
  · exact br_f h0 (br_t (nI_le (a := 16) (by omega) hj) (br_t rfl (br_f h0 (br_t (nI_lt (a := 15) (by omega) hj) ⟨rfl, I⟩))))
set_option maxHeartbeats 200000 in
theorem lc_globalValue (I : ls_R (f_tickLimit, f_tokenCount, f_outCount, f_error, f_errorPlace, f_lastKind, f_lastValue, f_codeSize, f_methodCount, f_methodTokens, f_cellCount, f_activeCalls, f_next, f_ticksLeft, f_state, f_pos, f_expressionStart, f_pendingCount, f_frameTop, f_localCount, a_tokenCode, a_tokenValue, a_outKind, a_outValue, a_codeOp, a_codeArg, a_codeKind, a_codePlace, a_methodSign, a_methodStart, a_declared, a_cellKind, a_cellValue, a_callReturn, a_pendingLevel, a_pendingPlace, a_pendingMore, a_frameKind, a_frameMore, a_localName) (f_most, f_n, f_stored, f_nm, f_nEnv, f_base, f_ns, f_no, f_nc, f_pc, f_mode, f_err, f_errAt, f_ticks, f_calls, f_outs, f_resK, f_part, f_resV, f_cnt, f_full, f_flag, f_need, a_tk, a_tv, a_tp, a_mName, a_mKind, a_mCount, a_mPar, a_mAt, a_vName, a_vDecl, a_vKind, a_vVal, a_sk, a_sv, a_oKind, a_oAt, a_oArgs, a_cKind, a_cA, a_cB, a_outK, a_outV)) (v1 : Int32) : wpX_globalValue (fun r => wpY_globalValue (fun r' => r' = r ∧ ls_R (f_tickLimit, f_tokenCount, f_outCount, f_error, f_errorPlace, f_lastKind, f_lastValue, f_codeSize, f_methodCount, f_methodTokens, f_cellCount, f_activeCalls, f_next, f_ticksLeft, f_state, f_pos, f_expressionStart, f_pendingCount, f_frameTop, f_localCount, a_tokenCode, a_tokenValue, a_outKind, a_outValue, a_codeOp, a_codeArg, a_codeKind, a_codePlace, a_methodSign, a_methodStart, a_declared, a_cellKind, a_cellValue, a_callReturn, a_pendingLevel, a_pendingPlace, a_pendingMore, a_frameKind, a_frameMore, a_localName) (f_most, f_n, f_stored, f_nm, f_nEnv, f_base, f_ns, f_no, f_nc, f_pc, f_mode, f_err, f_errAt, f_ticks, f_calls, f_outs, f_resK, f_part, f_resV, f_cnt, f_full, f_flag, f_need, a_tk, a_tv, a_tp, a_mName, a_mKind, a_mCount, a_mPar, a_mAt, a_vName, a_vDecl, a_vKind, a_vVal, a_sk, a_sv, a_oKind, a_oAt, a_oArgs, a_cKind, a_cA, a_cB, a_outK, a_outV)) (f_most, f_n, f_stored, f_nm, f_nEnv, f_base, f_ns, f_no, f_nc, f_pc, f_mode, f_err, f_errAt, f_ticks, f_calls, f_outs, f_resK, f_part, f_resV, f_cnt, f_full, f_flag, f_need, a_tk, a_tv, a_tp, a_mName, a_mKind, a_mCount, a_mPar, a_mAt, a_vName, a_vDecl, a_vKind, a_vVal, a_sk, a_sv, a_oKind, a_oAt, a_oArgs, a_cKind, a_cA, a_cB, a_outK, a_outV) v1) (f_tickLimit, f_tokenCount, f_outCount, f_error, f_errorPlace, f_lastKind, f_lastValue, f_codeSize, f_methodCount, f_methodTokens, f_cellCount, f_activeCalls, f_next, f_ticksLeft, f_state, f_pos, f_expressionStart, f_pendingCount, f_frameTop, f_localCount, a_tokenCode, a_tokenValue, a_outKind, a_outValue, a_codeOp, a_codeArg, a_codeKind, a_codePlace, a_methodSign, a_methodStart, a_declared, a_cellKind, a_cellValue, a_callReturn, a_pendingLevel, a_pendingPlace, a_pendingMore, a_frameKind, a_frameMore, a_localName) v1 := by
  have I' := I
  obtain ⟨T, V, n, mt, oc, mc, mu, _, _, _, _, _, _, hG, _⟩ := I'
  by_cases h0 : v1 < 0
  · exact br_t h0 (br_t rfl (br_t h0 ⟨rfl, I⟩))
  obtain ⟨j, hj, rfl⟩ := nI_of h0
  by_cases g : j < 16
  · have a : ¬ (16 : Int32) ≤ nI j := nI_ge (b := 16) g (by decide)
    have b : ¬ (15 : Int32) < nI j := fun h => by have := (nI_ltI (a := 15) (by decide) hj).mp h; omega
    have E : (80 : Int32) + nI j = nI (80 + j) := nI_add 80 j
    have E2 : ((80 : Int32) + nI j).toNatClampNeg = 80 + j := by rw [E]; exact nI_clamp (by omega)
    have iy : vp_in ((80 : Int32) + nI j) 96 := by rw [E]; exact vp_in_nI (by omega) (by decide)
    rcases hG j g with ⟨d, k, d5, k4, x1, x2, y1, y2, y3, _, _⟩ | ⟨x1, y1⟩
    · have dn : ¬ a_declared (nI j).toNatClampNeg = -1 := by
        rw [nI_clamp hj, x1]
        intro q
        exact nI_pos (n := d) (by omega) (by rw [q]; decide)
      have y0 : 0 ≤ a_vDecl ((80 : Int32) + nI j).toNatClampNeg := by
        rw [E2, y1]
        exact nI_le (a := 0) (by omega) (by omega)
      refine br_f h0 (br_f a ⟨vp_in_nI (by omega) (by decide), br_f dn (br_f (by decide) ⟨vp_in_nI (by omega) (by decide), br_f h0 (br_f b ⟨iy, br_t y0 ⟨iy, ?_, I⟩⟩)⟩)⟩)
      rw [E2, nI_clamp hj, y3]
    · have dn : a_declared (nI j).toNatClampNeg = -1 := by rw [nI_clamp hj, x1]
      have y0 : ¬ 0 ≤ a_vDecl ((80 : Int32) + nI j).toNatClampNeg := by
        rw [E2, y1]
        decide
      exact br_f h0 (br_f a ⟨vp_in_nI (by omega) (by decide), br_t dn (br_t rfl (br_f h0 (br_f b ⟨iy, br_f y0 ⟨rfl, I⟩⟩)))⟩)
  · exact br_f h0 (br_t (nI_le (a := 16) (by omega) hj) (br_t rfl (br_f h0 (br_t (nI_lt (a := 15) (by omega) hj) ⟨rfl, I⟩))))
set_option maxHeartbeats 200000 in
theorem lc_reset (I : ls_R (f_tickLimit, f_tokenCount, f_outCount, f_error, f_errorPlace, f_lastKind, f_lastValue, f_codeSize, f_methodCount, f_methodTokens, f_cellCount, f_activeCalls, f_next, f_ticksLeft, f_state, f_pos, f_expressionStart, f_pendingCount, f_frameTop, f_localCount, a_tokenCode, a_tokenValue, a_outKind, a_outValue, a_codeOp, a_codeArg, a_codeKind, a_codePlace, a_methodSign, a_methodStart, a_declared, a_cellKind, a_cellValue, a_callReturn, a_pendingLevel, a_pendingPlace, a_pendingMore, a_frameKind, a_frameMore, a_localName) (f_most, f_n, f_stored, f_nm, f_nEnv, f_base, f_ns, f_no, f_nc, f_pc, f_mode, f_err, f_errAt, f_ticks, f_calls, f_outs, f_resK, f_part, f_resV, f_cnt, f_full, f_flag, f_need, a_tk, a_tv, a_tp, a_mName, a_mKind, a_mCount, a_mPar, a_mAt, a_vName, a_vDecl, a_vKind, a_vVal, a_sk, a_sv, a_oKind, a_oAt, a_oArgs, a_cKind, a_cA, a_cB, a_outK, a_outV)) : wpX_reset (fun u' => wpY_reset (fun v' => ls_R u' v') (f_most, f_n, f_stored, f_nm, f_nEnv, f_base, f_ns, f_no, f_nc, f_pc, f_mode, f_err, f_errAt, f_ticks, f_calls, f_outs, f_resK, f_part, f_resV, f_cnt, f_full, f_flag, f_need, a_tk, a_tv, a_tp, a_mName, a_mKind, a_mCount, a_mPar, a_mAt, a_vName, a_vDecl, a_vKind, a_vVal, a_sk, a_sv, a_oKind, a_oAt, a_oArgs, a_cKind, a_cA, a_cB, a_outK, a_outV)) (f_tickLimit, f_tokenCount, f_outCount, f_error, f_errorPlace, f_lastKind, f_lastValue, f_codeSize, f_methodCount, f_methodTokens, f_cellCount, f_activeCalls, f_next, f_ticksLeft, f_state, f_pos, f_expressionStart, f_pendingCount, f_frameTop, f_localCount, a_tokenCode, a_tokenValue, a_outKind, a_outValue, a_codeOp, a_codeArg, a_codeKind, a_codePlace, a_methodSign, a_methodStart, a_declared, a_cellKind, a_cellValue, a_callReturn, a_pendingLevel, a_pendingPlace, a_pendingMore, a_frameKind, a_frameMore, a_localName) := by
  obtain ⟨T, V, n, mt, oc, mc, mu, _, ⟨l1, l2, l3⟩, _⟩ := I
  subst l2 l3
  unfold wpX_reset
  dsimp only
  refine hx_clear ?_
  dsimp only
  refine hy_reset ?_
  exact ls_R_clear l1
set_option maxHeartbeats 200000 in
theorem lc_sum (I : ls_R (f_tickLimit, f_tokenCount, f_outCount, f_error, f_errorPlace, f_lastKind, f_lastValue, f_codeSize, f_methodCount, f_methodTokens, f_cellCount, f_activeCalls, f_next, f_ticksLeft, f_state, f_pos, f_expressionStart, f_pendingCount, f_frameTop, f_localCount, a_tokenCode, a_tokenValue, a_outKind, a_outValue, a_codeOp, a_codeArg, a_codeKind, a_codePlace, a_methodSign, a_methodStart, a_declared, a_cellKind, a_cellValue, a_callReturn, a_pendingLevel, a_pendingPlace, a_pendingMore, a_frameKind, a_frameMore, a_localName) (f_most, f_n, f_stored, f_nm, f_nEnv, f_base, f_ns, f_no, f_nc, f_pc, f_mode, f_err, f_errAt, f_ticks, f_calls, f_outs, f_resK, f_part, f_resV, f_cnt, f_full, f_flag, f_need, a_tk, a_tv, a_tp, a_mName, a_mKind, a_mCount, a_mPar, a_mAt, a_vName, a_vDecl, a_vKind, a_vVal, a_sk, a_sv, a_oKind, a_oAt, a_oArgs, a_cKind, a_cA, a_cB, a_outK, a_outV)) : f_outs = f_outCount ∧ f_errAt = f_errorPlace ∧ f_resK = f_lastKind ∧ f_resV = f_lastValue ∧ f_nm = f_methodCount := by
  obtain ⟨T, V, n, mt, oc, mc, mu, _, _, e, ⟨o1, o2, o3, o4⟩, ⟨r1, r2⟩, ⟨m1, m2, _⟩, _⟩ := I
  exact ⟨o3.trans o2.symm, e.symm, r1.symm, r2.symm, m2.trans m1.symm⟩
end
set_option maxHeartbeats 200000 in
theorem lc_init (k0 : Int32) : wpX_init (fun u => wpY_init (fun v => ls_R u v) k0) k0 := by
  by_cases h20 : 20 ≤ k0
  · by_cases h400 : k0 ≤ 400
    · have h0 : ¬ k0 < 0 := fun q => by
        have a := Int32.le_iff_toInt_le.mp h20
        have b := Int32.lt_iff_toInt_lt.mp q
        have c : (20 : Int32).toInt = 20 := by decide
        have d : (0 : Int32).toInt = 0 := by decide
        omega
      obtain ⟨mt, hm, rfl⟩ := nI_of2 (M := 400) (n := 400) (by decide) h0 h400
      exact br_t h20 (br_t h400 (hx_clear (br_t h20 (br_t h400 (hy_reset (ls_R_clear hm))))))
    · exact br_t h20 (br_f h400 (hx_clear (br_t h20 (br_f h400 (hy_reset (ls_R_clear (mt := 400) (by decide)))))))
  · exact br_f h20 (br_t (by decide) (hx_clear (br_f h20 (hy_reset (ls_R_clear (mt := 20) (by decide))))))
