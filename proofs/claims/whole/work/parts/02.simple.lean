section
variable {f_tickLimit f_tokenCount f_outCount f_error f_errorPlace f_lastKind f_codeSize f_methodCount f_methodTokens f_cellCount f_activeCalls f_next f_ticksLeft f_state f_pos f_expressionStart f_pendingCount f_frameTop f_localCount : Int32}
variable {f_lastValue : Int64}
variable {a_tokenCode a_tokenValue a_outKind a_codeOp a_codeArg a_codeKind a_codePlace a_methodSign a_methodStart a_declared a_cellKind a_callReturn a_pendingLevel a_pendingPlace a_pendingMore a_frameKind a_frameMore a_localName : Nat → Int32}
variable {a_outValue a_cellValue : Nat → Int64}
set_option maxHeartbeats 200000 in
theorem hx_clear {post : SX → Prop} (hp : post (f_tickLimit, 0, 0, 0, -1, -1, 0, f_codeSize, 0, 0, f_cellCount, f_activeCalls, f_next, f_ticksLeft, f_state, f_pos, f_expressionStart, f_pendingCount, f_frameTop, f_localCount, a_tokenCode, a_tokenValue, a_outKind, a_outValue, a_codeOp, a_codeArg, a_codeKind, a_codePlace, a_methodSign, a_methodStart, (fun j => if j < 16 then -1 else a_declared j), a_cellKind, a_cellValue, a_callReturn, a_pendingLevel, a_pendingPlace, a_pendingMore, a_frameKind, a_frameMore, a_localName)) : wpX_clear post (f_tickLimit, f_tokenCount, f_outCount, f_error, f_errorPlace, f_lastKind, f_lastValue, f_codeSize, f_methodCount, f_methodTokens, f_cellCount, f_activeCalls, f_next, f_ticksLeft, f_state, f_pos, f_expressionStart, f_pendingCount, f_frameTop, f_localCount, a_tokenCode, a_tokenValue, a_outKind, a_outValue, a_codeOp, a_codeArg, a_codeKind, a_codePlace, a_methodSign, a_methodStart, a_declared, a_cellKind, a_cellValue, a_callReturn, a_pendingLevel, a_pendingPlace, a_pendingMore, a_frameKind, a_frameMore, a_localName) := by
  have H : ∀ d i : Nat, i + d = 16 → wX_clear_17 post f_tickLimit 0 f_outCount f_error f_errorPlace f_lastKind f_lastValue f_codeSize 0 0 f_cellCount f_activeCalls f_next f_ticksLeft f_state f_pos f_expressionStart f_pendingCount f_frameTop f_localCount (d + 1) (nI i) a_tokenCode a_tokenValue a_outKind a_outValue a_codeOp a_codeArg a_codeKind a_codePlace a_methodSign a_methodStart ((fun j => if j < i then -1 else a_declared j)) a_cellKind a_cellValue a_callReturn a_pendingLevel a_pendingPlace a_pendingMore a_frameKind a_frameMore a_localName := by
    intro d
    induction d with
    | zero =>
      intro i hi
      have e : i = 16 := by omega
      subst e
      exact br_t (by decide) hp
    | succ d ih =>
      intro i hi
      refine br_f (nI_ge (b := 16) (by omega) (by decide)) ⟨vp_in_nI (by omega) (by decide), nm_r ?_ (nm_r (nI_1 i) (ih (i + 1) (by omega)))⟩
      funext j
      rw [nI_clamp (by omega)]
      unfold upd
      by_cases h : j = i
      · simp [h]
      · by_cases h2 : j < i
        · simp [h, h2, show j < i + 1 by omega]
        · simp [h, h2, show ¬ j < i + 1 by omega]
  exact ⟨17, H 16 0 rfl⟩
end
section
variable {f_most f_n f_stored f_nm f_nEnv f_base f_ns f_no f_nc f_pc f_mode f_err f_errAt f_ticks f_calls f_outs f_resK f_part f_cnt f_full f_flag f_need : Int32}
variable {f_resV : Int64}
variable {a_tk a_tp a_mName a_mKind a_mCount a_mPar a_mAt a_vName a_vDecl a_vKind a_sk a_oKind a_oAt a_oArgs a_cKind a_cA a_cB a_outK : Nat → Int32}
variable {a_tv a_vVal a_sv a_outV : Nat → Int64}
set_option maxHeartbeats 200000 in
theorem hy_reset {post : SY → Prop} (hp : post (f_most, 0, 140, 0, f_nEnv, f_base, f_ns, f_no, f_nc, f_pc, f_mode, f_err, -1, f_ticks, f_calls, 0, -1, f_part, 0, f_cnt, f_full, f_flag, f_need, a_tk, a_tv, a_tp, a_mName, a_mKind, a_mCount, a_mPar, a_mAt, a_vName, (fun j => if 80 ≤ j ∧ j < 96 then -1 else a_vDecl j), a_vKind, a_vVal, a_sk, a_sv, a_oKind, a_oAt, a_oArgs, a_cKind, a_cA, a_cB, a_outK, a_outV)) : wpY_reset post (f_most, f_n, f_stored, f_nm, f_nEnv, f_base, f_ns, f_no, f_nc, f_pc, f_mode, f_err, f_errAt, f_ticks, f_calls, f_outs, f_resK, f_part, f_resV, f_cnt, f_full, f_flag, f_need, a_tk, a_tv, a_tp, a_mName, a_mKind, a_mCount, a_mPar, a_mAt, a_vName, a_vDecl, a_vKind, a_vVal, a_sk, a_sv, a_oKind, a_oAt, a_oArgs, a_cKind, a_cA, a_cB, a_outK, a_outV) := by
  have H : ∀ d i : Nat, i + d = 96 → 80 ≤ i → wY_reset_20 post f_most 0 140 0 f_nEnv f_base f_ns f_no f_nc f_pc f_mode f_err f_errAt f_ticks f_calls f_outs f_resK f_part f_resV f_cnt f_full f_flag f_need (d + 1) (nI i) a_tk a_tv a_tp a_mName a_mKind a_mCount a_mPar a_mAt a_vName ((fun j => if 80 ≤ j ∧ j < i then -1 else a_vDecl j)) a_vKind a_vVal a_sk a_sv a_oKind a_oAt a_oArgs a_cKind a_cA a_cB a_outK a_outV := by
    intro d
    induction d with
    | zero =>
      intro i hi h8
      have e : i = 96 := by omega
      subst e
      exact br_t (by decide) hp
    | succ d ih =>
      intro i hi h8
      refine br_f (nI_ge (b := 96) (by omega) (by decide)) ⟨vp_in_nI (by omega) (by decide), nm_r ?_ (nm_r (nI_1 i) (ih (i + 1) (by omega) (by omega)))⟩
      funext j
      rw [nI_clamp (by omega), ls_vm1]
      unfold upd
      show (if j = i then -1 else if 80 ≤ j ∧ j < i then -1 else a_vDecl j) = if 80 ≤ j ∧ j < i + 1 then -1 else a_vDecl j
      by_cases h : j = i
      · rw [if_pos h, if_pos (by omega)]
      · by_cases h2 : 80 ≤ j ∧ j < i
        · rw [if_neg h, if_pos h2, if_pos (by omega)]
        · rw [if_neg h, if_neg h2, if_neg (by omega)]
  have := H 16 80 rfl (by omega)
  refine ⟨17, ?_⟩
  have e : (fun j => if 80 ≤ j ∧ j < 80 then (-1 : Int32) else a_vDecl j) = a_vDecl := by
    funext j; rw [if_neg (by omega)]
  rw [e] at this
  exact this
end
