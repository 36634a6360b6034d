/-! A run -/
set_option maxHeartbeats 200000 in
theorem ls_yv_le {T : Nat → Nat} {n : Nat} : ∀ (f i : Nat) (y : LsY) (e : Nat), i + f ≤ n → ls_yv T n f i y = some e → e ≤ n
  | 0, i, y, e, _, h => by
    unfold ls_yv at h
    split at h
    · cases h
    · injection h with h
      omega
  | f + 1, i, y, e, hi, h => by
    unfold ls_yv at h
    split at h
    · injection h with h
      omega
    · exact ls_yv_le f (i + 1) _ e (by omega) h
section
variable {T : Nat → Nat} {V : Nat → Int32} {n : Nat} {k1 k2 k3 k4 : Nat → Int32} {fl ct fu : Nat}
set_option maxHeartbeats 200000 in
theorem lr_inv : ls_Inv T n (0, 0, 0, [], [], [], (480, k1, k2, k3, k4)) := by
  refine ⟨by omega, by simp, by simp, rfl, by show 480 ≤ 480; decide, ls_peok_nil, ?_⟩
  rw [if_neg (by omega)]
  exact ⟨by show 480 + 0 ≤ 480 + 2 * 0; decide, by simp, rfl, trivial, fun h => by omega⟩
set_option maxHeartbeats 200000 in
theorem lr_mu (hn : n ≤ 140) : ls_mu n (0, 0, 0, [], [], [], (480, k1, k2, k3, k4)) ≤ 1120 := by
  rw [ls_mu_def, ls_sw_0, ls_fw_0, List.length_nil]
  omega
set_option maxHeartbeats 200000 in
theorem lr_al : ls_al T n (0, 0, 0, [], [], [], (480, k1, k2, k3, k4)) (0, [], [], fl, ct, fu, []) := by
  unfold ls_al
  dsimp only
  rw [if_neg (by decide), if_neg (by decide), if_neg (by decide)]
  exact ⟨trivial, rfl, rfl, by decide, rfl, rfl, fun q => by omega⟩
set_option maxHeartbeats 200000 in
theorem lr_yv (hT : ls_txt T n) : match ls_run T V 1120 (0, 0, 0, [], [], [], (480, k1, k2, k3, k4)) with
    | .ok _ => ∀ fl ct fu, ls_yv T n n 0 (0, [], [], fl, ct, fu, []) = none
    | .error e => ∀ fl ct fu, ls_yv T n n 0 (0, [], [], fl, ct, fu, []) = some e := by
  have A := fun fl ct fu => ls_agree (V := V) hT 1120 (0, 0, 0, [], [], [], (480, k1, k2, k3, k4)) (0, [], [], fl, ct, fu, []) (lr_mu hT.1) lr_inv (by show 0 ≤ 6; decide) lr_al
  cases hr : ls_run T V 1120 (0, 0, 0, [], [], [], (480, k1, k2, k3, k4)) with
  | error e =>
    intro fl ct fu
    have := A fl ct fu
    rw [hr] at this
    exact this
  | ok c =>
    intro fl ct fu
    have := A fl ct fu
    rw [hr] at this
    exact this
set_option maxHeartbeats 200000 in
theorem lr_tl {d : LsC} (hT : ls_txt T n) (hr : ls_run T V 1120 (0, 0, 0, [], [], [], (480, k1, k2, k3, k4)) = .ok d) : ∃ C N, N ≤ 1120 ∧ C 0 = (0, 0, 0, [], [], [], (480, k1, k2, k3, k4)) ∧ ls_tl T V n C N (ls_em (ls_kk7 d) 0 0 0 (nI d.2.1)) :=
  ls_tl_mk hT 1120 (0, 0, 0, [], [], [], (480, k1, k2, k3, k4)) (0, [], [], 0, 0, 0, []) (Nat.le_refl _) (lr_mu hT.1) (by show 0 ≤ 6; decide) (fun q => absurd q (by show ¬ (0 = 6); decide)) lr_inv ⟨trivial, trivial⟩ (ls_H_n ⟨by decide, by decide⟩) lr_al hr rfl
set_option maxHeartbeats 200000 in
/-- the text stands in both -/
theorem lr_UA {C : Nat → LsC} {N : Nat} {kF : LsK} {tk tp : Nat → Int32} {tv : Nat → Int64} (hT : ls_txt T n) (tl : ls_tl T V n C N kF) (C0 : C 0 = (0, 0, 0, [], [], [], (480, k1, k2, k3, k4))) (hk : ∀ p, p < n → tk p = nI (T p) ∧ (70 ≤ T p → tv p = (V p).toInt64)) : ls_UA kF.2.1 kF.2.2.1 kF.2.2.2.1 kF.2.2.2.2 tk tv tp (T, V, C, kF, n, N, 0, 0, 0, N) := by
  have hI := (tl.2.2.2.2 N (Nat.le_refl _)).2.1
  have h6 := tl.2.2.1.1
  have B : (C N).2.1 ≤ n ∧ (ls_kk7 (C N)).1 ≤ 480 + 2 * (C N).2.1 := by
    generalize C N = c at hI h6
    obtain ⟨st, pos, es, pe, fr, L, k⟩ := c
    have h6' : st = 6 := h6
    obtain ⟨i1, _, _, _, _, _, i7⟩ := hI
    rw [if_neg (by omega)] at i7
    exact ⟨i1, by have := i7.1; show k.1 ≤ 480 + 2 * pos; omega⟩
  have n140 := hT.1
  refine ⟨tl, ⟨by rw [C0], by rw [C0]⟩, ⟨Nat.zero_le _, Nat.le_refl _⟩, fun i _ i2 => ⟨Nat.zero_le _, by omega, rfl, rfl, rfl, rfl⟩, ⟨by omega, fun i _ i2 => ⟨(hk i (by omega)).1, by have := hT.2.1 i (by omega); omega⟩⟩, fun p _ p2 => ⟨fun q => (hk p (by omega)).2 q, ?_⟩⟩
  unfold ls_pl
  rw [if_pos (by omega)]
  rfl
end
section
variable {f_tickLimit f_tokenCount f_outCount f_error f_errorPlace f_lastKind f_codeSize f_methodCount f_methodTokens f_cellCount f_activeCalls f_next f_ticksLeft f_state f_pos f_expressionStart f_pendingCount f_frameTop f_localCount : Int32}
variable {f_lastValue : Int64}
variable {a_tokenCode a_tokenValue a_outKind a_codeOp a_codeArg a_codeKind a_codePlace a_methodSign a_methodStart a_declared a_cellKind a_callReturn a_pendingLevel a_pendingPlace a_pendingMore a_frameKind a_frameMore a_localName : Nat → Int32}
variable {a_outValue a_cellValue : Nat → Int64}
set_option maxHeartbeats 200000 in
theorem hx_execute {post : SX → Prop} {f : Nat} (h : ls_XH post f 0 (f_tickLimit, f_tokenCount, f_outCount, 0, f_errorPlace, f_lastKind, f_lastValue, f_codeSize, f_methodCount, f_methodTokens, 88, 0, nI 480, f_tickLimit, f_state, f_pos, f_expressionStart, f_pendingCount, f_frameTop, f_localCount, a_tokenCode, a_tokenValue, a_outKind, a_outValue, a_codeOp, a_codeArg, a_codeKind, a_codePlace, a_methodSign, a_methodStart, a_declared, a_cellKind, a_cellValue, a_callReturn, a_pendingLevel, a_pendingPlace, a_pendingMore, a_frameKind, a_frameMore, a_localName)) : wpX_execute post (f_tickLimit, f_tokenCount, f_outCount, 0, f_errorPlace, f_lastKind, f_lastValue, f_codeSize, f_methodCount, f_methodTokens, f_cellCount, f_activeCalls, f_next, f_ticksLeft, f_state, f_pos, f_expressionStart, f_pendingCount, f_frameTop, f_localCount, a_tokenCode, a_tokenValue, a_outKind, a_outValue, a_codeOp, a_codeArg, a_codeKind, a_codePlace, a_methodSign, a_methodStart, a_declared, a_cellKind, a_cellValue, a_callReturn, a_pendingLevel, a_pendingPlace, a_pendingMore, a_frameKind, a_frameMore, a_localName) := by
  have h' : wX_execute_46 post f (ls_gn 0 (nI 480) a_codeOp) 0 f_tickLimit f_tokenCount f_outCount 0 f_errorPlace f_lastKind f_lastValue f_codeSize f_methodCount f_methodTokens 88 0 480 f_tickLimit f_state f_pos f_expressionStart f_pendingCount f_frameTop f_localCount a_tokenCode a_tokenValue a_outKind a_outValue a_codeOp a_codeArg a_codeKind a_codePlace a_methodSign a_methodStart a_declared a_cellKind a_cellValue a_callReturn a_pendingLevel a_pendingPlace a_pendingMore a_frameKind a_frameMore a_localName := h
  by_cases q : a_codeOp 480 = 0
  · rw [ls_gn_0 (by decide) q] at h'
    exact br_t q ⟨f, h'⟩
  · rw [ls_gn_1 (by decide) q] at h'
    exact br_f q ⟨f, h'⟩
end
section
variable {f_most f_n f_stored f_nm f_nEnv f_base f_ns f_no f_nc f_pc f_mode f_err f_errAt f_ticks f_calls f_outs f_resK f_part f_cnt f_full f_flag f_need : Int32}
variable {f_resV : Int64}
variable {a_tk a_tp a_mName a_mKind a_mCount a_mPar a_mAt a_vName a_vDecl a_vKind a_sk a_oKind a_oAt a_oArgs a_cKind a_cA a_cB a_outK : Nat → Int32}
variable {a_tv a_vVal a_sv a_outV : Nat → Int64}
set_option maxHeartbeats 200000 in
theorem hy_execute {post : SY → Prop} {f : Nat} (h : ls_YH post f 0 (f_most, f_n, f_stored, f_nm, 0, 0, 0, 0, 0, 0, 0, f_err, f_errAt, 0, 0, f_outs, f_resK, 0, f_resV, f_cnt, f_full, f_flag, f_need, a_tk, a_tv, a_tp, a_mName, a_mKind, a_mCount, a_mPar, a_mAt, a_vName, a_vDecl, a_vKind, a_vVal, a_sk, a_sv, a_oKind, a_oAt, a_oArgs, a_cKind, a_cA, a_cB, a_outK, a_outV)) : wpY_execute post (f_most, f_n, f_stored, f_nm, f_nEnv, f_base, f_ns, f_no, f_nc, f_pc, f_mode, f_err, f_errAt, f_ticks, f_calls, f_outs, f_resK, f_part, f_resV, f_cnt, f_full, f_flag, f_need, a_tk, a_tv, a_tp, a_mName, a_mKind, a_mCount, a_mPar, a_mAt, a_vName, a_vDecl, a_vKind, a_vVal, a_sk, a_sv, a_oKind, a_oAt, a_oArgs, a_cKind, a_cA, a_cB, a_outK, a_outV) := ⟨f, h⟩
end
section
variable {f_tickLimit f_tokenCount f_outCount f_error f_errorPlace f_lastKind f_codeSize f_methodCount f_methodTokens f_cellCount f_activeCalls f_next f_ticksLeft f_state f_pos f_expressionStart f_pendingCount f_frameTop f_localCount : Int32}
variable {f_lastValue : Int64}
variable {a_tokenCode a_tokenValue a_outKind a_codeOp a_codeArg a_codeKind a_codePlace a_methodSign a_methodStart a_declared a_cellKind a_callReturn a_pendingLevel a_pendingPlace a_pendingMore a_frameKind a_frameMore a_localName : Nat → Int32}
variable {a_outValue a_cellValue : Nat → Int64}
variable {f_most f_n f_stored f_nm f_nEnv f_base f_ns f_no f_nc f_pc f_mode f_err f_errAt f_ticks f_calls f_outs f_resK f_part f_cnt f_full f_flag f_need : Int32}
variable {f_resV : Int64}
variable {a_tk a_tp a_mName a_mKind a_mCount a_mPar a_mAt a_vName a_vDecl a_vKind a_sk a_oKind a_oAt a_oArgs a_cKind a_cA a_cB a_outK : Nat → Int32}
variable {a_tv a_vVal a_sv a_outV : Nat → Int64}
variable {T : Nat → Nat} {V : Nat → Int32} {n mt mc mu : Nat}
set_option maxHeartbeats 200000 in
/-- a text with a fault -/
theorem lr_bad {e : Nat} (ht : ls_tok T V n a_tokenCode a_tokenValue) (hk : ∀ p, p < n → a_tk p = nI (T p) ∧ (70 ≤ T p → a_tv p = (V p).toInt64)) (l1 : mt ≤ 400) (hG : ls_gl a_declared a_cellKind a_cellValue a_vDecl a_vKind a_vVal) (hM : ls_MT (ls_UA a_codeOp a_codeArg a_codeKind a_codePlace a_tk a_tv a_tp) mc mu a_tk a_methodSign a_methodStart a_mName a_mKind a_mCount a_mPar a_mAt) (YE : ∀ fl ct fu, ls_yv T n n 0 (0, [], [], fl, ct, fu, []) = some e) {u' : SX} (hu : ls_XK T V n (nI mt, nI n, 0, 0, -1, -1, 0, f_codeSize, nI mc, nI mu, f_cellCount, f_activeCalls, f_next, f_ticksLeft, f_state, f_pos, f_expressionStart, f_pendingCount, f_frameTop, f_localCount, a_tokenCode, a_tokenValue, a_outKind, a_outValue, a_codeOp, a_codeArg, a_codeKind, a_codePlace, a_methodSign, a_methodStart, a_declared, a_cellKind, a_cellValue, a_callReturn, a_pendingLevel, a_pendingPlace, a_pendingMore, a_frameKind, a_frameMore, a_localName) e 400 u') : match u' with
    | (f_tickLimit', f_tokenCount', f_outCount', f_error', f_errorPlace', f_lastKind', f_lastValue', f_codeSize', f_methodCount', f_methodTokens', f_cellCount', f_activeCalls', f_next', f_ticksLeft', f_state', f_pos', f_expressionStart', f_pendingCount', f_frameTop', f_localCount', a_tokenCode', a_tokenValue', a_outKind', a_outValue', a_codeOp', a_codeArg', a_codeKind', a_codePlace', a_methodSign', a_methodStart', a_declared', a_cellKind', a_cellValue', a_callReturn', a_pendingLevel', a_pendingPlace', a_pendingMore', a_frameKind', a_frameMore', a_localName') => f_error' = 1 ∧ wpY_run (fun r' v' => r' = f_error' ∧ ls_R (f_tickLimit', 0, f_outCount', f_error', f_errorPlace', f_lastKind', f_lastValue', f_codeSize', f_methodCount', f_methodTokens', f_cellCount', f_activeCalls', f_next', f_ticksLeft', f_state', f_pos', f_expressionStart', f_pendingCount', f_frameTop', f_localCount', a_tokenCode', a_tokenValue', a_outKind', a_outValue', a_codeOp', a_codeArg', a_codeKind', a_codePlace', a_methodSign', a_methodStart', a_declared', a_cellKind', a_cellValue', a_callReturn', a_pendingLevel', a_pendingPlace', a_pendingMore', a_frameKind', a_frameMore', a_localName') v') (nI mt, nI n, nI (140 + mu), nI mc, f_nEnv, f_base, f_ns, f_no, f_nc, f_pc, f_mode, f_err, f_errAt, f_ticks, f_calls, f_outs, f_resK, f_part, f_resV, f_cnt, f_full, f_flag, f_need, a_tk, a_tv, a_tp, a_mName, a_mKind, a_mCount, a_mPar, a_mAt, a_vName, a_vDecl, a_vKind, a_vVal, a_sk, a_sv, a_oKind, a_oAt, a_oArgs, a_cKind, a_cA, a_cB, a_outK, a_outV) := by
    have hT := ls_tok_txt ht
    have en := ls_yv_le n 0 _ e (by omega) (YE 0 0 0)
    have n140 := hT.1
    obtain ⟨f_tickLimit', f_tokenCount', f_outCount', f_error', f_errorPlace', f_lastKind', f_lastValue', f_codeSize', f_methodCount', f_methodTokens', f_cellCount', f_activeCalls', f_next', f_ticksLeft', f_state', f_pos', f_expressionStart', f_pendingCount', f_frameTop', f_localCount', a_tokenCode', a_tokenValue', a_outKind', a_outValue', a_codeOp', a_codeArg', a_codeKind', a_codePlace', a_methodSign', a_methodStart', a_declared', a_cellKind', a_cellValue', a_callReturn', a_pendingLevel', a_pendingPlace', a_pendingMore', a_frameKind', a_frameMore', a_localName'⟩ := u'
    obtain ⟨hk', h1, h2, h3, h4, h5, h6, h7, h8, h9, hlo⟩ := hu
    injection hk' with k_tickLimit hk'
    injection hk' with k_tokenCount hk'
    injection hk' with k_outCount hk'
    injection hk' with k_lastKind hk'
    injection hk' with k_lastValue hk'
    injection hk' with k_methodCount hk'
    injection hk' with k_methodTokens hk'
    injection hk' with k_cellCount hk'
    injection hk' with k_activeCalls hk'
    injection hk' with k_next hk'
    injection hk' with k_ticksLeft hk'
    injection hk' with k_tokenCode hk'
    injection hk' with k_tokenValue hk'
    injection hk' with k_outKind hk'
    injection hk' with k_outValue hk'
    injection hk' with k_methodSign hk'
    injection hk' with k_methodStart hk'
    injection hk' with k_declared hk'
    injection hk' with k_cellKind hk'
    injection hk' with k_cellValue k_callReturn
    have j_tickLimit := k_tickLimit.symm
    subst j_tickLimit
    have j_tokenCount := k_tokenCount.symm
    subst j_tokenCount
    have j_outCount := k_outCount.symm
    subst j_outCount
    have j_lastKind := k_lastKind.symm
    subst j_lastKind
    have j_lastValue := k_lastValue.symm
    subst j_lastValue
    have j_methodCount := k_methodCount.symm
    subst j_methodCount
    have j_methodTokens := k_methodTokens.symm
    subst j_methodTokens
    have j_cellCount := k_cellCount.symm
    subst j_cellCount
    have j_activeCalls := k_activeCalls.symm
    subst j_activeCalls
    have j_next := k_next.symm
    subst j_next
    have j_ticksLeft := k_ticksLeft.symm
    subst j_ticksLeft
    have j_tokenCode := k_tokenCode.symm
    subst j_tokenCode
    have j_tokenValue := k_tokenValue.symm
    subst j_tokenValue
    have j_outKind := k_outKind.symm
    subst j_outKind
    have j_outValue := k_outValue.symm
    subst j_outValue
    have j_methodSign := k_methodSign.symm
    subst j_methodSign
    have j_methodStart := k_methodStart.symm
    subst j_methodStart
    have j_declared := k_declared.symm
    subst j_declared
    have j_cellKind := k_cellKind.symm
    subst j_cellKind
    have j_cellValue := k_cellValue.symm
    subst j_cellValue
    have j_callReturn := k_callReturn.symm
    subst j_callReturn
    refine ⟨h3, ?_⟩
    subst h3 h4
    unfold wpY_run
    dsimp only
    refine hy_faulty n140 hT.2.1 (fun p hp => (hk p hp).1) (fun fl ct fu => ?_)
    rw [YE fl ct fu]
    intro v' kv
    obtain ⟨f_most', f_n', f_stored', f_nm', f_nEnv', f_base', f_ns', f_no', f_nc', f_pc', f_mode', f_err', f_errAt', f_ticks', f_calls', f_outs', f_resK', f_part', f_resV', f_cnt', f_full', f_flag', f_need', a_tk', a_tv', a_tp', a_mName', a_mKind', a_mCount', a_mPar', a_mAt', a_vName', a_vDecl', a_vKind', a_vVal', a_sk', a_sv', a_oKind', a_oAt', a_oArgs', a_cKind', a_cA', a_cB', a_outK', a_outV'⟩ := v'
    injection kv with kv1 kv
    injection kv with kv2 kv3
    injection kv1 with k_most kv1
    injection kv1 with k_n kv1
    injection kv1 with k_stored kv1
    injection kv1 with k_nm kv1
    injection kv1 with k_base kv1
    injection kv1 with k_ns kv1
    injection kv1 with k_pc kv1
    injection kv1 with k_mode kv1
    injection kv1 with k_err kv1
    injection kv1 with k_errAt kv1
    injection kv1 with k_ticks kv1
    injection kv1 with k_calls kv1
    injection kv1 with k_outs kv1
    injection kv1 with k_resK kv1
    injection kv1 with k_part k_resV
    injection kv2 with k_tk kv2
    injection kv2 with k_tv kv2
    injection kv2 with k_tp kv2
    injection kv2 with k_mName kv2
    injection kv2 with k_mKind kv2
    injection kv2 with k_mCount kv2
    injection kv2 with k_mPar k_mAt
    injection kv3 with k_vDecl kv3
    injection kv3 with k_vKind kv3
    injection kv3 with k_vVal kv3
    injection kv3 with k_sk kv3
    injection kv3 with k_sv kv3
    injection kv3 with k_oKind kv3
    injection kv3 with k_oAt kv3
    injection kv3 with k_cB kv3
    injection kv3 with k_outK k_outV
    have j_most := k_most.symm
    subst j_most
    have j_n := k_n.symm
    subst j_n
    have j_stored := k_stored.symm
    subst j_stored
    have j_nm := k_nm.symm
    subst j_nm
    have j_base := k_base.symm
    subst j_base
    have j_ns := k_ns.symm
    subst j_ns
    have j_pc := k_pc.symm
    subst j_pc
    have j_mode := k_mode.symm
    subst j_mode
    have j_err := k_err.symm
    subst j_err
    have j_errAt := k_errAt.symm
    subst j_errAt
    have j_ticks := k_ticks.symm
    subst j_ticks
    have j_calls := k_calls.symm
    subst j_calls
    have j_outs := k_outs.symm
    subst j_outs
    have j_resK := k_resK.symm
    subst j_resK
    have j_part := k_part.symm
    subst j_part
    have j_resV := k_resV.symm
    subst j_resV
    have j_tk := k_tk.symm
    subst j_tk
    have j_tv := k_tv.symm
    subst j_tv
    have j_tp := k_tp.symm
    subst j_tp
    have j_mName := k_mName.symm
    subst j_mName
    have j_mKind := k_mKind.symm
    subst j_mKind
    have j_mCount := k_mCount.symm
    subst j_mCount
    have j_mPar := k_mPar.symm
    subst j_mPar
    have j_mAt := k_mAt.symm
    subst j_mAt
    have j_vDecl := k_vDecl.symm
    subst j_vDecl
    have j_vKind := k_vKind.symm
    subst j_vKind
    have j_vVal := k_vVal.symm
    subst j_vVal
    have j_sk := k_sk.symm
    subst j_sk
    have j_sv := k_sv.symm
    subst j_sv
    have j_oKind := k_oKind.symm
    subst j_oKind
    have j_oAt := k_oAt.symm
    subst j_oAt
    have j_cB := k_cB.symm
    subst j_cB
    have j_outK := k_outK.symm
    subst j_outK
    have j_outV := k_outV.symm
    subst j_outV
    refine br_t (nI_le (a := 0) (by omega) (by omega)) ⟨rfl, fun _ => 72, fun _ => 0, 0, mt, 0, mc, mu, ⟨⟨by decide, fun p hp => absurd hp (by omega), fun _ _ => rfl⟩, rfl, rfl, fun p hp => absurd hp (by omega)⟩, ⟨l1, rfl, rfl⟩, rfl, ⟨by decide, rfl, rfl, fun i hi => absurd hi (by omega)⟩, ⟨rfl, rfl⟩, ⟨rfl, rfl, rfl, rfl⟩, hG, ?_⟩
    exact ls_MT_mv2 hM hlo (fun _ _ => ⟨rfl, rfl, rfl⟩)
set_option maxHeartbeats 1000000 in
/-- a text without one -/
theorem lr_good {st pos es : Nat} {pe : List LsP} {fr : List LsF} {L : List Nat} {k : LsK} (ht : ls_tok T V n a_tokenCode a_tokenValue) (hk : ∀ p, p < n → a_tk p = nI (T p) ∧ (70 ≤ T p → a_tv p = (V p).toInt64)) (l1 : mt ≤ 400) (hG : ls_gl a_declared a_cellKind a_cellValue a_vDecl a_vKind a_vVal) (hM : ls_MT (ls_UA a_codeOp a_codeArg a_codeKind a_codePlace a_tk a_tv a_tp) mc mu a_tk a_methodSign a_methodStart a_mName a_mKind a_mCount a_mPar a_mAt) (hr : ls_run T V 1120 (0, 0, 0, [], [], [], (480, a_codeOp, a_codeArg, a_codeKind, a_codePlace)) = .ok (st, pos, es, pe, fr, L, k)) (YE : ∀ fl ct fu, ls_yv T n n 0 (0, [], [], fl, ct, fu, []) = none) {u' : SX} (hu : ls_XR T V n (nI mt, nI n, 0, 0, -1, -1, 0, f_codeSize, nI mc, nI mu, f_cellCount, f_activeCalls, f_next, f_ticksLeft, f_state, f_pos, f_expressionStart, f_pendingCount, f_frameTop, f_localCount, a_tokenCode, a_tokenValue, a_outKind, a_outValue, a_codeOp, a_codeArg, a_codeKind, a_codePlace, a_methodSign, a_methodStart, a_declared, a_cellKind, a_cellValue, a_callReturn, a_pendingLevel, a_pendingPlace, a_pendingMore, a_frameKind, a_frameMore, a_localName) (st, pos, es, pe, fr, L, ls_em k 0 0 0 (nI pos)) u') : match u' with
    | (f_tickLimit', f_tokenCount', f_outCount', f_error', f_errorPlace', f_lastKind', f_lastValue', f_codeSize', f_methodCount', f_methodTokens', f_cellCount', f_activeCalls', f_next', f_ticksLeft', f_state', f_pos', f_expressionStart', f_pendingCount', f_frameTop', f_localCount', a_tokenCode', a_tokenValue', a_outKind', a_outValue', a_codeOp', a_codeArg', a_codeKind', a_codePlace', a_methodSign', a_methodStart', a_declared', a_cellKind', a_cellValue', a_callReturn', a_pendingLevel', a_pendingPlace', a_pendingMore', a_frameKind', a_frameMore', a_localName') => f_error' = 0 ∧ wpX_execute (fun u => match u with | (f_tickLimit'', f_tokenCount'', f_outCount'', f_error'', f_errorPlace'', f_lastKind'', f_lastValue'', f_codeSize'', f_methodCount'', f_methodTokens'', f_cellCount'', f_activeCalls'', f_next'', f_ticksLeft'', f_state'', f_pos'', f_expressionStart'', f_pendingCount'', f_frameTop'', f_localCount'', a_tokenCode'', a_tokenValue'', a_outKind'', a_outValue'', a_codeOp'', a_codeArg'', a_codeKind'', a_codePlace'', a_methodSign'', a_methodStart'', a_declared'', a_cellKind'', a_cellValue'', a_callReturn'', a_pendingLevel'', a_pendingPlace'', a_pendingMore'', a_frameKind'', a_frameMore'', a_localName'') => wpY_run (fun r' v' => r' = f_error'' ∧ ls_R (f_tickLimit'', 0, f_outCount'', f_error'', f_errorPlace'', f_lastKind'', f_lastValue'', f_codeSize'', f_methodCount'', f_methodTokens'', f_cellCount'', f_activeCalls'', f_next'', f_ticksLeft'', f_state'', f_pos'', f_expressionStart'', f_pendingCount'', f_frameTop'', f_localCount'', a_tokenCode'', a_tokenValue'', a_outKind'', a_outValue'', a_codeOp'', a_codeArg'', a_codeKind'', a_codePlace'', a_methodSign'', a_methodStart'', a_declared'', a_cellKind'', a_cellValue'', a_callReturn'', a_pendingLevel'', a_pendingPlace'', a_pendingMore'', a_frameKind'', a_frameMore'', a_localName'') v') (nI mt, nI n, nI (140 + mu), nI mc, f_nEnv, f_base, f_ns, f_no, f_nc, f_pc, f_mode, f_err, f_errAt, f_ticks, f_calls, f_outs, f_resK, f_part, f_resV, f_cnt, f_full, f_flag, f_need, a_tk, a_tv, a_tp, a_mName, a_mKind, a_mCount, a_mPar, a_mAt, a_vName, a_vDecl, a_vKind, a_vVal, a_sk, a_sv, a_oKind, a_oAt, a_oArgs, a_cKind, a_cA, a_cB, a_outK, a_outV)) (f_tickLimit', f_tokenCount', f_outCount', f_error', f_errorPlace', f_lastKind', f_lastValue', f_codeSize', f_methodCount', f_methodTokens', f_cellCount', f_activeCalls', f_next', f_ticksLeft', f_state', f_pos', f_expressionStart', f_pendingCount', f_frameTop', f_localCount', a_tokenCode', a_tokenValue', a_outKind', a_outValue', a_codeOp', a_codeArg', a_codeKind', a_codePlace', a_methodSign', a_methodStart', a_declared', a_cellKind', a_cellValue', a_callReturn', a_pendingLevel', a_pendingPlace', a_pendingMore', a_frameKind', a_frameMore', a_localName') := by
    have hT := ls_tok_txt ht
    have n140 := hT.1
    obtain ⟨C, N, N1, C0, tl⟩ := lr_tl hT hr
    have kfE : ls_em (ls_kk7 (st, pos, es, pe, fr, L, k)) 0 0 0 (nI (st, pos, es, pe, fr, L, k).2.1) = ls_em k 0 0 0 (nI pos) := rfl
    rw [kfE] at tl
    obtain ⟨kF, hkF⟩ : ∃ kF : LsK, kF = ls_em k 0 0 0 (nI pos) := ⟨_, rfl⟩
    rw [← hkF] at tl
    obtain ⟨f_tickLimit', f_tokenCount', f_outCount', f_error', f_errorPlace', f_lastKind', f_lastValue', f_codeSize', f_methodCount', f_methodTokens', f_cellCount', f_activeCalls', f_next', f_ticksLeft', f_state', f_pos', f_expressionStart', f_pendingCount', f_frameTop', f_localCount', a_tokenCode', a_tokenValue', a_outKind', a_outValue', a_codeOp', a_codeArg', a_codeKind', a_codePlace', a_methodSign', a_methodStart', a_declared', a_cellKind', a_cellValue', a_callReturn', a_pendingLevel', a_pendingPlace', a_pendingMore', a_frameKind', a_frameMore', a_localName'⟩ := u'
    obtain ⟨hk', hlo, x1, xt, x2, x3, x4, x5, x6, x7, x8, x9, y1, y2, y3, y4, _, _, _, _⟩ := hu
    rw [← hkF] at hlo y1 y2 y3 y4
    subst x2 x3 y1 y2 y3 y4
    injection hk' with k_tickLimit hk'
    injection hk' with k_tokenCount hk'
    injection hk' with k_outCount hk'
    injection hk' with k_lastKind hk'
    injection hk' with k_lastValue hk'
    injection hk' with k_methodCount hk'
    injection hk' with k_methodTokens hk'
    injection hk' with k_cellCount hk'
    injection hk' with k_activeCalls hk'
    injection hk' with k_next hk'
    injection hk' with k_ticksLeft hk'
    injection hk' with k_tokenCode hk'
    injection hk' with k_tokenValue hk'
    injection hk' with k_outKind hk'
    injection hk' with k_outValue hk'
    injection hk' with k_methodSign hk'
    injection hk' with k_methodStart hk'
    injection hk' with k_declared hk'
    injection hk' with k_cellKind hk'
    injection hk' with k_cellValue k_callReturn
    have j_tickLimit := k_tickLimit.symm
    subst j_tickLimit
    have j_tokenCount := k_tokenCount.symm
    subst j_tokenCount
    have j_outCount := k_outCount.symm
    subst j_outCount
    have j_lastKind := k_lastKind.symm
    subst j_lastKind
    have j_lastValue := k_lastValue.symm
    subst j_lastValue
    have j_methodCount := k_methodCount.symm
    subst j_methodCount
    have j_methodTokens := k_methodTokens.symm
    subst j_methodTokens
    have j_cellCount := k_cellCount.symm
    subst j_cellCount
    have j_activeCalls := k_activeCalls.symm
    subst j_activeCalls
    have j_next := k_next.symm
    subst j_next
    have j_ticksLeft := k_ticksLeft.symm
    subst j_ticksLeft
    have j_tokenCode := k_tokenCode.symm
    subst j_tokenCode
    have j_tokenValue := k_tokenValue.symm
    subst j_tokenValue
    have j_outKind := k_outKind.symm
    subst j_outKind
    have j_outValue := k_outValue.symm
    subst j_outValue
    have j_methodSign := k_methodSign.symm
    subst j_methodSign
    have j_methodStart := k_methodStart.symm
    subst j_methodStart
    have j_declared := k_declared.symm
    subst j_declared
    have j_cellKind := k_cellKind.symm
    subst j_cellKind
    have j_cellValue := k_cellValue.symm
    subst j_cellValue
    have j_callReturn := k_callReturn.symm
    subst j_callReturn
    refine ⟨rfl, ?_⟩
    have FY : ∀ post : Int32 → SY → Prop, (∀ v', ls_ykept v' = ls_ykept (nI mt, nI n, nI (140 + mu), nI mc, f_nEnv, f_base, f_ns, f_no, f_nc, f_pc, f_mode, 0, -1, f_ticks, f_calls, 0, -1, f_part, 0, f_cnt, f_full, f_flag, f_need, a_tk, a_tv, a_tp, a_mName, a_mKind, a_mCount, a_mPar, a_mAt, a_vName, a_vDecl, a_vKind, a_vVal, a_sk, a_sv, a_oKind, a_oAt, a_oArgs, a_cKind, a_cA, a_cB, a_outK, a_outV) → post (-1) v') → wpY_faulty post (nI mt, nI n, nI (140 + mu), nI mc, f_nEnv, f_base, f_ns, f_no, f_nc, f_pc, f_mode, 0, -1, f_ticks, f_calls, 0, -1, f_part, 0, f_cnt, f_full, f_flag, f_need, a_tk, a_tv, a_tp, a_mName, a_mKind, a_mCount, a_mPar, a_mAt, a_vName, a_vDecl, a_vKind, a_vVal, a_sk, a_sv, a_oKind, a_oAt, a_oArgs, a_cKind, a_cA, a_cB, a_outK, a_outV) := fun post hp => hy_faulty n140 hT.2.1 (fun p hp => (hk p hp).1) (fun fl ct fu => by
      rw [YE fl ct fu]
      exact hp)
    obtain ⟨⟨r, v'⟩, ⟨r1, kv⟩, FV⟩ := de_wpY_faulty (fun r v' => r = -1 ∧ ls_ykept v' = ls_ykept (nI mt, nI n, nI (140 + mu), nI mc, f_nEnv, f_base, f_ns, f_no, f_nc, f_pc, f_mode, 0, -1, f_ticks, f_calls, 0, -1, f_part, 0, f_cnt, f_full, f_flag, f_need, a_tk, a_tv, a_tp, a_mName, a_mKind, a_mCount, a_mPar, a_mAt, a_vName, a_vDecl, a_vKind, a_vVal, a_sk, a_sv, a_oKind, a_oAt, a_oArgs, a_cKind, a_cA, a_cB, a_outK, a_outV)) (FY _ (fun v' hv => ⟨rfl, hv⟩))
    have r1' : r = -1 := r1
    subst r1'
    clear r1
    obtain ⟨f_most', f_n', f_stored', f_nm', f_nEnv', f_base', f_ns', f_no', f_nc', f_pc', f_mode', f_err', f_errAt', f_ticks', f_calls', f_outs', f_resK', f_part', f_resV', f_cnt', f_full', f_flag', f_need', a_tk', a_tv', a_tp', a_mName', a_mKind', a_mCount', a_mPar', a_mAt', a_vName', a_vDecl', a_vKind', a_vVal', a_sk', a_sv', a_oKind', a_oAt', a_oArgs', a_cKind', a_cA', a_cB', a_outK', a_outV'⟩ := v'
    have kv : ls_ykept (f_most', f_n', f_stored', f_nm', f_nEnv', f_base', f_ns', f_no', f_nc', f_pc', f_mode', f_err', f_errAt', f_ticks', f_calls', f_outs', f_resK', f_part', f_resV', f_cnt', f_full', f_flag', f_need', a_tk', a_tv', a_tp', a_mName', a_mKind', a_mCount', a_mPar', a_mAt', a_vName', a_vDecl', a_vKind', a_vVal', a_sk', a_sv', a_oKind', a_oAt', a_oArgs', a_cKind', a_cA', a_cB', a_outK', a_outV') = ls_ykept (nI mt, nI n, nI (140 + mu), nI mc, f_nEnv, f_base, f_ns, f_no, f_nc, f_pc, f_mode, 0, -1, f_ticks, f_calls, 0, -1, f_part, 0, f_cnt, f_full, f_flag, f_need, a_tk, a_tv, a_tp, a_mName, a_mKind, a_mCount, a_mPar, a_mAt, a_vName, a_vDecl, a_vKind, a_vVal, a_sk, a_sv, a_oKind, a_oAt, a_oArgs, a_cKind, a_cA, a_cB, a_outK, a_outV) := kv
    injection kv with kv1 kv
    injection kv with kv2 kv3
    injection kv1 with k_most kv1
    injection kv1 with k_n kv1
    injection kv1 with k_stored kv1
    injection kv1 with k_nm kv1
    injection kv1 with k_base kv1
    injection kv1 with k_ns kv1
    injection kv1 with k_pc kv1
    injection kv1 with k_mode kv1
    injection kv1 with k_err kv1
    injection kv1 with k_errAt kv1
    injection kv1 with k_ticks kv1
    injection kv1 with k_calls kv1
    injection kv1 with k_outs kv1
    injection kv1 with k_resK kv1
    injection kv1 with k_part k_resV
    injection kv2 with k_tk kv2
    injection kv2 with k_tv kv2
    injection kv2 with k_tp kv2
    injection kv2 with k_mName kv2
    injection kv2 with k_mKind kv2
    injection kv2 with k_mCount kv2
    injection kv2 with k_mPar k_mAt
    injection kv3 with k_vDecl kv3
    injection kv3 with k_vKind kv3
    injection kv3 with k_vVal kv3
    injection kv3 with k_sk kv3
    injection kv3 with k_sv kv3
    injection kv3 with k_oKind kv3
    injection kv3 with k_oAt kv3
    injection kv3 with k_cB kv3
    injection kv3 with k_outK k_outV
    have j_most := k_most.symm
    subst j_most
    have j_n := k_n.symm
    subst j_n
    have j_stored := k_stored.symm
    subst j_stored
    have j_nm := k_nm.symm
    subst j_nm
    have j_base := k_base.symm
    subst j_base
    have j_ns := k_ns.symm
    subst j_ns
    have j_pc := k_pc.symm
    subst j_pc
    have j_mode := k_mode.symm
    subst j_mode
    have j_err := k_err.symm
    subst j_err
    have j_errAt := k_errAt.symm
    subst j_errAt
    have j_ticks := k_ticks.symm
    subst j_ticks
    have j_calls := k_calls.symm
    subst j_calls
    have j_outs := k_outs.symm
    subst j_outs
    have j_resK := k_resK.symm
    subst j_resK
    have j_part := k_part.symm
    subst j_part
    have j_resV := k_resV.symm
    subst j_resV
    have j_tk := k_tk.symm
    subst j_tk
    have j_tv := k_tv.symm
    subst j_tv
    have j_tp := k_tp.symm
    subst j_tp
    have j_mName := k_mName.symm
    subst j_mName
    have j_mKind := k_mKind.symm
    subst j_mKind
    have j_mCount := k_mCount.symm
    subst j_mCount
    have j_mPar := k_mPar.symm
    subst j_mPar
    have j_mAt := k_mAt.symm
    subst j_mAt
    have j_vDecl := k_vDecl.symm
    subst j_vDecl
    have j_vKind := k_vKind.symm
    subst j_vKind
    have j_vVal := k_vVal.symm
    subst j_vVal
    have j_sk := k_sk.symm
    subst j_sk
    have j_sv := k_sv.symm
    subst j_sv
    have j_oKind := k_oKind.symm
    subst j_oKind
    have j_oAt := k_oAt.symm
    subst j_oAt
    have j_cB := k_cB.symm
    subst j_cB
    have j_outK := k_outK.symm
    subst j_outK
    have j_outV := k_outV.symm
    subst j_outV
    have UA := lr_UA (tk := a_tk) (tp := a_tp) (tv := a_tv) hT tl C0 hk
    have CU : ls_cu n a_callReturn a_mKind a_declared (ls_UA kF.2.1 kF.2.2.1 kF.2.2.2.1 kF.2.2.2.2 a_tk a_tv a_tp) (T, V, C, kF, n, N, 0, 0, 0, N) 0 [] (0, 0, 0, [], [], [], (480, a_codeOp, a_codeArg, a_codeKind, a_codePlace)) [] [] [] [] [] := ls_cu_sm (c0 := []) UA ⟨fun _ => ⟨⟨rfl, rfl, rfl, rfl, rfl⟩, rfl⟩, fun q => absurd rfl q⟩ ⟨Nat.le_refl _, Nat.zero_le _⟩ C0 (by omega) rfl ⟨rfl, rfl, rfl, rfl, rfl, rfl⟩
    have MT := ls_MT_mv2 (co' := kF.2.1) (ca' := kF.2.2.1) (ck' := kF.2.2.2.1) (cp' := kF.2.2.2.2) (tk' := a_tk) (tv' := a_tv) (tp' := a_tp) hM hlo (fun _ _ => ⟨rfl, rfl, rfl⟩)
    have hV : ls_lev (ls_sm a_declared a_cellKind a_cellValue a_vDecl a_vKind a_vVal) a_vName' [[]] := ⟨trivial, fun i hi => absurd hi (by show ¬ i < 0; omega), trivial⟩
    have hl : nI mt = nI mt ∧ mt ≤ mt ∧ mt ≤ 400 ∧ ([] : List LsA).length ≤ 8 ∧ n ≤ 140 := ⟨rfl, Nat.le_refl _, l1, by decide, n140⟩
    have ho : 0 ≤ 32 ∧ ∀ i, i < 0 → a_outKind i = a_outK i ∧ a_outValue i = a_outV i := ⟨by decide, fun i hi => absurd hi (by omega)⟩
    have PH : ls_Phi mt [] 0 [] N 0 ≤ 2000000 := by
      unfold ls_Phi
      show 2240 * (2 * mt + 0 + 0 + (0 - _)) + 2 * (N - 0) + 1 ≤ 2000000
      omega
    have G := gs_all (ls_Phi mt [] 0 [] N 0 + 1) (f_tickLimit := nI mt) (f_tokenCount := nI n) (f_errorPlace := -1) (f_lastKind := -1) (f_codeSize := f_codeSize') (f_state := f_state') (f_pos := f_pos') (f_expressionStart := f_expressionStart') (f_pendingCount := f_pendingCount') (f_frameTop := f_frameTop') (f_localCount := f_localCount') (f_lastValue := 0) (a_tokenCode := a_tokenCode) (a_tokenValue := a_tokenValue) (a_pendingLevel := a_pendingLevel') (a_pendingPlace := a_pendingPlace') (a_pendingMore := a_pendingMore') (a_frameKind := a_frameKind') (a_frameMore := a_frameMore') (a_localName := a_localName') (f_cnt := f_cnt') (f_full := f_full') (f_flag := f_flag') (f_need := f_need') (oc := 0) (a_sk := a_sk) (a_sv := a_sv) (a_oKind := a_oKind) (a_oAt := a_oAt) (a_oArgs := a_oArgs') (a_cKind := a_cKind') (a_cA := a_cA') (a_cB := a_cB) ⟨CU, trivial, trivial, trivial, trivial, hG, hV, hl, ho, MT⟩ (Nat.lt_succ_self _) (fun q => absurd q.1 (by decide))
    generalize ls_Phi mt [] 0 [] N 0 = F at G PH
    rw [show ls_md 0 [] = 0 from rfl, show ls_pt 0 [] = 0 from rfl, Nat.sub_self] at G
    obtain ⟨ue, GX, GY⟩ := G
    refine hx_execute (f := F) (GX _ F 0 (Nat.le_refl _) (by omega) ?_)
    obtain ⟨f_tickLimit'', f_tokenCount'', f_outCount'', f_error'', f_errorPlace'', f_lastKind'', f_lastValue'', f_codeSize'', f_methodCount'', f_methodTokens'', f_cellCount'', f_activeCalls'', f_next'', f_ticksLeft'', f_state'', f_pos'', f_expressionStart'', f_pendingCount'', f_frameTop'', f_localCount'', a_tokenCode'', a_tokenValue'', a_outKind'', a_outValue'', a_codeOp'', a_codeArg'', a_codeKind'', a_codePlace'', a_methodSign'', a_methodStart'', a_declared'', a_cellKind'', a_cellValue'', a_callReturn'', a_pendingLevel'', a_pendingPlace'', a_pendingMore'', a_frameKind'', a_frameMore'', a_localName''⟩ := ue
    unfold wpY_run
    dsimp only
    refine FV _ (br_f (show ¬ (0 : Int32) ≤ -1 by decide) (hy_execute (f := F) (GY _ F 0 (Nat.le_refl _) (by omega) (fun ve hE => ?_))))
    obtain ⟨f_most'', f_n'', f_stored'', f_nm'', f_nEnv'', f_base'', f_ns'', f_no'', f_nc'', f_pc'', f_mode'', f_err'', f_errAt'', f_ticks'', f_calls'', f_outs'', f_resK'', f_part'', f_resV'', f_cnt'', f_full'', f_flag'', f_need'', a_tk'', a_tv'', a_tp'', a_mName'', a_mKind'', a_mCount'', a_mPar'', a_mAt'', a_vName'', a_vDecl'', a_vKind'', a_vVal'', a_sk'', a_sv'', a_oKind'', a_oAt'', a_oArgs'', a_cKind'', a_cA'', a_cB'', a_outK'', a_outV''⟩ := ve
    obtain ⟨oc', er, mc', mu', yn', ⟨q1, mt', q2, q3⟩, q4, q5, q6, q7, q8, q9, q10, q11, q12, q13, q14, q15, qG, qM⟩ := hE
    exact ⟨q4.symm, fun _ => 72, fun _ => 0, 0, mt', oc', mc', mu', ⟨⟨by decide, fun p hp => absurd hp (by omega), fun _ _ => rfl⟩, rfl, rfl, fun p hp => absurd hp (by omega)⟩, ⟨q2, q3, q1.symm.trans q3⟩, q7, q8, ⟨q9, q10⟩, ⟨q11, q12, q13, q14⟩, qG, qM⟩
set_option maxHeartbeats 200000 in
theorem lc_run (I : ls_R (f_tickLimit, f_tokenCount, f_outCount, f_error, f_errorPlace, f_lastKind, f_lastValue, f_codeSize, f_methodCount, f_methodTokens, f_cellCount, f_activeCalls, f_next, f_ticksLeft, f_state, f_pos, f_expressionStart, f_pendingCount, f_frameTop, f_localCount, a_tokenCode, a_tokenValue, a_outKind, a_outValue, a_codeOp, a_codeArg, a_codeKind, a_codePlace, a_methodSign, a_methodStart, a_declared, a_cellKind, a_cellValue, a_callReturn, a_pendingLevel, a_pendingPlace, a_pendingMore, a_frameKind, a_frameMore, a_localName) (f_most, f_n, f_stored, f_nm, f_nEnv, f_base, f_ns, f_no, f_nc, f_pc, f_mode, f_err, f_errAt, f_ticks, f_calls, f_outs, f_resK, f_part, f_resV, f_cnt, f_full, f_flag, f_need, a_tk, a_tv, a_tp, a_mName, a_mKind, a_mCount, a_mPar, a_mAt, a_vName, a_vDecl, a_vKind, a_vVal, a_sk, a_sv, a_oKind, a_oAt, a_oArgs, a_cKind, a_cA, a_cB, a_outK, a_outV)) : wpX_run (fun r u' => wpY_run (fun r' v' => r' = r ∧ ls_R u' v') (f_most, f_n, f_stored, f_nm, f_nEnv, f_base, f_ns, f_no, f_nc, f_pc, f_mode, f_err, f_errAt, f_ticks, f_calls, f_outs, f_resK, f_part, f_resV, f_cnt, f_full, f_flag, f_need, a_tk, a_tv, a_tp, a_mName, a_mKind, a_mCount, a_mPar, a_mAt, a_vName, a_vDecl, a_vKind, a_vVal, a_sk, a_sv, a_oKind, a_oAt, a_oArgs, a_cKind, a_cA, a_cB, a_outK, a_outV)) (f_tickLimit, f_tokenCount, f_outCount, f_error, f_errorPlace, f_lastKind, f_lastValue, f_codeSize, f_methodCount, f_methodTokens, f_cellCount, f_activeCalls, f_next, f_ticksLeft, f_state, f_pos, f_expressionStart, f_pendingCount, f_frameTop, f_localCount, a_tokenCode, a_tokenValue, a_outKind, a_outValue, a_codeOp, a_codeArg, a_codeKind, a_codePlace, a_methodSign, a_methodStart, a_declared, a_cellKind, a_cellValue, a_callReturn, a_pendingLevel, a_pendingPlace, a_pendingMore, a_frameKind, a_frameMore, a_localName) := by
  obtain ⟨T, V, n, mt, oc, mc, mu, ⟨ht, e1, e2, hk⟩, ⟨l1, l2, l3⟩, _, _, _, ⟨m1, m2, m3, m4⟩, hG, hM⟩ := I
  subst e1 e2 l2 l3 m1 m2 m3 m4
  have YV := lr_yv (V := V) (k1 := a_codeOp) (k2 := a_codeArg) (k3 := a_codeKind) (k4 := a_codePlace) (ls_tok_txt ht)
  unfold wpX_run
  dsimp only
  unfold wpX_clearAnswers
  dsimp only
  refine rx_readText ht ?_
  cases hr : ls_run T V 1120 (0, 0, 0, [], [], [], (480, a_codeOp, a_codeArg, a_codeKind, a_codePlace)) with
  | error e =>
    rw [hr] at YV
    intro u' hu
    have H := lr_bad (f_nEnv := f_nEnv) (f_base := f_base) (f_ns := f_ns) (f_no := f_no) (f_nc := f_nc) (f_pc := f_pc) (f_mode := f_mode) (f_err := f_err) (f_errAt := f_errAt) (f_ticks := f_ticks) (f_calls := f_calls) (f_outs := f_outs) (f_resK := f_resK) (f_part := f_part) (f_resV := f_resV) (f_cnt := f_cnt) (f_full := f_full) (f_flag := f_flag) (f_need := f_need) (a_tk := a_tk) (a_tv := a_tv) (a_tp := a_tp) (a_mName := a_mName) (a_mKind := a_mKind) (a_mCount := a_mCount) (a_mPar := a_mPar) (a_mAt := a_mAt) (a_vName := a_vName) (a_vDecl := a_vDecl) (a_vKind := a_vKind) (a_vVal := a_vVal) (a_sk := a_sk) (a_sv := a_sv) (a_oKind := a_oKind) (a_oAt := a_oAt) (a_oArgs := a_oArgs) (a_cKind := a_cKind) (a_cA := a_cA) (a_cB := a_cB) (a_outK := a_outK) (a_outV := a_outV) ht hk l1 hG hM YV hu
    obtain ⟨f_tickLimit', f_tokenCount', f_outCount', f_error', f_errorPlace', f_lastKind', f_lastValue', f_codeSize', f_methodCount', f_methodTokens', f_cellCount', f_activeCalls', f_next', f_ticksLeft', f_state', f_pos', f_expressionStart', f_pendingCount', f_frameTop', f_localCount', a_tokenCode', a_tokenValue', a_outKind', a_outValue', a_codeOp', a_codeArg', a_codeKind', a_codePlace', a_methodSign', a_methodStart', a_declared', a_cellKind', a_cellValue', a_callReturn', a_pendingLevel', a_pendingPlace', a_pendingMore', a_frameKind', a_frameMore', a_localName'⟩ := u'
    obtain ⟨h1, h2⟩ := H
    have h1' : f_error' = 1 := h1
    exact br_f (show ¬ f_error' = 0 by rw [h1']; decide) h2
  | ok d =>
    rw [hr] at YV
    obtain ⟨st, pos, es, pe, fr, L, k⟩ := d
    intro u' hu
    have H := lr_good (f_nEnv := f_nEnv) (f_base := f_base) (f_ns := f_ns) (f_no := f_no) (f_nc := f_nc) (f_pc := f_pc) (f_mode := f_mode) (f_err := f_err) (f_errAt := f_errAt) (f_ticks := f_ticks) (f_calls := f_calls) (f_outs := f_outs) (f_resK := f_resK) (f_part := f_part) (f_resV := f_resV) (f_cnt := f_cnt) (f_full := f_full) (f_flag := f_flag) (f_need := f_need) (a_tk := a_tk) (a_tv := a_tv) (a_tp := a_tp) (a_mName := a_mName) (a_mKind := a_mKind) (a_mCount := a_mCount) (a_mPar := a_mPar) (a_mAt := a_mAt) (a_vName := a_vName) (a_vDecl := a_vDecl) (a_vKind := a_vKind) (a_vVal := a_vVal) (a_sk := a_sk) (a_sv := a_sv) (a_oKind := a_oKind) (a_oAt := a_oAt) (a_oArgs := a_oArgs) (a_cKind := a_cKind) (a_cA := a_cA) (a_cB := a_cB) (a_outK := a_outK) (a_outV := a_outV) ht hk l1 hG hM hr YV hu
    obtain ⟨f_tickLimit', f_tokenCount', f_outCount', f_error', f_errorPlace', f_lastKind', f_lastValue', f_codeSize', f_methodCount', f_methodTokens', f_cellCount', f_activeCalls', f_next', f_ticksLeft', f_state', f_pos', f_expressionStart', f_pendingCount', f_frameTop', f_localCount', a_tokenCode', a_tokenValue', a_outKind', a_outValue', a_codeOp', a_codeArg', a_codeKind', a_codePlace', a_methodSign', a_methodStart', a_declared', a_cellKind', a_cellValue', a_callReturn', a_pendingLevel', a_pendingPlace', a_pendingMore', a_frameKind', a_frameMore', a_localName'⟩ := u'
    obtain ⟨h1, h2⟩ := H
    exact br_t h1 h2
end
