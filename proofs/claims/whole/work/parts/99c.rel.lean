/-! The relation between two calls -/
section
variable {co ca ck cp tk co' ca' ck' cp' tk' : Nat → Int32} {tv tv' : Nat → Int64} {tp tp' : Nat → Int32}
set_option maxHeartbeats 200000 in
theorem ls_ME_mv2 {mu pb q nm c m : Nat} {P : Nat → Nat} {L1 : List Nat} {ms mt nN nK nC nA : Int32} {mP : Nat → Int32} {U : LsU} (h : ls_ME (ls_UA co ca ck cp tk tv tp) mu U pb q nm c P L1 tk ms mt nN nK nC nA mP m) (h1 : ∀ j, j < 2 * mu → co' j = co j ∧ ca' j = ca j ∧ ck' j = ck j ∧ cp' j = cp j) (h2 : ∀ j, 140 ≤ j → tk' j = tk j ∧ tp' j = tp j ∧ tv' j = tv j) : ls_ME (ls_UA co' ca' ck' cp' tk' tv' tp') mu U pb q nm c P L1 tk' ms mt nN nK nC nA mP m := by
  obtain ⟨T, V, C, kF, n, N, d, e, ta, tz⟩ := U
  obtain ⟨hA, p, mo, es, k, es2, L2, k2, g1, g2, g3, g4, g5, g6, g7, g8, g9, g10, g11, g12, g13, g14, g15, g16, g17, g18, g19, g20, g21, g22⟩ := h
  have lo := ls_pos_le hA.1 hA.2.2.1.1 hA.2.2.1.2
  have E : (C ta).2.1 = p := by rw [g1]
  have pp : pb ≤ p := by split at g7 <;> omega
  refine ⟨ls_UA_mv hA (fun i i1 i2 => h1 _ ?_) (fun p' p1 p2 => h2 _ (by omega)), p, mo, es, k, es2, L2, k2, g1, g2, g3, g4, g5, g6, g7, g8, g9, fun i hi => ?_, g11, g12, g13, g14, g15, g16, g17, g18, g19, g20, g21, g22⟩
  · rw [g13] at i2
    have i2' : i ≤ k2.1 := i2
    omega
  · obtain ⟨a1, a2, a3⟩ := g10 i hi
    exact ⟨a1, a2, ((h2 _ (by omega)).1).trans a3⟩
set_option maxHeartbeats 200000 in
theorem ls_MT_mv2 {mc mu : Nat} {sg st mN mK mC mP mA : Nat → Int32} (hM : ls_MT (ls_UA co ca ck cp tk tv tp) mc mu tk sg st mN mK mC mP mA) (h1 : ∀ j, j < 480 → co' j = co j ∧ ca' j = ca j ∧ ck' j = ck j ∧ cp' j = cp j) (h2 : ∀ j, 140 ≤ j → tk' j = tk j ∧ tp' j = tp j ∧ tv' j = tv j) : ls_MT (ls_UA co' ca' ck' cp' tk' tv' tp') mc mu tk' sg st mN mK mC mP mA := by
  obtain ⟨m1, m2, m3, m4⟩ := hM
  refine ⟨m1, m2, fun m hm => ?_, m4⟩
  obtain ⟨U, pb, q, nm, c, P, L1, h⟩ := m3 m hm
  exact ⟨U, pb, q, nm, c, P, L1, ls_ME_mv2 h (fun j hj => h1 j (by omega)) h2⟩
end
/-- two objects between two calls -/
def ls_R (u : SX) (v : SY) : Prop := match u, v with
  | (f_tickLimit, f_tokenCount, f_outCount, f_error, f_errorPlace, f_lastKind, f_lastValue, f_codeSize, f_methodCount, f_methodTokens, f_cellCount, f_activeCalls, f_next, f_ticksLeft, f_state, f_pos, f_expressionStart, f_pendingCount, f_frameTop, f_localCount, a_tokenCode, a_tokenValue, a_outKind, a_outValue, a_codeOp, a_codeArg, a_codeKind, a_codePlace, a_methodSign, a_methodStart, a_declared, a_cellKind, a_cellValue, a_callReturn, a_pendingLevel, a_pendingPlace, a_pendingMore, a_frameKind, a_frameMore, a_localName), (f_most, f_n, f_stored, f_nm, f_nEnv, f_base, f_ns, f_no, f_nc, f_pc, f_mode, f_err, f_errAt, f_ticks, f_calls, f_outs, f_resK, f_part, f_resV, f_cnt, f_full, f_flag, f_need, a_tk, a_tv, a_tp, a_mName, a_mKind, a_mCount, a_mPar, a_mAt, a_vName, a_vDecl, a_vKind, a_vVal, a_sk, a_sv, a_oKind, a_oAt, a_oArgs, a_cKind, a_cA, a_cB, a_outK, a_outV) => ∃ T V n mt oc mc mu, (ls_tok T V n a_tokenCode a_tokenValue ∧ f_tokenCount = nI n ∧ f_n = nI n ∧ ∀ p, p < n → a_tk p = nI (T p) ∧ (70 ≤ T p → a_tv p = (V p).toInt64)) ∧ (mt ≤ 400 ∧ f_tickLimit = nI mt ∧ f_most = nI mt) ∧ f_errorPlace = f_errAt ∧ (oc ≤ 32 ∧ f_outCount = nI oc ∧ f_outs = nI oc ∧ ∀ i, i < oc → a_outKind i = a_outK i ∧ a_outValue i = a_outV i) ∧ (f_lastKind = f_resK ∧ f_lastValue = f_resV) ∧ (f_methodCount = nI mc ∧ f_nm = nI mc ∧ f_methodTokens = nI mu ∧ f_stored = nI (140 + mu)) ∧
    ls_gl a_declared a_cellKind a_cellValue a_vDecl a_vKind a_vVal ∧ ls_MT (ls_UA a_codeOp a_codeArg a_codeKind a_codePlace a_tk a_tv a_tp) mc mu a_tk a_methodSign a_methodStart a_mName a_mKind a_mCount a_mPar a_mAt
section
variable {f_tickLimit f_tokenCount f_outCount f_error f_errorPlace f_lastKind f_codeSize f_methodCount f_methodTokens f_cellCount f_activeCalls f_next f_ticksLeft f_state f_pos f_expressionStart f_pendingCount f_frameTop f_localCount : Int32}
variable {f_lastValue : Int64}
variable {a_tokenCode a_tokenValue a_outKind a_codeOp a_codeArg a_codeKind a_codePlace a_methodSign a_methodStart a_declared a_cellKind a_callReturn a_pendingLevel a_pendingPlace a_pendingMore a_frameKind a_frameMore a_localName : Nat → Int32}
variable {a_outValue a_cellValue : Nat → Int64}
variable {f_most f_n f_stored f_nm f_nEnv f_base f_ns f_no f_nc f_pc f_mode f_err f_errAt f_ticks f_calls f_outs f_resK f_part f_cnt f_full f_flag f_need : Int32}
variable {f_resV : Int64}
variable {a_tk a_tp a_mName a_mKind a_mCount a_mPar a_mAt a_vName a_vDecl a_vKind a_sk a_oKind a_oAt a_oArgs a_cKind a_cA a_cB a_outK : Nat → Int32}
variable {a_tv a_vVal a_sv a_outV : Nat → Int64}
set_option maxHeartbeats 200000 in
theorem ls_R_tok {t : Nat} {x : Int32} {z : Int64} (h : ls_R (f_tickLimit, f_tokenCount, f_outCount, f_error, f_errorPlace, f_lastKind, f_lastValue, f_codeSize, f_methodCount, f_methodTokens, f_cellCount, f_activeCalls, f_next, f_ticksLeft, f_state, f_pos, f_expressionStart, f_pendingCount, f_frameTop, f_localCount, a_tokenCode, a_tokenValue, a_outKind, a_outValue, a_codeOp, a_codeArg, a_codeKind, a_codePlace, a_methodSign, a_methodStart, a_declared, a_cellKind, a_cellValue, a_callReturn, a_pendingLevel, a_pendingPlace, a_pendingMore, a_frameKind, a_frameMore, a_localName) (f_most, f_n, f_stored, f_nm, f_nEnv, f_base, f_ns, f_no, f_nc, f_pc, f_mode, f_err, f_errAt, f_ticks, f_calls, f_outs, f_resK, f_part, f_resV, f_cnt, f_full, f_flag, f_need, a_tk, a_tv, a_tp, a_mName, a_mKind, a_mCount, a_mPar, a_mAt, a_vName, a_vDecl, a_vKind, a_vVal, a_sk, a_sv, a_oKind, a_oAt, a_oArgs, a_cKind, a_cA, a_cB, a_outK, a_outV)) (h72 : t < 72) (hx : ls_nam t → x = nI (t - 54)) (hz : 70 ≤ t → z = x.toInt64) : ∃ n, f_tokenCount = nI n ∧ f_n = nI n ∧ n ≤ 140 ∧ (n < 140 → ls_R (f_tickLimit, nI (n + 1), f_outCount, f_error, f_errorPlace, f_lastKind, f_lastValue, f_codeSize, f_methodCount, f_methodTokens, f_cellCount, f_activeCalls, f_next, f_ticksLeft, f_state, f_pos, f_expressionStart, f_pendingCount, f_frameTop, f_localCount, upd a_tokenCode n (nI (ls_xc t)), upd a_tokenValue n x, a_outKind, a_outValue, a_codeOp, a_codeArg, a_codeKind, a_codePlace, a_methodSign, a_methodStart, a_declared, a_cellKind, a_cellValue, a_callReturn, a_pendingLevel, a_pendingPlace, a_pendingMore, a_frameKind, a_frameMore, a_localName) (f_most, nI (n + 1), f_stored, f_nm, f_nEnv, f_base, f_ns, f_no, f_nc, f_pc, f_mode, f_err, f_errAt, f_ticks, f_calls, f_outs, f_resK, f_part, f_resV, f_cnt, f_full, f_flag, f_need, upd a_tk n (nI t), vp_updL a_tv n z, a_tp, a_mName, a_mKind, a_mCount, a_mPar, a_mAt, a_vName, a_vDecl, a_vKind, a_vVal, a_sk, a_sv, a_oKind, a_oAt, a_oArgs, a_cKind, a_cA, a_cB, a_outK, a_outV)) := by
  obtain ⟨T, V, n, mt, oc, mc, mu, ⟨⟨t1, t2, t3⟩, e1, e2, hk⟩, hl, he, ho, hr, hm, hG, hM⟩ := h
  refine ⟨n, e1, e2, t1, fun lt => ⟨fun p => if p = n then t else T p, upd V n x, n + 1, mt, oc, mc, mu, ⟨⟨by omega, fun p hp => ?_, fun p hp => ?_⟩, rfl, rfl, fun p hp => ?_⟩, hl, he, ho, hr, hm, hG, ls_MT_mv2 hM (fun _ _ => ⟨rfl, rfl, rfl, rfl⟩) (fun j j1 => ⟨pk_un (by omega), rfl, pk_uLn (by omega)⟩)⟩⟩
  · show (if p = n then t else T p) < 72 ∧ upd a_tokenCode n (nI (ls_xc t)) p = nI (ls_xc (if p = n then t else T p)) ∧ (ls_nam (if p = n then t else T p) → upd a_tokenValue n x p = nI ((if p = n then t else T p) - 54)) ∧ (70 ≤ (if p = n then t else T p) → upd a_tokenValue n x p = upd V n x p)
    by_cases q : p = n
    · rw [if_pos q, q]
      exact ⟨h72, pk_us, fun g => pk_us.trans (hx g), fun _ => pk_us.trans pk_us.symm⟩
    · rw [if_neg q, pk_un q, pk_un q, pk_un q]
      exact t2 p (by omega)
  · show (if p = n then t else T p) = 72
    rw [if_neg (by omega)]
    exact t3 p (by omega)
  · show upd a_tk n (nI t) p = nI (if p = n then t else T p) ∧ (70 ≤ (if p = n then t else T p) → vp_updL a_tv n z p = (upd V n x p).toInt64)
    by_cases q : p = n
    · rw [if_pos q, q]
      exact ⟨pk_us, fun g => by rw [pk_uLs, pk_us]; exact hz g⟩
    · rw [if_neg q, pk_un q, pk_un q, pk_uLn q]
      exact hk p (by omega)
set_option maxHeartbeats 200000 in
theorem ls_R_clear {mt : Nat} (h : mt ≤ 400) : ls_R (nI mt, 0, 0, 0, -1, -1, 0, f_codeSize, 0, 0, f_cellCount, f_activeCalls, f_next, f_ticksLeft, f_state, f_pos, f_expressionStart, f_pendingCount, f_frameTop, f_localCount, a_tokenCode, a_tokenValue, a_outKind, a_outValue, a_codeOp, a_codeArg, a_codeKind, a_codePlace, a_methodSign, a_methodStart, (fun j => if j < 16 then -1 else a_declared j), a_cellKind, a_cellValue, a_callReturn, a_pendingLevel, a_pendingPlace, a_pendingMore, a_frameKind, a_frameMore, a_localName) (nI mt, 0, 140, 0, f_nEnv, f_base, f_ns, f_no, f_nc, f_pc, f_mode, f_err, -1, f_ticks, f_calls, 0, -1, f_part, 0, f_cnt, f_full, f_flag, f_need, a_tk, a_tv, a_tp, a_mName, a_mKind, a_mCount, a_mPar, a_mAt, a_vName, (fun j => if 80 ≤ j ∧ j < 96 then -1 else a_vDecl j), a_vKind, a_vVal, a_sk, a_sv, a_oKind, a_oAt, a_oArgs, a_cKind, a_cA, a_cB, a_outK, a_outV) := by
  refine ⟨fun _ => 72, fun _ => 0, 0, mt, 0, 0, 0, ⟨⟨by decide, fun p hp => absurd hp (by omega), fun _ _ => rfl⟩, rfl, rfl, fun p hp => absurd hp (by omega)⟩, ⟨h, rfl, rfl⟩, rfl, ⟨by decide, rfl, rfl, fun i hi => absurd hi (by omega)⟩, ⟨rfl, rfl⟩, ⟨rfl, rfl, rfl, rfl⟩, fun i hi => Or.inr ⟨?_, ?_⟩, by decide, by decide, fun m hm => absurd hm (by omega), fun i j _ hj => absurd hj (by omega)⟩
  · show (if i < 16 then (-1 : Int32) else a_declared i) = -1
    rw [if_pos hi]
  · show (if 80 ≤ 80 + i ∧ 80 + i < 96 then (-1 : Int32) else a_vDecl (80 + i)) = -1
    rw [if_pos (by omega)]
set_option maxHeartbeats 200000 in
theorem hx_addToken {post : Int32 → SX → Prop} {n cc : Nat} {c x : Int32} (hc : c = nI cc) (hn : n ≤ 140) (g0 : n = 140 → post 0 (f_tickLimit, nI n, f_outCount, f_error, f_errorPlace, f_lastKind, f_lastValue, f_codeSize, f_methodCount, f_methodTokens, f_cellCount, f_activeCalls, f_next, f_ticksLeft, f_state, f_pos, f_expressionStart, f_pendingCount, f_frameTop, f_localCount, a_tokenCode, a_tokenValue, a_outKind, a_outValue, a_codeOp, a_codeArg, a_codeKind, a_codePlace, a_methodSign, a_methodStart, a_declared, a_cellKind, a_cellValue, a_callReturn, a_pendingLevel, a_pendingPlace, a_pendingMore, a_frameKind, a_frameMore, a_localName)) (g1 : n < 140 → post 1 (f_tickLimit, nI (n + 1), f_outCount, f_error, f_errorPlace, f_lastKind, f_lastValue, f_codeSize, f_methodCount, f_methodTokens, f_cellCount, f_activeCalls, f_next, f_ticksLeft, f_state, f_pos, f_expressionStart, f_pendingCount, f_frameTop, f_localCount, upd a_tokenCode n (nI cc), upd a_tokenValue n x, a_outKind, a_outValue, a_codeOp, a_codeArg, a_codeKind, a_codePlace, a_methodSign, a_methodStart, a_declared, a_cellKind, a_cellValue, a_callReturn, a_pendingLevel, a_pendingPlace, a_pendingMore, a_frameKind, a_frameMore, a_localName)) : wpX_addToken post (f_tickLimit, nI n, f_outCount, f_error, f_errorPlace, f_lastKind, f_lastValue, f_codeSize, f_methodCount, f_methodTokens, f_cellCount, f_activeCalls, f_next, f_ticksLeft, f_state, f_pos, f_expressionStart, f_pendingCount, f_frameTop, f_localCount, a_tokenCode, a_tokenValue, a_outKind, a_outValue, a_codeOp, a_codeArg, a_codeKind, a_codePlace, a_methodSign, a_methodStart, a_declared, a_cellKind, a_cellValue, a_callReturn, a_pendingLevel, a_pendingPlace, a_pendingMore, a_frameKind, a_frameMore, a_localName) c x := by
  subst hc
  by_cases q : n = 140
  · subst q
    exact br_t (by decide) (br_t rfl ⟨rfl, g0 rfl⟩)
  · refine br_f (nI_ge (b := 140) (by omega) (by decide)) (br_f (by decide) ⟨vp_in_nI (by omega) (by decide), nm_r (by rw [nI_clamp (by omega)]) ⟨vp_in_nI (by omega) (by decide), nm_r (by rw [nI_clamp (by omega)]) (nm_r (nI_1 n) ⟨rfl, g1 (by omega)⟩)⟩⟩)
set_option maxHeartbeats 200000 in
theorem hy_put {post : Int32 → SY → Prop} {n t : Nat} {c : Int32} {z : Int64} (hc : c = nI t) (hn : n ≤ 140) (ht : t < 128) (g0 : n = 140 → post 0 (f_most, nI n, f_stored, f_nm, f_nEnv, f_base, f_ns, f_no, f_nc, f_pc, f_mode, f_err, f_errAt, f_ticks, f_calls, f_outs, f_resK, f_part, f_resV, f_cnt, f_full, f_flag, f_need, a_tk, a_tv, a_tp, a_mName, a_mKind, a_mCount, a_mPar, a_mAt, a_vName, a_vDecl, a_vKind, a_vVal, a_sk, a_sv, a_oKind, a_oAt, a_oArgs, a_cKind, a_cA, a_cB, a_outK, a_outV)) (g1 : n < 140 → post 1 (f_most, nI (n + 1), f_stored, f_nm, f_nEnv, f_base, f_ns, f_no, f_nc, f_pc, f_mode, f_err, f_errAt, f_ticks, f_calls, f_outs, f_resK, f_part, f_resV, f_cnt, f_full, f_flag, f_need, upd a_tk n (nI t), vp_updL a_tv n z, a_tp, a_mName, a_mKind, a_mCount, a_mPar, a_mAt, a_vName, a_vDecl, a_vKind, a_vVal, a_sk, a_sv, a_oKind, a_oAt, a_oArgs, a_cKind, a_cA, a_cB, a_outK, a_outV)) : wpY_put post (f_most, nI n, f_stored, f_nm, f_nEnv, f_base, f_ns, f_no, f_nc, f_pc, f_mode, f_err, f_errAt, f_ticks, f_calls, f_outs, f_resK, f_part, f_resV, f_cnt, f_full, f_flag, f_need, a_tk, a_tv, a_tp, a_mName, a_mKind, a_mCount, a_mPar, a_mAt, a_vName, a_vDecl, a_vKind, a_vVal, a_sk, a_sv, a_oKind, a_oAt, a_oArgs, a_cKind, a_cA, a_cB, a_outK, a_outV) c z := by
  subst hc
  by_cases q : n = 140
  · subst q
    exact br_t rfl (g0 rfl)
  · refine br_f (fun h => q ((nI_eq (b := 140) (by omega) (by decide)).mp h)) ⟨vp_in_nI (by omega) (by decide), nm_r (by rw [nI_clamp (by omega), ls_vnb2 ht]) (nm_r (nI_1 n) ⟨vp_in_nI (by omega) (by decide), nm_r (by rw [nI_clamp (by omega)]) (g1 (by omega))⟩)⟩
end
