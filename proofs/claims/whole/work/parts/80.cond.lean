/-! Conditions -/
section
variable {T : Nat → Nat} {V : Nat → Int32} {C : Nat → LsC} {kF : LsK} {n N d e ta tz : Nat} {yn : Nat} {cr mk D : Nat → Int32} {co ca ck cp tk : Nat → Int32} {tv : Nat → Int64} {tp : Nat → Int32}
variable {t st pos es p : Nat} {pe : List LsP} {f : LsF} {r fr : List LsF} {L : List Nat} {k : LsK} {as : List LsA} {Ls : List (List Nat)} {xs ys : List LsV} {os cs : List LsP} {kd : Option Nat}
set_option maxHeartbeats 200000 in
theorem ls_lim (U : ls_UA co ca ck cp tk tv tp (T, V, C, kF, n, N, d, e, ta, tz)) (K : ls_UK (T, V, C, kF, n, N, d, e, ta, tz) as yn kd) : (as = [] → e = 0 ∧ (C tz).2.1 = yn ∧ yn ≤ 140 ∧ ∀ p, yn ≤ p → T p = 72) ∧ (as ≠ [] → 140 ≤ (C ta).2.1 + e) := by
  obtain ⟨g1, g2, g3, _⟩ := U
  refine ⟨fun a0 => ?_, fun a0 => ?_⟩
  · obtain ⟨⟨_, e0, ta0, z0, y0⟩, _⟩ := K.1 a0
    have N0 : 0 < N := by
      apply Decidable.byContradiction
      intro q
      have n0 : N = 0 := by omega
      have := g1.2.2.1.1
      rw [n0] at this
      have := g2.2
      rw [ta0] at this
      omega
    have s := g1.2.1 (N - 1) (by omega)
    rw [show N - 1 + 1 = N by omega] at s
    have t72 := ls_T72 s.1 s.2 g1.2.2.1.1
    have pn : (C N).2.1 = n := by
      have hI := (g1.2.2.2.2 N (Nat.le_refl _)).2.1
      have le : (C N).2.1 ≤ n := by
        generalize C N = c at *
        obtain ⟨st, pos, es, pe, fr, L, k⟩ := c
        exact hI.1
      apply Decidable.byContradiction
      intro q
      have := g1.1.2.1 (C N).2.1 (by omega)
      omega
    rw [z0, pn, y0]
    exact ⟨e0, rfl, g1.1.1, fun p hp => g1.1.2.2 p hp⟩
  · obtain ⟨_, _, _, _, _, _, _, _, q3, _⟩ := K.2 a0
    exact q3
set_option maxHeartbeats 200000 in
theorem ls_sp_lo (h : ls_cu yn cr mk D (ls_UA co ca ck cp tk tv tp) (T, V, C, kF, n, N, d, e, ta, tz) t as (5, pos, es, pe, f :: r, L, k) Ls xs ys os cs) : (C ta).2.1 ≤ f.2.2.1 := by
  have U := h.1
  have h3 : ta ≤ t ∧ t ≤ tz := h.2.2.1
  have ec : C t = (5, pos, es, pe, f :: r, L, k) := h.2.2.2.1
  obtain ⟨g1, g2, g3, _⟩ := U
  obtain ⟨s, k0, o1, o2, o3, o4, o5, o6⟩ := ls_org g1 (ta := ta) (by rw [g2.2]; decide) t h3.1 (by omega) (by rw [ec]; exact Or.inr rfl)
  rw [ec] at o3
  dsimp only at o3
  obtain ⟨fk, mo, sp, r'', p', L', k'', b1, b2, b3, b4, b5, b6⟩ := o5
  have lo := ls_pos_le g1 o1 (show s ≤ N by omega)
  rw [b3] at lo
  rw [o3] at b1
  injection b1 with _ b1
  injection b1 with b1a b1
  injection b1 with b1b b1
  injection b1 with _ b1
  injection b1 with b1c b1
  injection b1c with b1c b1r
  rw [b1c]
  exact lo
end
section
variable {f_most f_n f_stored f_nm f_nEnv f_base f_ns f_no f_nc f_pc f_mode f_err f_errAt f_ticks f_calls f_outs f_resK f_part f_cnt f_full f_flag f_need : Int32}
variable {f_resV : Int64}
variable {a_tk a_tp a_mName a_mKind a_mCount a_mPar a_mAt a_vName a_vDecl a_vKind a_sk a_oKind a_oAt a_oArgs a_cKind a_cA a_cB a_outK : Nat → Int32}
variable {a_tv a_vVal a_sv a_outV : Nat → Int64}
variable {post : SY → Prop} {p m : Nat} {T : Nat → Nat} {e lo hi q : Nat} {ck ca cb : Nat → Int32}
set_option maxHeartbeats 200000 in
theorem hy_fd_f2 {x1 n nc0 : Nat} (hx : x1 < 384) (hm : m < 399) (e1 : a_tk x1 = 6) (e2 : a_sk m = 0) (e3 : a_sv m = 0) (ht : ls_tks T e lo hi a_tk) (hn : n < 1000) (hpq : lo ≤ q) (hlim : p + 1 + e < 140 → e = 0 ∧ hi = n ∧ ∀ p, n ≤ p → T p = 72) (hx2 : 140 ≤ x1 ↔ 140 ≤ p + 1 + e) (hq : q ≤ hi) (hq2 : 140 ≤ p + 1 + e → q < hi)
    (hsk : ∀ (pr : Int32 → SY → Prop), pr (nI (q + e)) (f_most, nI n, f_stored, f_nm, f_nEnv, f_base, nI m, f_no, nI nc0, nI (p + e), 0, f_err, f_errAt, f_ticks, f_calls, f_outs, f_resK, f_part, f_resV, f_cnt, f_full, f_flag, f_need, a_tk, a_tv, a_tp, a_mName, a_mKind, a_mCount, a_mPar, a_mAt, a_vName, a_vDecl, a_vKind, a_vVal, a_sk, a_sv, a_oKind, a_oAt, a_oArgs, ck, ca, cb, a_outK, a_outV) → wpY_skip pr (f_most, nI n, f_stored, f_nm, f_nEnv, f_base, nI m, f_no, nI nc0, nI (p + e), 0, f_err, f_errAt, f_ticks, f_calls, f_outs, f_resK, f_part, f_resV, f_cnt, f_full, f_flag, f_need, a_tk, a_tv, a_tp, a_mName, a_mKind, a_mCount, a_mPar, a_mAt, a_vName, a_vDecl, a_vKind, a_vVal, a_sk, a_sv, a_oKind, a_oAt, a_oArgs, a_cKind, a_cA, a_cB, a_outK, a_outV) (nI (p + 1 + e)))
    (g7 : T q = 7 → post (f_most, nI n, f_stored, f_nm, f_nEnv, f_base, nI m, f_no, nI nc0, nI (q + 1 + e), 0, f_err, f_errAt, f_ticks, f_calls, f_outs, f_resK, 1, f_resV, f_cnt, f_full, f_flag, f_need, a_tk, a_tv, a_tp, a_mName, a_mKind, a_mCount, a_mPar, a_mAt, a_vName, a_vDecl, a_vKind, a_vVal, a_sk, a_sv, a_oKind, a_oAt, a_oArgs, ck, ca, cb, a_outK, a_outV))
    (g0 : T q ≠ 7 → post (f_most, nI n, f_stored, f_nm, f_nEnv, f_base, nI m, f_no, nI nc0, nI (q + e), 0, f_err, f_errAt, f_ticks, f_calls, f_outs, f_resK, 0, f_resV, f_cnt, f_full, f_flag, f_need, a_tk, a_tv, a_tp, a_mName, a_mKind, a_mCount, a_mPar, a_mAt, a_vName, a_vDecl, a_vKind, a_vVal, a_sk, a_sv, a_oKind, a_oAt, a_oArgs, ck, ca, cb, a_outK, a_outV)) : wpY_fullDone post (f_most, nI n, f_stored, f_nm, f_nEnv, f_base, nI (m + 1), f_no, nI nc0, nI (p + e), f_mode, f_err, f_errAt, f_ticks, f_calls, f_outs, f_resK, f_part, f_resV, f_cnt, f_full, f_flag, f_need, a_tk, a_tv, a_tp, a_mName, a_mKind, a_mCount, a_mPar, a_mAt, a_vName, a_vDecl, a_vKind, a_vVal, a_sk, a_sv, a_oKind, a_oAt, a_oArgs, a_cKind, a_cA, a_cB, a_outK, a_outV) (nI x1) := by
  unfold wpY_fullDone
  dsimp only
  rw [nI_pred, nI_clamp (by omega), nI_clamp (by omega), e1, e2, e3]
  refine ⟨vp_in_nI hx (by decide), nm_e ⟨vp_in_nI (by omega) (by decide), nm_e ⟨vp_in_nI (by omega) (by decide), nm_e (br_t rfl ?_)⟩⟩⟩
  unfold wY_fullDone_49
  refine nm_r (nI_pred m) (br_t rfl (br_f (by decide) (br_t rfl ?_)))
  rw [nI_1, show p + e + 1 = p + 1 + e by omega]
  obtain ⟨h384, htk⟩ := ht
  refine hsk _ ?_
  have P172 : T q ≠ 7 → wY_fullDone_172 post 0 f_most (nI n) f_stored f_nm f_nEnv f_base (nI m) f_no (nI nc0) (nI (q + e)) 0 f_err f_errAt f_ticks f_calls f_outs f_resK f_part f_resV f_cnt f_full f_flag f_need a_tk a_tv a_tp a_mName a_mKind a_mCount a_mPar a_mAt a_vName a_vDecl a_vKind a_vVal a_sk a_sv a_oKind a_oAt a_oArgs ck ca cb a_outK a_outV := by
    intro n7
    unfold wY_fullDone_172 wY_fullDone_173
    exact ⟨rfl, rfl, br_t rfl (br_t rfl (g0 n7))⟩
  have P154 : q < hi → wY_fullDone_154 post 0 f_most (nI n) f_stored f_nm f_nEnv f_base (nI m) f_no (nI nc0) (nI (q + e)) 0 f_err f_errAt f_ticks f_calls f_outs f_resK f_part f_resV f_cnt f_full f_flag f_need a_tk a_tv a_tp a_mName a_mKind a_mCount a_mPar a_mAt a_vName a_vDecl a_vKind a_vVal a_sk a_sv a_oKind a_oAt a_oArgs ck ca cb a_outK a_outV := by
    intro lt
    obtain ⟨f1, f2⟩ := htk q hpq lt
    unfold wY_fullDone_154
    refine ⟨vp_in_nI (by omega) (by decide), ?_⟩
    rw [nI_clamp (by omega), f1]
    by_cases c7 : T q = 7
    · refine br_t (by rw [c7]; rfl) ?_
      unfold wY_fullDone_168 wY_fullDone_173
      refine ⟨rfl, rfl, br_t rfl (br_f (by decide) (nm_r (nI_1 _) ?_))⟩
      rw [show q + e + 1 = q + 1 + e by omega]
      exact g7 c7
    · exact br_f (mt (ls_k8 (b := 7) f2 (by decide)).mp c7) (P172 c7)
  dsimp only
  unfold wY_fullDone_125
  refine br_t rfl ?_
  by_cases x140 : 140 ≤ x1
  · exact br_t (nI_le (a := 140) x140 (by omega)) (P154 (hq2 (hx2.mp x140)))
  · refine br_f (nI_ge (b := 140) (by omega) (by decide)) ?_
    obtain ⟨l1, l2, l3⟩ := hlim (by have := mt hx2.mpr x140; omega)
    by_cases c : n ≤ q
    · exact br_t (nI_le (by omega) (by omega)) (P172 (by rw [l3 q c]; decide))
    · exact br_f (nI_ge (by omega) (by omega)) (P154 (by omega))
set_option maxHeartbeats 200000 in
theorem hy_fd_l2 {x1 n nc0 : Nat} {v : Int64} (hx : x1 < 384) (hm : m < 399) (hnc : nc0 < 700) (hqe : q + e < 1000) (e1 : a_tk x1 = 8) (e2 : a_sk m = 0) (e3 : a_sv m = v)
    (hsk : ∀ (pr : Int32 → SY → Prop), pr (nI (q + e)) (f_most, nI n, f_stored, f_nm, f_nEnv, f_base, nI m, f_no, nI nc0, nI (p + e), 0, f_err, f_errAt, f_ticks, f_calls, f_outs, f_resK, f_part, f_resV, f_cnt, f_full, f_flag, f_need, a_tk, a_tv, a_tp, a_mName, a_mKind, a_mCount, a_mPar, a_mAt, a_vName, a_vDecl, a_vKind, a_vVal, a_sk, a_sv, a_oKind, a_oAt, a_oArgs, ck, ca, cb, a_outK, a_outV) → wpY_skip pr (f_most, nI n, f_stored, f_nm, f_nEnv, f_base, nI m, f_no, nI nc0, nI (p + e), 0, f_err, f_errAt, f_ticks, f_calls, f_outs, f_resK, f_part, f_resV, f_cnt, f_full, f_flag, f_need, a_tk, a_tv, a_tp, a_mName, a_mKind, a_mCount, a_mPar, a_mAt, a_vName, a_vDecl, a_vKind, a_vVal, a_sk, a_sv, a_oKind, a_oAt, a_oArgs, a_cKind, a_cA, a_cB, a_outK, a_outV) (nI (p + 1 + e)))
    (g1 : v ≠ 0 → post (f_most, nI n, f_stored, f_nm, f_nEnv, f_base, nI m, f_no, nI (nc0 + 1), nI (p + 1 + e), 0, f_err, f_errAt, f_ticks, f_calls, f_outs, f_resK, f_part, f_resV, f_cnt, f_full, f_flag, f_need, a_tk, a_tv, a_tp, a_mName, a_mKind, a_mCount, a_mPar, a_mAt, a_vName, a_vDecl, a_vKind, a_vVal, a_sk, a_sv, a_oKind, a_oAt, a_oArgs, upd ck nc0 (nI 2), upd ca nc0 (nI x1), upd cb nc0 (nI (q + e)), a_outK, a_outV))
    (g0 : v = 0 → post (f_most, nI n, f_stored, f_nm, f_nEnv, f_base, nI m, f_no, nI nc0, nI (q + e), 0, f_err, f_errAt, f_ticks, f_calls, f_outs, f_resK, f_part, f_resV, f_cnt, f_full, f_flag, f_need, a_tk, a_tv, a_tp, a_mName, a_mKind, a_mCount, a_mPar, a_mAt, a_vName, a_vDecl, a_vKind, a_vVal, a_sk, a_sv, a_oKind, a_oAt, a_oArgs, ck, ca, cb, a_outK, a_outV)) : wpY_fullDone post (f_most, nI n, f_stored, f_nm, f_nEnv, f_base, nI (m + 1), f_no, nI nc0, nI (p + e), f_mode, f_err, f_errAt, f_ticks, f_calls, f_outs, f_resK, f_part, f_resV, f_cnt, f_full, f_flag, f_need, a_tk, a_tv, a_tp, a_mName, a_mKind, a_mCount, a_mPar, a_mAt, a_vName, a_vDecl, a_vKind, a_vVal, a_sk, a_sv, a_oKind, a_oAt, a_oArgs, a_cKind, a_cA, a_cB, a_outK, a_outV) (nI x1) := by
  unfold wpY_fullDone
  dsimp only
  rw [nI_pred, nI_clamp (by omega), nI_clamp (by omega), e1, e2, e3]
  refine ⟨vp_in_nI hx (by decide), nm_e ⟨vp_in_nI (by omega) (by decide), nm_e ⟨vp_in_nI (by omega) (by decide), nm_e (br_f (by decide) (br_t rfl ?_))⟩⟩⟩
  unfold wY_fullDone_49
  refine nm_r (nI_pred m) (br_t rfl (br_t rfl ?_))
  unfold wY_fullDone_92 wpY_loop
  dsimp only
  rw [nI_1, show p + e + 1 = p + 1 + e by omega]
  refine br_c (fun v0 => ?_) (fun v0 => ?_)
  · refine hsk _ (br_t rfl ?_)
    unfold wY_loop_22
    exact br_t rfl (g0 v0)
  · refine hsk _ (br_f (by decide) (hy_hold (kd := 2) hnc (by decide) (by omega) (by omega) ?_))
    dsimp only
    unfold wY_loop_22
    rw [nI_1, show p + e + 1 = p + 1 + e by omega]
    exact br_f (by decide) (nm_e (g1 v0))
end
section
variable {f_tickLimit f_tokenCount f_outCount f_error f_errorPlace f_lastKind f_codeSize f_methodCount f_methodTokens f_cellCount f_activeCalls f_next f_ticksLeft f_state f_pos f_expressionStart f_pendingCount f_frameTop f_localCount : Int32}
variable {f_lastValue : Int64}
variable {a_tokenCode a_tokenValue a_outKind a_codeOp a_codeArg a_codeKind a_codePlace a_methodSign a_methodStart a_declared a_cellKind a_callReturn a_pendingLevel a_pendingPlace a_pendingMore a_frameKind a_frameMore a_localName : Nat → Int32}
variable {a_outValue a_cellValue : Nat → Int64}
variable {f_cnt f_full f_flag f_need : Int32}
variable {a_tk a_tp a_mName a_mKind a_mCount a_mPar a_mAt a_vName a_vDecl a_vKind a_sk a_oKind a_oAt a_oArgs a_cKind a_cA a_cB a_outK : Nat → Int32}
variable {a_tv a_vVal a_sv a_outV : Nat → Int64}
variable {yn mt tl oc mc mu : Nat} {T : Nat → Nat} {V : Nat → Int32} {C : Nat → LsC} {kF : LsK} {n N d e ta tz t : Nat} {as : List LsA} {st pos es : Nat} {pe : List LsP} {fr : List LsF} {L : List Nat} {k : LsK} {Ls : List (List Nat)} {xs ys : List LsV} {os cs : List LsP} {F : Nat}
set_option maxHeartbeats 4000000 in
/-- if -/
theorem gs_e7 {mo sp : Nat} {l : List Nat} {r : List LsF} (ih : ls_IH F) (h : ls_S yn mt tl oc mc mu ((T, V, C, kF, n, N, d, e, ta, tz)) t as ((5, pos, es, [], (7, mo, sp, l) :: r, L, k)) Ls xs ys os cs f_tickLimit a_outKind a_outValue a_codeOp a_codeArg a_codeKind a_codePlace a_methodSign a_methodStart a_declared a_cellKind a_cellValue a_callReturn a_tk a_tv a_tp a_mName a_mKind a_mCount a_mPar a_mAt a_vName a_vDecl a_vKind a_vVal a_sk a_sv a_oKind a_oAt a_oArgs a_cKind a_cA a_cB a_outK a_outV) (hF : ls_Phi tl as 5 ((7, mo, sp, l) :: r) N t = F) (h16 : T pos = 16) (hc : C (t + 1) = (0, pos + 1, es, [], (3, k.1, sp, []) :: r, L, ls_em k 15 0 0 (nI sp))) : ls_G F (f_tickLimit, f_tokenCount, nI oc, 0, f_errorPlace, f_lastKind, f_lastValue, f_codeSize, nI mc, nI mu, nI (88 + xs.length), nI as.length, nI (k.1 - d), nI tl, f_state, f_pos, f_expressionStart, f_pendingCount, f_frameTop, f_localCount, a_tokenCode, a_tokenValue, a_outKind, a_outValue, a_codeOp, a_codeArg, a_codeKind, a_codePlace, a_methodSign, a_methodStart, a_declared, a_cellKind, a_cellValue, a_callReturn, a_pendingLevel, a_pendingPlace, a_pendingMore, a_frameKind, a_frameMore, a_localName) (nI mt, nI yn, nI (140 + mu), nI mc, nI (ls_sl Ls + L.length), nI (ls_sl Ls), nI ys.length, nI os.length, nI cs.length, nI (pos + e), nI 3, 0, f_errorPlace, nI (mt - tl), nI as.length, nI oc, f_lastKind, nI 0, f_lastValue, f_cnt, f_full, f_flag, f_need, a_tk, a_tv, a_tp, a_mName, a_mKind, a_mCount, a_mPar, a_mAt, a_vName, a_vDecl, a_vKind, a_vVal, a_sk, a_sv, a_oKind, a_oAt, a_oArgs, a_cKind, a_cA, a_cB, a_outK, a_outV) := by
  have h' := h
  obtain ⟨hcu, hX, hY, hO, hE, hG, hV, hl, ho, hM⟩ := h'
  have U := hcu.1
  have tt := hcu.2.2.1
  have ec := hcu.2.2.2.1
  have T72 := ls_T5 U.1 (by have := U.2.2.1; omega) ec
  obtain ⟨lt, ltN, _, d1, d2, t1, t2, t3, t4, t5⟩ := ls_ac hcu (Or.inr rfl) T72
  have B := ls_Sb5 h t3
  have LB := ls_cu_len hcu
  have as8 := hl.2.2.2.1
  have cd := ls_cod U tt ec (Nat.le_refl _) (t' := t) ⟨Nat.le_refl _, tt.2⟩ ec (Nat.le_refl _)
  have lv := ls_lv_ge (T pos)
  have hV : ls_lev (ls_sm a_declared a_cellKind a_cellValue a_vDecl a_vKind a_vVal) a_vName (L :: Ls) := hV
  obtain ⟨kd, q, g, os', lq, eos, k17, g100, o1, o2, o3, q7, cnd, top0, _⟩ := ls_top5 h (fun x r q => by cases q)
  obtain ⟨kd1, f0, r0, ef, eq0, hin⟩ := top0 rfl
  injection ef with ef1 ef2
  subst ef1 ef2 kd1
  dsimp only at eq0
  subst eq0
  have ol : os.length = os'.length + 1 := by rw [eos, List.length_cons]
  obtain ⟨l0, ORG, esp⟩ := ls_orf hcu
  dsimp only at l0 ORG
  subst l0
  have TS := ls_toke U tt ec (Or.inr rfl) rfl (p := sp) (Nat.le_refl _) (by omega)
  have YA : ls_lv (T pos) = 2 → ∀ post : SY → Prop, wpY_fullDone post (nI mt, nI yn, nI (140 + mu), nI mc, nI (ls_sl Ls + L.length), nI (ls_sl Ls), nI ys.length, nI os'.length, nI cs.length, nI (pos + e), nI 3, 0, f_errorPlace, nI (mt - tl), nI as.length, nI oc, f_lastKind, nI 0, f_lastValue, f_cnt, f_full, f_flag, f_need, a_tk, a_tv, a_tp, a_mName, a_mKind, a_mCount, a_mPar, a_mAt, a_vName, a_vDecl, a_vKind, a_vVal, a_sk, a_sv, a_oKind, a_oAt, a_oArgs, a_cKind, a_cA, a_cB, a_outK, a_outV) (nI (sp + e)) → wpY_after post (nI mt, nI yn, nI (140 + mu), nI mc, nI (ls_sl Ls + L.length), nI (ls_sl Ls), nI ys.length, nI os.length, nI cs.length, nI (pos + e), nI 3, 0, f_errorPlace, nI (mt - tl), nI as.length, nI oc, f_lastKind, nI 0, f_lastValue, f_cnt, f_full, f_flag, f_need, a_tk, a_tv, a_tp, a_mName, a_mKind, a_mCount, a_mPar, a_mAt, a_vName, a_vDecl, a_vKind, a_vVal, a_sk, a_sv, a_oKind, a_oAt, a_oArgs, a_cKind, a_cA, a_cB, a_outK, a_outV) := by
    intro LE post gg
    rw [ol]
    exact hy_after_n (kd := 1) (lq := lq) t3 t1 t2 (by omega) o1 k17 o2 q7 o3 g100 (Or.inl (by omega)) (fun q => by omega) (fun _ _ => gg) (fun _ q => by omega) (fun _ q => by omega) (fun _ q => by omega)
  obtain ⟨z, x0, y0, o0, ins, exs, eys, eos0, _, FN1, FN2, FN3, FN4⟩ := ls_cu_fin (st' := 0) (pos' := pos + 1) (es' := es) (k' := ls_em k 15 0 0 (nI sp)) hcu
  rw [exs] at hX
  rw [eys] at hY
  obtain ⟨x1, x2, x3, x4⟩ := hX
  obtain ⟨y1, y2, _, y4⟩ := hY
  rw [Nat.zero_add] at y1 y2
  have xl8 : 88 + xs.length = 88 + x0.length + 1 := by rw [exs, List.length_cons]; omega
  have yl : ys.length = y0.length + 1 := by rw [eys, List.length_cons]
  have oo : os' = o0 := by
    rw [eos] at eos0
    injection eos0
  subst oo
  have z4 := x3.1
  have hO0 : ls_StP a_oKind a_oAt a_oArgs os' := by
    rw [eos] at hO
    exact hO.2.2.2
  have LE : ls_lv (T pos) = 2 := by rw [h16]; rfl
  have TSP : T sp = 6 := by
    rcases ORG with c | c | c | c | c | c
    all_goals first | exact c.2.2 | exact absurd c.1 (by decide)
  have eTk : a_tk (sp + e) = 6 := by rw [TS.1, TSP]; rfl
  have f15 := ls_fat U.1 (by omega) hc (i := k.1) (Nat.lt_succ_self _)
  have op15 : a_codeOp (k.1 - d) = 15 := cd.2.2.1.trans (f15.1.trans pk_us)
  have pl15 : a_codePlace (k.1 - d) = nI sp := cd.2.2.2.2.2.trans (f15.2.2.1.trans pk_us)
  have lt2 := ls_tl0 U.1 (by omega) hc
  have LL : ls_l5 ((7, mo, sp, []) :: r) = ls_l5 r := by show 0 + ls_l5 r = _; omega
  have L3 : ∀ j a, j ≠ 5 → ls_lo5 0 ((j, a, sp, []) :: r) ≤ ls_lo5 5 ((7, mo, sp, []) :: r) := by
    intro j a hj
    rw [ls_lo5_x (st := 5) (by omega), LL]
    unfold ls_lo5
    show (if j = 5 then 1 else 0) + ls_l5 r - _ ≤ _
    rw [if_neg hj]
    omega
  by_cases k0 : z.1 = 0
  · have y10 : a_sk y0.length = 0 := by rw [y1, k0]; rfl
    by_cases v0 : z.2 = 0
    · have y20 : a_sv y0.length = 0 := by rw [y2, v0]
      obtain ⟨t', q', es', k'', k2, j, f1, f2, f3, f4, f5, f6, f7, f8, f9, f10⟩ := ls_fif U.1 (by omega) hc
      have FRB : ∀ u, t ≤ u → u ≤ t' → r.length ≤ ((C u).2.2.2.2.1).length := by
        intro u u1 u2
        rcases Nat.eq_or_lt_of_le u1 with g1 | g1
        · subst g1; rw [ec]; exact Nat.le_succ _
        · have := f10 u (by omega) u2; omega
      have UK' := hcu.2.1
      rw [ls_mkd_c (by show (7 : Nat) ≠ 2; decide)] at UK'
      have tz0 := ls_UK_to2 U.1 UK' tt.2 (show t' ≤ N by omega) FRB
      have UK3 : ls_UK (T, V, C, kF, n, N, d, e, ta, tz) as yn (ls_mkd ((3, k.1, sp, []) :: r)) := by rw [ls_mkd_c (by show (3 : Nat) ≠ 2; decide)]; exact UK'
      have tz1 : t' < tz := ls_UK_lt UK3 U.2.2.1.2 U.1 tz0 f3 (by decide) (fun q => by have : (3 : Nat) = 2 := q.2; omega)
      have QH : as ≠ [] → q' < (C tz).2.1 := fun a0 => (ls_hi U UK3 ⟨by omega, tz1⟩ f3 (Or.inr a0)).1
      have esp2 : sp < pos := esp
      obtain ⟨LM1, LM2⟩ := ls_lim U hcu.2.1
      have splo := ls_sp_lo hcu
      dsimp only at splo
      have lo := ls_pos_le U.1 tt.1 (show t ≤ N by omega)
      rw [ec] at lo
      have lo' : (C ta).2.1 ≤ pos := lo
      have qz := ls_pos_le U.1 (show t' ≤ tz by omega) U.2.2.1.2
      rw [f3] at qz
      have qz' : q' ≤ (C tz).2.1 := qz
      have HLIM : pos + 1 + e < 140 → e = 0 ∧ (C tz).2.1 = yn ∧ ∀ p, yn ≤ p → T p = 72 := by
        intro hh
        by_cases a0 : as = []
        · obtain ⟨m1, m2, m3, m4⟩ := LM1 a0
          exact ⟨m1, m2, m4⟩
        · have := LM2 a0; omega
      have HX2 : 140 ≤ sp + e ↔ 140 ≤ pos + 1 + e := by
        by_cases a0 : as = []
        · obtain ⟨m1, m2, m3, m4⟩ := LM1 a0
          omega
        · have := LM2 a0; omega
      have HQ2 : 140 ≤ pos + 1 + e → q' < (C tz).2.1 := by
        intro hh
        by_cases a0 : as = []
        · obtain ⟨m1, m2, m3, m4⟩ := LM1 a0
          omega
        · exact QH a0
      have CL := LB.2.2.2.1
      have PZ : (C tz).2.1 ≤ 140 := by
        have hI := (U.1.2.2.2.2 tz U.2.2.1.2).2.1
        have : (C tz).2.1 ≤ n := by
          generalize C tz = c at *
          obtain ⟨st, pos, es, pe, fr, L, k⟩ := c
          exact hI.1
        have := U.1.1.1
        omega
      obtain ⟨ck, ca, cb, hcc, SK⟩ := hy_skipE (p := pos + 1) (q := q') (nc0 := cs.length) (n := yn) U.2.2.2.2.1 (by omega) (by omega) HLIM qz' HQ2 (by omega) f5 (f_most := nI mt) (f_stored := nI (140 + mu)) (f_nm := nI mc) (f_nEnv := nI (ls_sl Ls + L.length)) (f_base := nI (ls_sl Ls)) (f_ns := nI y0.length) (f_no := nI os'.length) (f_pc := nI (pos + e)) (f_mode := 0) (f_err := 0) (f_errAt := f_errorPlace) (f_ticks := nI (mt - tl)) (f_calls := nI as.length) (f_outs := nI oc) (f_resK := f_lastKind) (f_part := nI 0) (f_resV := f_lastValue) (f_cnt := f_cnt) (f_full := f_full) (f_flag := f_flag) (f_need := f_need) (a_tv := a_tv) (a_tp := a_tp) (a_mName := a_mName) (a_mKind := a_mKind) (a_mCount := a_mCount) (a_mPar := a_mPar) (a_mAt := a_mAt) (a_vName := a_vName) (a_vDecl := a_vDecl) (a_vKind := a_vKind) (a_vVal := a_vVal) (a_sk := a_sk) (a_sv := a_sv) (a_oKind := a_oKind) (a_oAt := a_oAt) (a_oArgs := a_oArgs) (a_cKind := a_cKind) (a_cA := a_cA) (a_cB := a_cB) (a_outK := a_outK) (a_outV := a_outV)
      have hxx : d ≤ k2.1 → ls_xr 1 (f_tickLimit, f_tokenCount, nI oc, 0, f_errorPlace, f_lastKind, f_lastValue, f_codeSize, nI mc, nI mu, nI (88 + xs.length), nI as.length, nI (k.1 - d), nI tl, f_state, f_pos, f_expressionStart, f_pendingCount, f_frameTop, f_localCount, a_tokenCode, a_tokenValue, a_outKind, a_outValue, a_codeOp, a_codeArg, a_codeKind, a_codePlace, a_methodSign, a_methodStart, a_declared, a_cellKind, a_cellValue, a_callReturn, a_pendingLevel, a_pendingPlace, a_pendingMore, a_frameKind, a_frameMore, a_localName) (f_tickLimit, f_tokenCount, nI oc, 0, f_errorPlace, f_lastKind, f_lastValue, f_codeSize, nI mc, nI mu, nI (88 + x0.length), nI as.length, nI (k2.1 - d), nI tl, f_state, f_pos, f_expressionStart, f_pendingCount, f_frameTop, f_localCount, a_tokenCode, a_tokenValue, a_outKind, a_outValue, a_codeOp, a_codeArg, a_codeKind, a_codePlace, a_methodSign, a_methodStart, a_declared, a_cellKind, a_cellValue, a_callReturn, a_pendingLevel, a_pendingPlace, a_pendingMore, a_frameKind, a_frameMore, a_localName) := by
        intro dk
        rw [xl8, ← ls_jmp (a := k2.1) (b := k.1) dk d1]
        refine xr_of (fun post f s hs hh => gx_15 d2 hs op15 (hx_unless d2 ⟨by omega, by omega⟩ x1 (by omega) x2 (fun q => absurd k0 q) (fun _ _ => ?_) (fun _ q => absurd v0 q)))
        rw [cd.2.2.2.1, f6]
        exact hh
      by_cases t7 : T q' = 7
      · have hc2 := f8 t7
        obtain ⟨z', x0', y0', o0', ins', exs', eys', eos', _, FA, FB, FC, FD⟩ := ls_cu_fin (st' := 0) (pos' := q' + 1) (es' := es') (k' := k2) hcu
        have ex0 : x0' = x0 := by rw [exs] at exs'; injection exs' with _ q; exact q.symm
        have ey0 : y0' = y0 := by rw [eys] at eys'; injection eys' with _ q; exact q.symm
        have eo0 : o0' = os' := by rw [eos] at eos'; injection eos' with _ q; exact q.symm
        rw [ex0, ey0, eo0] at FA FB FC FD
        have cu2 := FD (t' + 1) ((4, k''.1, sp, []) :: r) (Or.inr ⟨_, Or.inr rfl, rfl⟩) (by omega) (by omega) (fun u u1 u2 => by
          rcases Nat.eq_or_lt_of_le u2 with g1 | g1
          · subst g1; rw [hc2]; exact Nat.le_succ _
          · exact FRB u u1 (by omega)) (by omega) hc2
        have dk := ls_d_le cu2.1 cu2.2.2.1 hc2
        have P := ls_Phi_lt (tl := tl) (as := as) (st := 5) (st' := 0) (fr := (7, mo, sp, []) :: r) (fr' := (4, k''.1, sp, []) :: r) (N := N) (t := t) (t' := t' + 1) (L3 4 _ (by decide)) (by omega) (by omega)
        have S' : ls_S yn mt tl oc mc mu ((T, V, C, kF, n, N, d, e, ta, tz)) (t' + 1) as ((0, q' + 1, es', [], (4, k''.1, sp, []) :: r, L, k2)) Ls x0 y0 os' cs f_tickLimit a_outKind a_outValue a_codeOp a_codeArg a_codeKind a_codePlace a_methodSign a_methodStart a_declared a_cellKind a_cellValue a_callReturn a_tk a_tv a_tp a_mName a_mKind a_mCount a_mPar a_mAt a_vName a_vDecl a_vKind a_vVal a_sk a_sv a_oKind a_oAt a_oArgs ck ca cb a_outK a_outV := ⟨cu2, x4, y4, hO0, ls_StP_ag hcc hE, hG, hV, hl, ho, hM⟩
        have G0 : ls_G (ls_Phi tl as 0 ((4, k''.1, sp, []) :: r) N (t' + 1)) (f_tickLimit, f_tokenCount, nI oc, 0, f_errorPlace, f_lastKind, f_lastValue, f_codeSize, nI mc, nI mu, nI (88 + x0.length), nI as.length, nI (k2.1 - d), nI tl, f_state, f_pos, f_expressionStart, f_pendingCount, f_frameTop, f_localCount, a_tokenCode, a_tokenValue, a_outKind, a_outValue, a_codeOp, a_codeArg, a_codeKind, a_codePlace, a_methodSign, a_methodStart, a_declared, a_cellKind, a_cellValue, a_callReturn, a_pendingLevel, a_pendingPlace, a_pendingMore, a_frameKind, a_frameMore, a_localName) (nI mt, nI yn, nI (140 + mu), nI mc, nI (ls_sl Ls + L.length), nI (ls_sl Ls), nI y0.length, nI os'.length, nI cs.length, nI (q' + 1 + e), nI (ls_md 0 []), 0, f_errorPlace, nI (mt - tl), nI as.length, nI oc, f_lastKind, nI (ls_pt 0 ((4, k''.1, sp, []) :: r)), f_lastValue, f_cnt, f_full, f_flag, f_need, a_tk, a_tv, a_tp, a_mName, a_mKind, a_mCount, a_mPar, a_mAt, a_vName, a_vDecl, a_vKind, a_vVal, a_sk, a_sv, a_oKind, a_oAt, a_oArgs, ck, ca, cb, a_outK, a_outV) := ih S' (by omega) (fun q => absurd q.1 (by decide))
        rw [show ls_md 0 [] = 0 from rfl, show ls_pt 0 ((4, k''.1, sp, []) :: r) = 1 from rfl] at G0
        refine ls_G_go (hxx dk.1) (yr_after B (fun post hp => YA LE post ?_)) G0 (by omega) (by omega)
        rw [yl]
        exact hy_fd_f2 (ck := ck) (ca := ca) (cb := cb) TS.2.2.1 (by omega) eTk y10 y20 U.2.2.2.2.1 (by omega) (by omega) HLIM HX2 qz' HQ2 SK (fun _ => hp) (fun q => absurd t7 q)
      · have hc2 := f9 t7
        obtain ⟨z', x0', y0', o0', ins', exs', eys', eos', _, FA, FB, FC, FD⟩ := ls_cu_fin (st' := 3) (pos' := q') (es' := es') (k' := k2) hcu
        have ex0 : x0' = x0 := by rw [exs] at exs'; injection exs' with _ q; exact q.symm
        have ey0 : y0' = y0 := by rw [eys] at eys'; injection eys' with _ q; exact q.symm
        have eo0 : o0' = os' := by rw [eos] at eos'; injection eos' with _ q; exact q.symm
        rw [ex0, ey0, eo0] at FA FB FC FD
        have cu2 := FD (t' + 1) r (Or.inl rfl) (by omega) (by omega) (fun u u1 u2 => by
          rcases Nat.eq_or_lt_of_le u2 with g1 | g1
          · subst g1; rw [hc2]; exact Nat.le_refl _
          · exact FRB u u1 (by omega)) (by omega) hc2
        have dk := ls_d_le cu2.1 cu2.2.2.1 hc2
        have P := ls_Phi_lt (tl := tl) (as := as) (st := 5) (st' := 3) (fr := (7, mo, sp, []) :: r) (fr' := r) (N := N) (t := t) (t' := t' + 1) (by rw [ls_lo5_x (by omega), ls_lo5_x (by omega), LL]; exact Nat.le_refl _) (by omega) (by omega)
        have S' : ls_S yn mt tl oc mc mu ((T, V, C, kF, n, N, d, e, ta, tz)) (t' + 1) as ((3, q', es', [], r, L, k2)) Ls x0 y0 os' cs f_tickLimit a_outKind a_outValue a_codeOp a_codeArg a_codeKind a_codePlace a_methodSign a_methodStart a_declared a_cellKind a_cellValue a_callReturn a_tk a_tv a_tp a_mName a_mKind a_mCount a_mPar a_mAt a_vName a_vDecl a_vKind a_vVal a_sk a_sv a_oKind a_oAt a_oArgs ck ca cb a_outK a_outV := ⟨cu2, x4, y4, hO0, ls_StP_ag hcc hE, hG, hV, hl, ho, hM⟩
        have G0 : ls_G (ls_Phi tl as 3 r N (t' + 1)) (f_tickLimit, f_tokenCount, nI oc, 0, f_errorPlace, f_lastKind, f_lastValue, f_codeSize, nI mc, nI mu, nI (88 + x0.length), nI as.length, nI (k2.1 - d), nI tl, f_state, f_pos, f_expressionStart, f_pendingCount, f_frameTop, f_localCount, a_tokenCode, a_tokenValue, a_outKind, a_outValue, a_codeOp, a_codeArg, a_codeKind, a_codePlace, a_methodSign, a_methodStart, a_declared, a_cellKind, a_cellValue, a_callReturn, a_pendingLevel, a_pendingPlace, a_pendingMore, a_frameKind, a_frameMore, a_localName) (nI mt, nI yn, nI (140 + mu), nI mc, nI (ls_sl Ls + L.length), nI (ls_sl Ls), nI y0.length, nI os'.length, nI cs.length, nI (q' + e), nI (ls_md 3 []), 0, f_errorPlace, nI (mt - tl), nI as.length, nI oc, f_lastKind, nI (ls_pt 3 r), f_lastValue, f_cnt, f_full, f_flag, f_need, a_tk, a_tv, a_tp, a_mName, a_mKind, a_mCount, a_mPar, a_mAt, a_vName, a_vDecl, a_vKind, a_vVal, a_sk, a_sv, a_oKind, a_oAt, a_oArgs, ck, ca, cb, a_outK, a_outV) := ih S' (by omega) (ls_n2U h.1.1 h.1.2.2.1 h.1.2.2.2.1 (show (7 : Nat) ≠ 1 by decide))
        rw [show ls_md 3 [] = 0 from rfl, ls_pt_x (by omega)] at G0
        refine ls_G_go (hxx dk.1) (yr_after B (fun post hp => YA LE post ?_)) G0 (by omega) (by omega)
        rw [yl]
        exact hy_fd_f2 (ck := ck) (ca := ca) (cb := cb) TS.2.2.1 (by omega) eTk y10 y20 U.2.2.2.2.1 (by omega) (by omega) HLIM HX2 qz' HQ2 SK (fun q => absurd q t7) (fun _ => hp)
    · have cu2 := FN2 (3, k.1, sp, []) (Or.inl rfl) (by omega) hc
      have P := ls_Phi_lt (tl := tl) (as := as) (st := 5) (st' := 0) (fr := (7, mo, sp, []) :: r) (fr' := (3, k.1, sp, []) :: r) (N := N) (t := t) (t' := t + 1) (L3 3 _ (by decide)) (by omega) (by omega)
      have S' : ls_S yn mt tl oc mc mu ((T, V, C, kF, n, N, d, e, ta, tz)) (t + 1) as ((0, pos + 1, es, [], (3, k.1, sp, []) :: r, L, ls_em k 15 0 0 (nI sp))) Ls x0 y0 os' cs f_tickLimit a_outKind a_outValue a_codeOp a_codeArg a_codeKind a_codePlace a_methodSign a_methodStart a_declared a_cellKind a_cellValue a_callReturn a_tk a_tv a_tp a_mName a_mKind a_mCount a_mPar a_mAt a_vName a_vDecl a_vKind a_vVal a_sk a_sv a_oKind a_oAt a_oArgs a_cKind a_cA a_cB a_outK a_outV := ⟨cu2, x4, y4, hO0, hE, hG, hV, hl, ho, hM⟩
      have G0 : ls_G (ls_Phi tl as 0 ((3, k.1, sp, []) :: r) N (t + 1)) (f_tickLimit, f_tokenCount, nI oc, 0, f_errorPlace, f_lastKind, f_lastValue, f_codeSize, nI mc, nI mu, nI (88 + x0.length), nI as.length, nI ((ls_em k 15 0 0 (nI sp)).1 - d), nI tl, f_state, f_pos, f_expressionStart, f_pendingCount, f_frameTop, f_localCount, a_tokenCode, a_tokenValue, a_outKind, a_outValue, a_codeOp, a_codeArg, a_codeKind, a_codePlace, a_methodSign, a_methodStart, a_declared, a_cellKind, a_cellValue, a_callReturn, a_pendingLevel, a_pendingPlace, a_pendingMore, a_frameKind, a_frameMore, a_localName) (nI mt, nI yn, nI (140 + mu), nI mc, nI (ls_sl Ls + L.length), nI (ls_sl Ls), nI y0.length, nI os'.length, nI cs.length, nI (pos + 1 + e), nI (ls_md 0 []), 0, f_errorPlace, nI (mt - tl), nI as.length, nI oc, f_lastKind, nI (ls_pt 0 ((3, k.1, sp, []) :: r)), f_lastValue, f_cnt, f_full, f_flag, f_need, a_tk, a_tv, a_tp, a_mName, a_mKind, a_mCount, a_mPar, a_mAt, a_vName, a_vDecl, a_vKind, a_vVal, a_sk, a_sv, a_oKind, a_oAt, a_oArgs, a_cKind, a_cA, a_cB, a_outK, a_outV) := ih S' (by omega) (fun q => absurd q.1 (by decide))
      rw [show ls_md 0 [] = 0 from rfl, show ls_pt 0 ((3, k.1, sp, []) :: r) = 1 from rfl, ls_ni d1 (show (ls_em k 15 0 0 (nI sp)).1 = k.1 + 1 from rfl)] at G0
      refine ls_G_go (a := 1) (b := 1) ?_ (yr_after B (fun post hp => YA LE post ?_)) G0 (by omega) (by omega)
      · rw [xl8]
        exact xr_of (fun post f s hs hh => gx_15 d2 hs op15 (hx_unless d2 ⟨by omega, by omega⟩ x1 (by omega) x2 (fun q => absurd k0 q) (fun _ q => absurd q v0) (fun _ _ => hh)))
      · rw [yl]
        refine hy_fd_t TS.2.2.1 (by omega) eTk y10 y2 v0 ?_
        rw [show pos + e + 1 = pos + 1 + e by omega]
        exact hp
  · have hx : ls_xr 1 (f_tickLimit, f_tokenCount, nI oc, 0, f_errorPlace, f_lastKind, f_lastValue, f_codeSize, nI mc, nI mu, nI (88 + xs.length), nI as.length, nI (k.1 - d), nI tl, f_state, f_pos, f_expressionStart, f_pendingCount, f_frameTop, f_localCount, a_tokenCode, a_tokenValue, a_outKind, a_outValue, a_codeOp, a_codeArg, a_codeKind, a_codePlace, a_methodSign, a_methodStart, a_declared, a_cellKind, a_cellValue, a_callReturn, a_pendingLevel, a_pendingPlace, a_pendingMore, a_frameKind, a_frameMore, a_localName) (f_tickLimit, f_tokenCount, nI oc, nI 3, nI sp, f_lastKind, f_lastValue, f_codeSize, nI mc, nI mu, nI (88 + x0.length), nI as.length, nI (k.1 - d + 1), nI tl, f_state, f_pos, f_expressionStart, f_pendingCount, f_frameTop, f_localCount, a_tokenCode, a_tokenValue, a_outKind, a_outValue, a_codeOp, a_codeArg, a_codeKind, a_codePlace, a_methodSign, a_methodStart, a_declared, a_cellKind, a_cellValue, a_callReturn, a_pendingLevel, a_pendingPlace, a_pendingMore, a_frameKind, a_frameMore, a_localName) := by
      rw [xl8]
      refine xr_of (fun post f s hs hh => gx_15 d2 hs op15 (hx_unless d2 ⟨by omega, by omega⟩ x1 (by omega) x2 (fun _ => ?_) (fun q => absurd q k0) (fun q => absurd q k0)))
      rw [pl15]
      exact hh
    have hy : ls_yr 1 (nI mt, nI yn, nI (140 + mu), nI mc, nI (ls_sl Ls + L.length), nI (ls_sl Ls), nI ys.length, nI os.length, nI cs.length, nI (pos + e), nI 3, 0, f_errorPlace, nI (mt - tl), nI as.length, nI oc, f_lastKind, nI 0, f_lastValue, f_cnt, f_full, f_flag, f_need, a_tk, a_tv, a_tp, a_mName, a_mKind, a_mCount, a_mPar, a_mAt, a_vName, a_vDecl, a_vKind, a_vVal, a_sk, a_sv, a_oKind, a_oAt, a_oArgs, a_cKind, a_cA, a_cB, a_outK, a_outV) (nI mt, nI yn, nI (140 + mu), nI mc, nI (ls_sl Ls + L.length), nI (ls_sl Ls), nI y0.length, nI os'.length, nI cs.length, nI (pos + e), 0, nI 3, nI sp, nI (mt - tl), nI as.length, nI oc, f_lastKind, nI 0, f_lastValue, f_cnt, f_full, f_flag, f_need, a_tk, a_tv, a_tp, a_mName, a_mKind, a_mCount, a_mPar, a_mAt, a_vName, a_vDecl, a_vKind, a_vVal, a_sk, a_sv, a_oKind, a_oAt, a_oArgs, a_cKind, a_cA, a_cB, a_outK, a_outV) := by
      refine yr_after B (fun post hp => YA LE post ?_)
      rw [yl]
      refine hy_fd_k (a := T sp) (k := z.1) TS.2.2.1 (by omega) TS.1 (by omega) y1 ⟨k0, by omega⟩ ?_
      rw [TS.2.2.2.1]
      exact hp
    exact gs_err h ⟨by decide, by decide⟩ (by rw [← hF]; unfold ls_Phi; omega) (by rw [← hF]; unfold ls_Phi; omega) hx hy
set_option maxHeartbeats 4000000 in
/-- while -/
theorem gs_e8 {mo sp : Nat} {l : List Nat} {r : List LsF} (ih : ls_IH F) (h : ls_S yn mt tl oc mc mu ((T, V, C, kF, n, N, d, e, ta, tz)) t as ((5, pos, es, [], (8, mo, sp, l) :: r, L, k)) Ls xs ys os cs f_tickLimit a_outKind a_outValue a_codeOp a_codeArg a_codeKind a_codePlace a_methodSign a_methodStart a_declared a_cellKind a_cellValue a_callReturn a_tk a_tv a_tp a_mName a_mKind a_mCount a_mPar a_mAt a_vName a_vDecl a_vKind a_vVal a_sk a_sv a_oKind a_oAt a_oArgs a_cKind a_cA a_cB a_outK a_outV) (hF : ls_Phi tl as 5 ((8, mo, sp, l) :: r) N t = F) (h16 : T pos = 16) (hc : C (t + 1) = (0, pos + 1, es, [], (5, mo, sp, []) :: r, L, ls_em k 15 0 0 (nI sp))) : ls_G F (f_tickLimit, f_tokenCount, nI oc, 0, f_errorPlace, f_lastKind, f_lastValue, f_codeSize, nI mc, nI mu, nI (88 + xs.length), nI as.length, nI (k.1 - d), nI tl, f_state, f_pos, f_expressionStart, f_pendingCount, f_frameTop, f_localCount, a_tokenCode, a_tokenValue, a_outKind, a_outValue, a_codeOp, a_codeArg, a_codeKind, a_codePlace, a_methodSign, a_methodStart, a_declared, a_cellKind, a_cellValue, a_callReturn, a_pendingLevel, a_pendingPlace, a_pendingMore, a_frameKind, a_frameMore, a_localName) (nI mt, nI yn, nI (140 + mu), nI mc, nI (ls_sl Ls + L.length), nI (ls_sl Ls), nI ys.length, nI os.length, nI cs.length, nI (pos + e), nI 3, 0, f_errorPlace, nI (mt - tl), nI as.length, nI oc, f_lastKind, nI 0, f_lastValue, f_cnt, f_full, f_flag, f_need, a_tk, a_tv, a_tp, a_mName, a_mKind, a_mCount, a_mPar, a_mAt, a_vName, a_vDecl, a_vKind, a_vVal, a_sk, a_sv, a_oKind, a_oAt, a_oArgs, a_cKind, a_cA, a_cB, a_outK, a_outV) := by
  have h' := h
  obtain ⟨hcu, hX, hY, hO, hE, hG, hV, hl, ho, hM⟩ := h'
  have U := hcu.1
  have tt := hcu.2.2.1
  have ec := hcu.2.2.2.1
  have T72 := ls_T5 U.1 (by have := U.2.2.1; omega) ec
  obtain ⟨lt, ltN, _, d1, d2, t1, t2, t3, t4, t5⟩ := ls_ac hcu (Or.inr rfl) T72
  have B := ls_Sb5 h t3
  have LB := ls_cu_len hcu
  have as8 := hl.2.2.2.1
  have cd := ls_cod U tt ec (Nat.le_refl _) (t' := t) ⟨Nat.le_refl _, tt.2⟩ ec (Nat.le_refl _)
  have lv := ls_lv_ge (T pos)
  have hV : ls_lev (ls_sm a_declared a_cellKind a_cellValue a_vDecl a_vKind a_vVal) a_vName (L :: Ls) := hV
  obtain ⟨kd, q, g, os', lq, eos, k17, g100, o1, o2, o3, q7, cnd, top0, _⟩ := ls_top5 h (fun x r q => by cases q)
  obtain ⟨kd1, f0, r0, ef, eq0, hin⟩ := top0 rfl
  injection ef with ef1 ef2
  subst ef1 ef2 kd1
  dsimp only at eq0
  subst eq0
  have ol : os.length = os'.length + 1 := by rw [eos, List.length_cons]
  obtain ⟨l0, ORG, esp⟩ := ls_orf hcu
  dsimp only at l0 ORG
  subst l0
  have TS := ls_toke U tt ec (Or.inr rfl) rfl (p := sp) (Nat.le_refl _) (by omega)
  have YA : ls_lv (T pos) = 2 → ∀ post : SY → Prop, wpY_fullDone post (nI mt, nI yn, nI (140 + mu), nI mc, nI (ls_sl Ls + L.length), nI (ls_sl Ls), nI ys.length, nI os'.length, nI cs.length, nI (pos + e), nI 3, 0, f_errorPlace, nI (mt - tl), nI as.length, nI oc, f_lastKind, nI 0, f_lastValue, f_cnt, f_full, f_flag, f_need, a_tk, a_tv, a_tp, a_mName, a_mKind, a_mCount, a_mPar, a_mAt, a_vName, a_vDecl, a_vKind, a_vVal, a_sk, a_sv, a_oKind, a_oAt, a_oArgs, a_cKind, a_cA, a_cB, a_outK, a_outV) (nI (sp + e)) → wpY_after post (nI mt, nI yn, nI (140 + mu), nI mc, nI (ls_sl Ls + L.length), nI (ls_sl Ls), nI ys.length, nI os.length, nI cs.length, nI (pos + e), nI 3, 0, f_errorPlace, nI (mt - tl), nI as.length, nI oc, f_lastKind, nI 0, f_lastValue, f_cnt, f_full, f_flag, f_need, a_tk, a_tv, a_tp, a_mName, a_mKind, a_mCount, a_mPar, a_mAt, a_vName, a_vDecl, a_vKind, a_vVal, a_sk, a_sv, a_oKind, a_oAt, a_oArgs, a_cKind, a_cA, a_cB, a_outK, a_outV) := by
    intro LE post gg
    rw [ol]
    exact hy_after_n (kd := 1) (lq := lq) t3 t1 t2 (by omega) o1 k17 o2 q7 o3 g100 (Or.inl (by omega)) (fun q => by omega) (fun _ _ => gg) (fun _ q => by omega) (fun _ q => by omega) (fun _ q => by omega)
  obtain ⟨z, x0, y0, o0, ins, exs, eys, eos0, _, FN1, FN2, FN3, FN4⟩ := ls_cu_fin (st' := 0) (pos' := pos + 1) (es' := es) (k' := ls_em k 15 0 0 (nI sp)) hcu
  rw [exs] at hX
  rw [eys] at hY
  obtain ⟨x1, x2, x3, x4⟩ := hX
  obtain ⟨y1, y2, _, y4⟩ := hY
  rw [Nat.zero_add] at y1 y2
  have xl8 : 88 + xs.length = 88 + x0.length + 1 := by rw [exs, List.length_cons]; omega
  have yl : ys.length = y0.length + 1 := by rw [eys, List.length_cons]
  have oo : os' = o0 := by
    rw [eos] at eos0
    injection eos0
  subst oo
  have z4 := x3.1
  have hO0 : ls_StP a_oKind a_oAt a_oArgs os' := by
    rw [eos] at hO
    exact hO.2.2.2
  have LE : ls_lv (T pos) = 2 := by rw [h16]; rfl
  have TSP : T sp = 8 := by
    rcases ORG with c | c | c | c | c | c
    all_goals first | exact c.2.2 | exact absurd c.1 (by decide)
  have eTk : a_tk (sp + e) = 8 := by rw [TS.1, TSP]; rfl
  have f15 := ls_fat U.1 (by omega) hc (i := k.1) (Nat.lt_succ_self _)
  have op15 : a_codeOp (k.1 - d) = 15 := cd.2.2.1.trans (f15.1.trans pk_us)
  have pl15 : a_codePlace (k.1 - d) = nI sp := cd.2.2.2.2.2.trans (f15.2.2.1.trans pk_us)
  have lt2 := ls_tl0 U.1 (by omega) hc
  have LL : ls_l5 ((8, mo, sp, []) :: r) = ls_l5 r := by show 0 + ls_l5 r = _; omega
  by_cases k0 : z.1 = 0
  · have y10 : a_sk y0.length = 0 := by rw [y1, k0]; rfl
    obtain ⟨t', q', es', k'', j, lp, f1, tz1, f3, f5, f10⟩ := ls_lp_mk U hcu.2.1 tt ec hc
    have UK' := hcu.2.1
    rw [ls_mkd_c (by show (8 : Nat) ≠ 2; decide)] at UK'
    have UK3 : ls_UK (T, V, C, kF, n, N, d, e, ta, tz) as yn (ls_mkd ((5, mo, sp, []) :: r)) := by rw [ls_mkd_c (by show (5 : Nat) ≠ 2; decide)]; exact UK'
    have QH : as ≠ [] → q' < (C tz).2.1 := fun a0 => (ls_hi U UK3 ⟨by omega, tz1⟩ f3 (Or.inr a0)).1
    have f4 : pos + 1 < q' := ls_sk_lt f5
    have esp2 : sp < pos := esp
    obtain ⟨LM1, LM2⟩ := ls_lim U hcu.2.1
    have splo := ls_sp_lo hcu
    dsimp only at splo
    have lo := ls_pos_le U.1 tt.1 (show t ≤ N by omega)
    rw [ec] at lo
    have lo' : (C ta).2.1 ≤ pos := lo
    have qz := ls_pos_le U.1 (show t' ≤ tz by omega) U.2.2.1.2
    rw [f3] at qz
    have qz' : q' ≤ (C tz).2.1 := qz
    have HLIM : pos + 1 + e < 140 → e = 0 ∧ (C tz).2.1 = yn ∧ ∀ p, yn ≤ p → T p = 72 := by
      intro hh
      by_cases a0 : as = []
      · obtain ⟨m1, m2, m3, m4⟩ := LM1 a0
        exact ⟨m1, m2, m4⟩
      · have := LM2 a0; omega
    have HX2 : 140 ≤ sp + e ↔ 140 ≤ pos + 1 + e := by
      by_cases a0 : as = []
      · obtain ⟨m1, m2, m3, m4⟩ := LM1 a0
        omega
      · have := LM2 a0; omega
    have HQ2 : 140 ≤ pos + 1 + e → q' < (C tz).2.1 := by
      intro hh
      by_cases a0 : as = []
      · obtain ⟨m1, m2, m3, m4⟩ := LM1 a0
        omega
      · exact QH a0
    have CL := LB.2.2.2.1
    have PZ : (C tz).2.1 ≤ 140 := by
      have hI := (U.1.2.2.2.2 tz U.2.2.1.2).2.1
      have : (C tz).2.1 ≤ n := by
        generalize C tz = c at *
        obtain ⟨st, pos, es, pe, fr, L, k⟩ := c
        exact hI.1
      have := U.1.1.1
      omega
    obtain ⟨ck, ca, cb, hcc, SK⟩ := hy_skipE (p := pos + 1) (q := q') (nc0 := cs.length) (n := yn) U.2.2.2.2.1 (by omega) (by omega) HLIM qz' HQ2 (by omega) f5 (f_most := nI mt) (f_stored := nI (140 + mu)) (f_nm := nI mc) (f_nEnv := nI (ls_sl Ls + L.length)) (f_base := nI (ls_sl Ls)) (f_ns := nI y0.length) (f_no := nI os'.length) (f_pc := nI (pos + e)) (f_mode := 0) (f_err := 0) (f_errAt := f_errorPlace) (f_ticks := nI (mt - tl)) (f_calls := nI as.length) (f_outs := nI oc) (f_resK := f_lastKind) (f_part := nI 0) (f_resV := f_lastValue) (f_cnt := f_cnt) (f_full := f_full) (f_flag := f_flag) (f_need := f_need) (a_tv := a_tv) (a_tp := a_tp) (a_mName := a_mName) (a_mKind := a_mKind) (a_mCount := a_mCount) (a_mPar := a_mPar) (a_mAt := a_mAt) (a_vName := a_vName) (a_vDecl := a_vDecl) (a_vKind := a_vKind) (a_vVal := a_vVal) (a_sk := a_sk) (a_sv := a_sv) (a_oKind := a_oKind) (a_oAt := a_oAt) (a_oArgs := a_oArgs) (a_cKind := a_cKind) (a_cA := a_cA) (a_cB := a_cB) (a_outK := a_outK) (a_outV := a_outV)
    have h384 := U.2.2.2.2.1.1
    by_cases v0 : z.2 = 0
    · obtain ⟨k3, c1, c2, c3, c4, c5, c6, c7⟩ := ls_fback U.1 (show t' ≤ N by omega) f3
      have TRK : ls_trk k.1 ((5, mo, sp, []) :: r) (C (t + 1)) := by
        rw [hc]
        exact ⟨⟨Nat.lt_succ_self _, Or.inr pk_us, pk_us⟩, [], rfl, fun f hf => by cases hf⟩
      have TRK2 := ls_trk_to U.1 rfl rfl (show t' ≤ N by omega) (t' - (t + 1)) (by omega) (fun u u1 u2 => f10 u u1 u2) TRK
      rw [f3] at TRK2
      obtain ⟨⟨i1, i2, i3⟩, _⟩ := TRK2
      have hI := (U.1.2.2.2.2 t (by omega)).2.1
      rw [ec] at hI
      obtain ⟨_, _, _, _, _, _, i7⟩ := hI
      rw [if_pos (Or.inr rfl)] at i7
      obtain ⟨_, _, _, _, ff, rr, fe, xf, _⟩ := i7
      injection fe with fe1 fe2
      subst fe1
      have mlt := xf.2.2.2.1
      dsimp only at mlt
      have AR := c7 k.1 (by omega) i1 i2 i3
      obtain ⟨z', x0', y0', o0', ins', exs', eys', eos', _, FA, FB, FC, FD⟩ := ls_cu_fin (st' := 3) (pos' := q') (es' := es') (k' := k3) hcu
      have ex0 : x0' = x0 := by rw [exs] at exs'; injection exs' with _ q; exact q.symm
      have ey0 : y0' = y0 := by rw [eys] at eys'; injection eys' with _ q; exact q.symm
      have eo0 : o0' = os' := by rw [eos] at eos'; injection eos' with _ q; exact q.symm
      rw [ex0, ey0, eo0] at FA FB FC FD
      have cu2 := FD (t' + 1) r (Or.inl rfl) (by omega) (by omega) (fun u u1 u2 => by
        rcases Nat.eq_or_lt_of_le u2 with g1 | g1
        · subst g1; rw [c1]; exact Nat.le_refl _
        · rcases Nat.eq_or_lt_of_le u1 with g2 | g2
          · subst g2; rw [ec]; exact Nat.le_succ _
          · have := f10 u (by omega) (by omega); omega) (by omega) c1
      have dk := ls_d_le cu2.1 cu2.2.2.1 c1
      have P := ls_Phi_lt (tl := tl) (as := as) (st := 5) (st' := 3) (fr := (8, mo, sp, []) :: r) (fr' := r) (N := N) (t := t) (t' := t' + 1) (by rw [ls_lo5_x (by omega), ls_lo5_x (by omega), LL]; exact Nat.le_refl _) (by omega) (by omega)
      have S' : ls_S yn mt tl oc mc mu ((T, V, C, kF, n, N, d, e, ta, tz)) (t' + 1) as ((3, q', es', [], r, L, k3)) Ls x0 y0 os' cs f_tickLimit a_outKind a_outValue a_codeOp a_codeArg a_codeKind a_codePlace a_methodSign a_methodStart a_declared a_cellKind a_cellValue a_callReturn a_tk a_tv a_tp a_mName a_mKind a_mCount a_mPar a_mAt a_vName a_vDecl a_vKind a_vVal a_sk a_sv a_oKind a_oAt a_oArgs ck ca cb a_outK a_outV := ⟨cu2, x4, y4, hO0, ls_StP_ag hcc hE, hG, hV, hl, ho, hM⟩
      have G0 : ls_G (ls_Phi tl as 3 r N (t' + 1)) (f_tickLimit, f_tokenCount, nI oc, 0, f_errorPlace, f_lastKind, f_lastValue, f_codeSize, nI mc, nI mu, nI (88 + x0.length), nI as.length, nI (k3.1 - d), nI tl, f_state, f_pos, f_expressionStart, f_pendingCount, f_frameTop, f_localCount, a_tokenCode, a_tokenValue, a_outKind, a_outValue, a_codeOp, a_codeArg, a_codeKind, a_codePlace, a_methodSign, a_methodStart, a_declared, a_cellKind, a_cellValue, a_callReturn, a_pendingLevel, a_pendingPlace, a_pendingMore, a_frameKind, a_frameMore, a_localName) (nI mt, nI yn, nI (140 + mu), nI mc, nI (ls_sl Ls + L.length), nI (ls_sl Ls), nI y0.length, nI os'.length, nI cs.length, nI (q' + e), nI (ls_md 3 []), 0, f_errorPlace, nI (mt - tl), nI as.length, nI oc, f_lastKind, nI (ls_pt 3 r), f_lastValue, f_cnt, f_full, f_flag, f_need, a_tk, a_tv, a_tp, a_mName, a_mKind, a_mCount, a_mPar, a_mAt, a_vName, a_vDecl, a_vKind, a_vVal, a_sk, a_sv, a_oKind, a_oAt, a_oArgs, ck, ca, cb, a_outK, a_outV) := ih S' (by omega) (ls_n2U h.1.1 h.1.2.2.1 h.1.2.2.2.1 (show (8 : Nat) ≠ 1 by decide))
      rw [show ls_md 3 [] = 0 from rfl, ls_pt_x (by omega)] at G0
      refine ls_G_go (a := 1) (b := 1) ?_ (yr_after B (fun post hp => YA LE post ?_)) G0 (by omega) (by omega)
      · rw [xl8, ← ls_jmp (a := k3.1) (b := k.1) dk.1 d1]
        refine xr_of (fun post f s hs hh => gx_15 d2 hs op15 (hx_unless d2 ⟨by omega, by omega⟩ x1 (by omega) x2 (fun q => absurd k0 q) (fun _ _ => ?_) (fun _ q => absurd v0 q)))
        rw [cd.2.2.2.1, AR]
        exact hh
      · rw [yl]
        exact hy_fd_l2 (ck := ck) (ca := ca) (cb := cb) TS.2.2.1 (by omega) (by omega) (by omega) eTk y10 y2 SK (fun q => absurd v0 q) (fun _ => hp)
    · have cu2 := FN3 (5, mo, sp, []) q' rfl lp (by omega) hc
      have P := ls_Phi_lt (tl := tl) (as := as) (st := 5) (st' := 0) (fr := (8, mo, sp, []) :: r) (fr' := (5, mo, sp, []) :: r) (N := N) (t := t) (t' := t + 1) (by
        rw [ls_lo5_x (st := 5) (by omega), LL]
        unfold ls_lo5
        rw [if_pos ⟨Or.inl rfl, rfl⟩]
        show 1 + ls_l5 r - 1 ≤ _
        omega) (by omega) (by omega)
      have S' : ls_S yn mt tl oc mc mu ((T, V, C, kF, n, N, d, e, ta, tz)) (t + 1) as ((0, pos + 1, es, [], (5, mo, sp, []) :: r, L, ls_em k 15 0 0 (nI sp))) Ls x0 y0 os' ((2, sp + e, q' + e) :: cs) f_tickLimit a_outKind a_outValue a_codeOp a_codeArg a_codeKind a_codePlace a_methodSign a_methodStart a_declared a_cellKind a_cellValue a_callReturn a_tk a_tv a_tp a_mName a_mKind a_mCount a_mPar a_mAt a_vName a_vDecl a_vKind a_vVal a_sk a_sv a_oKind a_oAt a_oArgs (upd ck cs.length (nI 2)) (upd ca cs.length (nI (sp + e))) (upd cb cs.length (nI (q' + e))) a_outK a_outV := ⟨cu2, x4, y4, hO0, ⟨pk_us, pk_us, pk_us, ls_StP_ag (fun j hj => ⟨(pk_un (by omega)).trans (hcc j hj).1, (pk_un (by omega)).trans (hcc j hj).2.1, (pk_un (by omega)).trans (hcc j hj).2.2⟩) hE⟩, hG, hV, hl, ho, hM⟩
      have G0 : ls_G (ls_Phi tl as 0 ((5, mo, sp, []) :: r) N (t + 1)) (f_tickLimit, f_tokenCount, nI oc, 0, f_errorPlace, f_lastKind, f_lastValue, f_codeSize, nI mc, nI mu, nI (88 + x0.length), nI as.length, nI ((ls_em k 15 0 0 (nI sp)).1 - d), nI tl, f_state, f_pos, f_expressionStart, f_pendingCount, f_frameTop, f_localCount, a_tokenCode, a_tokenValue, a_outKind, a_outValue, a_codeOp, a_codeArg, a_codeKind, a_codePlace, a_methodSign, a_methodStart, a_declared, a_cellKind, a_cellValue, a_callReturn, a_pendingLevel, a_pendingPlace, a_pendingMore, a_frameKind, a_frameMore, a_localName) (nI mt, nI yn, nI (140 + mu), nI mc, nI (ls_sl Ls + L.length), nI (ls_sl Ls), nI y0.length, nI os'.length, nI (cs.length + 1), nI (pos + 1 + e), nI (ls_md 0 []), 0, f_errorPlace, nI (mt - tl), nI as.length, nI oc, f_lastKind, nI (ls_pt 0 ((5, mo, sp, []) :: r)), f_lastValue, f_cnt, f_full, f_flag, f_need, a_tk, a_tv, a_tp, a_mName, a_mKind, a_mCount, a_mPar, a_mAt, a_vName, a_vDecl, a_vKind, a_vVal, a_sk, a_sv, a_oKind, a_oAt, a_oArgs, upd ck cs.length (nI 2), upd ca cs.length (nI (sp + e)), upd cb cs.length (nI (q' + e)), a_outK, a_outV) := ih S' (by omega) (fun q => absurd q.1 (by decide))
      rw [show ls_md 0 [] = 0 from rfl, show ls_pt 0 ((5, mo, sp, []) :: r) = 0 from rfl, ls_ni d1 (show (ls_em k 15 0 0 (nI sp)).1 = k.1 + 1 from rfl)] at G0
      refine ls_G_go (a := 1) (b := 1) ?_ (yr_after B (fun post hp => YA LE post ?_)) G0 (by omega) (by omega)
      · rw [xl8]
        exact xr_of (fun post f s hs hh => gx_15 d2 hs op15 (hx_unless d2 ⟨by omega, by omega⟩ x1 (by omega) x2 (fun q => absurd k0 q) (fun _ q => absurd q v0) (fun _ _ => hh)))
      · rw [yl]
        exact hy_fd_l2 (ck := ck) (ca := ca) (cb := cb) TS.2.2.1 (by omega) (by omega) (by omega) eTk y10 y2 SK (fun _ => hp) (fun q => absurd q v0)
  · have hx : ls_xr 1 (f_tickLimit, f_tokenCount, nI oc, 0, f_errorPlace, f_lastKind, f_lastValue, f_codeSize, nI mc, nI mu, nI (88 + xs.length), nI as.length, nI (k.1 - d), nI tl, f_state, f_pos, f_expressionStart, f_pendingCount, f_frameTop, f_localCount, a_tokenCode, a_tokenValue, a_outKind, a_outValue, a_codeOp, a_codeArg, a_codeKind, a_codePlace, a_methodSign, a_methodStart, a_declared, a_cellKind, a_cellValue, a_callReturn, a_pendingLevel, a_pendingPlace, a_pendingMore, a_frameKind, a_frameMore, a_localName) (f_tickLimit, f_tokenCount, nI oc, nI 3, nI sp, f_lastKind, f_lastValue, f_codeSize, nI mc, nI mu, nI (88 + x0.length), nI as.length, nI (k.1 - d + 1), nI tl, f_state, f_pos, f_expressionStart, f_pendingCount, f_frameTop, f_localCount, a_tokenCode, a_tokenValue, a_outKind, a_outValue, a_codeOp, a_codeArg, a_codeKind, a_codePlace, a_methodSign, a_methodStart, a_declared, a_cellKind, a_cellValue, a_callReturn, a_pendingLevel, a_pendingPlace, a_pendingMore, a_frameKind, a_frameMore, a_localName) := by
      rw [xl8]
      refine xr_of (fun post f s hs hh => gx_15 d2 hs op15 (hx_unless d2 ⟨by omega, by omega⟩ x1 (by omega) x2 (fun _ => ?_) (fun q => absurd q k0) (fun q => absurd q k0)))
      rw [pl15]
      exact hh
    have hy : ls_yr 1 (nI mt, nI yn, nI (140 + mu), nI mc, nI (ls_sl Ls + L.length), nI (ls_sl Ls), nI ys.length, nI os.length, nI cs.length, nI (pos + e), nI 3, 0, f_errorPlace, nI (mt - tl), nI as.length, nI oc, f_lastKind, nI 0, f_lastValue, f_cnt, f_full, f_flag, f_need, a_tk, a_tv, a_tp, a_mName, a_mKind, a_mCount, a_mPar, a_mAt, a_vName, a_vDecl, a_vKind, a_vVal, a_sk, a_sv, a_oKind, a_oAt, a_oArgs, a_cKind, a_cA, a_cB, a_outK, a_outV) (nI mt, nI yn, nI (140 + mu), nI mc, nI (ls_sl Ls + L.length), nI (ls_sl Ls), nI y0.length, nI os'.length, nI cs.length, nI (pos + e), 0, nI 3, nI sp, nI (mt - tl), nI as.length, nI oc, f_lastKind, nI 0, f_lastValue, f_cnt, f_full, f_flag, f_need, a_tk, a_tv, a_tp, a_mName, a_mKind, a_mCount, a_mPar, a_mAt, a_vName, a_vDecl, a_vKind, a_vVal, a_sk, a_sv, a_oKind, a_oAt, a_oArgs, a_cKind, a_cA, a_cB, a_outK, a_outV) := by
      refine yr_after B (fun post hp => YA LE post ?_)
      rw [yl]
      refine hy_fd_k (a := T sp) (k := z.1) TS.2.2.1 (by omega) TS.1 (by omega) y1 ⟨k0, by omega⟩ ?_
      rw [TS.2.2.2.1]
      exact hp
    exact gs_err h ⟨by decide, by decide⟩ (by rw [← hF]; unfold ls_Phi; omega) (by rw [← hF]; unfold ls_Phi; omega) hx hy
end
