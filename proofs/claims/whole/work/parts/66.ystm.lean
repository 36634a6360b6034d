/-! The reference: statements -/
section
variable {f_most f_n f_stored f_nm f_nEnv f_base f_ns f_no f_nc f_pc f_mode f_err f_errAt f_ticks f_calls f_outs f_resK f_part f_cnt f_full f_flag f_need : Int32}
variable {f_resV : Int64}
variable {a_tk a_tp a_mName a_mKind a_mCount a_mPar a_mAt a_vName a_vDecl a_vKind a_sk a_oKind a_oAt a_oArgs a_cKind a_cA a_cB a_outK : Nat → Int32}
variable {a_tv a_vVal a_sv a_outV : Nat → Int64}
variable {post : SY → Prop} {p a m no nc : Nat} {cs c1 : List LsP}
set_option maxHeartbeats 200000 in
/-- not at a loop's end -/
theorem hy_statement_n (hp : p < 384) (hl : cs.length < 700) (hs : ls_StP a_cKind a_cA a_cB cs) (hb : ∀ x ∈ cs, x.1 < 100 ∧ x.2.2 < 100000) (hn : ∀ x r, cs = x :: r → x.1 = 2 → x.2.2 ≠ p) (g : wY_statement_61 post f_most f_n f_stored f_nm f_nEnv f_base f_ns f_no (nI cs.length) (nI p) f_mode f_err f_errAt f_ticks f_calls f_outs f_resK f_part f_resV f_cnt f_full f_flag f_need a_tk a_tv a_tp a_mName a_mKind a_mCount a_mPar a_mAt a_vName a_vDecl a_vKind a_vVal a_sk a_sv a_oKind a_oAt a_oArgs a_cKind a_cA a_cB a_outK a_outV) : wpY_statement post (f_most, f_n, f_stored, f_nm, f_nEnv, f_base, f_ns, f_no, nI cs.length, nI p, f_mode, f_err, f_errAt, f_ticks, f_calls, f_outs, f_resK, f_part, f_resV, f_cnt, f_full, f_flag, f_need, a_tk, a_tv, a_tp, a_mName, a_mKind, a_mCount, a_mPar, a_mAt, a_vName, a_vDecl, a_vKind, a_vVal, a_sk, a_sv, a_oKind, a_oAt, a_oArgs, a_cKind, a_cA, a_cB, a_outK, a_outV) := by
  unfold wpY_statement
  dsimp only
  cases cs with
  | nil => exact br_t (by decide) g
  | cons x r =>
    obtain ⟨s1, s2, s3, _⟩ := hs
    obtain ⟨b1, b2⟩ := hb x (List.mem_cons_self ..)
    rw [List.length_cons] at hl
    refine br_f (nI_ge (a := 0) (b := (x :: r).length) (by rw [List.length_cons]; omega) (by rw [List.length_cons]; omega)) ?_
    rw [show (x :: r).length = r.length + 1 from rfl, nI_pred, nI_clamp (by omega), s1, s3]
    refine ⟨vp_in_nI (by omega) (by decide), ?_⟩
    by_cases c2 : x.1 = 2
    · refine br_t (by rw [c2]; rfl) ⟨vp_in_nI (by omega) (by decide), br_f (fun q => ?_) g⟩
      exact hn x r rfl c2 ((nI_eq (by omega) (by omega)).mp q).symm
    · exact br_f (_root_.mt (ls_k8 (b := 2) b1 (by decide)).mp c2) g
set_option maxHeartbeats 200000 in
/-- at a loop's end: its test again -/
theorem hy_statement_l {q : Nat} (hp : p < 384) (hq : q < 900) (hno : no < 400) (hl : c1.length < 699) (hs : ls_StP a_cKind a_cA a_cB ((2, q, p) :: c1)) (g : post (f_most, f_n, f_stored, f_nm, f_nEnv, f_base, f_ns, nI (no + 1), nI c1.length, nI (q + 2), 1, f_err, f_errAt, f_ticks, f_calls, f_outs, f_resK, f_part, f_resV, f_cnt, f_full, f_flag, f_need, a_tk, a_tv, a_tp, a_mName, a_mKind, a_mCount, a_mPar, a_mAt, a_vName, a_vDecl, a_vKind, a_vVal, a_sk, a_sv, upd a_oKind no 1, upd a_oAt no (nI q), upd a_oArgs no 0, a_cKind, a_cA, a_cB, a_outK, a_outV)) : wpY_statement post (f_most, f_n, f_stored, f_nm, f_nEnv, f_base, f_ns, nI no, nI (c1.length + 1), nI p, f_mode, f_err, f_errAt, f_ticks, f_calls, f_outs, f_resK, f_part, f_resV, f_cnt, f_full, f_flag, f_need, a_tk, a_tv, a_tp, a_mName, a_mKind, a_mCount, a_mPar, a_mAt, a_vName, a_vDecl, a_vKind, a_vVal, a_sk, a_sv, a_oKind, a_oAt, a_oArgs, a_cKind, a_cA, a_cB, a_outK, a_outV) := by
  unfold wpY_statement
  dsimp only
  obtain ⟨s1, s2, s3, _⟩ := hs
  have s1' : a_cKind c1.length = nI 2 := s1
  have s2' : a_cA c1.length = nI q := s2
  have s3' : a_cB c1.length = nI p := s3
  refine br_f (nI_ge (a := 0) (by omega) (by omega)) ?_
  rw [nI_pred, nI_clamp (by omega), s1', s2', s3']
  refine ⟨vp_in_nI (by omega) (by decide), br_t rfl ⟨vp_in_nI (by omega) (by decide), br_t rfl (nm_e ⟨vp_in_nI (by omega) (by decide), hy_test hno (by omega) g⟩)⟩⟩
set_option maxHeartbeats 200000 in
theorem hy_st_else (hp : p < 384) (e1 : a_tk p = 7) (g : wpY_skip (fun r u => match u with | (f_most, f_n, f_stored, f_nm, f_nEnv, f_base, f_ns, f_no, f_nc, f_pc, f_mode, f_err, f_errAt, f_ticks, f_calls, f_outs, f_resK, f_part, f_resV, f_cnt, f_full, f_flag, f_need, a_tk, a_tv, a_tp, a_mName, a_mKind, a_mCount, a_mPar, a_mAt, a_vName, a_vDecl, a_vKind, a_vVal, a_sk, a_sv, a_oKind, a_oAt, a_oArgs, a_cKind, a_cA, a_cB, a_outK, a_outV) => post (f_most, f_n, f_stored, f_nm, f_nEnv, f_base, f_ns, f_no, f_nc, r, f_mode, f_err, f_errAt, f_ticks, f_calls, f_outs, f_resK, f_part, f_resV, f_cnt, f_full, f_flag, f_need, a_tk, a_tv, a_tp, a_mName, a_mKind, a_mCount, a_mPar, a_mAt, a_vName, a_vDecl, a_vKind, a_vVal, a_sk, a_sv, a_oKind, a_oAt, a_oArgs, a_cKind, a_cA, a_cB, a_outK, a_outV)) (f_most, f_n, f_stored, f_nm, f_nEnv, f_base, f_ns, f_no, f_nc, nI p, f_mode, f_err, f_errAt, f_ticks, f_calls, f_outs, f_resK, f_part, f_resV, f_cnt, f_full, f_flag, f_need, a_tk, a_tv, a_tp, a_mName, a_mKind, a_mCount, a_mPar, a_mAt, a_vName, a_vDecl, a_vKind, a_vVal, a_sk, a_sv, a_oKind, a_oAt, a_oArgs, a_cKind, a_cA, a_cB, a_outK, a_outV) (nI (p + 1))) : wY_statement_61 post f_most f_n f_stored f_nm f_nEnv f_base f_ns f_no f_nc (nI p) f_mode f_err f_errAt f_ticks f_calls f_outs f_resK f_part f_resV f_cnt f_full f_flag f_need a_tk a_tv a_tp a_mName a_mKind a_mCount a_mPar a_mAt a_vName a_vDecl a_vKind a_vVal a_sk a_sv a_oKind a_oAt a_oArgs a_cKind a_cA a_cB a_outK a_outV := by
  unfold wY_statement_61
  rw [nI_clamp (by omega), e1, nI_1]
  exact ⟨vp_in_nI hp (by decide), nm_e (br_t rfl g)⟩
set_option maxHeartbeats 200000 in
theorem hy_st_close (hp : p < 384) (e1 : a_tk p = 18) (g : wpY_closeBlock post (f_most, f_n, f_stored, f_nm, f_nEnv, f_base, f_ns, f_no, f_nc, nI p, f_mode, f_err, f_errAt, f_ticks, f_calls, f_outs, f_resK, f_part, f_resV, f_cnt, f_full, f_flag, f_need, a_tk, a_tv, a_tp, a_mName, a_mKind, a_mCount, a_mPar, a_mAt, a_vName, a_vDecl, a_vKind, a_vVal, a_sk, a_sv, a_oKind, a_oAt, a_oArgs, a_cKind, a_cA, a_cB, a_outK, a_outV)) : wY_statement_61 post f_most f_n f_stored f_nm f_nEnv f_base f_ns f_no f_nc (nI p) f_mode f_err f_errAt f_ticks f_calls f_outs f_resK f_part f_resV f_cnt f_full f_flag f_need a_tk a_tv a_tp a_mName a_mKind a_mCount a_mPar a_mAt a_vName a_vDecl a_vKind a_vVal a_sk a_sv a_oKind a_oAt a_oArgs a_cKind a_cA a_cB a_outK a_outV := by
  unfold wY_statement_61
  rw [nI_clamp (by omega), e1]
  exact ⟨vp_in_nI hp (by decide), nm_e (br_f (by decide) (br_t rfl g))⟩
set_option maxHeartbeats 200000 in
theorem hy_st_decl (hp : p < 384) (e1 : a_tk p = nI a) (ha : a < 6) (g : wpY_declaration post (f_most, f_n, f_stored, f_nm, f_nEnv, f_base, f_ns, f_no, f_nc, nI p, f_mode, f_err, f_errAt, f_ticks, f_calls, f_outs, f_resK, f_part, f_resV, f_cnt, f_full, f_flag, f_need, a_tk, a_tv, a_tp, a_mName, a_mKind, a_mCount, a_mPar, a_mAt, a_vName, a_vDecl, a_vKind, a_vVal, a_sk, a_sv, a_oKind, a_oAt, a_oArgs, a_cKind, a_cA, a_cB, a_outK, a_outV)) : wY_statement_61 post f_most f_n f_stored f_nm f_nEnv f_base f_ns f_no f_nc (nI p) f_mode f_err f_errAt f_ticks f_calls f_outs f_resK f_part f_resV f_cnt f_full f_flag f_need a_tk a_tv a_tp a_mName a_mKind a_mCount a_mPar a_mAt a_vName a_vDecl a_vKind a_vVal a_sk a_sv a_oKind a_oAt a_oArgs a_cKind a_cA a_cB a_outK a_outV := by
  unfold wY_statement_61
  have N : ∀ w : Nat, w < 100 → a ≠ w → ¬ nI a = nI w := fun w hw h => _root_.mt (ls_k8 (by omega) hw).mp h
  rw [nI_clamp (by omega), e1]
  exact ⟨vp_in_nI hp (by decide), nm_e (br_f (N 7 (by decide) (by omega)) (br_f (N 18 (by decide) (by omega)) (br_f (nI_ge (b := 6) ha (by decide)) g)))⟩
set_option maxHeartbeats 200000 in
/-- any other statement: a tick first -/
theorem hy_st_tick {tc mt : Nat} (hp : p < 384) (e1 : a_tk p = nI a) (ha : 6 ≤ a ∧ a < 100) (h7 : a ≠ 7) (h18 : a ≠ 18) (hmt : mt < 1000) (htc : tc ≤ mt) (he : f_err = 0) (g1 : tc < mt → wpY_begin post (nI mt, f_n, f_stored, f_nm, f_nEnv, f_base, f_ns, f_no, f_nc, nI p, f_mode, f_err, f_errAt, nI (tc + 1), f_calls, f_outs, f_resK, f_part, f_resV, f_cnt, f_full, f_flag, f_need, a_tk, a_tv, a_tp, a_mName, a_mKind, a_mCount, a_mPar, a_mAt, a_vName, a_vDecl, a_vKind, a_vVal, a_sk, a_sv, a_oKind, a_oAt, a_oArgs, a_cKind, a_cA, a_cB, a_outK, a_outV) (nI a)) (g0 : tc = mt → post (nI mt, f_n, f_stored, f_nm, f_nEnv, f_base, f_ns, f_no, f_nc, nI p, f_mode, 9, ls_pl a_tp p, nI tc, f_calls, f_outs, f_resK, f_part, f_resV, f_cnt, f_full, f_flag, f_need, a_tk, a_tv, a_tp, a_mName, a_mKind, a_mCount, a_mPar, a_mAt, a_vName, a_vDecl, a_vKind, a_vVal, a_sk, a_sv, a_oKind, a_oAt, a_oArgs, a_cKind, a_cA, a_cB, a_outK, a_outV)) : wY_statement_61 post (nI mt) f_n f_stored f_nm f_nEnv f_base f_ns f_no f_nc (nI p) f_mode f_err f_errAt (nI tc) f_calls f_outs f_resK f_part f_resV f_cnt f_full f_flag f_need a_tk a_tv a_tp a_mName a_mKind a_mCount a_mPar a_mAt a_vName a_vDecl a_vKind a_vVal a_sk a_sv a_oKind a_oAt a_oArgs a_cKind a_cA a_cB a_outK a_outV := by
  unfold wY_statement_61
  have N : ∀ w : Nat, w < 100 → a ≠ w → ¬ nI a = nI w := fun w hw h => _root_.mt (ls_k8 (by omega) hw).mp h
  rw [nI_clamp (by omega), e1]
  refine ⟨vp_in_nI hp (by decide), nm_e (br_f (N 7 (by decide) h7) (br_f (N 18 (by decide) h18) (br_t (nI_le (a := 6) ha.1 (by omega)) ?_)))⟩
  exact hy_tick hmt hp htc (fun c => br_t he (g1 c)) (fun c => br_f (by decide) (g0 c))
set_option maxHeartbeats 200000 in
theorem hy_begin_s (g : post (f_most, f_n, f_stored, f_nm, f_nEnv, f_base, f_ns, f_no, f_nc, nI (p + 1), f_mode, f_err, f_errAt, f_ticks, f_calls, f_outs, f_resK, 0, f_resV, f_cnt, f_full, f_flag, f_need, a_tk, a_tv, a_tp, a_mName, a_mKind, a_mCount, a_mPar, a_mAt, a_vName, a_vDecl, a_vKind, a_vVal, a_sk, a_sv, a_oKind, a_oAt, a_oArgs, a_cKind, a_cA, a_cB, a_outK, a_outV)) : wpY_begin post (f_most, f_n, f_stored, f_nm, f_nEnv, f_base, f_ns, f_no, f_nc, nI p, f_mode, f_err, f_errAt, f_ticks, f_calls, f_outs, f_resK, f_part, f_resV, f_cnt, f_full, f_flag, f_need, a_tk, a_tv, a_tp, a_mName, a_mKind, a_mCount, a_mPar, a_mAt, a_vName, a_vDecl, a_vKind, a_vVal, a_sk, a_sv, a_oKind, a_oAt, a_oArgs, a_cKind, a_cA, a_cB, a_outK, a_outV) 20 := by
  unfold wpY_begin
  dsimp only
  exact br_t rfl (nm_r (nI_1 p) g)
set_option maxHeartbeats 200000 in
theorem hy_begin_b {ne : Nat} (hnc : nc < 700) (hne : ne < 1000) (g : post (f_most, f_n, f_stored, f_nm, nI ne, f_base, f_ns, f_no, nI (nc + 1), nI (p + 1), f_mode, f_err, f_errAt, f_ticks, f_calls, f_outs, f_resK, 0, f_resV, f_cnt, f_full, f_flag, f_need, a_tk, a_tv, a_tp, a_mName, a_mKind, a_mCount, a_mPar, a_mAt, a_vName, a_vDecl, a_vKind, a_vVal, a_sk, a_sv, a_oKind, a_oAt, a_oArgs, upd a_cKind nc (nI 1), upd a_cA nc (nI ne), upd a_cB nc (nI 0), a_outK, a_outV)) : wpY_begin post (f_most, f_n, f_stored, f_nm, nI ne, f_base, f_ns, f_no, nI nc, nI p, f_mode, f_err, f_errAt, f_ticks, f_calls, f_outs, f_resK, f_part, f_resV, f_cnt, f_full, f_flag, f_need, a_tk, a_tv, a_tp, a_mName, a_mKind, a_mCount, a_mPar, a_mAt, a_vName, a_vDecl, a_vKind, a_vVal, a_sk, a_sv, a_oKind, a_oAt, a_oArgs, a_cKind, a_cA, a_cB, a_outK, a_outV) 17 := by
  unfold wpY_begin
  dsimp only
  exact br_f (by decide) (br_t rfl (hy_hold (kd := 1) (b := 0) hnc (by decide) (by omega) (by decide) (nm_r (nI_1 p) g)))
set_option maxHeartbeats 200000 in
theorem hy_begin_h (hno : no < 400) (hp : p < 900) (ha : a = 6 ∨ a = 8 ∨ a = 12) (g : post (f_most, f_n, f_stored, f_nm, f_nEnv, f_base, f_ns, nI (no + 1), f_nc, nI (p + 2), 1, f_err, f_errAt, f_ticks, f_calls, f_outs, f_resK, 0, f_resV, f_cnt, f_full, f_flag, f_need, a_tk, a_tv, a_tp, a_mName, a_mKind, a_mCount, a_mPar, a_mAt, a_vName, a_vDecl, a_vKind, a_vVal, a_sk, a_sv, upd a_oKind no 1, upd a_oAt no (nI p), upd a_oArgs no 0, a_cKind, a_cA, a_cB, a_outK, a_outV)) : wpY_begin post (f_most, f_n, f_stored, f_nm, f_nEnv, f_base, f_ns, nI no, f_nc, nI p, f_mode, f_err, f_errAt, f_ticks, f_calls, f_outs, f_resK, f_part, f_resV, f_cnt, f_full, f_flag, f_need, a_tk, a_tv, a_tp, a_mName, a_mKind, a_mCount, a_mPar, a_mAt, a_vName, a_vDecl, a_vKind, a_vVal, a_sk, a_sv, a_oKind, a_oAt, a_oArgs, a_cKind, a_cA, a_cB, a_outK, a_outV) (nI a) := by
  unfold wpY_begin wY_begin_76
  dsimp only
  rcases ha with rfl | rfl | rfl
  · exact br_f (by decide) (br_f (by decide) (br_t rfl (hy_test hno (by omega) g)))
  · exact br_f (by decide) (br_f (by decide) (br_f (by decide) (br_t rfl (hy_test hno (by omega) g))))
  · exact br_f (by decide) (br_f (by decide) (br_f (by decide) (br_f (by decide) (br_t rfl (hy_test hno (by omega) g)))))
set_option maxHeartbeats 200000 in
/-- break and continue -/
theorem hy_begin_99 {q r : Nat} (ha : a = 9 ∨ a = 10) : ∀ (cX : List LsP) (fu ne : Nat), cX.length < fu → (cX ++ (2, q, r) :: c1).length < 700 → (∀ x ∈ cX, x.1 = 1) → ls_StP a_cKind a_cA a_cB (cX ++ (2, q, r) :: c1) →
    (a = 9 → post (f_most, f_n, f_stored, f_nm, nI (ls_evo ne cX), f_base, f_ns, f_no, nI c1.length, nI r, f_mode, f_err, f_errAt, f_ticks, f_calls, f_outs, f_resK, f_part, f_resV, f_cnt, f_full, f_flag, f_need, a_tk, a_tv, a_tp, a_mName, a_mKind, a_mCount, a_mPar, a_mAt, a_vName, a_vDecl, a_vKind, a_vVal, a_sk, a_sv, a_oKind, a_oAt, a_oArgs, a_cKind, a_cA, a_cB, a_outK, a_outV)) → (a = 10 → post (f_most, f_n, f_stored, f_nm, nI (ls_evo ne cX), f_base, f_ns, f_no, nI (c1.length + 1), nI r, f_mode, f_err, f_errAt, f_ticks, f_calls, f_outs, f_resK, f_part, f_resV, f_cnt, f_full, f_flag, f_need, a_tk, a_tv, a_tp, a_mName, a_mKind, a_mCount, a_mPar, a_mAt, a_vName, a_vDecl, a_vKind, a_vVal, a_sk, a_sv, a_oKind, a_oAt, a_oArgs, a_cKind, a_cA, a_cB, a_outK, a_outV)) → wY_begin_99 post (nI a) fu f_most f_n f_stored f_nm (nI ne) f_base f_ns f_no (nI (cX ++ (2, q, r) :: c1).length) f_pc f_mode f_err f_errAt f_ticks f_calls f_outs f_resK f_part f_resV f_cnt f_full f_flag f_need a_tk a_tv a_tp a_mName a_mKind a_mCount a_mPar a_mAt a_vName a_vDecl a_vKind a_vVal a_sk a_sv a_oKind a_oAt a_oArgs a_cKind a_cA a_cB a_outK a_outV := by
  intro cX
  induction cX with
  | nil =>
    intro fu ne hf hl _ hs g9 g10
    obtain ⟨fu', rfl⟩ : ∃ fu', fu = fu' + 1 := ⟨fu - 1, by omega⟩
    obtain ⟨s1, s2, s3, _⟩ := hs
    rw [List.nil_append, List.length_cons] at hl ⊢
    unfold wY_begin_99
    have s1' : a_cKind c1.length = nI 2 := s1
    have s3' : a_cB c1.length = nI r := s3
    rw [nI_pred, nI_clamp (by omega), s1', s3']
    refine ⟨vp_in_nI (by omega) (by decide), br_t rfl ⟨vp_in_nI (by omega) (by decide), nm_e ?_⟩⟩
    rcases ha with rfl | rfl
    · exact br_t rfl (nm_e (g9 rfl))
    · exact br_f (by decide) (g10 rfl)
  | cons x cX ih =>
    intro fu ne hf hl hx hs g9 g10
    obtain ⟨fu', rfl⟩ : ∃ fu', fu = fu' + 1 := ⟨fu - 1, by omega⟩
    obtain ⟨s1, s2, s3, s4⟩ := hs
    have x1 := hx x (List.mem_cons_self ..)
    rw [List.length_cons] at hf
    rw [List.cons_append, List.length_cons] at hl ⊢
    unfold wY_begin_99
    rw [nI_pred, nI_clamp (by omega)]
    refine ⟨vp_in_nI (by omega) (by decide), ?_⟩
    have s1' : a_cKind (cX ++ (2, q, r) :: c1).length = nI x.1 := s1
    have s2' : a_cA (cX ++ (2, q, r) :: c1).length = nI x.2.1 := s2
    rw [s1']
    have E : ls_evo ne (x :: cX) = ls_evo x.2.1 cX := by
      show ls_evo (if x.1 = 1 then x.2.1 else ne) cX = _
      rw [if_pos x1]
    rw [E] at g9 g10
    refine br_f (_root_.mt (ls_k8 (b := 2) (by omega) (by decide)).mp (by omega)) (hy_leaveBlock (by omega) (by omega) s1' s2' (fun _ => ?_) (fun q => absurd x1 q))
    exact ih fu' _ (by omega) (by omega) (fun y hy => hx y (List.mem_cons_of_mem _ hy)) s4 g9 g10
set_option maxHeartbeats 200000 in
theorem hy_begin_o {q r ne : Nat} {cX : List LsP} (ha : a = 9 ∨ a = 10) (hl : (cX ++ (2, q, r) :: c1).length < 700) (hx : ∀ x ∈ cX, x.1 = 1) (hs : ls_StP a_cKind a_cA a_cB (cX ++ (2, q, r) :: c1))
    (g9 : a = 9 → post (f_most, f_n, f_stored, f_nm, nI (ls_evo ne cX), f_base, f_ns, f_no, nI c1.length, nI r, f_mode, f_err, f_errAt, f_ticks, f_calls, f_outs, f_resK, 0, f_resV, f_cnt, f_full, f_flag, f_need, a_tk, a_tv, a_tp, a_mName, a_mKind, a_mCount, a_mPar, a_mAt, a_vName, a_vDecl, a_vKind, a_vVal, a_sk, a_sv, a_oKind, a_oAt, a_oArgs, a_cKind, a_cA, a_cB, a_outK, a_outV)) (g10 : a = 10 → post (f_most, f_n, f_stored, f_nm, nI (ls_evo ne cX), f_base, f_ns, f_no, nI (c1.length + 1), nI r, f_mode, f_err, f_errAt, f_ticks, f_calls, f_outs, f_resK, 0, f_resV, f_cnt, f_full, f_flag, f_need, a_tk, a_tv, a_tp, a_mName, a_mKind, a_mCount, a_mPar, a_mAt, a_vName, a_vDecl, a_vKind, a_vVal, a_sk, a_sv, a_oKind, a_oAt, a_oArgs, a_cKind, a_cA, a_cB, a_outK, a_outV)) : wpY_begin post (f_most, f_n, f_stored, f_nm, nI ne, f_base, f_ns, f_no, nI (cX ++ (2, q, r) :: c1).length, f_pc, f_mode, f_err, f_errAt, f_ticks, f_calls, f_outs, f_resK, f_part, f_resV, f_cnt, f_full, f_flag, f_need, a_tk, a_tv, a_tp, a_mName, a_mKind, a_mCount, a_mPar, a_mAt, a_vName, a_vDecl, a_vKind, a_vVal, a_sk, a_sv, a_oKind, a_oAt, a_oArgs, a_cKind, a_cA, a_cB, a_outK, a_outV) (nI a) := by
  have W := hy_begin_99 (post := post) (f_part := 0) (f_pc := f_pc) ha cX (cX.length + 1) ne (Nat.lt_succ_self _) hl hx hs g9 g10
  unfold wpY_begin
  dsimp only
  rcases ha with rfl | rfl
  · exact br_f (by decide) (br_f (by decide) (br_f (by decide) (br_f (by decide) (br_f (by decide) (br_t rfl ⟨_, W⟩)))))
  · exact br_f (by decide) (br_f (by decide) (br_f (by decide) (br_f (by decide) (br_f (by decide) (br_f (by decide) (br_t rfl ⟨_, W⟩))))))
set_option maxHeartbeats 200000 in
theorem hy_begin_r (hp : p + 1 < 384) (e1 : a_tk (p + 1) = 20) (g : wpY_giveBack post (f_most, f_n, f_stored, f_nm, f_nEnv, f_base, f_ns, f_no, f_nc, nI p, f_mode, f_err, f_errAt, f_ticks, f_calls, f_outs, f_resK, 0, f_resV, f_cnt, f_full, f_flag, f_need, a_tk, a_tv, a_tp, a_mName, a_mKind, a_mCount, a_mPar, a_mAt, a_vName, a_vDecl, a_vKind, a_vVal, a_sk, a_sv, a_oKind, a_oAt, a_oArgs, a_cKind, a_cA, a_cB, a_outK, a_outV) (-1)) : wpY_begin post (f_most, f_n, f_stored, f_nm, f_nEnv, f_base, f_ns, f_no, f_nc, nI p, f_mode, f_err, f_errAt, f_ticks, f_calls, f_outs, f_resK, f_part, f_resV, f_cnt, f_full, f_flag, f_need, a_tk, a_tv, a_tp, a_mName, a_mKind, a_mCount, a_mPar, a_mAt, a_vName, a_vDecl, a_vKind, a_vVal, a_sk, a_sv, a_oKind, a_oAt, a_oArgs, a_cKind, a_cA, a_cB, a_outK, a_outV) 11 := by
  unfold wpY_begin
  dsimp only
  rw [nI_1, nI_clamp (by omega), e1]
  exact br_f (by decide) (br_f (by decide) (br_f (by decide) (br_f (by decide) (br_f (by decide) (br_f (by decide) (br_f (by decide) (br_t rfl ⟨vp_in_nI hp (by decide), br_t rfl g⟩)))))))
set_option maxHeartbeats 200000 in
/-- an expression's statement, or return with a value -/
theorem hy_begin_x {pt b : Nat} (hno : no < 400) (hp : p + 1 < 384) (hpt : pt ≤ 1) (ha : a < 100) (n : a ≠ 20 ∧ a ≠ 17 ∧ a ≠ 6 ∧ a ≠ 8 ∧ a ≠ 12 ∧ a ≠ 9 ∧ a ≠ 10) (h11 : a = 11 → a_tk (p + 1) = nI b ∧ b < 100 ∧ b ≠ 20) (g : ∀ og, (∀ j, j ≠ no → og j = a_oArgs j) → og no = nI pt → post (f_most, f_n, f_stored, f_nm, f_nEnv, f_base, f_ns, nI (no + 1), f_nc, nI (if a = 11 then p + 1 else p), 1, f_err, f_errAt, f_ticks, f_calls, f_outs, f_resK, 0, f_resV, f_cnt, f_full, f_flag, f_need, a_tk, a_tv, a_tp, a_mName, a_mKind, a_mCount, a_mPar, a_mAt, a_vName, a_vDecl, a_vKind, a_vVal, a_sk, a_sv, upd a_oKind no (nI 1), upd a_oAt no (nI p), og, a_cKind, a_cA, a_cB, a_outK, a_outV)) : wpY_begin post (f_most, f_n, f_stored, f_nm, f_nEnv, f_base, f_ns, nI no, f_nc, nI p, f_mode, f_err, f_errAt, f_ticks, f_calls, f_outs, f_resK, nI pt, f_resV, f_cnt, f_full, f_flag, f_need, a_tk, a_tv, a_tp, a_mName, a_mKind, a_mCount, a_mPar, a_mAt, a_vName, a_vDecl, a_vKind, a_vVal, a_sk, a_sv, a_oKind, a_oAt, a_oArgs, a_cKind, a_cA, a_cB, a_outK, a_outV) (nI a) := by
  have N : ∀ w : Nat, w < 100 → a ≠ w → ¬ nI a = nI w := fun w hw h => _root_.mt (ls_k8 ha hw).mp h
  have G210 : ∀ og, (∀ j, j ≠ no → og j = a_oArgs j) → og no = nI pt → wY_begin_210 post (nI a) f_most f_n f_stored f_nm f_nEnv f_base f_ns (nI (no + 1)) f_nc (nI p) f_mode f_err f_errAt f_ticks f_calls f_outs f_resK 0 f_resV f_cnt f_full f_flag f_need a_tk a_tv a_tp a_mName a_mKind a_mCount a_mPar a_mAt a_vName a_vDecl a_vKind a_vVal a_sk a_sv (upd a_oKind no (nI 1)) (upd a_oAt no (nI p)) og a_cKind a_cA a_cB a_outK a_outV := by
    intro og h1 h2
    have := g og h1 h2
    unfold wY_begin_210
    by_cases c : a = 11
    · rw [if_pos c] at this
      subst c
      exact br_t rfl (nm_r (nI_1 p) this)
    · rw [if_neg c] at this
      exact br_f (N 11 (by decide) c) this
  have G185 : wY_begin_185 post (nI a) (nI pt) f_most f_n f_stored f_nm f_nEnv f_base f_ns (nI no) f_nc (nI p) f_mode f_err f_errAt f_ticks f_calls f_outs f_resK 0 f_resV f_cnt f_full f_flag f_need a_tk a_tv a_tp a_mName a_mKind a_mCount a_mPar a_mAt a_vName a_vDecl a_vKind a_vVal a_sk a_sv a_oKind a_oAt a_oArgs a_cKind a_cA a_cB a_outK a_outV := by
    unfold wY_begin_185
    refine hy_openOp (kd := 1) hno (by decide) (by omega) ?_
    by_cases c : pt = 0
    · subst c
      exact br_t rfl (G210 _ (fun j hj => pk_un hj) pk_us)
    · have : pt = 1 := by omega
      subst this
      dsimp only
      rw [nI_pred, nI_clamp (by omega), show vp_nar .byte 1 = nI 1 from ls_vnb (n := 1) (by decide)]
      exact br_f (by decide) ⟨vp_in_nI hno (by decide), nm_e (G210 _ (fun j hj => (pk_un hj).trans (pk_un hj)) pk_us)⟩
  unfold wpY_begin
  dsimp only
  refine br_f (N 20 (by decide) n.1) (br_f (N 17 (by decide) n.2.1) (br_f (N 6 (by decide) n.2.2.1) (br_f (N 8 (by decide) n.2.2.2.1) (br_f (N 12 (by decide) n.2.2.2.2.1) (br_f (N 9 (by decide) n.2.2.2.2.2.1) (br_f (N 10 (by decide) n.2.2.2.2.2.2) ?_))))))
  by_cases c : a = 11
  · obtain ⟨t1, t2, t3⟩ := h11 c
    refine br_t (by rw [c]; rfl) ?_
    rw [nI_1, nI_clamp (by omega), t1]
    exact ⟨vp_in_nI hp (by decide), br_f (_root_.mt (ls_k8 (b := 20) t2 (by decide)).mp t3) G185⟩
  · exact br_f (N 11 (by decide) c) G185
set_option maxHeartbeats 200000 in
/-- a block's end -/
theorem hy_close {q : Nat} (hp : p < 900) (hl : c1.length < 699) (hs : ls_StP a_cKind a_cA a_cB ((1, q, 0) :: c1)) (hb : ∀ x ∈ c1, x.1 < 100) (g0 : (∀ x r, c1 = x :: r → x.1 ≠ 3) → post (f_most, f_n, f_stored, f_nm, nI q, f_base, f_ns, f_no, nI c1.length, nI (p + 1), f_mode, f_err, f_errAt, f_ticks, f_calls, f_outs, f_resK, f_part, f_resV, f_cnt, f_full, f_flag, f_need, a_tk, a_tv, a_tp, a_mName, a_mKind, a_mCount, a_mPar, a_mAt, a_vName, a_vDecl, a_vKind, a_vVal, a_sk, a_sv, a_oKind, a_oAt, a_oArgs, a_cKind, a_cA, a_cB, a_outK, a_outV)) (g3 : ∀ x r, c1 = x :: r → x.1 = 3 → wpY_giveBack post (f_most, f_n, f_stored, f_nm, nI q, f_base, f_ns, f_no, nI c1.length, nI (p + 1), f_mode, f_err, f_errAt, f_ticks, f_calls, f_outs, f_resK, f_part, f_resV, f_cnt, f_full, f_flag, f_need, a_tk, a_tv, a_tp, a_mName, a_mKind, a_mCount, a_mPar, a_mAt, a_vName, a_vDecl, a_vKind, a_vVal, a_sk, a_sv, a_oKind, a_oAt, a_oArgs, a_cKind, a_cA, a_cB, a_outK, a_outV) (-1)) : wpY_closeBlock post (f_most, f_n, f_stored, f_nm, f_nEnv, f_base, f_ns, f_no, nI (c1.length + 1), nI p, f_mode, f_err, f_errAt, f_ticks, f_calls, f_outs, f_resK, f_part, f_resV, f_cnt, f_full, f_flag, f_need, a_tk, a_tv, a_tp, a_mName, a_mKind, a_mCount, a_mPar, a_mAt, a_vName, a_vDecl, a_vKind, a_vVal, a_sk, a_sv, a_oKind, a_oAt, a_oArgs, a_cKind, a_cA, a_cB, a_outK, a_outV) := by
  obtain ⟨s1, s2, s3, s4⟩ := hs
  unfold wpY_closeBlock
  dsimp only
  refine hy_leaveBlock (kd := 1) (a := q) (by omega) (by decide) s1 s2 (fun _ => ?_) (fun q => absurd rfl q)
  dsimp only
  refine nm_r (nI_1 p) ?_
  cases c1 with
  | nil => exact br_t (by show (0 : Int32) ≤ 0; decide) (g0 (fun x r h => by cases h))
  | cons x r =>
    obtain ⟨t1, _⟩ := s4
    rw [List.length_cons] at hl
    refine br_f (nI_ge (a := 0) (b := (x :: r).length) (by rw [List.length_cons]; omega) (by rw [List.length_cons]; omega)) ?_
    rw [show (x :: r).length = r.length + 1 from rfl, nI_pred, nI_clamp (by omega), t1]
    refine ⟨vp_in_nI (by omega) (by decide), ?_⟩
    by_cases c3 : x.1 = 3
    · exact br_t (by rw [c3]; rfl) (g3 x r rfl c3)
    · exact br_f (_root_.mt (ls_k8 (b := 3) (hb x (List.mem_cons_self ..)) (by decide)).mp c3) (g0 (fun y r' h => by injection h with h _; rw [← h]; exact c3))
set_option maxHeartbeats 200000 in
/-- a local variable -/
theorem hy_decl_l {t w nm ne : Nat} (hp : p + 2 < 384) (hno : no < 400) (hnc : 0 < nc ∧ nc < 700) (hne : ne < 96) (hnm : nm < 16) (e1 : a_tk p = nI t) (ht : t ≤ 5) (e2 : a_tk (p + 1) = nI (nm + 54)) (e3 : a_tk (p + 2) = nI w) (hw : w = 20 ∨ w = 21) (he : f_err = 0)
    (g20 : w = 20 → post (f_most, f_n, f_stored, f_nm, nI (ne + 1), f_base, f_ns, nI no, nI nc, nI (p + 3), f_mode, f_err, f_errAt, f_ticks, f_calls, f_outs, f_resK, f_part, f_resV, f_cnt, f_full, f_flag, f_need, a_tk, a_tv, a_tp, a_mName, a_mKind, a_mCount, a_mPar, a_mAt, upd a_vName ne (nI (nm + 54)), upd a_vDecl ne (nI t), upd a_vKind ne (nI (if t = 5 then 3 else t)), vp_updL a_vVal ne 0, a_sk, a_sv, a_oKind, a_oAt, a_oArgs, a_cKind, a_cA, a_cB, a_outK, a_outV))
    (g21 : w = 21 → post (f_most, f_n, f_stored, f_nm, nI (ne + 1), f_base, f_ns, nI (no + 1), nI nc, nI (p + 3), 1, f_err, f_errAt, f_ticks, f_calls, f_outs, f_resK, f_part, f_resV, f_cnt, f_full, f_flag, f_need, a_tk, a_tv, a_tp, a_mName, a_mKind, a_mCount, a_mPar, a_mAt, upd a_vName ne (nI (nm + 54)), upd a_vDecl ne (nI t), upd a_vKind ne (nI (if t = 5 then 3 else t)), vp_updL a_vVal ne 0, a_sk, a_sv, upd a_oKind no (nI 1), upd a_oAt no (nI p), upd a_oArgs no 0, a_cKind, a_cA, a_cB, a_outK, a_outV)) : wpY_declaration post (f_most, f_n, f_stored, f_nm, nI ne, f_base, f_ns, nI no, nI nc, nI p, f_mode, f_err, f_errAt, f_ticks, f_calls, f_outs, f_resK, f_part, f_resV, f_cnt, f_full, f_flag, f_need, a_tk, a_tv, a_tp, a_mName, a_mKind, a_mCount, a_mPar, a_mAt, a_vName, a_vDecl, a_vKind, a_vVal, a_sk, a_sv, a_oKind, a_oAt, a_oArgs, a_cKind, a_cA, a_cB, a_outK, a_outV) := by
  have e3' : nI p + 3 = nI (p + 3) := by rw [show (3 : Int32) = nI 3 from rfl, nI_add]
  have e2' : nI p + 2 = nI (p + 2) := by rw [show (2 : Int32) = nI 2 from rfl, nI_add]
  unfold wpY_declaration
  dsimp only
  rw [nI_clamp (by omega), e1]
  refine ⟨vp_in_nI (by omega) (by decide), nm_e (br_f (fun q => by have := (nI_eq (b := 0) (by omega) (by decide)).mp q; omega) ?_)⟩
  unfold wY_declaration_25
  rw [e2', nI_clamp (by omega), e3, nI_1, nI_clamp (by omega), e2]
  refine br_t he ⟨vp_in_nI hp (by decide), br_f (_root_.mt (ls_k8 (b := 15) (by omega) (by decide)).mp (by omega)) (br_f (nI_ge (a := 0) hnc.1 (by omega)) ⟨vp_in_nI (by omega) (by decide), hy_zeroKind (by omega) (hy_local hne (by omega) (by omega) (by split <;> omega) ?_)⟩)⟩
  dsimp only
  unfold wY_declaration_83
  rw [e2', nI_clamp (by omega), e3]
  refine ⟨vp_in_nI hp (by decide), ?_⟩
  rcases hw with rfl | rfl
  · exact br_t rfl (br_f (fun q => by have := (nI_eq (b := 0) (by omega) (by decide)).mp q; omega) (nm_r e3' (g20 rfl)))
  · exact br_f (by decide) (hy_openOp (kd := 1) hno (by decide) (by omega) (nm_r e3' (g21 rfl)))
set_option maxHeartbeats 200000 in
/-- a variable of the text -/
theorem hy_decl_g {t w nm tc mt : Nat} (hp : p + 2 < 384) (hno : no < 400) (hnm : nm < 16) (e1 : a_tk p = nI t) (ht : t ≤ 5) (e2 : a_tk (p + 1) = nI (nm + 54)) (e3 : a_tk (p + 2) = nI w) (hw : w = 20 ∨ w = 21) (he : f_err = 0) (hmt : mt < 1000) (htc : tc ≤ mt)
    (g20 : tc < mt → w = 20 → post (nI mt, f_n, f_stored, f_nm, f_nEnv, f_base, f_ns, nI no, 0, nI (p + 3), f_mode, f_err, f_errAt, nI (tc + 1), f_calls, f_outs, f_resK, f_part, f_resV, f_cnt, f_full, f_flag, f_need, a_tk, a_tv, a_tp, a_mName, a_mKind, a_mCount, a_mPar, a_mAt, a_vName, upd a_vDecl (80 + nm) (nI t), upd a_vKind (80 + nm) (nI (if t = 5 then 3 else t)), vp_updL a_vVal (80 + nm) 0, a_sk, a_sv, a_oKind, a_oAt, a_oArgs, a_cKind, a_cA, a_cB, a_outK, a_outV))
    (g21 : tc < mt → w = 21 → post (nI mt, f_n, f_stored, f_nm, f_nEnv, f_base, f_ns, nI (no + 1), 0, nI (p + 3), 1, f_err, f_errAt, nI (tc + 1), f_calls, f_outs, f_resK, f_part, f_resV, f_cnt, f_full, f_flag, f_need, a_tk, a_tv, a_tp, a_mName, a_mKind, a_mCount, a_mPar, a_mAt, a_vName, a_vDecl, a_vKind, a_vVal, a_sk, a_sv, upd a_oKind no (nI 1), upd a_oAt no (nI p), upd a_oArgs no 0, a_cKind, a_cA, a_cB, a_outK, a_outV))
    (g0 : tc = mt → post (nI mt, f_n, f_stored, f_nm, f_nEnv, f_base, f_ns, nI no, 0, nI p, f_mode, 9, ls_pl a_tp p, nI tc, f_calls, f_outs, f_resK, f_part, f_resV, f_cnt, f_full, f_flag, f_need, a_tk, a_tv, a_tp, a_mName, a_mKind, a_mCount, a_mPar, a_mAt, a_vName, a_vDecl, a_vKind, a_vVal, a_sk, a_sv, a_oKind, a_oAt, a_oArgs, a_cKind, a_cA, a_cB, a_outK, a_outV)) : wpY_declaration post (nI mt, f_n, f_stored, f_nm, f_nEnv, f_base, f_ns, nI no, 0, nI p, f_mode, f_err, f_errAt, nI tc, f_calls, f_outs, f_resK, f_part, f_resV, f_cnt, f_full, f_flag, f_need, a_tk, a_tv, a_tp, a_mName, a_mKind, a_mCount, a_mPar, a_mAt, a_vName, a_vDecl, a_vKind, a_vVal, a_sk, a_sv, a_oKind, a_oAt, a_oArgs, a_cKind, a_cA, a_cB, a_outK, a_outV) := by
  have e3' : nI p + 3 = nI (p + 3) := by rw [show (3 : Int32) = nI 3 from rfl, nI_add]
  have e2' : nI p + 2 = nI (p + 2) := by rw [show (2 : Int32) = nI 2 from rfl, nI_add]
  unfold wpY_declaration
  dsimp only
  rw [nI_clamp (by omega), e1]
  refine ⟨vp_in_nI (by omega) (by decide), nm_e (br_t rfl (hy_tick hmt (by omega) htc (fun c => ?_) (fun c => ?_)))⟩
  · dsimp only
    unfold wY_declaration_25
    rw [e2', nI_clamp (by omega), e3]
    refine br_t he ⟨vp_in_nI hp (by decide), br_f (_root_.mt (ls_k8 (b := 15) (by omega) (by decide)).mp (by omega)) (br_t (by decide) ?_)⟩
    unfold wY_declaration_83
    rw [e2', nI_clamp (by omega), e3, nI_1, nI_clamp (by omega), e2]
    refine ⟨vp_in_nI hp (by decide), ?_⟩
    rcases hw with rfl | rfl
    · exact br_t rfl (br_t rfl ⟨vp_in_nI (by omega) (by decide), hy_zeroKind (by omega) (hy_declareGlobal hnm (by omega) (by split <;> omega) (nm_r e3' (g20 c rfl)))⟩)
    · exact br_f (by decide) (hy_openOp (kd := 1) hno (by decide) (by omega) (nm_r e3' (g21 c rfl)))
  · dsimp only
    unfold wY_declaration_25
    exact br_f (by decide) (g0 c)
end
