/-! The reference: print, results, declarations, returns -/
section
variable {f_most f_n f_stored f_nm f_nEnv f_base f_ns f_no f_nc f_pc f_mode f_err f_errAt f_ticks f_calls f_outs f_resK f_part f_cnt f_full f_flag f_need : Int32}
variable {f_resV : Int64}
variable {a_tk a_tp a_mName a_mKind a_mCount a_mPar a_mAt a_vName a_vDecl a_vKind a_sk a_oKind a_oAt a_oArgs a_cKind a_cA a_cB a_outK : Nat → Int32}
variable {a_tv a_vVal a_sv a_outV : Nat → Int64}
variable {post : SY → Prop} {p m no nc : Nat}
set_option maxHeartbeats 200000 in
theorem hy_fd_434 (hp : p < 1000) (g : post (f_most, f_n, f_stored, f_nm, f_nEnv, f_base, nI m, f_no, f_nc, nI (p + 1), f_mode, f_err, f_errAt, f_ticks, f_calls, f_outs, f_resK, f_part, f_resV, f_cnt, f_full, f_flag, f_need, a_tk, a_tv, a_tp, a_mName, a_mKind, a_mCount, a_mPar, a_mAt, a_vName, a_vDecl, a_vKind, a_vVal, a_sk, a_sv, a_oKind, a_oAt, a_oArgs, a_cKind, a_cA, a_cB, a_outK, a_outV)) : wY_fullDone_434 post f_most f_n f_stored f_nm f_nEnv f_base (nI (m + 1)) f_no f_nc (nI p) f_mode f_err f_errAt f_ticks f_calls f_outs f_resK f_part f_resV f_cnt f_full f_flag f_need a_tk a_tv a_tp a_mName a_mKind a_mCount a_mPar a_mAt a_vName a_vDecl a_vKind a_vVal a_sk a_sv a_oKind a_oAt a_oArgs a_cKind a_cA a_cB a_outK a_outV := nm_r (nI_pred m) (nm_r (nI_1 p) g)
set_option maxHeartbeats 200000 in
theorem hy_fd_p {x1 oc k : Nat} {v : Int64} (hx : x1 < 384) (hm : m < 399) (hp : p < 900) (ho : oc ≤ 32) (e1 : a_tk x1 = 12) (e2 : a_sk m = nI k) (hk : k < 128) (e3 : a_sv m = v)
    (h0 : oc = 32 → post (f_most, f_n, f_stored, f_nm, f_nEnv, f_base, nI m, f_no, f_nc, nI (p + 2), 0, 8, ls_pl a_tp x1, f_ticks, f_calls, nI oc, f_resK, f_part, f_resV, f_cnt, f_full, f_flag, f_need, a_tk, a_tv, a_tp, a_mName, a_mKind, a_mCount, a_mPar, a_mAt, a_vName, a_vDecl, a_vKind, a_vVal, a_sk, a_sv, a_oKind, a_oAt, a_oArgs, a_cKind, a_cA, a_cB, a_outK, a_outV))
    (h1 : oc < 32 → post (f_most, f_n, f_stored, f_nm, f_nEnv, f_base, nI m, f_no, f_nc, nI (p + 2), 0, f_err, f_errAt, f_ticks, f_calls, nI (oc + 1), f_resK, f_part, f_resV, f_cnt, f_full, f_flag, f_need, a_tk, a_tv, a_tp, a_mName, a_mKind, a_mCount, a_mPar, a_mAt, a_vName, a_vDecl, a_vKind, a_vVal, a_sk, a_sv, a_oKind, a_oAt, a_oArgs, a_cKind, a_cA, a_cB, upd a_outK oc (nI k), vp_updL a_outV oc v)) : wpY_fullDone post (f_most, f_n, f_stored, f_nm, f_nEnv, f_base, nI (m + 1), f_no, f_nc, nI p, f_mode, f_err, f_errAt, f_ticks, f_calls, nI oc, f_resK, f_part, f_resV, f_cnt, f_full, f_flag, f_need, a_tk, a_tv, a_tp, a_mName, a_mKind, a_mCount, a_mPar, a_mAt, a_vName, a_vDecl, a_vKind, a_vVal, a_sk, a_sv, a_oKind, a_oAt, a_oArgs, a_cKind, a_cA, a_cB, a_outK, a_outV) (nI x1) := by
  unfold wpY_fullDone
  dsimp only
  rw [nI_pred, nI_clamp (by omega), nI_clamp (by omega), e1, e2, e3]
  refine ⟨vp_in_nI hx (by decide), nm_e ⟨vp_in_nI (by omega) (by decide), nm_e ⟨vp_in_nI (by omega) (by decide), nm_e (br_f (by decide) (br_f (by decide) (br_t (by decide) (br_t rfl ?_))))⟩⟩⟩
  by_cases c : oc = 32
  · subst c
    refine br_t rfl (hy_fail hx ?_)
    unfold wY_fullDone_379
    exact nm_r (nI_1 p) (hy_fd_434 (by omega) (h0 rfl))
  · refine br_f (mt (ls_k8 (b := 32) (by omega) (by decide)).mp c) ?_
    rw [nI_clamp (by omega), ls_vnb2 hk, nI_1]
    refine ⟨vp_in_nI (by omega) (by decide), nm_e (nm_e ⟨vp_in_nI (by omega) (by decide), nm_e ?_⟩)⟩
    unfold wY_fullDone_379
    exact nm_r (nI_1 p) (hy_fd_434 (by omega) (h1 (by omega)))
set_option maxHeartbeats 200000 in
/-- an expression's statement: at the top of the text it gives the result -/
theorem hy_fd_x {x1 a k g : Nat} {v : Int64} (hx : x1 < 384) (hm : m < 399) (hp : p < 900) (hno : no < 400) (hnc : nc < 700) (e1 : a_tk x1 = nI a) (ha : 13 ≤ a ∧ a < 100) (e2 : a_sk m = nI k) (e3 : a_sv m = v) (e4 : a_oArgs no = nI g) (hg : g < 100)
    (h1 : nc = 0 → g = 0 → post (f_most, f_n, f_stored, f_nm, f_nEnv, f_base, nI m, nI no, nI nc, nI (p + 1), 0, f_err, f_errAt, f_ticks, f_calls, f_outs, nI k, f_part, v, f_cnt, f_full, f_flag, f_need, a_tk, a_tv, a_tp, a_mName, a_mKind, a_mCount, a_mPar, a_mAt, a_vName, a_vDecl, a_vKind, a_vVal, a_sk, a_sv, a_oKind, a_oAt, a_oArgs, a_cKind, a_cA, a_cB, a_outK, a_outV))
    (h0 : ¬ (nc = 0 ∧ g = 0) → post (f_most, f_n, f_stored, f_nm, f_nEnv, f_base, nI m, nI no, nI nc, nI (p + 1), 0, f_err, f_errAt, f_ticks, f_calls, f_outs, f_resK, f_part, f_resV, f_cnt, f_full, f_flag, f_need, a_tk, a_tv, a_tp, a_mName, a_mKind, a_mCount, a_mPar, a_mAt, a_vName, a_vDecl, a_vKind, a_vVal, a_sk, a_sv, a_oKind, a_oAt, a_oArgs, a_cKind, a_cA, a_cB, a_outK, a_outV)) : wpY_fullDone post (f_most, f_n, f_stored, f_nm, f_nEnv, f_base, nI (m + 1), nI no, nI nc, nI p, f_mode, f_err, f_errAt, f_ticks, f_calls, f_outs, f_resK, f_part, f_resV, f_cnt, f_full, f_flag, f_need, a_tk, a_tv, a_tp, a_mName, a_mKind, a_mCount, a_mPar, a_mAt, a_vName, a_vDecl, a_vKind, a_vVal, a_sk, a_sv, a_oKind, a_oAt, a_oArgs, a_cKind, a_cA, a_cB, a_outK, a_outV) (nI x1) := by
  unfold wpY_fullDone
  dsimp only
  have N : ∀ w : Nat, w < 100 → a ≠ w → ¬ nI a = nI w := fun w hw h => mt (ls_k8 ha.2 hw).mp h
  rw [nI_pred, nI_clamp (by omega), nI_clamp (by omega), e1, e2, e3]
  refine ⟨vp_in_nI hx (by decide), nm_e ⟨vp_in_nI (by omega) (by decide), nm_e ⟨vp_in_nI (by omega) (by decide), nm_e (br_f (N 6 (by decide) (by omega)) (br_f (N 8 (by decide) (by omega)) (br_t (nI_le (a := 6) (by omega) (by omega)) (br_f (N 12 (by decide) (by omega)) (br_f (N 11 (by decide) (by omega)) ?_)))))⟩⟩⟩
  by_cases c : nc = 0
  · subst c
    refine br_t rfl ⟨vp_in_nI hno (by decide), ?_⟩
    rw [nI_clamp (by omega), e4]
    by_cases g0 : g = 0
    · subst g0
      exact br_t rfl (hy_fd_434 (by omega) (h1 rfl rfl))
    · exact br_f (mt (ls_k8 (b := 0) hg (by decide)).mp g0) (hy_fd_434 (by omega) (h0 (fun q => g0 q.2)))
  · exact br_f (fun q => c ((nI_eq (b := 0) (by omega) (by decide)).mp q)) (hy_fd_434 (by omega) (h0 (fun q => c q.1)))
set_option maxHeartbeats 200000 in
/-- a declaration's value -/
theorem hy_fd_d {x1 t k nm ne : Nat} {v : Int64} {tf : Nat → Nat} (hx : x1 + 2 < 384) (hm : m < 399) (hp : p ≤ 384) (hxp : x1 + 3 ≤ p) (hnc : nc < 700) (hnm : nm < 16) (hne : 0 < nc → 0 < ne ∧ ne ≤ 96) (e1 : a_tk x1 = nI t) (ht : t ≤ 5) (e5 : a_tk (x1 + 1) = nI (nm + 54)) (htf : ∀ i, x1 + 3 ≤ i → i < p → a_tk i = nI (tf i) ∧ tf i < 100) (e2 : a_sk m = nI k) (hk : k ≤ 4) (e3 : a_sv m = v)
    (h1 : ∀ k' sk', ls_cnv t (!ls_hasn tf (x1 + 3) (p - (x1 + 3))) k v = some k' → nc = 0 → sk' m = nI k' → (∀ j, j ≠ m → sk' j = a_sk j) → post (f_most, f_n, f_stored, f_nm, nI ne, f_base, nI m, f_no, nI nc, nI (p + 1), 0, f_err, f_errAt, f_ticks, f_calls, f_outs, f_resK, f_part, f_resV, f_cnt, f_full, f_flag, f_need, a_tk, a_tv, a_tp, a_mName, a_mKind, a_mCount, a_mPar, a_mAt, a_vName, upd a_vDecl (80 + nm) (nI t), upd a_vKind (80 + nm) (nI k'), vp_updL a_vVal (80 + nm) v, sk', a_sv, a_oKind, a_oAt, a_oArgs, a_cKind, a_cA, a_cB, a_outK, a_outV))
    (h2 : ∀ k' sk', ls_cnv t (!ls_hasn tf (x1 + 3) (p - (x1 + 3))) k v = some k' → 0 < nc → sk' m = nI k' → (∀ j, j ≠ m → sk' j = a_sk j) → post (f_most, f_n, f_stored, f_nm, nI ne, f_base, nI m, f_no, nI nc, nI (p + 1), 0, f_err, f_errAt, f_ticks, f_calls, f_outs, f_resK, f_part, f_resV, f_cnt, f_full, f_flag, f_need, a_tk, a_tv, a_tp, a_mName, a_mKind, a_mCount, a_mPar, a_mAt, a_vName, a_vDecl, upd a_vKind (ne - 1) (nI k'), vp_updL a_vVal (ne - 1) v, sk', a_sv, a_oKind, a_oAt, a_oArgs, a_cKind, a_cA, a_cB, a_outK, a_outV))
    (h0 : ls_cnv t (!ls_hasn tf (x1 + 3) (p - (x1 + 3))) k v = none → post (f_most, f_n, f_stored, f_nm, nI ne, f_base, nI m, f_no, nI nc, nI (p + 1), 0, 3, ls_pl a_tp (x1 + 2), f_ticks, f_calls, f_outs, f_resK, f_part, f_resV, f_cnt, f_full, f_flag, f_need, a_tk, a_tv, a_tp, a_mName, a_mKind, a_mCount, a_mPar, a_mAt, a_vName, a_vDecl, a_vKind, a_vVal, a_sk, a_sv, a_oKind, a_oAt, a_oArgs, a_cKind, a_cA, a_cB, a_outK, a_outV)) : wpY_fullDone post (f_most, f_n, f_stored, f_nm, nI ne, f_base, nI (m + 1), f_no, nI nc, nI p, f_mode, f_err, f_errAt, f_ticks, f_calls, f_outs, f_resK, f_part, f_resV, f_cnt, f_full, f_flag, f_need, a_tk, a_tv, a_tp, a_mName, a_mKind, a_mCount, a_mPar, a_mAt, a_vName, a_vDecl, a_vKind, a_vVal, a_sk, a_sv, a_oKind, a_oAt, a_oArgs, a_cKind, a_cA, a_cB, a_outK, a_outV) (nI x1) := by
  unfold wpY_fullDone
  dsimp only
  have N : ∀ w : Nat, w < 100 → t ≠ w → ¬ nI t = nI w := fun w hw h => mt (ls_k8 (by omega) hw).mp h
  rw [nI_pred, nI_clamp (by omega), nI_clamp (by omega), e1]
  refine ⟨vp_in_nI (by omega) (by decide), nm_e ⟨vp_in_nI (by omega) (by decide), nm_e ⟨vp_in_nI (by omega) (by decide), nm_e (br_f (N 6 (by decide) (by omega)) (br_f (N 8 (by decide) (by omega)) (br_f (nI_ge (b := 6) (by omega) (by decide)) ?_)))⟩⟩⟩
  rw [show nI x1 + 3 = nI (x1 + 3) by rw [show (3 : Int32) = nI 3 from rfl, nI_add]]
  refine hy_convert (tf := tf) hm ht hxp hp htf e2 hk e3 (fun k' sk' hc hs hs' => br_f (by decide) ?_) (fun hc => br_t rfl ?_)
  · have k5 : k' < 128 := by
      unfold ls_cnv at hc
      split at hc
      · injection hc with hc
        split at hc <;> omega
      · cases hc
    dsimp only
    rw [nI_pred, nI_clamp (by omega), nI_1, nI_clamp (by omega), hs, e3]
    by_cases c : nc = 0
    · subst c
      refine br_t rfl ⟨vp_in_nI (by omega) (by decide), vp_in_nI (by omega) (by decide), vp_in_nI (by omega) (by decide), ?_⟩
      rw [e5]
      exact hy_declareGlobal hnm (by omega) k5 (hy_fd_434 (by omega) (h1 k' sk' hc rfl hs hs'))
    · obtain ⟨n1, n2⟩ := hne (by omega)
      obtain ⟨ne', rfl⟩ : ∃ ne', ne = ne' + 1 := ⟨ne - 1, by omega⟩
      rw [Nat.add_sub_cancel] at h2
      refine br_f (fun q => c ((nI_eq (b := 0) (by omega) (by decide)).mp q)) ?_
      rw [nI_pred, nI_clamp (by omega), ls_vnb k5]
      exact ⟨vp_in_nI (by omega) (by decide), vp_in_nI (by omega) (by decide), nm_e ⟨vp_in_nI (by omega) (by decide), vp_in_nI (by omega) (by decide), nm_e (hy_fd_434 (by omega) (h2 k' sk' hc (by omega) hs hs'))⟩⟩
  · rw [show nI x1 + 2 = nI (x1 + 2) by rw [show (2 : Int32) = nI 2 from rfl, nI_add]]
    exact hy_fail hx (hy_fd_434 (by omega) (h0 hc))
set_option maxHeartbeats 200000 in
theorem hy_giveBack_88 {ca a ob mm : Nat} (hnc : nc < 700) (hob : ob < 128) (hmm : mm < 100) (e1 : a_cA nc = nI a) (e2 : a_cB nc = nI (mm * 128 + ob)) (g : post (f_most, f_n, f_stored, f_nm, f_base, nI ob, f_ns, f_no, nI nc, nI a, 3, f_err, f_errAt, f_ticks, nI ca, f_outs, f_resK, f_part, f_resV, f_cnt, f_full, f_flag, f_need, a_tk, a_tv, a_tp, a_mName, a_mKind, a_mCount, a_mPar, a_mAt, a_vName, a_vDecl, a_vKind, a_vVal, a_sk, a_sv, a_oKind, a_oAt, a_oArgs, a_cKind, a_cA, a_cB, a_outK, a_outV)) : wY_giveBack_88 post f_most f_n f_stored f_nm f_nEnv f_base f_ns f_no (nI nc) f_pc f_mode f_err f_errAt f_ticks (nI (ca + 1)) f_outs f_resK f_part f_resV f_cnt f_full f_flag f_need a_tk a_tv a_tp a_mName a_mKind a_mCount a_mPar a_mAt a_vName a_vDecl a_vKind a_vVal a_sk a_sv a_oKind a_oAt a_oArgs a_cKind a_cA a_cB a_outK a_outV := by
  unfold wY_giveBack_88
  rw [nI_clamp (by omega), e1, e2, pk_andN (by omega) 7 (by decide), nI_pred]
  refine ⟨vp_in_nI hnc (by decide), nm_r (by rw [show (mm * 128 + ob) % 2 ^ 7 = ob by omega]) ⟨vp_in_nI hnc (by decide), nm_e (nm_e g)⟩⟩
set_option maxHeartbeats 200000 in
/-- the entries above the call are taken off -/
theorem hy_giveBack_0 {x1 : Int32} {a d : Nat} {c1 : List LsP} : ∀ (cX : List LsP) (fu : Nat) (ne : Int32), cX.length < fu → (cX ++ (3, a, d) :: c1).length < 700 → (∀ x ∈ cX, x.1 = 1 ∨ x.1 = 2) → ls_StP a_cKind a_cA a_cB (cX ++ (3, a, d) :: c1) →
    (∀ (ne' : Int32) (fu' : Nat), wY_giveBack_0 post x1 (fu' + 1) f_most f_n f_stored f_nm ne' f_base f_ns f_no (nI (c1.length + 1)) f_pc f_mode f_err f_errAt f_ticks f_calls f_outs f_resK f_part f_resV f_cnt f_full f_flag f_need a_tk a_tv a_tp a_mName a_mKind a_mCount a_mPar a_mAt a_vName a_vDecl a_vKind a_vVal a_sk a_sv a_oKind a_oAt a_oArgs a_cKind a_cA a_cB a_outK a_outV) → wY_giveBack_0 post x1 fu f_most f_n f_stored f_nm ne f_base f_ns f_no (nI (cX ++ (3, a, d) :: c1).length) f_pc f_mode f_err f_errAt f_ticks f_calls f_outs f_resK f_part f_resV f_cnt f_full f_flag f_need a_tk a_tv a_tp a_mName a_mKind a_mCount a_mPar a_mAt a_vName a_vDecl a_vKind a_vVal a_sk a_sv a_oKind a_oAt a_oArgs a_cKind a_cA a_cB a_outK a_outV := by
  intro cX
  induction cX with
  | nil =>
    intro fu ne hf hl _ hs g
    obtain ⟨fu', rfl⟩ : ∃ fu', fu = fu' + 1 := ⟨fu - 1, by omega⟩
    exact g ne fu'
  | cons x cX ih =>
    intro fu ne hf hl hx hs g
    obtain ⟨fu', rfl⟩ : ∃ fu', fu = fu' + 1 := ⟨fu - 1, by omega⟩
    obtain ⟨s1, s2, s3, s4⟩ := hs
    have x12 := hx x (List.mem_cons_self ..)
    rw [List.length_cons] at hf
    rw [List.cons_append, List.length_cons] at hl ⊢
    unfold wY_giveBack_0
    rw [nI_pred, nI_clamp (by omega)]
    refine ⟨vp_in_nI (by omega) (by decide), ?_⟩
    have s1' : a_cKind (cX ++ (3, a, d) :: c1).length = nI x.1 := s1
    have s2' : a_cA (cX ++ (3, a, d) :: c1).length = nI x.2.1 := s2
    rw [s1']
    refine br_f (mt (ls_k8 (b := 3) (by omega) (by decide)).mp (by omega)) (hy_leaveBlock (by omega) (by omega) s1' s2' (fun _ => ?_) (fun _ => ?_))
    · exact ih fu' _ (by omega) (by omega) (fun y hy => hx y (List.mem_cons_of_mem _ hy)) s4 g
    · exact ih fu' _ (by omega) (by omega) (fun y hy => hx y (List.mem_cons_of_mem _ hy)) s4 g
set_option maxHeartbeats 200000 in
/-- back from a call, with nothing given -/
theorem hy_giveBack_z {a ob mm t ca : Nat} {c1 cX : List LsP} (hl : (cX ++ (3, a, mm * 128 + ob) :: c1).length < 700) (hX : ∀ x ∈ cX, x.1 = 1 ∨ x.1 = 2) (hs : ls_StP a_cKind a_cA a_cB (cX ++ (3, a, mm * 128 + ob) :: c1)) (hmm : mm < 8) (hob : ob < 128) (ek : a_mKind mm = nI t) (ht : t ≤ 5) (hm : m < 400)
    (g : post (f_most, f_n, f_stored, f_nm, f_base, nI ob, nI (m + 1), f_no, nI c1.length, nI a, 3, f_err, f_errAt, f_ticks, nI ca, f_outs, f_resK, f_part, f_resV, f_cnt, f_full, f_flag, f_need, a_tk, a_tv, a_tp, a_mName, a_mKind, a_mCount, a_mPar, a_mAt, a_vName, a_vDecl, a_vKind, a_vVal, upd a_sk m (nI (if t = 5 then 3 else t)), vp_updL a_sv m 0, a_oKind, a_oAt, a_oArgs, a_cKind, a_cA, a_cB, a_outK, a_outV)) : wpY_giveBack post (f_most, f_n, f_stored, f_nm, f_nEnv, f_base, nI m, f_no, nI (cX ++ (3, a, mm * 128 + ob) :: c1).length, f_pc, f_mode, f_err, f_errAt, f_ticks, nI (ca + 1), f_outs, f_resK, f_part, f_resV, f_cnt, f_full, f_flag, f_need, a_tk, a_tv, a_tp, a_mName, a_mKind, a_mCount, a_mPar, a_mAt, a_vName, a_vDecl, a_vKind, a_vVal, a_sk, a_sv, a_oKind, a_oAt, a_oArgs, a_cKind, a_cA, a_cB, a_outK, a_outV) (-1) := by
  unfold wpY_giveBack
  dsimp only
  refine ⟨cX.length + 1, hy_giveBack_0 cX (cX.length + 1) _ (Nat.lt_succ_self _) hl hX hs (fun ne fu => ?_)⟩
  have s0 : ls_StP a_cKind a_cA a_cB ((3, a, mm * 128 + ob) :: c1) := by
    clear g hl hX
    induction cX with
    | nil => exact hs
    | cons x r ih => exact ih hs.2.2.2
  obtain ⟨s1, s2, s3, _⟩ := s0
  have lc : c1.length < 700 := by
    rw [List.length_append, List.length_cons] at hl
    omega
  unfold wY_giveBack_0
  rw [nI_pred, nI_clamp (by omega)]
  have s1' : a_cKind c1.length = nI 3 := s1
  have s3' : a_cB c1.length = nI (mm * 128 + ob) := s3
  rw [s1']
  refine ⟨vp_in_nI lc (by decide), br_t rfl (nm_e ⟨vp_in_nI lc (by decide), ?_⟩)⟩
  rw [nI_clamp (by omega), s3', pk_shrN (by omega) _ 7 (by decide), show (mm * 128 + ob) / 2 ^ 7 = mm by omega, nI_clamp (by omega), ek]
  refine ⟨vp_in_nI hmm (by decide), nm_e (br_f (by decide) (hy_zeroKind (by omega) (hy_push hm (by split <;> omega) (hy_giveBack_88 lc hob (by omega) s2 s3 g))))⟩
set_option maxHeartbeats 200000 in
/-- back from a call with a value -/
theorem hy_giveBack_v {a ob mm t ca x1 k : Nat} {v : Int64} {tf : Nat → Nat} {c1 cX : List LsP} (hl : (cX ++ (3, a, mm * 128 + ob) :: c1).length < 700) (hX : ∀ x ∈ cX, x.1 = 1 ∨ x.1 = 2) (hs : ls_StP a_cKind a_cA a_cB (cX ++ (3, a, mm * 128 + ob) :: c1)) (hmm : mm < 8) (hob : ob < 128) (ek : a_mKind mm = nI t) (ht : t ≤ 5) (hm : m < 399) (hx : x1 < 384) (hp : p ≤ 384) (hxp : x1 + 1 ≤ p) (htf : ∀ i, x1 + 1 ≤ i → i < p → a_tk i = nI (tf i) ∧ tf i < 100) (e2 : a_sk m = nI k) (hk : k ≤ 4) (e3 : a_sv m = v)
    (h1 : ∀ k' sk', ls_cnv t (!ls_hasn tf (x1 + 1) (p - (x1 + 1))) k v = some k' → sk' m = nI k' → (∀ j, j ≠ m → sk' j = a_sk j) → post (f_most, f_n, f_stored, f_nm, f_base, nI ob, nI (m + 1), f_no, nI c1.length, nI a, 3, f_err, f_errAt, f_ticks, nI ca, f_outs, f_resK, f_part, f_resV, f_cnt, f_full, f_flag, f_need, a_tk, a_tv, a_tp, a_mName, a_mKind, a_mCount, a_mPar, a_mAt, a_vName, a_vDecl, a_vKind, a_vVal, sk', a_sv, a_oKind, a_oAt, a_oArgs, a_cKind, a_cA, a_cB, a_outK, a_outV))
    (h0 : ls_cnv t (!ls_hasn tf (x1 + 1) (p - (x1 + 1))) k v = none → post (f_most, f_n, f_stored, f_nm, f_base, nI ob, nI (m + 1), f_no, nI c1.length, nI a, 3, 3, ls_pl a_tp x1, f_ticks, nI ca, f_outs, f_resK, f_part, f_resV, f_cnt, f_full, f_flag, f_need, a_tk, a_tv, a_tp, a_mName, a_mKind, a_mCount, a_mPar, a_mAt, a_vName, a_vDecl, a_vKind, a_vVal, a_sk, a_sv, a_oKind, a_oAt, a_oArgs, a_cKind, a_cA, a_cB, a_outK, a_outV)) : wpY_giveBack post (f_most, f_n, f_stored, f_nm, f_nEnv, f_base, nI (m + 1), f_no, nI (cX ++ (3, a, mm * 128 + ob) :: c1).length, nI p, f_mode, f_err, f_errAt, f_ticks, nI (ca + 1), f_outs, f_resK, f_part, f_resV, f_cnt, f_full, f_flag, f_need, a_tk, a_tv, a_tp, a_mName, a_mKind, a_mCount, a_mPar, a_mAt, a_vName, a_vDecl, a_vKind, a_vVal, a_sk, a_sv, a_oKind, a_oAt, a_oArgs, a_cKind, a_cA, a_cB, a_outK, a_outV) (nI x1) := by
  unfold wpY_giveBack
  dsimp only
  refine ⟨cX.length + 1, hy_giveBack_0 cX (cX.length + 1) _ (Nat.lt_succ_self _) hl hX hs (fun ne fu => ?_)⟩
  have s0 : ls_StP a_cKind a_cA a_cB ((3, a, mm * 128 + ob) :: c1) := by
    clear h0 h1 hl hX
    induction cX with
    | nil => exact hs
    | cons x r ih => exact ih hs.2.2.2
  obtain ⟨s1, s2, s3, _⟩ := s0
  have lc : c1.length < 700 := by
    rw [List.length_append, List.length_cons] at hl
    omega
  unfold wY_giveBack_0
  rw [nI_pred, nI_clamp (by omega)]
  have s1' : a_cKind c1.length = nI 3 := s1
  have s3' : a_cB c1.length = nI (mm * 128 + ob) := s3
  rw [s1']
  refine ⟨vp_in_nI lc (by decide), br_t rfl (nm_e ⟨vp_in_nI lc (by decide), ?_⟩)⟩
  rw [nI_clamp (by omega), s3', pk_shrN (by omega) _ 7 (by decide), show (mm * 128 + ob) / 2 ^ 7 = mm by omega, nI_clamp (by omega), ek, nI_1]
  refine ⟨vp_in_nI hmm (by decide), nm_e (br_t (nI_le (a := 0) (by omega) (by omega)) ?_)⟩
  refine hy_convert (tf := tf) hm ht hxp hp htf e2 hk e3 (fun k' sk' hc hs hs' => br_f (by decide) (hy_giveBack_88 lc hob (by omega) s2 s3 (h1 k' sk' hc hs hs'))) (fun hc => br_t rfl (hy_fail hx (hy_giveBack_88 lc hob (by omega) s2 s3 (h0 hc))))
set_option maxHeartbeats 200000 in
theorem hy_fd_r {x1 : Nat} (hx : x1 < 384) (hm : m < 399) (e1 : a_tk x1 = 11) (g : wpY_giveBack post (f_most, f_n, f_stored, f_nm, f_nEnv, f_base, nI (m + 1), f_no, f_nc, f_pc, 0, f_err, f_errAt, f_ticks, f_calls, f_outs, f_resK, f_part, f_resV, f_cnt, f_full, f_flag, f_need, a_tk, a_tv, a_tp, a_mName, a_mKind, a_mCount, a_mPar, a_mAt, a_vName, a_vDecl, a_vKind, a_vVal, a_sk, a_sv, a_oKind, a_oAt, a_oArgs, a_cKind, a_cA, a_cB, a_outK, a_outV) (nI x1)) : wpY_fullDone post (f_most, f_n, f_stored, f_nm, f_nEnv, f_base, nI (m + 1), f_no, f_nc, f_pc, f_mode, f_err, f_errAt, f_ticks, f_calls, f_outs, f_resK, f_part, f_resV, f_cnt, f_full, f_flag, f_need, a_tk, a_tv, a_tp, a_mName, a_mKind, a_mCount, a_mPar, a_mAt, a_vName, a_vDecl, a_vKind, a_vVal, a_sk, a_sv, a_oKind, a_oAt, a_oArgs, a_cKind, a_cA, a_cB, a_outK, a_outV) (nI x1) := by
  unfold wpY_fullDone
  dsimp only
  rw [nI_pred, nI_clamp (by omega), nI_clamp (by omega), e1]
  exact ⟨vp_in_nI hx (by decide), nm_e ⟨vp_in_nI (by omega) (by decide), nm_e ⟨vp_in_nI (by omega) (by decide), nm_e (br_f (by decide) (br_f (by decide) (br_t (by decide) (br_f (by decide) (br_t rfl g)))))⟩⟩⟩
end
