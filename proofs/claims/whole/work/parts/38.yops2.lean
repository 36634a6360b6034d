section
variable {f_most f_n f_stored f_nm f_nEnv f_base f_ns f_no f_nc f_pc f_mode f_err f_errAt f_ticks f_calls f_outs f_resK f_part f_cnt f_full f_flag f_need : Int32}
variable {f_resV : Int64}
variable {a_tk a_tp a_mName a_mKind a_mCount a_mPar a_mAt a_vName a_vDecl a_vKind a_sk a_oKind a_oAt a_oArgs a_cKind a_cA a_cB a_outK : Nat → Int32}
variable {a_tv a_vVal a_sv a_outV : Nat → Int64}
variable {post : SY → Prop} {q : Int32 → Prop} {at0 m k w a b : Nat} {v x y : Int64}
set_option maxHeartbeats 200000 in
/-- && and || at their end: the right side must be a boolean -/
theorem hy_operate2 (hm : m + 1 < 400) (hat : at0 < 384) (hw : w = 41 ∨ w = 42) (e1 : a_sk m = 0) (e2 : a_sk (m + 1) = nI b) (e3 : a_sv m = x) (e4 : a_sv (m + 1) = y) (wb : ls_wf b y)
    (h1 : b = 0 → post (f_most, f_n, f_stored, f_nm, f_nEnv, f_base, nI (m + 1), f_no, f_nc, f_pc, f_mode, f_err, f_errAt, f_ticks, f_calls, f_outs, f_resK, f_part, f_resV, f_cnt, f_full, f_flag, f_need, a_tk, a_tv, a_tp, a_mName, a_mKind, a_mCount, a_mPar, a_mAt, a_vName, a_vDecl, a_vKind, a_vVal, upd a_sk m 0, vp_updL a_sv m y, a_oKind, a_oAt, a_oArgs, a_cKind, a_cA, a_cB, a_outK, a_outV))
    (h0 : b ≠ 0 → post (f_most, f_n, f_stored, f_nm, f_nEnv, f_base, nI (m + 1), f_no, f_nc, f_pc, f_mode, 3, ls_pl a_tp at0, f_ticks, f_calls, f_outs, f_resK, f_part, f_resV, f_cnt, f_full, f_flag, f_need, a_tk, a_tv, a_tp, a_mName, a_mKind, a_mCount, a_mPar, a_mAt, a_vName, a_vDecl, a_vKind, a_vVal, a_sk, a_sv, a_oKind, a_oAt, a_oArgs, a_cKind, a_cA, a_cB, a_outK, a_outV)) : wpY_operate post (f_most, f_n, f_stored, f_nm, f_nEnv, f_base, nI (m + 2), f_no, f_nc, f_pc, f_mode, f_err, f_errAt, f_ticks, f_calls, f_outs, f_resK, f_part, f_resV, f_cnt, f_full, f_flag, f_need, a_tk, a_tv, a_tp, a_mName, a_mKind, a_mCount, a_mPar, a_mAt, a_vName, a_vDecl, a_vKind, a_vVal, a_sk, a_sv, a_oKind, a_oAt, a_oArgs, a_cKind, a_cA, a_cB, a_outK, a_outV) (nI w) (nI at0) := by
  have b4 := wb.1
  have N : ∀ a v, a < 100 → v < 100 → a ≠ v → ¬ nI a = nI v := fun a v ha hv h => mt (ls_k8 ha hv).mp h
  have E : ∀ a v, a = v → nI a = nI v := fun a v h => by rw [h]
  have im : vp_in (nI m) 400 := vp_in_nI (by omega) (by decide)
  have em : (nI m).toNatClampNeg = m := nI_clamp (by omega)
  have im1 : vp_in (nI (m + 1)) 400 := vp_in_nI (by omega) (by decide)
  have em1 : (nI (m + 1)).toNatClampNeg = m + 1 := nI_clamp (by omega)
  have en : nI (m + 1) - 1 = nI m := nI_pred m
  have P340 : ∀ z : Nat, z ≤ 1 → b = 0 → (z = 1 ↔ y = 1) → wY_operate_340 post (nI z) f_most f_n f_stored f_nm f_nEnv f_base (nI (m + 1)) f_no f_nc f_pc f_mode f_err f_errAt f_ticks f_calls f_outs f_resK f_part f_resV f_cnt f_full f_flag f_need a_tk a_tv a_tp a_mName a_mKind a_mCount a_mPar a_mAt a_vName a_vDecl a_vKind a_vVal a_sk a_sv a_oKind a_oAt a_oArgs a_cKind a_cA a_cB a_outK a_outV := by
    intro z hz1 b0 hz
    unfold wY_operate_340
    rw [en]
    refine ⟨im, nm_r (by rw [em, show vp_nar .byte 0 = 0 from ls_vnb (n := 0) (by decide)]) ?_⟩
    have hp := h1 b0
    by_cases q : z = 1
    · have y1 := hz.mp q
      subst q
      rw [y1] at hp
      exact br_f (by decide) ⟨im, nm_r (by rw [em]) hp⟩
    · have : z = 0 := by omega
      subst this
      have y0 : y = 0 := (wb.2.1 b0).elim id (fun h => absurd (hz.mpr h) (by decide))
      rw [y0] at hp
      exact br_t rfl ⟨im, nm_r (by rw [em]) hp⟩
  have P190 : b = 0 → ∀ lg, wY_operate_190 post (nI w) 0 (nI b) x y lg f_most f_n f_stored f_nm f_nEnv f_base (nI (m + 1)) f_no f_nc f_pc f_mode f_err f_errAt f_ticks f_calls f_outs f_resK f_part f_resV f_cnt f_full f_flag f_need a_tk a_tv a_tp a_mName a_mKind a_mCount a_mPar a_mAt a_vName a_vDecl a_vKind a_vVal a_sk a_sv a_oKind a_oAt a_oArgs a_cKind a_cA a_cB a_outK a_outV := by
    intro b0 lg
    refine br_f (nI_ge (a := 34) (by omega) (by omega)) ?_
    refine br_f (N w 35 (by omega) (by decide) (by omega)) (br_f (N w 36 (by omega) (by decide) (by omega)) (br_f (N w 37 (by omega) (by decide) (by omega)) (br_f (N w 38 (by omega) (by decide) (by omega)) (br_f (N w 39 (by omega) (by decide) (by omega)) (br_f (N w 40 (by omega) (by decide) (by omega)) ?_)))))
    exact br_c (fun h => P340 1 (by decide) b0 ⟨fun _ => h, fun _ => rfl⟩) (fun h => P340 0 (by decide) b0 ⟨fun e => by omega, fun e => absurd e h⟩)
  have P150 : ∀ lg : Nat, lg = (if b = 0 then 1 else 0) → wY_operate_150 post (nI w) (nI at0) 0 (nI b) x y (nI lg) (nI lg) f_most f_n f_stored f_nm f_nEnv f_base (nI (m + 1)) f_no f_nc f_pc f_mode f_err f_errAt f_ticks f_calls f_outs f_resK f_part f_resV f_cnt f_full f_flag f_need a_tk a_tv a_tp a_mName a_mKind a_mCount a_mPar a_mAt a_vName a_vDecl a_vKind a_vVal a_sk a_sv a_oKind a_oAt a_oArgs a_cKind a_cA a_cB a_outK a_outV := by
    intro lg hlg
    by_cases b0 : b = 0
    · rw [if_pos b0] at hlg
      subst hlg
      exact br_f (by decide) (br_f (N w 27 (by omega) (by decide) (by omega)) (br_f (N w 28 (by omega) (by decide) (by omega)) (P190 b0 _)))
    · rw [if_neg b0] at hlg
      subst hlg
      exact br_t rfl (hy_fail hat (h0 b0))
  have P71 : ∀ lg : Nat, lg = (if b = 0 then 1 else 0) → wY_operate_71 post (nI w) (nI at0) 0 (nI b) x y (nI lg) f_most f_n f_stored f_nm f_nEnv f_base (nI (m + 1)) f_no f_nc f_pc f_mode f_err f_errAt f_ticks f_calls f_outs f_resK f_part f_resV f_cnt f_full f_flag f_need a_tk a_tv a_tp a_mName a_mKind a_mCount a_mPar a_mAt a_vName a_vDecl a_vKind a_vVal a_sk a_sv a_oKind a_oAt a_oArgs a_cKind a_cA a_cB a_outK a_outV := by
    intro lg hlg
    exact br_t (by decide) (br_f (nI_nlt (b := 29) (by omega) (by omega)) (br_t (nI_lt (a := 31) (by omega) (by omega)) (br_f (nI_ge (a := 40) (by omega) (by omega)) (P150 lg hlg))))
  unfold wpY_operate
  dsimp only
  refine nm_r (nI_pred (m + 1)) ?_
  rw [en]
  refine ⟨im, ?_⟩
  rw [em, e1]
  refine nm_e ⟨im1, ?_⟩
  rw [em1, e2]
  refine nm_e ⟨im, ?_⟩
  rw [e3]
  refine nm_e ⟨im1, ?_⟩
  rw [e4]
  refine nm_e (br_t rfl ?_)
  by_cases b0 : b = 0
  · exact br_t (E b 0 b0) (P71 1 (by rw [if_pos b0]))
  · exact br_f (N b 0 (by omega) (by decide) b0) (P71 0 (by rw [if_neg b0]))
set_option maxHeartbeats 200000 in
theorem hy_unary (hm : m < 399) (hat : at0 + 1 < 384) (hw : w = 22 ∨ w = 23 ∨ w = 24 ∨ w = 25) (e0 : a_tk at0 = nI w) (e1 : a_sk m = nI k) (hk : k ≤ 4) (e3 : a_sv m = v)
    (h1 : ∀ k' v' sk', ls_un w k v = some (k', v') → sk' m = nI k' → (∀ j, j ≠ m → sk' j = a_sk j) → post (f_most, f_n, f_stored, f_nm, f_nEnv, f_base, nI (m + 1), f_no, f_nc, f_pc, f_mode, f_err, f_errAt, f_ticks, f_calls, f_outs, f_resK, f_part, f_resV, f_cnt, f_full, f_flag, f_need, a_tk, a_tv, a_tp, a_mName, a_mKind, a_mCount, a_mPar, a_mAt, a_vName, a_vDecl, a_vKind, a_vVal, sk', vp_updL a_sv m v', a_oKind, a_oAt, a_oArgs, a_cKind, a_cA, a_cB, a_outK, a_outV))
    (h0 : ∀ sk' sv', ls_un w k v = none → post (f_most, f_n, f_stored, f_nm, f_nEnv, f_base, nI (m + 1), f_no, f_nc, f_pc, f_mode, 3, ls_pl a_tp at0, f_ticks, f_calls, f_outs, f_resK, f_part, f_resV, f_cnt, f_full, f_flag, f_need, a_tk, a_tv, a_tp, a_mName, a_mKind, a_mCount, a_mPar, a_mAt, a_vName, a_vDecl, a_vKind, a_vVal, sk', sv', a_oKind, a_oAt, a_oArgs, a_cKind, a_cA, a_cB, a_outK, a_outV)) : wpY_unary post (f_most, f_n, f_stored, f_nm, f_nEnv, f_base, nI (m + 1), f_no, f_nc, f_pc, f_mode, f_err, f_errAt, f_ticks, f_calls, f_outs, f_resK, f_part, f_resV, f_cnt, f_full, f_flag, f_need, a_tk, a_tv, a_tp, a_mName, a_mKind, a_mCount, a_mPar, a_mAt, a_vName, a_vDecl, a_vKind, a_vVal, a_sk, a_sv, a_oKind, a_oAt, a_oArgs, a_cKind, a_cA, a_cB, a_outK, a_outV) 5 (nI at0) := by
  have N : ∀ a v, a < 100 → v < 100 → a ≠ v → ¬ nI a = nI v := fun a v ha hv h => mt (ls_k8 ha hv).mp h
  have E : ∀ a v, a = v → nI a = nI v := fun a v h => by rw [h]
  have im : vp_in (nI m) 400 := vp_in_nI (by omega) (by decide)
  have em : (nI m).toNatClampNeg = m := nI_clamp (by omega)
  have en : nI (m + 1) - 1 = nI m := nI_pred m
  unfold wpY_unary
  dsimp only
  rw [en]
  refine ⟨im, ?_⟩
  rw [em, e1]
  refine nm_e ⟨im, ?_⟩
  rw [e3]
  refine nm_e ⟨vp_in_nI (by omega) (by decide), ?_⟩
  rw [nI_clamp (n := at0) (by omega), e0]
  refine nm_e ?_
  rw [nI_1]
  refine ⟨vp_in_nI hat (by decide), nm_e (br_f (by decide) ?_)⟩
  unfold ls_un at h1 h0
  by_cases w22 : w = 22
  · rw [if_pos w22] at h1
    refine br_t (E w 22 w22) ?_
    by_cases k0 : k = 0
    · rw [if_pos k0] at h1
      refine br_t (E k 0 k0) ?_
      unfold wY_unary_130
      rw [en]
      exact ⟨im, nm_r (by rw [em]) (h1 _ _ a_sk rfl (by rw [e1, k0]) (fun _ _ => rfl))⟩
    · refine br_f (N k 0 (by omega) (by decide) k0) (hy_fail (by omega) ?_)
      dsimp only
      unfold wY_unary_130
      rw [en]
      exact ⟨im, nm_r (by rw [em]) (h0 _ _ (by rw [if_pos w22, if_neg k0]))⟩
  · rw [if_neg w22] at h1
    refine br_f (N w 22 (by omega) (by decide) w22) ?_
    have G211 : ∀ (kd : Nat) (r : Int64) (er ea : Int32), kd = (if k = 4 then 4 else 3) → (∀ sk', sk' m = nI kd → (∀ j, j ≠ m → sk' j = a_sk j) → post (f_most, f_n, f_stored, f_nm, f_nEnv, f_base, nI (m + 1), f_no, f_nc, f_pc, f_mode, er, ea, f_ticks, f_calls, f_outs, f_resK, f_part, f_resV, f_cnt, f_full, f_flag, f_need, a_tk, a_tv, a_tp, a_mName, a_mKind, a_mCount, a_mPar, a_mAt, a_vName, a_vDecl, a_vKind, a_vVal, sk', vp_updL a_sv m (ls_nar kd r), a_oKind, a_oAt, a_oArgs, a_cKind, a_cA, a_cB, a_outK, a_outV)) → wY_unary_211 post (nI k) r (nI kd) (nI m) f_most f_n f_stored f_nm f_nEnv f_base (nI (m + 1)) f_no f_nc f_pc f_mode er ea f_ticks f_calls f_outs f_resK f_part f_resV f_cnt f_full f_flag f_need a_tk a_tv a_tp a_mName a_mKind a_mCount a_mPar a_mAt a_vName a_vDecl a_vKind a_vVal a_sk a_sv a_oKind a_oAt a_oArgs a_cKind a_cA a_cB a_outK a_outV := by
      intro kd r er ea hkd hp
      have kd8 : kd < 128 := by rw [hkd]; split <;> omega
      unfold wY_unary_211
      rw [en]
      have hp' := hp (upd a_sk m (nI kd)) pk_us (fun j hj => pk_un hj)
      refine ⟨im, nm_r (by rw [em, ls_vnb2 kd8]) ?_⟩
      by_cases k4 : k = 4
      · rw [if_pos k4] at hkd
        subst hkd
        exact br_t (E k 4 k4) ⟨im, nm_r (show _ = vp_updL a_sv m (ls_nar 4 r) by rw [em]; rfl) hp'⟩
      · rw [if_neg k4] at hkd
        subst hkd
        exact br_f (N k 4 (by omega) (by decide) k4) ⟨im, nm_r (show _ = vp_updL a_sv m (ls_nar 3 r) by rw [em]; rfl) hp'⟩
    have G189 : ∀ (r : Int64) (er ea : Int32), (∀ sk', sk' m = nI (if k = 4 then 4 else 3) → (∀ j, j ≠ m → sk' j = a_sk j) → post (f_most, f_n, f_stored, f_nm, f_nEnv, f_base, nI (m + 1), f_no, f_nc, f_pc, f_mode, er, ea, f_ticks, f_calls, f_outs, f_resK, f_part, f_resV, f_cnt, f_full, f_flag, f_need, a_tk, a_tv, a_tp, a_mName, a_mKind, a_mCount, a_mPar, a_mAt, a_vName, a_vDecl, a_vKind, a_vVal, sk', vp_updL a_sv m (ls_nar (if k = 4 then 4 else 3) r), a_oKind, a_oAt, a_oArgs, a_cKind, a_cA, a_cB, a_outK, a_outV)) → wY_unary_189 post (nI k) r f_most f_n f_stored f_nm f_nEnv f_base (nI (m + 1)) f_no f_nc f_pc f_mode er ea f_ticks f_calls f_outs f_resK f_part f_resV f_cnt f_full f_flag f_need a_tk a_tv a_tp a_mName a_mKind a_mCount a_mPar a_mAt a_vName a_vDecl a_vKind a_vVal a_sk a_sv a_oKind a_oAt a_oArgs a_cKind a_cA a_cB a_outK a_outV := by
      intro r er ea hp
      unfold wY_unary_189
      rw [en]
      by_cases k4 : k = 4
      · rw [if_pos k4] at hp
        exact br_t (E k 4 k4) (G211 4 r er ea (by rw [if_pos k4]) hp)
      · rw [if_neg k4] at hp
        exact br_f (N k 4 (by omega) (by decide) k4) (G211 3 r er ea (by rw [if_neg k4]) hp)
    have G158 : ∀ (er ea : Int32), (∀ sk', sk' m = nI (if k = 4 then 4 else 3) → (∀ j, j ≠ m → sk' j = a_sk j) → post (f_most, f_n, f_stored, f_nm, f_nEnv, f_base, nI (m + 1), f_no, f_nc, f_pc, f_mode, er, ea, f_ticks, f_calls, f_outs, f_resK, f_part, f_resV, f_cnt, f_full, f_flag, f_need, a_tk, a_tv, a_tp, a_mName, a_mKind, a_mCount, a_mPar, a_mAt, a_vName, a_vDecl, a_vKind, a_vVal, sk', vp_updL a_sv m (ls_nar (if k = 4 then 4 else 3) (if w = 25 then -v else if w = 23 then v ^^^ (-1) else v)), a_oKind, a_oAt, a_oArgs, a_cKind, a_cA, a_cB, a_outK, a_outV)) → wY_unary_158 post (nI k) v (nI w) f_most f_n f_stored f_nm f_nEnv f_base (nI (m + 1)) f_no f_nc f_pc f_mode er ea f_ticks f_calls f_outs f_resK f_part f_resV f_cnt f_full f_flag f_need a_tk a_tv a_tp a_mName a_mKind a_mCount a_mPar a_mAt a_vName a_vDecl a_vKind a_vVal a_sk a_sv a_oKind a_oAt a_oArgs a_cKind a_cA a_cB a_outK a_outV := by
      intro er ea hp
      by_cases w24 : w = 24
      · rw [if_neg (show ¬ w = 25 by omega), if_neg (show ¬ w = 23 by omega)] at hp
        exact br_t (E w 24 w24) (G189 v er ea hp)
      refine br_f (N w 24 (by omega) (by decide) w24) ?_
      by_cases w25 : w = 25
      · rw [if_pos w25] at hp
        exact br_t (E w 25 w25) (G189 (-v) er ea hp)
      · rw [if_neg w25, if_pos (show w = 23 by omega)] at hp
        exact br_f (N w 25 (by omega) (by decide) w25) (G189 (v ^^^ (-1)) er ea hp)
    by_cases k0 : k = 0
    · refine br_t (E k 0 k0) (hy_fail (by omega) ?_)
      exact G158 3 _ (fun sk' _ _ => h0 _ _ (by rw [if_neg w22, if_pos k0]))
    · rw [if_neg k0] at h1
      exact br_f (N k 0 (by omega) (by decide) k0) (G158 _ _ (fun sk' g1 g2 => h1 _ _ sk' rfl g1 g2))
set_option maxHeartbeats 200000 in
theorem hy_cast {t : Nat} (hm : m < 399) (hat : at0 + 1 < 384) (ht : t < 5) (e0 : a_tk (at0 + 1) = nI t) (e1 : a_sk m = nI k) (hk : k ≤ 4) (e3 : a_sv m = v)
    (h1 : ∀ k' v', ls_cst t k v = some (k', v') → post (f_most, f_n, f_stored, f_nm, f_nEnv, f_base, nI (m + 1), f_no, f_nc, f_pc, f_mode, f_err, f_errAt, f_ticks, f_calls, f_outs, f_resK, f_part, f_resV, f_cnt, f_full, f_flag, f_need, a_tk, a_tv, a_tp, a_mName, a_mKind, a_mCount, a_mPar, a_mAt, a_vName, a_vDecl, a_vKind, a_vVal, upd a_sk m (nI k'), vp_updL a_sv m v', a_oKind, a_oAt, a_oArgs, a_cKind, a_cA, a_cB, a_outK, a_outV))
    (h0 : ∀ sk' sv', ls_cst t k v = none → post (f_most, f_n, f_stored, f_nm, f_nEnv, f_base, nI (m + 1), f_no, f_nc, f_pc, f_mode, 3, ls_pl a_tp at0, f_ticks, f_calls, f_outs, f_resK, f_part, f_resV, f_cnt, f_full, f_flag, f_need, a_tk, a_tv, a_tp, a_mName, a_mKind, a_mCount, a_mPar, a_mAt, a_vName, a_vDecl, a_vKind, a_vVal, sk', sv', a_oKind, a_oAt, a_oArgs, a_cKind, a_cA, a_cB, a_outK, a_outV)) : wpY_unary post (f_most, f_n, f_stored, f_nm, f_nEnv, f_base, nI (m + 1), f_no, f_nc, f_pc, f_mode, f_err, f_errAt, f_ticks, f_calls, f_outs, f_resK, f_part, f_resV, f_cnt, f_full, f_flag, f_need, a_tk, a_tv, a_tp, a_mName, a_mKind, a_mCount, a_mPar, a_mAt, a_vName, a_vDecl, a_vKind, a_vVal, a_sk, a_sv, a_oKind, a_oAt, a_oArgs, a_cKind, a_cA, a_cB, a_outK, a_outV) 6 (nI at0) := by
  have N : ∀ a v, a < 100 → v < 100 → a ≠ v → ¬ nI a = nI v := fun a v ha hv h => mt (ls_k8 ha hv).mp h
  have E : ∀ a v, a = v → nI a = nI v := fun a v h => by rw [h]
  have im : vp_in (nI m) 400 := vp_in_nI (by omega) (by decide)
  have em : (nI m).toNatClampNeg = m := nI_clamp (by omega)
  have en : nI (m + 1) - 1 = nI m := nI_pred m
  unfold wpY_unary
  dsimp only
  rw [en]
  refine ⟨im, ?_⟩
  rw [em, e1]
  refine nm_e ⟨im, ?_⟩
  rw [e3]
  refine nm_e ⟨vp_in_nI (by omega) (by decide), nm_e ?_⟩
  rw [nI_1]
  refine ⟨vp_in_nI hat (by decide), ?_⟩
  rw [nI_clamp (n := at0 + 1) (by omega), e0]
  refine nm_e (br_t rfl ?_)
  unfold ls_cst at h1 h0
  have G77 : ∀ er ea : Int32, post (f_most, f_n, f_stored, f_nm, f_nEnv, f_base, nI (m + 1), f_no, f_nc, f_pc, f_mode, er, ea, f_ticks, f_calls, f_outs, f_resK, f_part, f_resV, f_cnt, f_full, f_flag, f_need, a_tk, a_tv, a_tp, a_mName, a_mKind, a_mCount, a_mPar, a_mAt, a_vName, a_vDecl, a_vKind, a_vVal, upd a_sk m (nI t), vp_updL a_sv m (ls_nar t v), a_oKind, a_oAt, a_oArgs, a_cKind, a_cA, a_cB, a_outK, a_outV) → wY_unary_77 post v (nI t) f_most f_n f_stored f_nm f_nEnv f_base (nI (m + 1)) f_no f_nc f_pc f_mode er ea f_ticks f_calls f_outs f_resK f_part f_resV f_cnt f_full f_flag f_need a_tk a_tv a_tp a_mName a_mKind a_mCount a_mPar a_mAt a_vName a_vDecl a_vKind a_vVal a_sk a_sv a_oKind a_oAt a_oArgs a_cKind a_cA a_cB a_outK a_outV := by
    intro er ea hp
    unfold wY_unary_77
    rw [en]
    refine ⟨im, nm_r (by rw [em, ls_vnb2 (by omega)]) ?_⟩
    refine hy_narrow (by omega) ⟨im, nm_r (by rw [em]) hp⟩
  have G68 : ∀ z0 z1 : Nat, z0 = (if t = 0 then 1 else 0) → z1 = (if k = 0 then 1 else 0) → wY_unary_68 post (nI at0) v (nI t) (nI z0) (nI z1) f_most f_n f_stored f_nm f_nEnv f_base (nI (m + 1)) f_no f_nc f_pc f_mode f_err f_errAt f_ticks f_calls f_outs f_resK f_part f_resV f_cnt f_full f_flag f_need a_tk a_tv a_tp a_mName a_mKind a_mCount a_mPar a_mAt a_vName a_vDecl a_vKind a_vVal a_sk a_sv a_oKind a_oAt a_oArgs a_cKind a_cA a_cB a_outK a_outV := by
    intro z0 z1 ez0 ez1
    by_cases c : (k = 0 ↔ t = 0)
    · rw [if_pos c] at h1
      have ez : nI z1 = nI z0 := by
        rw [ez0, ez1]
        by_cases k0 : k = 0
        · rw [if_pos k0, if_pos (c.mp k0)]
        · rw [if_neg k0, if_neg (fun h => k0 (c.mpr h))]
      exact br_t ez (G77 _ _ (h1 _ _ rfl))
    · refine br_f ?_ (hy_fail (by omega) (G77 _ _ (h0 _ _ (by rw [if_neg c]))))
      rw [ez0, ez1]
      by_cases k0 : k = 0
      · rw [if_pos k0, if_neg (fun h => c ⟨fun _ => h, fun _ => k0⟩)]; decide
      · by_cases t0 : t = 0
        · rw [if_neg k0, if_pos t0]; decide
        · exact absurd (show (k = 0 ↔ t = 0) from ⟨fun h => absurd h k0, fun h => absurd h t0⟩) c
  have G58 : ∀ z1 : Nat, z1 = (if k = 0 then 1 else 0) → wY_unary_58 post (nI at0) v (nI t) (nI z1) f_most f_n f_stored f_nm f_nEnv f_base (nI (m + 1)) f_no f_nc f_pc f_mode f_err f_errAt f_ticks f_calls f_outs f_resK f_part f_resV f_cnt f_full f_flag f_need a_tk a_tv a_tp a_mName a_mKind a_mCount a_mPar a_mAt a_vName a_vDecl a_vKind a_vVal a_sk a_sv a_oKind a_oAt a_oArgs a_cKind a_cA a_cB a_outK a_outV := by
    intro z1 ez1
    by_cases t0 : t = 0
    · exact br_t (E t 0 t0) (G68 1 z1 (by rw [if_pos t0]) ez1)
    · exact br_f (N t 0 (by omega) (by decide) t0) (G68 0 z1 (by rw [if_neg t0]) ez1)
  by_cases k0 : k = 0
  · exact br_t (E k 0 k0) (G58 1 (by rw [if_pos k0]))
  · exact br_f (N k 0 (by omega) (by decide) k0) (G58 0 (by rw [if_neg k0]))
end
