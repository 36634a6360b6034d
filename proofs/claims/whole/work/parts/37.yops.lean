section
variable {f_most f_n f_stored f_nm f_nEnv f_base f_ns f_no f_nc f_pc f_mode f_err f_errAt f_ticks f_calls f_outs f_resK f_part f_cnt f_full f_flag f_need : Int32}
variable {f_resV : Int64}
variable {a_tk a_tp a_mName a_mKind a_mCount a_mPar a_mAt a_vName a_vDecl a_vKind a_sk a_oKind a_oAt a_oArgs a_cKind a_cA a_cB a_outK : Nat → Int32}
variable {a_tv a_vVal a_sv a_outV : Nat → Int64}
variable {post : SY → Prop} {q : Int32 → Prop} {at0 m k w a b : Nat} {v x y : Int64}
set_option maxHeartbeats 200000 in
theorem hy_calc {r : Int64 → Prop} (hw : 24 ≤ w ∧ w ≤ 31) (hy : w = 27 ∨ w = 28 → y ≠ 0) (hp : r (if w = 24 then x + y else if w = 25 then x - y else if w = 26 then x * y else if w = 27 then x / y else if w = 28 then x - x / y * y else if w = 29 then x &&& y else if w = 30 then x ||| y else x ^^^ y)) : wpY_calc r (f_most, f_n, f_stored, f_nm, f_nEnv, f_base, f_ns, f_no, f_nc, f_pc, f_mode, f_err, f_errAt, f_ticks, f_calls, f_outs, f_resK, f_part, f_resV, f_cnt, f_full, f_flag, f_need, a_tk, a_tv, a_tp, a_mName, a_mKind, a_mCount, a_mPar, a_mAt, a_vName, a_vDecl, a_vKind, a_vVal, a_sk, a_sv, a_oKind, a_oAt, a_oArgs, a_cKind, a_cA, a_cB, a_outK, a_outV) (nI w) x y := by
  have N : ∀ v, v < 100 → w ≠ v → ¬ nI w = nI v := fun v hv h => mt (ls_k8 (by omega) hv).mp h
  have E : ∀ v, w = v → nI w = nI v := fun v h => by rw [h]
  by_cases w24 : w = 24
  · rw [if_pos w24] at hp; exact br_t (E 24 w24) hp
  rw [if_neg w24] at hp; refine br_f (N 24 (by decide) w24) ?_
  by_cases w25 : w = 25
  · rw [if_pos w25] at hp; exact br_t (E 25 w25) hp
  rw [if_neg w25] at hp; refine br_f (N 25 (by decide) w25) ?_
  by_cases w26 : w = 26
  · rw [if_pos w26] at hp; exact br_t (E 26 w26) hp
  rw [if_neg w26] at hp; refine br_f (N 26 (by decide) w26) ?_
  by_cases w27 : w = 27
  · rw [if_pos w27] at hp; exact br_t (E 27 w27) ⟨hy (Or.inl w27), hp⟩
  rw [if_neg w27] at hp; refine br_f (N 27 (by decide) w27) ?_
  by_cases w28 : w = 28
  · rw [if_pos w28] at hp; exact br_t (E 28 w28) ⟨hy (Or.inr w28), hp⟩
  rw [if_neg w28] at hp; refine br_f (N 28 (by decide) w28) ?_
  by_cases w29 : w = 29
  · rw [if_pos w29] at hp; exact br_t (E 29 w29) hp
  rw [if_neg w29] at hp; refine br_f (N 29 (by decide) w29) ?_
  by_cases w30 : w = 30
  · rw [if_pos w30] at hp; exact br_t (E 30 w30) hp
  · rw [if_neg w30] at hp; exact br_f (N 30 (by decide) w30) hp
set_option maxHeartbeats 200000 in
theorem hy_shift {r : Int64 → Prop} {d : Int32} (hw : 32 ≤ w ∧ w ≤ 34) (hp : r (if w = 32 then x <<< (d.toInt64 &&& 63) else if w = 33 then x >>> (d.toInt64 &&& 63) else (x.toUInt64 >>> (d.toInt64.toUInt64 &&& Int64.toUInt64 63)).toInt64)) : wpY_shift r (f_most, f_n, f_stored, f_nm, f_nEnv, f_base, f_ns, f_no, f_nc, f_pc, f_mode, f_err, f_errAt, f_ticks, f_calls, f_outs, f_resK, f_part, f_resV, f_cnt, f_full, f_flag, f_need, a_tk, a_tv, a_tp, a_mName, a_mKind, a_mCount, a_mPar, a_mAt, a_vName, a_vDecl, a_vKind, a_vVal, a_sk, a_sv, a_oKind, a_oAt, a_oArgs, a_cKind, a_cA, a_cB, a_outK, a_outV) (nI w) x d := by
  have N : ∀ v, v < 100 → w ≠ v → ¬ nI w = nI v := fun v hv h => mt (ls_k8 (by omega) hv).mp h
  have E : ∀ v, w = v → nI w = nI v := fun v h => by rw [h]
  by_cases w32 : w = 32
  · rw [if_pos w32] at hp; exact br_t (E 32 w32) hp
  rw [if_neg w32] at hp; refine br_f (N 32 (by decide) w32) ?_
  by_cases w33 : w = 33
  · rw [if_pos w33] at hp; exact br_t (E 33 w33) hp
  · rw [if_neg w33] at hp; exact br_f (N 33 (by decide) w33) hp
set_option maxHeartbeats 200000 in
theorem ls_bool32 (hx : x = 0 ∨ x = 1) (hy : y = 0 ∨ y = 1) : (x &&& y).toInt32.toInt64 = x &&& y ∧ (x ||| y).toInt32.toInt64 = x ||| y ∧ (x ^^^ y).toInt32.toInt64 = x ^^^ y := by
  rcases hx with rfl | rfl <;> rcases hy with rfl | rfl <;> decide
set_option maxHeartbeats 200000 in
theorem ls_i3264 (z : Int32) : z.toInt64.toInt32 = z := by
  apply Int32.toInt_inj.mp
  rw [Int64.toInt_toInt32, Int32.toInt_toInt64]
  have h1 := Int32.le_toInt z
  have h2 := Int32.toInt_lt z
  exact Int.bmod_eq_of_le (by omega) (by omega)
set_option maxHeartbeats 200000 in
theorem ls_val_sh {kd : Nat} (hw : 32 ≤ w ∧ w ≤ 34) : ls_val w kd x y = ls_nar kd (ls_shf w kd x y) := by
  unfold ls_val
  rw [if_neg (by omega), if_neg (by omega), if_neg (by omega), if_neg (by omega), if_neg (by omega), if_neg (by omega), if_neg (by omega), if_neg (by omega), if_pos (by omega)]
set_option maxHeartbeats 200000 in
theorem hy_operate (hm : m + 1 < 400) (hat : at0 < 384) (hw : 24 ≤ w ∧ w ≤ 40) (e1 : a_sk m = nI a) (e2 : a_sk (m + 1) = nI b) (e3 : a_sv m = x) (e4 : a_sv (m + 1) = y) (wa : ls_wf a x) (wb : ls_wf b y)
    (h1 : ∀ k' v', ls_bin w a b x y = .ok (k', v') → post (f_most, f_n, f_stored, f_nm, f_nEnv, f_base, nI (m + 1), f_no, f_nc, f_pc, f_mode, f_err, f_errAt, f_ticks, f_calls, f_outs, f_resK, f_part, f_resV, f_cnt, f_full, f_flag, f_need, a_tk, a_tv, a_tp, a_mName, a_mKind, a_mCount, a_mPar, a_mAt, a_vName, a_vDecl, a_vKind, a_vVal, upd a_sk m (nI k'), vp_updL a_sv m v', a_oKind, a_oAt, a_oArgs, a_cKind, a_cA, a_cB, a_outK, a_outV))
    (h0 : ∀ e : Nat, ls_bin w a b x y = .error e → post (f_most, f_n, f_stored, f_nm, f_nEnv, f_base, nI (m + 1), f_no, f_nc, f_pc, f_mode, nI e, ls_pl a_tp at0, f_ticks, f_calls, f_outs, f_resK, f_part, f_resV, f_cnt, f_full, f_flag, f_need, a_tk, a_tv, a_tp, a_mName, a_mKind, a_mCount, a_mPar, a_mAt, a_vName, a_vDecl, a_vKind, a_vVal, a_sk, a_sv, a_oKind, a_oAt, a_oArgs, a_cKind, a_cA, a_cB, a_outK, a_outV)) : wpY_operate post (f_most, f_n, f_stored, f_nm, f_nEnv, f_base, nI (m + 2), f_no, f_nc, f_pc, f_mode, f_err, f_errAt, f_ticks, f_calls, f_outs, f_resK, f_part, f_resV, f_cnt, f_full, f_flag, f_need, a_tk, a_tv, a_tp, a_mName, a_mKind, a_mCount, a_mPar, a_mAt, a_vName, a_vDecl, a_vKind, a_vVal, a_sk, a_sv, a_oKind, a_oAt, a_oArgs, a_cKind, a_cA, a_cB, a_outK, a_outV) (nI w) (nI at0) := by
  have a4 := wa.1
  have b4 := wb.1
  have N : ∀ a v, a < 100 → v < 100 → a ≠ v → ¬ nI a = nI v := fun a v ha hv h => mt (ls_k8 ha hv).mp h
  have E : ∀ a v, a = v → nI a = nI v := fun a v h => by rw [h]
  have im : vp_in (nI m) 400 := vp_in_nI (by omega) (by decide)
  have em : (nI m).toNatClampNeg = m := nI_clamp (by omega)
  have im1 : vp_in (nI (m + 1)) 400 := vp_in_nI (by omega) (by decide)
  have em1 : (nI (m + 1)).toNatClampNeg = m + 1 := nI_clamp (by omega)
  have en : nI (m + 1) - 1 = nI m := nI_pred m
  have WL : ∀ v, v < 100 → (nI w ≤ nI v ↔ w ≤ v) := fun v hv => nI_leI (by omega) (by omega)
  have WG : ∀ v, v < 100 → (nI v ≤ nI w ↔ v ≤ w) := fun v hv => nI_leI (by omega) (by omega)
  have OK : ∀ kd r, ls_bk w a b = some kd → ¬ ((w = 27 ∨ w = 28) ∧ y = 0) → r = ls_val w kd x y → post (f_most, f_n, f_stored, f_nm, f_nEnv, f_base, nI (m + 1), f_no, f_nc, f_pc, f_mode, f_err, f_errAt, f_ticks, f_calls, f_outs, f_resK, f_part, f_resV, f_cnt, f_full, f_flag, f_need, a_tk, a_tv, a_tp, a_mName, a_mKind, a_mCount, a_mPar, a_mAt, a_vName, a_vDecl, a_vKind, a_vVal, upd a_sk m (nI kd), vp_updL a_sv m r, a_oKind, a_oAt, a_oArgs, a_cKind, a_cA, a_cB, a_outK, a_outV) := by
    intro kd r hb hz hr
    subst hr
    apply h1
    unfold ls_bin
    rw [hb]
    dsimp only
    rw [if_neg hz]
  -- the value's place
  have P498 : ∀ (wide kd : Nat) (r : Int64), wide ≤ 1 → kd < 128 → post (f_most, f_n, f_stored, f_nm, f_nEnv, f_base, nI (m + 1), f_no, f_nc, f_pc, f_mode, f_err, f_errAt, f_ticks, f_calls, f_outs, f_resK, f_part, f_resV, f_cnt, f_full, f_flag, f_need, a_tk, a_tv, a_tp, a_mName, a_mKind, a_mCount, a_mPar, a_mAt, a_vName, a_vDecl, a_vKind, a_vVal, upd a_sk m (nI kd), vp_updL a_sv m (if wide = 1 then r else r.toInt32.toInt64), a_oKind, a_oAt, a_oArgs, a_cKind, a_cA, a_cB, a_outK, a_outV) → wY_operate_498 post (nI wide) r (nI kd) (nI m) f_most f_n f_stored f_nm f_nEnv f_base (nI (m + 1)) f_no f_nc f_pc f_mode f_err f_errAt f_ticks f_calls f_outs f_resK f_part f_resV f_cnt f_full f_flag f_need a_tk a_tv a_tp a_mName a_mKind a_mCount a_mPar a_mAt a_vName a_vDecl a_vKind a_vVal a_sk a_sv a_oKind a_oAt a_oArgs a_cKind a_cA a_cB a_outK a_outV := by
    intro wide kd r hw1 hkd hp
    unfold wY_operate_498
    rw [en]
    refine ⟨im, nm_r (by rw [em, ls_vnb2 hkd]) ?_⟩
    by_cases q : wide = 1
    · rw [if_pos q] at hp
      subst q
      exact br_f (by decide) ⟨im, nm_r (by rw [em]) hp⟩
    · rw [if_neg q] at hp
      have : wide = 0 := by omega
      subst this
      exact br_t rfl ⟨im, nm_r (by rw [em]) hp⟩
  have P467 : ∀ (lg wide : Nat) (r : Int64), lg = (if a = 0 ∧ b = 0 then 1 else 0) → wide = (if a = 4 ∨ (b = 4 ∧ w < 32) then 1 else 0) → w ≤ 34 → ls_bk w a b ≠ none → ¬ ((w = 27 ∨ w = 28) ∧ y = 0) → (∀ kd, ls_bk w a b = some kd → (if wide = 1 then r else r.toInt32.toInt64) = ls_val w kd x y) → wY_operate_467 post (nI lg) (nI wide) r f_most f_n f_stored f_nm f_nEnv f_base (nI (m + 1)) f_no f_nc f_pc f_mode f_err f_errAt f_ticks f_calls f_outs f_resK f_part f_resV f_cnt f_full f_flag f_need a_tk a_tv a_tp a_mName a_mKind a_mCount a_mPar a_mAt a_vName a_vDecl a_vKind a_vVal a_sk a_sv a_oKind a_oAt a_oArgs a_cKind a_cA a_cB a_outK a_outV := by
    intro lg wide r hlg hwd w34 hb hz hr
    unfold wY_operate_467
    rw [en]
    have w1 : wide ≤ 1 := by rw [hwd]; split <;> omega
    by_cases l : a = 0 ∧ b = 0
    · rw [if_pos l] at hlg
      subst hlg
      refine br_f (by decide) (P498 wide 0 r w1 (by decide) ?_)
      have hb0 : ls_bk w a b = some 0 := by
        unfold ls_bk at hb ⊢
        rw [if_neg (fun h => h.1 l.1)] at hb ⊢
        by_cases c : a = 0 ∧ b = 0 ∧ ((29 ≤ w ∧ w ≤ 31) ∨ 39 ≤ w)
        · rw [if_pos c]
        · rw [if_neg c] at hb; exact absurd rfl hb
      exact OK 0 _ hb0 hz (hr 0 hb0)
    · rw [if_neg l] at hlg
      subst hlg
      refine br_t rfl ?_
      have nn : a ≠ 0 ∧ b ≠ 0 := by
        unfold ls_bk at hb
        by_cases nn : a ≠ 0 ∧ b ≠ 0
        · exact nn
        · rw [if_neg nn, if_neg (fun h => l ⟨h.1, h.2.1⟩)] at hb
          exact absurd rfl hb
      by_cases z : a = 4 ∨ (b = 4 ∧ w < 32)
      · rw [if_pos z] at hwd
        subst hwd
        refine br_f (by decide) (P498 1 4 r (by decide) (by decide) ?_)
        have hb4 : ls_bk w a b = some 4 := by
          unfold ls_bk
          rw [if_pos nn, if_neg (by omega), if_pos z]
        exact OK 4 _ hb4 hz (hr 4 hb4)
      · rw [if_neg z] at hwd
        subst hwd
        refine br_t rfl (P498 0 3 r (by decide) (by decide) ?_)
        have hb3 : ls_bk w a b = some 3 := by
          unfold ls_bk
          rw [if_pos nn, if_neg (by omega), if_neg z]
        exact OK 3 _ hb3 hz (hr 3 hb3)
  -- which kinds come with which width
  have BK : ∀ kd, w ≤ 34 → ls_bk w a b = some kd → (kd = 4 ∧ (a = 4 ∨ (b = 4 ∧ w < 32))) ∨ (kd = 3 ∧ ¬ (a = 4 ∨ (b = 4 ∧ w < 32))) ∨ (kd = 0 ∧ (a = 0 ∧ b = 0) ∧ 29 ≤ w ∧ w ≤ 31) := by
    intro kd w34 hb
    unfold ls_bk at hb
    split at hb
    · injection hb with hb
      rw [if_neg (by omega)] at hb
      by_cases z : a = 4 ∨ (b = 4 ∧ w < 32)
      · rw [if_pos z] at hb; exact Or.inl ⟨hb.symm, z⟩
      · rw [if_neg z] at hb; exact Or.inr (Or.inl ⟨hb.symm, z⟩)
    · split at hb
      · next c =>
        injection hb with hb
        exact Or.inr (Or.inr ⟨hb.symm, ⟨c.1, c.2.1⟩, by omega, by omega⟩)
      · cases hb
  have P398 : ∀ (lg wide : Nat), lg = (if a = 0 ∧ b = 0 then 1 else 0) → wide = (if a = 4 ∨ (b = 4 ∧ w < 32) then 1 else 0) → w ≤ 34 → ls_bk w a b ≠ none → ¬ ((w = 27 ∨ w = 28) ∧ y = 0) → wY_operate_398 post (nI w) x y (nI lg) (nI wide) f_most f_n f_stored f_nm f_nEnv f_base (nI (m + 1)) f_no f_nc f_pc f_mode f_err f_errAt f_ticks f_calls f_outs f_resK f_part f_resV f_cnt f_full f_flag f_need a_tk a_tv a_tp a_mName a_mKind a_mCount a_mPar a_mAt a_vName a_vDecl a_vKind a_vVal a_sk a_sv a_oKind a_oAt a_oArgs a_cKind a_cA a_cB a_outK a_outV := by
    intro lg wide hlg hwd w34 hb hz
    by_cases w32 : 32 ≤ w
    · refine br_t ((WG 32 (by decide)).mpr w32) ?_
      by_cases z : a = 4 ∨ (b = 4 ∧ w < 32)
      · have hwd' := hwd
        rw [if_pos z] at hwd'
        subst hwd'
        refine br_f (by decide) (hy_shift ⟨w32, w34⟩ (P467 lg 1 _ hlg hwd w34 hb hz (fun kd hkd => ?_)))
        rcases BK kd w34 hkd with ⟨k4, _⟩ | ⟨_, nz⟩ | ⟨_, _, h29⟩
        · subst k4
          rw [if_pos rfl]
          rw [ls_val_sh ⟨w32, w34⟩]
          rcases (show w = 32 ∨ w = 33 ∨ w = 34 by omega) with rfl | rfl | rfl <;> rfl
        · exact absurd z nz
        · omega
      · have hwd' := hwd
        rw [if_neg z] at hwd'
        subst hwd'
        refine br_t rfl ?_
        have V3 : ∀ (r : Int64), r.toInt32 = (ls_shf w 3 x y).toInt32 → wY_operate_467 post (nI lg) (nI 0) r f_most f_n f_stored f_nm f_nEnv f_base (nI (m + 1)) f_no f_nc f_pc f_mode f_err f_errAt f_ticks f_calls f_outs f_resK f_part f_resV f_cnt f_full f_flag f_need a_tk a_tv a_tp a_mName a_mKind a_mCount a_mPar a_mAt a_vName a_vDecl a_vKind a_vVal a_sk a_sv a_oKind a_oAt a_oArgs a_cKind a_cA a_cB a_outK a_outV := by
          intro r hr
          refine P467 lg 0 r hlg hwd w34 hb hz (fun kd hkd => ?_)
          rcases BK kd w34 hkd with ⟨_, nz⟩ | ⟨k3, _⟩ | ⟨_, _, h29⟩
          · exact absurd nz z
          · subst k3
            rw [if_neg (by decide), hr, ls_val_sh ⟨w32, w34⟩]
            rfl
          · omega
        by_cases w34' : w = 34
        · refine br_t (E w 34 w34') ?_
          unfold wY_operate_458
          refine hy_shift ⟨w32, w34⟩ (V3 _ ?_)
          rw [if_neg (by omega), if_neg (by omega)]
          unfold ls_shf
          dsimp only
          rw [if_neg (by omega), if_pos w34', if_neg (by decide), if_neg (by decide), ls_i3264, ls_ush]
        · refine br_f (N w 34 (by omega) (by decide) w34') ?_
          unfold wY_operate_458
          refine hy_shift ⟨w32, w34⟩ (V3 _ ?_)
          unfold ls_shf
          dsimp only
          by_cases w33 : w = 33
          · rw [if_neg (by omega), if_pos w33, if_pos w33, if_neg (by decide)]
          · rw [if_pos (by omega), if_neg w33, if_neg w34', if_neg (by decide)]
    · refine br_f (mt (WG 32 (by decide)).mp w32) (hy_calc ⟨hw.1, by omega⟩ (fun h hy => hz ⟨h, hy⟩) (P467 lg wide _ hlg hwd w34 hb hz (fun kd hkd => ?_)))
      have VAL : ls_val w kd x y = ls_nar kd (if w = 24 then x + y else if w = 25 then x - y else if w = 26 then x * y else if w = 27 then x / y else if w = 28 then x - x / y * y else if w = 29 then x &&& y else if w = 30 then x ||| y else x ^^^ y) := by
        unfold ls_val
        by_cases w24 : w = 24
        · rw [if_pos w24, if_pos w24]
        rw [if_neg w24, if_neg w24]
        by_cases w25 : w = 25
        · rw [if_pos w25, if_pos w25]
        rw [if_neg w25, if_neg w25]
        by_cases w26 : w = 26
        · rw [if_pos w26, if_pos w26]
        rw [if_neg w26, if_neg w26]
        by_cases w27 : w = 27
        · rw [if_pos w27, if_pos w27]
        rw [if_neg w27, if_neg w27]
        by_cases w28 : w = 28
        · rw [if_pos w28, if_pos w28]
        rw [if_neg w28, if_neg w28]
        by_cases w29 : w = 29
        · rw [if_pos w29, if_pos w29]
        rw [if_neg w29, if_neg w29]
        by_cases w30 : w = 30
        · rw [if_pos w30, if_pos w30]
        rw [if_neg w30, if_neg w30, if_pos (by omega)]
      rw [VAL]
      rcases BK kd w34 hkd with ⟨k4, z⟩ | ⟨k3, nz⟩ | ⟨k0, ⟨a0, b0⟩, h29, h31⟩
      · rw [if_pos z] at hwd
        subst hwd k4
        rfl
      · rw [if_neg nz] at hwd
        subst hwd k3
        rfl
      · rw [if_neg (by omega)] at hwd
        subst hwd k0
        rw [if_neg (by decide)]
        obtain ⟨g1, g2, g3⟩ := ls_bool32 (wa.2.1 a0) (wb.2.1 b0)
        rw [if_neg (by omega), if_neg (by omega), if_neg (by omega), if_neg (by omega), if_neg (by omega)]
        show _ = (if w = 29 then _ else _)
        by_cases w29 : w = 29
        · rw [if_pos w29]; exact g1
        rw [if_neg w29]
        by_cases w30 : w = 30
        · rw [if_pos w30]; exact g2
        · rw [if_neg w30]; exact g3
  have P340 : ∀ z : Nat, z ≤ 1 → 35 ≤ w → ls_bk w a b ≠ none → (z = 1 ↔ ls_cmp w x y) → wY_operate_340 post (nI z) f_most f_n f_stored f_nm f_nEnv f_base (nI (m + 1)) f_no f_nc f_pc f_mode f_err f_errAt f_ticks f_calls f_outs f_resK f_part f_resV f_cnt f_full f_flag f_need a_tk a_tv a_tp a_mName a_mKind a_mCount a_mPar a_mAt a_vName a_vDecl a_vKind a_vVal a_sk a_sv a_oKind a_oAt a_oArgs a_cKind a_cA a_cB a_outK a_outV := by
    intro z hz1 w35 hb hz
    have hb0 : ls_bk w a b = some 0 := by
      unfold ls_bk at hb ⊢
      split
      · first | rfl | rw [if_pos w35]
      · next nn =>
        rw [if_neg nn] at hb
        split
        · rfl
        · next c => rw [if_neg c] at hb; exact absurd rfl hb
    unfold wY_operate_340
    rw [en]
    refine ⟨im, nm_r (by rw [em, show vp_nar .byte 0 = nI 0 from ls_vnb (n := 0) (by decide)]) ?_⟩
    have V : ls_val w 0 x y = @ite Int64 (ls_cmp w x y) (Classical.propDecidable _) 1 0 := by
      unfold ls_val
      rw [if_neg (by omega), if_neg (by omega), if_neg (by omega), if_neg (by omega), if_neg (by omega), if_neg (by omega), if_neg (by omega), if_neg (by omega), if_neg (by omega)]
    by_cases q : z = 1
    · subst q
      refine br_f (by decide) ⟨im, nm_r (by rw [em]) (OK 0 1 hb0 (fun h => by omega) ?_)⟩
      rw [V, if_pos (hz.mp rfl)]
    · have : z = 0 := by omega
      subst this
      refine br_t rfl ⟨im, nm_r (by rw [em]) (OK 0 0 hb0 (fun h => by omega) ?_)⟩
      rw [V, if_neg (fun h => q (hz.mpr h))]
  have P190 : ∀ lg : Nat, lg = (if a = 0 ∧ b = 0 then 1 else 0) → ls_bk w a b ≠ none → ¬ ((w = 27 ∨ w = 28) ∧ y = 0) → wY_operate_190 post (nI w) (nI a) (nI b) x y (nI lg) f_most f_n f_stored f_nm f_nEnv f_base (nI (m + 1)) f_no f_nc f_pc f_mode f_err f_errAt f_ticks f_calls f_outs f_resK f_part f_resV f_cnt f_full f_flag f_need a_tk a_tv a_tp a_mName a_mKind a_mCount a_mPar a_mAt a_vName a_vDecl a_vKind a_vVal a_sk a_sv a_oKind a_oAt a_oArgs a_cKind a_cA a_cB a_outK a_outV := by
    intro lg hlg hb hz
    by_cases w34 : w ≤ 34
    · refine br_t ((WL 34 (by decide)).mpr w34) ?_
      by_cases a4' : a = 4
      · exact br_t (E a 4 a4') (P398 lg 1 hlg (by rw [if_pos (Or.inl a4')]) w34 hb hz)
      refine br_f (N a 4 (by omega) (by decide) a4') ?_
      by_cases b4' : b = 4
      · refine br_t (E b 4 b4') ?_
        by_cases w32 : 32 ≤ w
        · exact br_t ((WG 32 (by decide)).mpr w32) (P398 lg 0 hlg (by rw [if_neg (by omega)]) w34 hb hz)
        · exact br_f (mt (WG 32 (by decide)).mp w32) (P398 lg 1 hlg (by rw [if_pos (by omega)]) w34 hb hz)
      · exact br_f (N b 4 (by omega) (by decide) b4') (P398 lg 0 hlg (by rw [if_neg (by omega)]) w34 hb hz)
    · refine br_f (mt (WL 34 (by decide)).mp w34) ?_
      have C : ∀ z, z ≤ 1 → (z = 1 ↔ ls_cmp w x y) → wY_operate_340 post (nI z) f_most f_n f_stored f_nm f_nEnv f_base (nI (m + 1)) f_no f_nc f_pc f_mode f_err f_errAt f_ticks f_calls f_outs f_resK f_part f_resV f_cnt f_full f_flag f_need a_tk a_tv a_tp a_mName a_mKind a_mCount a_mPar a_mAt a_vName a_vDecl a_vKind a_vVal a_sk a_sv a_oKind a_oAt a_oArgs a_cKind a_cA a_cB a_outK a_outV := fun z hz1 h => P340 z hz1 (by omega) hb h
      unfold ls_cmp at C
      by_cases w35 : w = 35
      · subst w35
        simp only [if_true] at C
        exact br_t rfl (br_c (fun h => C 0 (by decide) ⟨fun e => by omega, fun e => absurd e (Int64.not_lt.mpr h)⟩) (fun h => C 1 (by decide) ⟨fun _ => Int64.not_le.mp h, fun _ => rfl⟩))
      rw [if_neg w35] at C
      refine br_f (N w 35 (by omega) (by decide) w35) ?_
      by_cases w36 : w = 36
      · subst w36
        simp only [if_true] at C
        exact br_t rfl (br_c (fun h => C 0 (by decide) ⟨fun e => by omega, fun e => absurd h (Int64.not_lt.mpr e)⟩) (fun h => C 1 (by decide) ⟨fun _ => Int64.not_lt.mp h, fun _ => rfl⟩))
      rw [if_neg w36] at C
      refine br_f (N w 36 (by omega) (by decide) w36) ?_
      by_cases w37 : w = 37
      · subst w37
        simp only [if_true] at C
        exact br_t rfl (br_c (fun h => C 0 (by decide) ⟨fun e => by omega, fun e => absurd e (Int64.not_lt.mpr h)⟩) (fun h => C 1 (by decide) ⟨fun _ => Int64.not_le.mp h, fun _ => rfl⟩))
      rw [if_neg w37] at C
      refine br_f (N w 37 (by omega) (by decide) w37) ?_
      by_cases w38 : w = 38
      · subst w38
        simp only [if_true] at C
        exact br_t rfl (br_c (fun h => C 0 (by decide) ⟨fun e => by omega, fun e => absurd h (Int64.not_lt.mpr e)⟩) (fun h => C 1 (by decide) ⟨fun _ => Int64.not_lt.mp h, fun _ => rfl⟩))
      rw [if_neg w38] at C
      refine br_f (N w 38 (by omega) (by decide) w38) ?_
      by_cases w39 : w = 39
      · subst w39
        simp only [if_true] at C
        exact br_t rfl (br_c (fun h => C 1 (by decide) ⟨fun _ => h, fun _ => rfl⟩) (fun h => C 0 (by decide) ⟨fun e => by omega, fun e => absurd e h⟩))
      rw [if_neg w39] at C
      refine br_f (N w 39 (by omega) (by decide) w39) ?_
      have w40 : w = 40 := by omega
      exact br_t (E w 40 w40) (br_c (fun h => C 0 (by decide) ⟨fun e => by omega, fun e => absurd h e⟩) (fun h => C 1 (by decide) ⟨fun _ => h, fun _ => rfl⟩))
  have P150 : ∀ lg ok : Nat, lg = (if a = 0 ∧ b = 0 then 1 else 0) → ok ≤ 1 → (ok = 1 ↔ ls_bk w a b ≠ none) → wY_operate_150 post (nI w) (nI at0) (nI a) (nI b) x y (nI lg) (nI ok) f_most f_n f_stored f_nm f_nEnv f_base (nI (m + 1)) f_no f_nc f_pc f_mode f_err f_errAt f_ticks f_calls f_outs f_resK f_part f_resV f_cnt f_full f_flag f_need a_tk a_tv a_tp a_mName a_mKind a_mCount a_mPar a_mAt a_vName a_vDecl a_vKind a_vVal a_sk a_sv a_oKind a_oAt a_oArgs a_cKind a_cA a_cB a_outK a_outV := by
    intro lg ok hlg ho hok
    by_cases o : ok = 1
    · subst o
      have hb := hok.mp rfl
      refine br_f (by decide) ?_
      have P176 : (w = 27 ∨ w = 28) → wY_operate_176 post (nI w) (nI at0) (nI a) (nI b) x y (nI lg) f_most f_n f_stored f_nm f_nEnv f_base (nI (m + 1)) f_no f_nc f_pc f_mode f_err f_errAt f_ticks f_calls f_outs f_resK f_part f_resV f_cnt f_full f_flag f_need a_tk a_tv a_tp a_mName a_mKind a_mCount a_mPar a_mAt a_vName a_vDecl a_vKind a_vVal a_sk a_sv a_oKind a_oAt a_oArgs a_cKind a_cA a_cB a_outK a_outV := by
        intro d
        by_cases y0 : y = 0
        · refine br_t y0 (hy_fail hat (h0 4 ?_))
          unfold ls_bin
          cases hh : ls_bk w a b with
          | none => exact absurd hh hb
          | some kd => dsimp only; rw [if_pos ⟨d, y0⟩]
        · exact br_f y0 (P190 lg hlg hb (fun h => y0 h.2))
      by_cases w27 : w = 27
      · exact br_t (E w 27 w27) (P176 (Or.inl w27))
      refine br_f (N w 27 (by omega) (by decide) w27) ?_
      by_cases w28 : w = 28
      · exact br_t (E w 28 w28) (P176 (Or.inr w28))
      · exact br_f (N w 28 (by omega) (by decide) w28) (P190 lg hlg hb (fun h => h.1.elim w27 w28))
    · have : ok = 0 := by omega
      subst this
      refine br_t rfl (hy_fail hat (h0 3 ?_))
      unfold ls_bin
      cases hh : ls_bk w a b with
      | none => rfl
      | some kd => exact absurd (hok.mpr (by rw [hh]; simp)) (by decide)
  have P130 : ∀ lg nu : Nat, lg = (if a = 0 ∧ b = 0 then 1 else 0) → nu = (if a ≠ 0 ∧ b ≠ 0 then 1 else 0) → (29 ≤ w ∧ w ≤ 31 ∨ 39 ≤ w) → wY_operate_130 post (nI w) (nI at0) (nI a) (nI b) x y (nI lg) (nI nu) f_most f_n f_stored f_nm f_nEnv f_base (nI (m + 1)) f_no f_nc f_pc f_mode f_err f_errAt f_ticks f_calls f_outs f_resK f_part f_resV f_cnt f_full f_flag f_need a_tk a_tv a_tp a_mName a_mKind a_mCount a_mPar a_mAt a_vName a_vDecl a_vKind a_vVal a_sk a_sv a_oKind a_oAt a_oArgs a_cKind a_cA a_cB a_outK a_outV := by
    intro lg nu hlg hnu hww
    by_cases l : a = 0 ∧ b = 0
    · have hlg' := hlg
      rw [if_pos l] at hlg'
      subst hlg'
      refine br_f (by decide) (P150 1 1 hlg (by decide) ⟨fun _ => ?_, fun _ => rfl⟩)
      unfold ls_bk
      rw [if_neg (fun h => h.1 l.1), if_pos ⟨l.1, l.2, hww⟩]; simp
    · have hlg' := hlg
      rw [if_neg l] at hlg'
      subst hlg'
      refine br_t rfl ?_
      by_cases nn : a ≠ 0 ∧ b ≠ 0
      · rw [if_pos nn] at hnu
        subst hnu
        refine br_f (by decide) (P150 0 1 hlg (by decide) ⟨fun _ => ?_, fun _ => rfl⟩)
        unfold ls_bk
        rw [if_pos nn]; simp
      · rw [if_neg nn] at hnu
        subst hnu
        refine br_t rfl (P150 0 0 hlg (by decide) ⟨fun h => by omega, fun h => ?_⟩)
        unfold ls_bk at h
        rw [if_neg nn, if_neg (fun g => l ⟨g.1, g.2.1⟩)] at h
        exact absurd rfl h
  have P106 : ∀ lg nu bi : Nat, lg = (if a = 0 ∧ b = 0 then 1 else 0) → nu = (if a ≠ 0 ∧ b ≠ 0 then 1 else 0) → bi = (if 29 ≤ w ∧ w ≤ 31 then 1 else 0) → wY_operate_106 post (nI w) (nI at0) (nI a) (nI b) x y (nI lg) (nI nu) (nI bi) f_most f_n f_stored f_nm f_nEnv f_base (nI (m + 1)) f_no f_nc f_pc f_mode f_err f_errAt f_ticks f_calls f_outs f_resK f_part f_resV f_cnt f_full f_flag f_need a_tk a_tv a_tp a_mName a_mKind a_mCount a_mPar a_mAt a_vName a_vDecl a_vKind a_vVal a_sk a_sv a_oKind a_oAt a_oArgs a_cKind a_cA a_cB a_outK a_outV := by
    intro lg nu bi hlg hnu hbi
    refine br_t ((WL 40 (by decide)).mpr hw.2) ?_
    by_cases c : 29 ≤ w ∧ w ≤ 31
    · rw [if_pos c] at hbi
      subst hbi
      exact br_f (by decide) (P130 lg nu hlg hnu (Or.inl c))
    · rw [if_neg c] at hbi
      subst hbi
      refine br_t rfl ?_
      by_cases w38 : w ≤ 38
      · refine br_t ((WL 38 (by decide)).mpr w38) (P150 lg nu hlg (by rw [hnu]; split <;> omega) ?_)
        rw [hnu]
        unfold ls_bk
        by_cases nn : a ≠ 0 ∧ b ≠ 0
        · rw [if_pos nn, if_pos nn]; simp
        · rw [if_neg nn, if_neg nn, if_neg (by omega)]; simp
      · exact br_f (mt (WL 38 (by decide)).mp w38) (P130 lg nu hlg hnu (Or.inr (by omega)))
  have P87 : ∀ lg nu : Nat, lg = (if a = 0 ∧ b = 0 then 1 else 0) → nu = (if a ≠ 0 ∧ b ≠ 0 then 1 else 0) → wY_operate_87 post (nI w) (nI at0) (nI a) (nI b) x y (nI lg) (nI nu) f_most f_n f_stored f_nm f_nEnv f_base (nI (m + 1)) f_no f_nc f_pc f_mode f_err f_errAt f_ticks f_calls f_outs f_resK f_part f_resV f_cnt f_full f_flag f_need a_tk a_tv a_tp a_mName a_mKind a_mCount a_mPar a_mAt a_vName a_vDecl a_vKind a_vVal a_sk a_sv a_oKind a_oAt a_oArgs a_cKind a_cA a_cB a_outK a_outV := by
    intro lg nu hlg hnu
    by_cases w29 : w < 29
    · exact br_t (nI_lt (b := 29) w29 (by decide)) (P106 lg nu 0 hlg hnu (by rw [if_neg (by omega)]))
    refine br_f (nI_nlt (b := 29) (by omega) (by omega)) ?_
    by_cases w31 : 31 < w
    · exact br_t (nI_lt (a := 31) w31 (by omega)) (P106 lg nu 0 hlg hnu (by rw [if_neg (by omega)]))
    · exact br_f (nI_nlt (a := 31) (by omega) (by decide)) (P106 lg nu 1 hlg hnu (by rw [if_pos (by omega)]))
  have P71 : ∀ lg : Nat, lg = (if a = 0 ∧ b = 0 then 1 else 0) → wY_operate_71 post (nI w) (nI at0) (nI a) (nI b) x y (nI lg) f_most f_n f_stored f_nm f_nEnv f_base (nI (m + 1)) f_no f_nc f_pc f_mode f_err f_errAt f_ticks f_calls f_outs f_resK f_part f_resV f_cnt f_full f_flag f_need a_tk a_tv a_tp a_mName a_mKind a_mCount a_mPar a_mAt a_vName a_vDecl a_vKind a_vVal a_sk a_sv a_oKind a_oAt a_oArgs a_cKind a_cA a_cB a_outK a_outV := by
    intro lg hlg
    by_cases a0 : a = 0
    · exact br_t (by rw [a0]; decide) (P87 lg 0 hlg (by rw [if_neg (fun h => h.1 a0)]))
    refine br_f (nI_nle (by omega) (by omega)) ?_
    by_cases b0 : b = 0
    · exact br_t (by rw [b0]; decide) (P87 lg 0 hlg (by rw [if_neg (fun h => h.2 b0)]))
    · exact br_f (nI_nle (by omega) (by omega)) (P87 lg 1 hlg (by rw [if_pos ⟨a0, b0⟩]))
  unfold wpY_operate
  dsimp only
  refine nm_r (nI_pred (m + 1)) ?_
  rw [en]
  refine ⟨im, ?_⟩
  rw [em, e1]
  refine nm_e ⟨im1, ?_⟩
  rw [em1, e2]
  refine nm_e ⟨im, ?_⟩
  rw [e3]
  refine nm_e ⟨im1, ?_⟩
  rw [e4]
  refine nm_e ?_
  by_cases a0 : a = 0
  · refine br_t (E a 0 a0) ?_
    by_cases b0 : b = 0
    · exact br_t (E b 0 b0) (P71 1 (by rw [if_pos ⟨a0, b0⟩]))
    · exact br_f (N b 0 (by omega) (by decide) b0) (P71 0 (by rw [if_neg (fun h => b0 h.2)]))
  · exact br_f (N a 0 (by omega) (by decide) a0) (P71 0 (by rw [if_neg (fun h => a0 h.1)]))
end
