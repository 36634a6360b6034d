set_option maxHeartbeats 200000 in
theorem ls_yout_nar {v0 : SY} {r : Option LsY} {post : Int32 → SY → Prop} (h : ls_yout v0 r post) : ls_yout v0 r (fun r_9 u => match u with | (f_most, f_n, f_stored, f_nm, f_nEnv, f_base, f_ns, f_no, f_nc, f_pc, f_mode, f_err, f_errAt, f_ticks, f_calls, f_outs, f_resK, f_part, f_resV, f_cnt, f_full, f_flag, f_need, a_tk, a_tv, a_tp, a_mName, a_mKind, a_mCount, a_mPar, a_mAt, a_vName, a_vDecl, a_vKind, a_vVal, a_sk, a_sv, a_oKind, a_oAt, a_oArgs, a_cKind, a_cA, a_cB, a_outK, a_outV) => narrow .boolean (.int r_9) = .int r_9 ∧ post r_9 (f_most, f_n, f_stored, f_nm, f_nEnv, f_base, f_ns, f_no, f_nc, f_pc, f_mode, f_err, f_errAt, f_ticks, f_calls, f_outs, f_resK, f_part, f_resV, f_cnt, f_full, f_flag, f_need, a_tk, a_tv, a_tp, a_mName, a_mKind, a_mCount, a_mPar, a_mAt, a_vName, a_vDecl, a_vKind, a_vVal, a_sk, a_sv, a_oKind, a_oAt, a_oArgs, a_cKind, a_cA, a_cB, a_outK, a_outV)) := by
  cases r with
  | none =>
    intro v' hv
    obtain ⟨f_most, f_n, f_stored, f_nm, f_nEnv, f_base, f_ns, f_no, f_nc, f_pc, f_mode, f_err, f_errAt, f_ticks, f_calls, f_outs, f_resK, f_part, f_resV, f_cnt, f_full, f_flag, f_need, a_tk, a_tv, a_tp, a_mName, a_mKind, a_mCount, a_mPar, a_mAt, a_vName, a_vDecl, a_vKind, a_vVal, a_sk, a_sv, a_oKind, a_oAt, a_oArgs, a_cKind, a_cA, a_cB, a_outK, a_outV⟩ := v'
    exact ⟨rfl, h _ hv⟩
  | some y =>
    intro v' hv
    obtain ⟨f_most, f_n, f_stored, f_nm, f_nEnv, f_base, f_ns, f_no, f_nc, f_pc, f_mode, f_err, f_errAt, f_ticks, f_calls, f_outs, f_resK, f_part, f_resV, f_cnt, f_full, f_flag, f_need, a_tk, a_tv, a_tp, a_mName, a_mKind, a_mCount, a_mPar, a_mAt, a_vName, a_vDecl, a_vKind, a_vVal, a_sk, a_sv, a_oKind, a_oAt, a_oArgs, a_cKind, a_cA, a_cB, a_outK, a_outV⟩ := v'
    exact ⟨rfl, h _ hv⟩
set_option maxHeartbeats 200000 in
theorem ls_yn {t w : Nat} (ht : t < 100) (hw : w < 100) : nI t = nI w ↔ t = w := nI_eq (by omega) (by omega)
set_option maxHeartbeats 200000 in
theorem ls_yl {t w : Nat} (ht : t < 1000) (hw : w < 1000) : nI t ≤ nI w ↔ t ≤ w := nI_leI (by omega) (by omega)
set_option maxHeartbeats 200000 in
theorem ls_ylt {t w : Nat} (ht : t < 1000) (hw : w < 1000) : nI t < nI w ↔ t < w := nI_ltI (by omega) (by omega)
section
variable {f_most f_n f_stored f_nm f_nEnv f_base f_ns f_no f_nc f_pc f_mode f_err f_errAt f_ticks f_calls f_outs f_resK f_part f_cnt f_full f_flag f_need : Int32}
variable {f_resV : Int64}
variable {a_tk a_tp a_mName a_mKind a_mCount a_mPar a_mAt a_vName a_vDecl a_vKind a_sk a_oKind a_oAt a_oArgs a_cKind a_cA a_cB a_outK : Nat → Int32}
variable {a_tv a_vVal a_sv a_outV : Nat → Int64}
variable {v0 : SY} {post : Int32 → SY → Prop} {q : Int32 → Prop} {t nm nd ct fu fl : Nat} {C : List (Nat × Nat)} {O N : List Nat}
set_option maxHeartbeats 200000 in
theorem hy_level (ht : t < 100) (hq : q (nI (ls_lv t - 2))) : wpY_level q (f_most, f_n, f_stored, f_nm, f_nEnv, f_base, f_ns, f_no, f_nc, f_pc, f_mode, f_err, f_errAt, f_ticks, f_calls, f_outs, f_resK, f_part, f_resV, f_cnt, f_full, f_flag, f_need, a_tk, a_tv, a_tp, a_mName, a_mKind, a_mCount, a_mPar, a_mAt, a_vName, a_vDecl, a_vKind, a_vVal, a_sk, a_sv, a_oKind, a_oAt, a_oArgs, a_cKind, a_cA, a_cB, a_outK, a_outV) (nI t) := by
  have W : ∀ w v, w < 100 → nI (ls_lv w - 2) = v → nI t = nI w → q v := fun w v hw hv h => by
    have := (ls_yn ht hw).mp h
    subst this
    rw [← hv]; exact hq
  have R : ∀ v, ls_lv t - 2 = v → q (nI v) := fun v h => by rw [← h]; exact hq
  refine br_c (W 42 _ (by decide) rfl) (fun n42 => br_c (W 41 _ (by decide) rfl) (fun n41 => br_c (W 30 _ (by decide) rfl) (fun n30 => br_c (W 31 _ (by decide) rfl) (fun n31 => br_c (W 29 _ (by decide) rfl) (fun n29 => br_c (W 39 _ (by decide) rfl) (fun n39 => br_c (W 40 _ (by decide) rfl) (fun n40 => ?_)))))))
  have a42 : t ≠ 42 := fun e => n42 ((ls_yn ht (by decide)).mpr e)
  have a41 : t ≠ 41 := fun e => n41 ((ls_yn ht (by decide)).mpr e)
  have a30 : t ≠ 30 := fun e => n30 ((ls_yn ht (by decide)).mpr e)
  have a31 : t ≠ 31 := fun e => n31 ((ls_yn ht (by decide)).mpr e)
  have a29 : t ≠ 29 := fun e => n29 ((ls_yn ht (by decide)).mpr e)
  have a39 : t ≠ 39 := fun e => n39 ((ls_yn ht (by decide)).mpr e)
  have a40 : t ≠ 40 := fun e => n40 ((ls_yn ht (by decide)).mpr e)
  have L85 : ¬ (35 ≤ t ∧ t ≤ 38) → ¬ (32 ≤ t ∧ t ≤ 34) → wY_level_85 q (nI t) f_most f_n f_stored f_nm f_nEnv f_base f_ns f_no f_nc f_pc f_mode f_err f_errAt f_ticks f_calls f_outs f_resK f_part f_resV f_cnt f_full f_flag f_need a_tk a_tv a_tp a_mName a_mKind a_mCount a_mPar a_mAt a_vName a_vDecl a_vKind a_vVal a_sk a_sv a_oKind a_oAt a_oArgs a_cKind a_cA a_cB a_outK a_outV := by
    intro h1 h2
    refine br_c (W 24 _ (by decide) rfl) (fun n24 => br_c (W 25 _ (by decide) rfl) (fun n25 => ?_))
    have a24 : t ≠ 24 := fun e => n24 ((ls_yn ht (by decide)).mpr e)
    have a25 : t ≠ 25 := fun e => n25 ((ls_yn ht (by decide)).mpr e)
    refine br_c (fun h => R 0 ?_) (fun h => br_c (fun h2 => R 0 ?_) (fun h2 => R 10 ?_))
    · have := (ls_ylt (w := 26) (by omega) (by decide)).mp h
      unfold ls_lv; simp only [a42, a41, a30, a31, a29, a39, a40, a24, a25, h1, h2, if_false]; rw [if_neg (by omega)]
    · have := (ls_ylt (t := 28) (by decide) (by omega)).mp h2
      unfold ls_lv; simp only [a42, a41, a30, a31, a29, a39, a40, a24, a25, if_false]; repeat rw [if_neg (by omega)]
    · have g1 := mt (ls_ylt (w := 26) (by omega) (by decide)).mpr h
      have g2 := mt (ls_ylt (t := 28) (by decide) (by omega)).mpr h2
      unfold ls_lv; simp only [a42, a41, a30, a31, a29, a39, a40, a24, a25, if_false]; rw [if_neg (by omega), if_neg (by omega), if_pos (by omega)]
  have L70 : ¬ (35 ≤ t ∧ t ≤ 38) → wY_level_70 q (nI t) f_most f_n f_stored f_nm f_nEnv f_base f_ns f_no f_nc f_pc f_mode f_err f_errAt f_ticks f_calls f_outs f_resK f_part f_resV f_cnt f_full f_flag f_need a_tk a_tv a_tp a_mName a_mKind a_mCount a_mPar a_mAt a_vName a_vDecl a_vKind a_vVal a_sk a_sv a_oKind a_oAt a_oArgs a_cKind a_cA a_cB a_outK a_outV := by
    intro h1
    refine br_c (fun h => L85 h1 ?_) (fun h => br_c (fun h2 => L85 h1 ?_) (fun h2 => R 8 ?_))
    · have := (ls_ylt (w := 32) (by omega) (by decide)).mp h; omega
    · have := (ls_ylt (t := 34) (by decide) (by omega)).mp h2; omega
    · have g1 := mt (ls_ylt (w := 32) (by omega) (by decide)).mpr h
      have g2 := mt (ls_ylt (t := 34) (by decide) (by omega)).mpr h2
      unfold ls_lv; simp only [a42, a41, a30, a31, a29, a39, a40, if_false]; rw [if_neg h1, if_pos (by omega)]
  refine br_c (fun h => L70 ?_) (fun h => br_c (fun h2 => L70 ?_) (fun h2 => R 7 ?_))
  · have := (ls_ylt (w := 35) (by omega) (by decide)).mp h; omega
  · have := (ls_ylt (t := 38) (by decide) (by omega)).mp h2; omega
  · have g1 := mt (ls_ylt (w := 35) (by omega) (by decide)).mpr h
    have g2 := mt (ls_ylt (t := 38) (by decide) (by omega)).mpr h2
    unfold ls_lv; simp only [a42, a41, a30, a31, a29, a39, a40, if_false]; rw [if_pos (by omega)]
set_option maxHeartbeats 200000 in
theorem hy_isAssign (ht : t < 100) (h1 : ls_asg t → q 1) (h0 : ¬ ls_asg t → q 0) : wpY_isAssign q (f_most, f_n, f_stored, f_nm, f_nEnv, f_base, f_ns, f_no, f_nc, f_pc, f_mode, f_err, f_errAt, f_ticks, f_calls, f_outs, f_resK, f_part, f_resV, f_cnt, f_full, f_flag, f_need, a_tk, a_tv, a_tp, a_mName, a_mKind, a_mCount, a_mPar, a_mAt, a_vName, a_vDecl, a_vKind, a_vVal, a_sk, a_sv, a_oKind, a_oAt, a_oArgs, a_cKind, a_cA, a_cB, a_outK, a_outV) (nI t) := by
  refine br_c (fun h => h1 (Or.inl ((ls_yn ht (by decide)).mp h))) (fun h => br_c (fun h2 => h0 ?_) (fun h2 => br_c (fun h3 => h0 ?_) (fun h3 => h1 ?_)))
  · have e := mt (ls_yn (w := 21) ht (by decide)).mpr h
    have := (ls_ylt (w := 43) (by omega) (by decide)).mp h2; unfold ls_asg; omega
  · have e := mt (ls_yn (w := 21) ht (by decide)).mpr h
    have := (ls_yl (t := 54) (by decide) (by omega)).mp h3; unfold ls_asg; omega
  · have g2 := mt (ls_ylt (w := 43) (by omega) (by decide)).mpr h2
    have g3 := mt (ls_yl (t := 54) (by decide) (by omega)).mpr h3
    exact Or.inr ⟨by omega, by omega⟩
set_option maxHeartbeats 200000 in
theorem hy_isSign (ht : t < 100) (h1 : (22 ≤ t ∧ t ≤ 25) → q 1) (h0 : ¬ (22 ≤ t ∧ t ≤ 25) → q 0) : wpY_isSign q (f_most, f_n, f_stored, f_nm, f_nEnv, f_base, f_ns, f_no, f_nc, f_pc, f_mode, f_err, f_errAt, f_ticks, f_calls, f_outs, f_resK, f_part, f_resV, f_cnt, f_full, f_flag, f_need, a_tk, a_tv, a_tp, a_mName, a_mKind, a_mCount, a_mPar, a_mAt, a_vName, a_vDecl, a_vKind, a_vVal, a_sk, a_sv, a_oKind, a_oAt, a_oArgs, a_cKind, a_cA, a_cB, a_outK, a_outV) (nI t) := by
  have W : ∀ w, 22 ≤ w ∧ w ≤ 25 → nI t = nI w → q 1 := fun w hw h => h1 (by have := (ls_yn ht (by omega)).mp h; omega)
  refine br_c (W 22 (by decide)) (fun n22 => br_c (W 23 (by decide)) (fun n23 => br_c (W 24 (by decide)) (fun n24 => br_c (W 25 (by decide)) (fun n25 => h0 ?_))))
  have a22 : t ≠ 22 := fun e => n22 ((ls_yn ht (by decide)).mpr e)
  have a23 : t ≠ 23 := fun e => n23 ((ls_yn ht (by decide)).mpr e)
  have a24 : t ≠ 24 := fun e => n24 ((ls_yn ht (by decide)).mpr e)
  have a25 : t ≠ 25 := fun e => n25 ((ls_yn ht (by decide)).mpr e)
  omega
set_option maxHeartbeats 200000 in
theorem hy_isName (ht : t < 100) (h1 : ls_nam t → q 1) (h0 : ¬ ls_nam t → q 0) : wpY_isName q (f_most, f_n, f_stored, f_nm, f_nEnv, f_base, f_ns, f_no, f_nc, f_pc, f_mode, f_err, f_errAt, f_ticks, f_calls, f_outs, f_resK, f_part, f_resV, f_cnt, f_full, f_flag, f_need, a_tk, a_tv, a_tp, a_mName, a_mKind, a_mCount, a_mPar, a_mAt, a_vName, a_vDecl, a_vKind, a_vVal, a_sk, a_sv, a_oKind, a_oAt, a_oArgs, a_cKind, a_cA, a_cB, a_outK, a_outV) (nI t) := by
  refine br_c (fun h => h0 ?_) (fun h => br_c (fun h2 => h0 ?_) (fun h2 => h1 ?_))
  · have := (ls_ylt (w := 54) (by omega) (by decide)).mp h; unfold ls_nam; omega
  · have := (ls_yl (t := 70) (by decide) (by omega)).mp h2; unfold ls_nam; omega
  · have g1 := mt (ls_ylt (w := 54) (by omega) (by decide)).mpr h
    have g2 := mt (ls_yl (t := 70) (by decide) (by omega)).mpr h2
    exact ⟨by omega, by omega⟩
set_option maxHeartbeats 200000 in
theorem hy_opd {x : Int32} (hk : ((f_most, f_n, f_stored, f_nm, f_base, f_ns, f_pc, f_mode, f_err, f_errAt, f_ticks, f_calls, f_outs, f_resK, f_part, f_resV), (a_tk, a_tv, a_tp, a_mName, a_mKind, a_mCount, a_mPar, a_mAt), (a_vDecl, a_vKind, a_vVal, a_sk, a_sv, a_oKind, a_oAt, a_cB, a_outK, a_outV)) = ls_ykept v0) (hC : ls_StC a_cKind a_cA C) (hO : ls_StN a_oArgs O) (hN : ls_StN a_vName N) (bO : O.length < 399) (ht : t < 100)
    (hp : ls_yout v0 (ls_yopd t nm C O ct fu N) post) : wpY_operand post (f_most, f_n, f_stored, f_nm, nI N.length, f_base, f_ns, nI O.length, nI C.length, f_pc, f_mode, f_err, f_errAt, f_ticks, f_calls, f_outs, f_resK, f_part, f_resV, nI ct, nI fu, 0, x, a_tk, a_tv, a_tp, a_mName, a_mKind, a_mCount, a_mPar, a_mAt, a_vName, a_vDecl, a_vKind, a_vVal, a_sk, a_sv, a_oKind, a_oAt, a_oArgs, a_cKind, a_cA, a_cB, a_outK, a_outV) (nI t) (nI nm) := by
  unfold wpY_operand
  dsimp only
  unfold ls_yopd at hp
  refine hy_isSign ht (fun s => ?_) (fun s => ?_)
  · rw [if_pos s] at hp
    exact br_f (by decide) (hp _ ⟨hk, rfl, rfl, rfl, rfl, rfl, rfl, rfl, hC, hO, hN⟩)
  · rw [if_neg s] at hp
    refine br_t rfl ?_
    by_cases t15 : t = 15
    · rw [if_pos t15] at hp
      refine br_t ((ls_yn ht (by decide)).mpr t15) (nm_r (nI_1 _) ⟨vp_in_nI (by omega) (by decide), nm_r (by rw [nI_clamp (by omega), show vp_nar .byte 0 = nI 0 from ls_vnb (n := 0) (by decide)]) ?_⟩)
      exact hp _ ⟨hk, rfl, rfl, rfl, rfl, rfl, rfl, rfl, hC, ls_StN_push 0 hO, hN⟩
    · rw [if_neg t15] at hp
      refine br_f (mt (ls_yn ht (by decide)).mp t15) ?_
      have F : ∀ f : Nat, (if ls_nam t then nm else 0) = f → wY_operand_64 post (nI t) f_most f_n f_stored f_nm (nI N.length) f_base f_ns (nI O.length) (nI C.length) f_pc f_mode f_err f_errAt f_ticks f_calls f_outs f_resK f_part f_resV (nI ct) (nI fu) (nI f) 5 a_tk a_tv a_tp a_mName a_mKind a_mCount a_mPar a_mAt a_vName a_vDecl a_vKind a_vVal a_sk a_sv a_oKind a_oAt a_oArgs a_cKind a_cA a_cB a_outK a_outV := by
        intro f hf
        rw [hf] at hp
        have Y1 : (t = 13 ∨ t = 14 ∨ 54 ≤ t) → post 1 (f_most, f_n, f_stored, f_nm, nI N.length, f_base, f_ns, nI O.length, nI C.length, f_pc, f_mode, f_err, f_errAt, f_ticks, f_calls, f_outs, f_resK, f_part, f_resV, nI ct, nI fu, nI f, 5, a_tk, a_tv, a_tp, a_mName, a_mKind, a_mCount, a_mPar, a_mAt, a_vName, a_vDecl, a_vKind, a_vVal, a_sk, a_sv, a_oKind, a_oAt, a_oArgs, a_cKind, a_cA, a_cB, a_outK, a_outV) := fun h => by
          rw [if_pos h] at hp
          exact hp _ ⟨hk, rfl, rfl, rfl, rfl, rfl, rfl, rfl, hC, hO, hN⟩
        refine br_c (fun h => Y1 (Or.inl ((ls_yn ht (by decide)).mp h))) (fun n13 => br_c (fun h => Y1 (Or.inr (Or.inl ((ls_yn ht (by decide)).mp h)))) (fun n14 => br_c (fun h => ?_) (fun h => Y1 (Or.inr (Or.inr ?_)))))
        · have a13 : t ≠ 13 := fun e => n13 ((ls_yn ht (by decide)).mpr e)
          have a14 : t ≠ 14 := fun e => n14 ((ls_yn ht (by decide)).mpr e)
          have := (ls_ylt (w := 54) (by omega) (by decide)).mp h
          rw [if_neg (by omega)] at hp
          exact hp _ hk
        · have := mt (ls_ylt (w := 54) (by omega) (by decide)).mpr h
          omega
      refine hy_isName ht (fun n => br_f (by decide) (F nm (if_pos n))) (fun n => br_t rfl (F 0 (if_neg n)))
set_option maxHeartbeats 200000 in
theorem hy_aft (hk : ((f_most, f_n, f_stored, f_nm, f_base, f_ns, f_pc, f_mode, f_err, f_errAt, f_ticks, f_calls, f_outs, f_resK, f_part, f_resV), (a_tk, a_tv, a_tp, a_mName, a_mKind, a_mCount, a_mPar, a_mAt), (a_vDecl, a_vKind, a_vVal, a_sk, a_sv, a_oKind, a_oAt, a_cB, a_outK, a_outV)) = ls_ykept v0) (hC : ls_StC a_cKind a_cA C) (hO : ls_StN a_oArgs O) (hN : ls_StN a_vName N) (bO : O.length < 399) (ho : ∀ x ∈ O, x ≤ 3) (ht : t < 100) (hfl : fl < 3)
    (hp : ls_yout v0 (ls_yaft t fl C O ct fu N) post) : wpY_afterOperand post (f_most, f_n, f_stored, f_nm, nI N.length, f_base, f_ns, nI O.length, nI C.length, f_pc, f_mode, f_err, f_errAt, f_ticks, f_calls, f_outs, f_resK, f_part, f_resV, nI ct, nI fu, 0, nI 5, a_tk, a_tv, a_tp, a_mName, a_mKind, a_mCount, a_mPar, a_mAt, a_vName, a_vDecl, a_vKind, a_vVal, a_sk, a_sv, a_oKind, a_oAt, a_oArgs, a_cKind, a_cA, a_cB, a_outK, a_outV) (nI t) (nI fl) := by
  unfold wpY_afterOperand
  dsimp only
  unfold ls_yaft at hp
  have lvl : ls_lv t < 13 := by have := ls_lv_c t; omega
  refine hy_level ht ?_
  by_cases l2 : 2 < ls_lv t
  · rw [if_pos l2] at hp
    exact br_f (nI_nle (by omega) (by omega)) (hp _ ⟨hk, rfl, rfl, rfl, rfl, rfl, rfl, rfl, hC, hO, hN⟩)
  rw [if_neg l2] at hp
  refine br_t (by rw [show ls_lv t - 2 = 0 by omega]; decide) ?_
  refine hy_isAssign ht (fun a => br_f (by decide) ?_) (fun a => br_t rfl ?_)
  · rw [if_pos a] at hp
    by_cases f2 : fl = 2
    · rw [if_pos f2] at hp
      exact br_t ((ls_yn (by omega) (by decide)).mpr f2) (hp _ ⟨hk, rfl, rfl, rfl, rfl, rfl, rfl, rfl, hC, hO, hN⟩)
    · rw [if_neg f2] at hp
      exact br_f (mt (ls_yn (w := 2) (by omega) (by decide)).mp f2) (hp _ hk)
  rw [if_neg a] at hp
  by_cases t15 : t = 15
  · rw [if_pos t15] at hp
    refine br_t ((ls_yn ht (by decide)).mpr t15) (nm_r (nI_1 _) ⟨vp_in_nI (by omega) (by decide), nm_r (by rw [nI_clamp (by omega), show vp_nar .byte 1 = nI 1 from ls_vnb (n := 1) (by decide)]) ?_⟩)
    by_cases f0 : 0 < fl
    · rw [if_pos f0] at hp
      exact br_f (nI_nle f0 (by omega)) (hp _ ⟨hk, rfl, rfl, rfl, rfl, rfl, rfl, rfl, hC, ls_StN_push 1 hO, hN⟩)
    · rw [if_neg f0] at hp
      have f0 : fl = 0 := by omega
      subst f0
      exact br_t (by decide) (hp _ hk)
  rw [if_neg t15] at hp
  refine br_f (mt (ls_yn ht (by decide)).mp t15) ?_
  cases O with
  | nil => exact br_t rfl (hp _ hk)
  | cons o r =>
    dsimp only at hp
    have bO' : r.length + 1 < 399 := bO
    have o3 := ho o (List.mem_cons_self ..)
    refine br_f (nI_ne0 (n := r.length + 1) (by omega) (by omega)) ?_
    by_cases t16 : t = 16
    · rw [if_pos t16] at hp
      exact br_t ((ls_yn ht (by decide)).mpr t16) (nm_r (nI_pred r.length) (hp _ ⟨hk, rfl, rfl, rfl, rfl, rfl, rfl, rfl, hC, hO.2, hN⟩))
    rw [if_neg t16] at hp
    refine br_f (mt (ls_yn ht (by decide)).mp t16) ?_
    by_cases t19 : t = 19
    · refine br_t ((ls_yn ht (by decide)).mpr t19) ?_
      have ei : nI (o :: r : List Nat).length - 1 = nI r.length := nI_pred r.length
      rw [ei]
      have iv : vp_in (nI r.length) 400 := vp_in_nI (by omega) (by decide)
      refine ⟨iv, ?_⟩
      rw [nI_clamp (by omega), hO.1]
      by_cases o0 : 0 < o
      · refine br_f (nI_nle o0 (by omega)) ⟨iv, iv, nm_r (by rw [nI_1, ls_vnb2 (by omega)]) ?_⟩
        by_cases o4 : o < 3
        · rw [if_pos ⟨t19, o0, o4⟩] at hp
          exact br_f (nI_ge (b := 3) o4 (by decide)) (hp _ ⟨hk, rfl, rfl, rfl, rfl, rfl, rfl, rfl, hC, ⟨pk_us, ls_StN_up (Nat.le_refl _) hO.2⟩, hN⟩)
        · rw [if_neg (fun h => o4 h.2.2)] at hp
          exact br_t (nI_le (a := 3) (by omega) (by omega)) (hp _ hk)
      · rw [if_neg (fun h => o0 h.2.1)] at hp
        have o0 : o = 0 := by omega
        subst o0
        exact br_t (by decide) (hp _ hk)
    · rw [if_neg (fun h => t19 h.1)] at hp
      exact br_f (mt (ls_yn ht (by decide)).mp t19) (hp _ hk)
end
