/-! The reference: behind an operand -/
section
variable {f_most f_n f_stored f_nm f_nEnv f_base f_ns f_no f_nc f_pc f_mode f_err f_errAt f_ticks f_calls f_outs f_resK f_part f_cnt f_full f_flag f_need : Int32}
variable {f_resV : Int64}
variable {a_tk a_tp a_mName a_mKind a_mCount a_mPar a_mAt a_vName a_vDecl a_vKind a_sk a_oKind a_oAt a_oArgs a_cKind a_cA a_cB a_outK : Nat → Int32}
variable {a_tv a_vVal a_sv a_outV : Nat → Int64}
variable {post : SY → Prop} {p a m no : Nat} {T : Nat → Nat} {e lo hi q : Nat}
set_option maxHeartbeats 200000 in
theorem ls_lv_ge (t : Nat) : 2 ≤ ls_lv t ∧ ls_lv t ≤ 12 := by have := ls_lv_c t; omega
set_option maxHeartbeats 200000 in
theorem hy_after_r {kd q lq : Nat} (hp : p < 384) (e1 : a_tk p = nI a) (ha : a < 100) (hno : no < 400) (e2 : a_oKind no = nI kd) (hk : 4 ≤ kd ∧ kd ≤ 7) (e3 : a_oAt no = nI q) (hq : q < 384) (e4 : a_tk q = nI lq) (hlq : lq < 100) (c : ls_lv a = 2 ∨ (4 < kd ∧ (kd < 7 ∨ ls_lv a ≤ ls_lv lq)))
    (g4 : kd = 4 → wpY_assign post (f_most, f_n, f_stored, f_nm, f_nEnv, f_base, f_ns, nI no, f_nc, nI p, f_mode, f_err, f_errAt, f_ticks, f_calls, f_outs, f_resK, f_part, f_resV, f_cnt, f_full, f_flag, f_need, a_tk, a_tv, a_tp, a_mName, a_mKind, a_mCount, a_mPar, a_mAt, a_vName, a_vDecl, a_vKind, a_vVal, a_sk, a_sv, a_oKind, a_oAt, a_oArgs, a_cKind, a_cA, a_cB, a_outK, a_outV) (nI q)) (g5 : kd = 5 ∨ kd = 6 → wpY_unary post (f_most, f_n, f_stored, f_nm, f_nEnv, f_base, f_ns, nI no, f_nc, nI p, f_mode, f_err, f_errAt, f_ticks, f_calls, f_outs, f_resK, f_part, f_resV, f_cnt, f_full, f_flag, f_need, a_tk, a_tv, a_tp, a_mName, a_mKind, a_mCount, a_mPar, a_mAt, a_vName, a_vDecl, a_vKind, a_vVal, a_sk, a_sv, a_oKind, a_oAt, a_oArgs, a_cKind, a_cA, a_cB, a_outK, a_outV) (nI kd) (nI q)) (g7 : kd = 7 → wpY_operate post (f_most, f_n, f_stored, f_nm, f_nEnv, f_base, f_ns, nI no, f_nc, nI p, f_mode, f_err, f_errAt, f_ticks, f_calls, f_outs, f_resK, f_part, f_resV, f_cnt, f_full, f_flag, f_need, a_tk, a_tv, a_tp, a_mName, a_mKind, a_mCount, a_mPar, a_mAt, a_vName, a_vDecl, a_vKind, a_vVal, a_sk, a_sv, a_oKind, a_oAt, a_oArgs, a_cKind, a_cA, a_cB, a_outK, a_outV) (nI lq) (nI q)) : wpY_after post (f_most, f_n, f_stored, f_nm, f_nEnv, f_base, f_ns, nI (no + 1), f_nc, nI p, f_mode, f_err, f_errAt, f_ticks, f_calls, f_outs, f_resK, f_part, f_resV, f_cnt, f_full, f_flag, f_need, a_tk, a_tv, a_tp, a_mName, a_mKind, a_mCount, a_mPar, a_mAt, a_vName, a_vDecl, a_vKind, a_vVal, a_sk, a_sv, a_oKind, a_oAt, a_oArgs, a_cKind, a_cA, a_cB, a_outK, a_outV) := by
  have la := ls_lv_ge a
  have lb := ls_lv_ge lq
  unfold wpY_after
  dsimp only
  have G72 : wY_after_72 post (nI kd) f_most f_n f_stored f_nm f_nEnv f_base f_ns (nI (no + 1)) f_nc (nI p) f_mode f_err f_errAt f_ticks f_calls f_outs f_resK f_part f_resV f_cnt f_full f_flag f_need a_tk a_tv a_tp a_mName a_mKind a_mCount a_mPar a_mAt a_vName a_vDecl a_vKind a_vVal a_sk a_sv a_oKind a_oAt a_oArgs a_cKind a_cA a_cB a_outK a_outV := by
    unfold wY_after_72
    refine nm_r (nI_pred no) ?_
    rw [nI_clamp (by omega), e3]
    by_cases k4 : kd = 4
    · subst k4
      exact br_t rfl ⟨vp_in_nI hno (by decide), g4 rfl⟩
    · refine br_f (mt (ls_k8 (by omega) (by decide)).mp k4) ?_
      by_cases k7 : kd = 7
      · subst k7
        refine br_t (nI_le (a := 7) (by omega) (by decide)) ⟨vp_in_nI hno (by decide), vp_in_nI hq (by decide), vp_in_nI hno (by decide), ?_⟩
        rw [nI_clamp (by omega), e4]
        exact g7 rfl
      · exact br_f (nI_ge (b := 7) (by omega) (by decide)) ⟨vp_in_nI hno (by decide), g5 (by omega)⟩
  refine ⟨vp_in_nI hp (by decide), nm_r (by rw [nI_clamp (by omega), e1]) (hy_level ha ?_)⟩
  rw [nI_pred, nI_clamp (by omega)]
  refine ⟨vp_in_nI hno (by decide), nm_r e2 (br_f (nI_ge (a := 3) (by omega) (by omega)) ?_)⟩
  by_cases l2 : ls_lv a = 2
  · exact br_t (by rw [l2]; rfl) G72
  · obtain ⟨c1, c2⟩ := c.resolve_left l2
    refine br_f (fun g => by have := (ls_k8 (a := ls_lv a - 2) (b := 0) (by omega) (by decide)).mp g; omega) (br_f (nI_ge (a := 4) (by omega) (by omega)) ?_)
    by_cases k7 : kd = 7
    · subst k7
      refine br_f (by decide) ⟨vp_in_nI hno (by decide), ?_⟩
      rw [e3]
      refine ⟨vp_in_nI hq (by decide), ?_⟩
      rw [nI_clamp (by omega), e4]
      exact hy_level hlq (br_f (nI_nlt (by omega) (by omega)) G72)
    · exact br_t (nI_lt (b := 7) (by omega) (by decide)) G72
set_option maxHeartbeats 200000 in
theorem hy_after_n {kd q lq g : Nat} (hp : p < 384) (e1 : a_tk p = nI a) (ha : a < 100) (hno : no < 400) (e2 : a_oKind no = nI kd) (hk : 1 ≤ kd ∧ kd ≤ 7) (e3 : a_oAt no = nI q) (hq : kd = 7 → q < 384 ∧ a_tk q = nI lq ∧ lq < 100) (e5 : a_oArgs no = nI g) (hg : g < 100) (c : kd ≤ 3 ∨ (2 < ls_lv a ∧ (kd = 4 ∨ (kd = 7 ∧ ls_lv lq < ls_lv a))))
    (gb : 2 < ls_lv a → wpY_binary post (f_most, f_n, f_stored, f_nm, f_nEnv, f_base, f_ns, nI (no + 1), f_nc, nI p, f_mode, f_err, f_errAt, f_ticks, f_calls, f_outs, f_resK, f_part, f_resV, f_cnt, f_full, f_flag, f_need, a_tk, a_tv, a_tp, a_mName, a_mKind, a_mCount, a_mPar, a_mAt, a_vName, a_vDecl, a_vKind, a_vVal, a_sk, a_sv, a_oKind, a_oAt, a_oArgs, a_cKind, a_cA, a_cB, a_outK, a_outV) (nI a) (nI (ls_lv a - 2)))
    (g1 : ls_lv a = 2 → kd = 1 → wpY_fullDone post (f_most, f_n, f_stored, f_nm, f_nEnv, f_base, f_ns, nI no, f_nc, nI p, f_mode, f_err, f_errAt, f_ticks, f_calls, f_outs, f_resK, f_part, f_resV, f_cnt, f_full, f_flag, f_need, a_tk, a_tv, a_tp, a_mName, a_mKind, a_mCount, a_mPar, a_mAt, a_vName, a_vDecl, a_vKind, a_vVal, a_sk, a_sv, a_oKind, a_oAt, a_oArgs, a_cKind, a_cA, a_cB, a_outK, a_outV) (nI q))
    (g2 : ls_lv a = 2 → kd = 2 → post (f_most, f_n, f_stored, f_nm, f_nEnv, f_base, f_ns, nI no, f_nc, nI (p + 1), f_mode, f_err, f_errAt, f_ticks, f_calls, f_outs, f_resK, f_part, f_resV, f_cnt, f_full, f_flag, f_need, a_tk, a_tv, a_tp, a_mName, a_mKind, a_mCount, a_mPar, a_mAt, a_vName, a_vDecl, a_vKind, a_vVal, a_sk, a_sv, a_oKind, a_oAt, a_oArgs, a_cKind, a_cA, a_cB, a_outK, a_outV))
    (g3 : ls_lv a = 2 → kd = 3 → a = 19 → post (f_most, f_n, f_stored, f_nm, f_nEnv, f_base, f_ns, nI (no + 1), f_nc, nI (p + 1), 1, f_err, f_errAt, f_ticks, f_calls, f_outs, f_resK, f_part, f_resV, f_cnt, f_full, f_flag, f_need, a_tk, a_tv, a_tp, a_mName, a_mKind, a_mCount, a_mPar, a_mAt, a_vName, a_vDecl, a_vKind, a_vVal, a_sk, a_sv, a_oKind, a_oAt, upd a_oArgs no (nI (g + 1)), a_cKind, a_cA, a_cB, a_outK, a_outV))
    (g4 : ls_lv a = 2 → kd = 3 → a ≠ 19 → wpY_call post (f_most, f_n, f_stored, f_nm, f_nEnv, f_base, f_ns, nI (no + 1), f_nc, nI (p + 1), f_mode, f_err, f_errAt, f_ticks, f_calls, f_outs, f_resK, f_part, f_resV, f_cnt, f_full, f_flag, f_need, a_tk, a_tv, a_tp, a_mName, a_mKind, a_mCount, a_mPar, a_mAt, a_vName, a_vDecl, a_vKind, a_vVal, a_sk, a_sv, a_oKind, a_oAt, a_oArgs, a_cKind, a_cA, a_cB, a_outK, a_outV)) : wpY_after post (f_most, f_n, f_stored, f_nm, f_nEnv, f_base, f_ns, nI (no + 1), f_nc, nI p, f_mode, f_err, f_errAt, f_ticks, f_calls, f_outs, f_resK, f_part, f_resV, f_cnt, f_full, f_flag, f_need, a_tk, a_tv, a_tp, a_mName, a_mKind, a_mCount, a_mPar, a_mAt, a_vName, a_vDecl, a_vKind, a_vVal, a_sk, a_sv, a_oKind, a_oAt, a_oArgs, a_cKind, a_cA, a_cB, a_outK, a_outV) := by
  have la := ls_lv_ge a
  have lb := ls_lv_ge lq
  unfold wpY_after
  dsimp only
  have G154 : (ls_lv a = 2 → kd ≤ 3) → wY_after_154 post (nI a) (nI (ls_lv a - 2)) (nI kd) f_most f_n f_stored f_nm f_nEnv f_base f_ns (nI (no + 1)) f_nc (nI p) f_mode f_err f_errAt f_ticks f_calls f_outs f_resK f_part f_resV f_cnt f_full f_flag f_need a_tk a_tv a_tp a_mName a_mKind a_mCount a_mPar a_mAt a_vName a_vDecl a_vKind a_vVal a_sk a_sv a_oKind a_oAt a_oArgs a_cKind a_cA a_cB a_outK a_outV := by
    intro hk3
    unfold wY_after_154
    by_cases l2 : ls_lv a = 2
    · have k3 := hk3 l2
      refine br_t (by rw [l2]; decide) ?_
      rw [nI_pred, nI_clamp (by omega)]
      by_cases k1 : kd = 1
      · subst k1
        refine br_t rfl (nm_r rfl ⟨vp_in_nI hno (by decide), ?_⟩)
        rw [nI_clamp (by omega), e3]
        exact g1 l2 rfl
      · refine br_f (mt (ls_k8 (by omega) (by decide)).mp k1) (nm_r (nI_1 p) ?_)
        by_cases k2 : kd = 2
        · subst k2
          exact br_t rfl (nm_r rfl (g2 l2 rfl))
        · refine br_f (mt (ls_k8 (by omega) (by decide)).mp k2) ?_
          by_cases a19 : a = 19
          · subst a19
            refine br_t rfl ⟨vp_in_nI hno (by decide), vp_in_nI hno (by decide), nm_r ?_ (g3 l2 (by omega) rfl)⟩
            rw [e5, nI_1, ls_vnb2 (by omega)]
          · exact br_f (mt (ls_k8 ha (by decide)).mp a19) (g4 l2 (by omega) a19)
    · exact br_f (nI_ge (a := 0) (by omega) (by omega)) (gb (by omega))
  refine ⟨vp_in_nI hp (by decide), nm_r (by rw [nI_clamp (by omega), e1]) (hy_level ha ?_)⟩
  rw [nI_pred, nI_clamp (by omega)]
  refine ⟨vp_in_nI hno (by decide), nm_r e2 ?_⟩
  by_cases k3 : kd ≤ 3
  · exact br_t (nI_le (b := 3) k3 (by decide)) (G154 (fun _ => k3))
  · obtain ⟨c1, c2⟩ := c.resolve_left k3
    refine br_f (nI_ge (a := 3) (by omega) (by omega)) (br_f (fun g => by have := (ls_k8 (a := ls_lv a - 2) (b := 0) (by omega) (by decide)).mp g; omega) ?_)
    rcases c2 with k4 | ⟨k7, lt⟩
    · subst k4
      exact br_t (by decide) (G154 (fun q => by omega))
    · subst k7
      obtain ⟨q1, q2, q3⟩ := hq rfl
      refine br_f (by decide) (br_f (by decide) ⟨vp_in_nI hno (by decide), ?_⟩)
      rw [e3]
      refine ⟨vp_in_nI q1 (by decide), ?_⟩
      rw [nI_clamp (by omega), q2]
      exact hy_level q3 (br_t (nI_lt (by omega) (by omega)) (G154 (fun q => by omega)))
set_option maxHeartbeats 200000 in
theorem hy_binary_n {l : Nat} (hno : no < 400) (hp : p < 1000) (hl : 3 ≤ l ∧ l < 100) (g : post (f_most, f_n, f_stored, f_nm, f_nEnv, f_base, f_ns, nI (no + 1), f_nc, nI (p + 1), 2, f_err, f_errAt, f_ticks, f_calls, f_outs, f_resK, f_part, f_resV, f_cnt, f_full, f_flag, f_need, a_tk, a_tv, a_tp, a_mName, a_mKind, a_mCount, a_mPar, a_mAt, a_vName, a_vDecl, a_vKind, a_vVal, a_sk, a_sv, upd a_oKind no (nI 7), upd a_oAt no (nI p), upd a_oArgs no 0, a_cKind, a_cA, a_cB, a_outK, a_outV)) : wpY_binary post (f_most, f_n, f_stored, f_nm, f_nEnv, f_base, f_ns, nI no, f_nc, nI p, f_mode, f_err, f_errAt, f_ticks, f_calls, f_outs, f_resK, f_part, f_resV, f_cnt, f_full, f_flag, f_need, a_tk, a_tv, a_tp, a_mName, a_mKind, a_mCount, a_mPar, a_mAt, a_vName, a_vDecl, a_vKind, a_vVal, a_sk, a_sv, a_oKind, a_oAt, a_oArgs, a_cKind, a_cA, a_cB, a_outK, a_outV) (nI a) (nI l) := by
  unfold wpY_binary
  dsimp only
  refine nm_r (nI_1 p) (br_t (nI_le (a := 3) hl.1 (by omega)) ?_)
  unfold wY_binary_208
  exact hy_openOp (kd := 7) hno (by decide) (by omega) g
set_option maxHeartbeats 200000 in
theorem hy_scan {s : Nat} (hs : s = 3 ∨ s = 4) (ht : ls_tks T e lo hi a_tk) (hq : q < hi) (hz : T q = 16 ∨ T q = 19 ∨ T q = 20 ∨ (2 < ls_lv (T q) ∧ ls_lv (T q) ≤ s)) (g : post (f_most, f_n, f_stored, f_nm, f_nEnv, f_base, f_ns, f_no, f_nc, nI (q + e), f_mode, f_err, f_errAt, f_ticks, f_calls, f_outs, f_resK, f_part, f_resV, f_cnt, f_full, f_flag, f_need, a_tk, a_tv, a_tp, a_mName, a_mKind, a_mCount, a_mPar, a_mAt, a_vName, a_vDecl, a_vKind, a_vVal, a_sk, a_sv, a_oKind, a_oAt, a_oArgs, a_cKind, a_cA, a_cB, a_outK, a_outV)) : ∀ (j p d fu : Nat), j < fu → lo ≤ p → d + j < 1000 → ls_sp T s j p d q → wY_binary_80 post (nI (s - 2)) f_most f_n f_stored f_nm f_nEnv f_base f_ns f_no f_nc f_mode f_err f_errAt f_ticks f_calls f_outs f_resK f_part f_resV f_cnt f_full f_flag f_need a_tk a_tv a_tp a_mName a_mKind a_mCount a_mPar a_mAt a_vName a_vDecl a_vKind a_vVal a_sk a_sv a_oKind a_oAt a_oArgs a_cKind a_cA a_cB a_outK a_outV fu (nI d) (nI (p + e)) := by
  obtain ⟨h384, htk⟩ := ht
  intro j
  induction j with
  | zero =>
    intro p d fu hf hl _ h
    obtain ⟨fu', rfl⟩ : ∃ fu', fu = fu' + 1 := ⟨fu - 1, by omega⟩
    obtain ⟨h1, h2⟩ := h
    subst h1 h2
    obtain ⟨e1, e2⟩ := htk p hl hq
    have N : ∀ w : Nat, w < 100 → T p ≠ w → ¬ nI (T p) = nI w := fun w hw h => mt (ls_k8 e2 hw).mp h
    have iv : vp_in (nI (p + e)) 384 := vp_in_nI (by omega) (by decide)
    unfold wY_binary_80
    refine br_f (by decide) ⟨iv, ?_⟩
    rw [nI_clamp (by omega), e1]
    by_cases c16 : T p = 16
    · exact br_t (by rw [c16]; rfl) g
    · refine br_f (N 16 (by decide) c16) ⟨iv, ?_⟩
      by_cases c19 : T p = 19
      · exact br_t (by rw [c19]; rfl) g
      · refine br_f (N 19 (by decide) c19) ⟨iv, ?_⟩
        by_cases c20 : T p = 20
        · exact br_t (by rw [c20]; rfl) g
        · refine br_f (N 20 (by decide) c20) ⟨iv, hy_level e2 (br_f (fun q' => ?_) ⟨iv, hy_level e2 (br_t (nI_le (by omega) (by omega)) g)⟩)⟩
          have lv := ls_lv_ge (T p)
          have := (ls_k8 (a := ls_lv (T p) - 2) (b := 0) (by omega) (by decide)).mp q'
          omega
  | succ j ih =>
    intro p d fu hf hl hdj h
    obtain ⟨fu', rfl⟩ : ∃ fu', fu = fu' + 1 := ⟨fu - 1, by omega⟩
    obtain ⟨⟨n17, n18, n20⟩, h0, h1⟩ := h
    have pq : p < q := by
      have : ∀ j p d, ls_sp T s j p d q → p + j = q := by
        intro j
        induction j with
        | zero => intro p d h; have := h.1; omega
        | succ j ih => intro p d h; have := ih _ _ h.2.2; omega
      have := this _ _ _ h1
      omega
    obtain ⟨e1, e2⟩ := htk p hl (by omega)
    have N : ∀ w : Nat, w < 100 → T p ≠ w → ¬ nI (T p) = nI w := fun w hw h => mt (ls_k8 e2 hw).mp h
    have iv : vp_in (nI (p + e)) 384 := vp_in_nI (by omega) (by decide)
    have lv := ls_lv_ge (T p)
    have W : (d = 0 → T p ≠ 16) → wY_binary_160 post (wY_binary_80 post (nI (s - 2)) f_most f_n f_stored f_nm f_nEnv f_base f_ns f_no f_nc f_mode f_err f_errAt f_ticks f_calls f_outs f_resK f_part f_resV f_cnt f_full f_flag f_need a_tk a_tv a_tp a_mName a_mKind a_mCount a_mPar a_mAt a_vName a_vDecl a_vKind a_vVal a_sk a_sv a_oKind a_oAt a_oArgs a_cKind a_cA a_cB a_outK a_outV fu') (nI (s - 2)) (nI d) f_most f_n f_stored f_nm f_nEnv f_base f_ns f_no f_nc (nI (p + e)) f_mode f_err f_errAt f_ticks f_calls f_outs f_resK f_part f_resV f_cnt f_full f_flag f_need a_tk a_tv a_tp a_mName a_mKind a_mCount a_mPar a_mAt a_vName a_vDecl a_vKind a_vVal a_sk a_sv a_oKind a_oAt a_oArgs a_cKind a_cA a_cB a_outK a_outV := by
      intro n16
      unfold wY_binary_160
      refine ⟨iv, ?_⟩
      rw [nI_clamp (by omega), e1]
      have R : ∀ d', d' + j < 1000 → (T p = 16 → 0 < d') → ls_sp T s j (p + 1) (if T p = 16 then d' - 1 else d') q → wY_binary_177 post (wY_binary_80 post (nI (s - 2)) f_most f_n f_stored f_nm f_nEnv f_base f_ns f_no f_nc f_mode f_err f_errAt f_ticks f_calls f_outs f_resK f_part f_resV f_cnt f_full f_flag f_need a_tk a_tv a_tp a_mName a_mKind a_mCount a_mPar a_mAt a_vName a_vDecl a_vKind a_vVal a_sk a_sv a_oKind a_oAt a_oArgs a_cKind a_cA a_cB a_outK a_outV fu') (nI (s - 2)) (nI d') f_most f_n f_stored f_nm f_nEnv f_base f_ns f_no f_nc (nI (p + e)) f_mode f_err f_errAt f_ticks f_calls f_outs f_resK f_part f_resV f_cnt f_full f_flag f_need a_tk a_tv a_tp a_mName a_mKind a_mCount a_mPar a_mAt a_vName a_vDecl a_vKind a_vVal a_sk a_sv a_oKind a_oAt a_oArgs a_cKind a_cA a_cB a_outK a_outV := by
        intro d' hdj' h16 hsp
        unfold wY_binary_177
        refine ⟨iv, ?_⟩
        rw [nI_clamp (by omega), e1]
        by_cases c16 : T p = 16
        · rw [if_pos c16] at hsp
          obtain ⟨d2, rfl⟩ : ∃ d2, d' = d2 + 1 := ⟨d' - 1, by have := h16 c16; omega⟩
          refine br_t (by rw [c16]; rfl) (nm_r (pk_m1 d2) (nm_r (nI_1 _) ?_))
          rw [show p + e + 1 = (p + 1) + e by omega]
          exact ih (p + 1) d2 fu' (by omega) (by omega) (by omega) hsp
        · rw [if_neg c16] at hsp
          refine br_f (N 16 (by decide) c16) (nm_r (nI_1 _) ?_)
          rw [show p + e + 1 = (p + 1) + e by omega]
          exact ih (p + 1) d' fu' (by omega) (by omega) (by omega) hsp
      by_cases c15 : T p = 15
      · rw [if_pos c15] at h1
        exact br_t (by rw [c15]; rfl) (nm_r (nI_1 d) (R (d + 1) (by omega) (fun q' => by omega) (by rw [if_neg (by omega)]; exact h1)))
      · rw [if_neg c15] at h1
        have d1 : T p = 16 → 0 < d := fun q' => by
          rcases Nat.eq_zero_or_pos d with z | z
          · exact absurd q' (n16 z)
          · exact z
        exact br_f (N 15 (by decide) c15) (R d (by omega) d1 h1)
    unfold wY_binary_80
    by_cases d0 : d = 0
    · subst d0
      obtain ⟨a1, a2, a3⟩ := h0 rfl
      refine br_f (by decide) ⟨iv, ?_⟩
      rw [nI_clamp (by omega), e1]
      refine br_f (N 16 (by decide) a1) ⟨iv, br_f (N 19 (by decide) a2) ⟨iv, br_f (N 20 (by decide) n20) ⟨iv, hy_level e2 ?_⟩⟩⟩
      by_cases l2 : ls_lv (T p) = 2
      · exact br_t (by rw [l2]; rfl) (W (fun _ => a1))
      · refine br_f (fun q' => by have := (ls_k8 (a := ls_lv (T p) - 2) (b := 0) (by omega) (by decide)).mp q'; omega) ⟨iv, hy_level e2 (br_f (nI_ge (by omega) (by omega)) (W (fun _ => a1)))⟩
    · exact br_t (nI_lt (a := 0) (by omega) (by omega)) (W (fun q' => absurd q' d0))
set_option maxHeartbeats 200000 in
theorem hy_binary_d {s k : Nat} {v : Int64} (hs : s = 3 ∨ s = 4) (ha : a = (if s = 4 then 41 else 42)) (hno : no < 400) (hm : m < 399) (hp : p + e < 384) (e1 : a_sk m = nI k) (hk : k < 100) (e2 : a_sv m = v) (ht : ls_tks T e lo hi a_tk) (hl : lo ≤ p)
    (h3 : k ≠ 0 → post (f_most, f_n, f_stored, f_nm, f_nEnv, f_base, nI (m + 1), nI (no + 1), f_nc, nI (p + e + 1), 2, 3, ls_pl a_tp (p + e), f_ticks, f_calls, f_outs, f_resK, f_part, f_resV, f_cnt, f_full, f_flag, f_need, a_tk, a_tv, a_tp, a_mName, a_mKind, a_mCount, a_mPar, a_mAt, a_vName, a_vDecl, a_vKind, a_vVal, a_sk, a_sv, upd a_oKind no (nI 7), upd a_oAt no (nI (p + e)), upd a_oArgs no 0, a_cKind, a_cA, a_cB, a_outK, a_outV))
    (h0 : k = 0 → v ≠ (if s = 4 then 0 else 1) → post (f_most, f_n, f_stored, f_nm, f_nEnv, f_base, nI (m + 1), nI (no + 1), f_nc, nI (p + e + 1), 2, f_err, f_errAt, f_ticks, f_calls, f_outs, f_resK, f_part, f_resV, f_cnt, f_full, f_flag, f_need, a_tk, a_tv, a_tp, a_mName, a_mKind, a_mCount, a_mPar, a_mAt, a_vName, a_vDecl, a_vKind, a_vVal, a_sk, a_sv, upd a_oKind no (nI 7), upd a_oAt no (nI (p + e)), upd a_oArgs no 0, a_cKind, a_cA, a_cB, a_outK, a_outV))
    (h1 : k = 0 → v = (if s = 4 then 0 else 1) → ∃ j q, ls_sp T s j (p + 1) 0 q ∧ q < hi ∧ (T q = 16 ∨ T q = 19 ∨ T q = 20 ∨ (2 < ls_lv (T q) ∧ ls_lv (T q) ≤ s)) ∧ post (f_most, f_n, f_stored, f_nm, f_nEnv, f_base, nI (m + 1), nI no, f_nc, nI (q + e), 3, f_err, f_errAt, f_ticks, f_calls, f_outs, f_resK, f_part, f_resV, f_cnt, f_full, f_flag, f_need, a_tk, a_tv, a_tp, a_mName, a_mKind, a_mCount, a_mPar, a_mAt, a_vName, a_vDecl, a_vKind, a_vVal, a_sk, a_sv, a_oKind, a_oAt, a_oArgs, a_cKind, a_cA, a_cB, a_outK, a_outV)) : wpY_binary post (f_most, f_n, f_stored, f_nm, f_nEnv, f_base, nI (m + 1), nI no, f_nc, nI (p + e), f_mode, f_err, f_errAt, f_ticks, f_calls, f_outs, f_resK, f_part, f_resV, f_cnt, f_full, f_flag, f_need, a_tk, a_tv, a_tp, a_mName, a_mKind, a_mCount, a_mPar, a_mAt, a_vName, a_vDecl, a_vKind, a_vVal, a_sk, a_sv, a_oKind, a_oAt, a_oArgs, a_cKind, a_cA, a_cB, a_outK, a_outV) (nI a) (nI (s - 2)) := by
  have im : vp_in (nI m) 400 := vp_in_nI (by omega) (by decide)
  have em : (nI m).toNatClampNeg = m := nI_clamp (by omega)
  unfold wpY_binary
  dsimp only
  rw [nI_pred, em, e1, e2]
  refine nm_r (nI_1 _) (br_f (nI_ge (b := 3) (by omega) (by decide)) ⟨im, ?_⟩)
  by_cases k0 : k = 0
  · subst k0
    refine br_t rfl ⟨im, ?_⟩
    have G : ∀ z : Int32, z.toInt64 = (if s = 4 then 0 else 1) → wY_binary_67 post (nI (s - 2)) (nI (p + e)) z v f_most f_n f_stored f_nm f_nEnv f_base (nI (m + 1)) (nI no) f_nc (nI (p + e + 1)) 2 f_err f_errAt f_ticks f_calls f_outs f_resK f_part f_resV f_cnt f_full f_flag f_need a_tk a_tv a_tp a_mName a_mKind a_mCount a_mPar a_mAt a_vName a_vDecl a_vKind a_vVal a_sk a_sv a_oKind a_oAt a_oArgs a_cKind a_cA a_cB a_outK a_outV := by
      intro z hz
      unfold wY_binary_67
      rw [hz]
      refine br_c (fun c => ?_) (fun c => ?_)
      · obtain ⟨j, q, s1, s2, s3, s4⟩ := h1 rfl c
        refine ⟨j + 1, ?_⟩
        rw [show p + e + 1 = (p + 1) + e by omega]
        exact hy_scan hs ht s2 s3 s4 j (p + 1) 0 (j + 1) (by omega) (by omega) (by
          have : ∀ j p d, ls_sp T s j p d q → p + j = q := by
            intro j
            induction j with
            | zero => intro p d h; have := h.1; omega
            | succ j ih => intro p d h; have := ih _ _ h.2.2; omega
          have := this _ _ _ s1
          have := ht.1
          omega) s1
      · unfold wY_binary_208
        exact hy_openOp (kd := 7) hno (by decide) (by omega) (h0 rfl c)
    rcases hs with rfl | rfl
    · subst ha
      exact br_f (by decide) (G 1 (by decide))
    · subst ha
      exact br_t rfl (G 0 (by decide))
  · refine br_f (mt (ls_k8 (b := 0) hk (by decide)).mp k0) (hy_fail hp ?_)
    unfold wY_binary_208
    exact hy_openOp (kd := 7) hno (by decide) (by omega) (h3 k0)
end
