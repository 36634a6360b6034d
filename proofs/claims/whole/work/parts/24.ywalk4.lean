section
variable {f_most f_n f_stored f_nm f_nEnv f_base f_ns f_no f_nc f_pc f_mode f_err f_errAt f_ticks f_calls f_outs f_resK f_part f_cnt f_full f_flag f_need : Int32}
variable {f_resV : Int64}
variable {a_tk a_tp a_mName a_mKind a_mCount a_mPar a_mAt a_vName a_vDecl a_vKind a_sk a_oKind a_oAt a_oArgs a_cKind a_cA a_cB a_outK : Nat → Int32}
variable {a_tv a_vVal a_sv a_outV : Nat → Int64}
variable {v0 : SY} {post : Int32 → SY → Prop} {q : Int32 → Prop} {t nm nd ct fu fl : Nat} {C : List (Nat × Nat)} {O N : List Nat}
set_option maxHeartbeats 200000 in
theorem ls_yout_bool {v0 : SY} {r : Option LsY} {post : Int32 → SY → Prop} (h : ls_yout v0 r post) : ls_yout v0 r (fun r_9 u => match u with | (f_most, f_n, f_stored, f_nm, f_nEnv, f_base, f_ns, f_no, f_nc, f_pc, f_mode, f_err, f_errAt, f_ticks, f_calls, f_outs, f_resK, f_part, f_resV, f_cnt, f_full, f_flag, f_need, a_tk, a_tv, a_tp, a_mName, a_mKind, a_mCount, a_mPar, a_mAt, a_vName, a_vDecl, a_vKind, a_vVal, a_sk, a_sv, a_oKind, a_oAt, a_oArgs, a_cKind, a_cA, a_cB, a_outK, a_outV) => ((r_9 = 0 → post 0 (f_most, f_n, f_stored, f_nm, f_nEnv, f_base, f_ns, f_no, f_nc, f_pc, f_mode, f_err, f_errAt, f_ticks, f_calls, f_outs, f_resK, f_part, f_resV, f_cnt, f_full, f_flag, f_need, a_tk, a_tv, a_tp, a_mName, a_mKind, a_mCount, a_mPar, a_mAt, a_vName, a_vDecl, a_vKind, a_vVal, a_sk, a_sv, a_oKind, a_oAt, a_oArgs, a_cKind, a_cA, a_cB, a_outK, a_outV)) ∧ (¬ r_9 = 0 → post 1 (f_most, f_n, f_stored, f_nm, f_nEnv, f_base, f_ns, f_no, f_nc, f_pc, f_mode, f_err, f_errAt, f_ticks, f_calls, f_outs, f_resK, f_part, f_resV, f_cnt, f_full, f_flag, f_need, a_tk, a_tv, a_tp, a_mName, a_mKind, a_mCount, a_mPar, a_mAt, a_vName, a_vDecl, a_vKind, a_vVal, a_sk, a_sv, a_oKind, a_oAt, a_oArgs, a_cKind, a_cA, a_cB, a_outK, a_outV)))) := by
  cases r with
  | none =>
    intro v' hv
    obtain ⟨f_most, f_n, f_stored, f_nm, f_nEnv, f_base, f_ns, f_no, f_nc, f_pc, f_mode, f_err, f_errAt, f_ticks, f_calls, f_outs, f_resK, f_part, f_resV, f_cnt, f_full, f_flag, f_need, a_tk, a_tv, a_tp, a_mName, a_mKind, a_mCount, a_mPar, a_mAt, a_vName, a_vDecl, a_vKind, a_vVal, a_sk, a_sv, a_oKind, a_oAt, a_oArgs, a_cKind, a_cA, a_cB, a_outK, a_outV⟩ := v'
    exact br_t rfl (h _ hv)
  | some y =>
    intro v' hv
    obtain ⟨f_most, f_n, f_stored, f_nm, f_nEnv, f_base, f_ns, f_no, f_nc, f_pc, f_mode, f_err, f_errAt, f_ticks, f_calls, f_outs, f_resK, f_part, f_resV, f_cnt, f_full, f_flag, f_need, a_tk, a_tv, a_tp, a_mName, a_mKind, a_mCount, a_mPar, a_mAt, a_vName, a_vDecl, a_vKind, a_vVal, a_sk, a_sv, a_oKind, a_oAt, a_oArgs, a_cKind, a_cA, a_cB, a_outK, a_outV⟩ := v'
    exact br_f (by decide) (h _ hv)
set_option maxHeartbeats 200000 in
theorem hy_hd (hk : ((f_most, f_n, f_stored, f_nm, f_base, f_ns, f_pc, f_mode, f_err, f_errAt, f_ticks, f_calls, f_outs, f_resK, f_part, f_resV), (a_tk, a_tv, a_tp, a_mName, a_mKind, a_mCount, a_mPar, a_mAt), (a_vDecl, a_vKind, a_vVal, a_sk, a_sv, a_oKind, a_oAt, a_cB, a_outK, a_outV)) = ls_ykept v0) (hC : ls_StC a_cKind a_cA C) (hO : ls_StN a_oArgs O) (hN : ls_StN a_vName N) (bC : C.length < 699) (bN : N.length ≤ 8) (hc : ∀ e ∈ C, 1 ≤ e.1 ∧ e.1 ≤ 5 ∧ e.2 ≤ 8) (hcN : ∀ e ∈ C, e.2 ≤ N.length) (hx : ∀ x ∈ N, x < 100) (ht : t < 100) (hnd : 8 ≤ nd ∧ nd ≤ 14)
    (hp : ls_yout v0 (ls_yhd nd t C O fl ct fu N) post) : wpY_header post (f_most, f_n, f_stored, f_nm, nI N.length, f_base, f_ns, nI O.length, nI C.length, f_pc, f_mode, f_err, f_errAt, f_ticks, f_calls, f_outs, f_resK, f_part, f_resV, nI ct, nI fu, nI fl, nI nd, a_tk, a_tv, a_tp, a_mName, a_mKind, a_mCount, a_mPar, a_mAt, a_vName, a_vDecl, a_vKind, a_vVal, a_sk, a_sv, a_oKind, a_oAt, a_oArgs, a_cKind, a_cA, a_cB, a_outK, a_outV) (nI t) := by
  have TN : ∀ w, w < 100 → t ≠ w → ¬ nI t = nI w := fun w hw h => mt (ls_yn ht hw).mp h
  have TE : ∀ w, w < 100 → t = w → nI t = nI w := fun w hw h => by rw [h]
  have ND : ∀ w, w < 100 → nd ≠ w → ¬ nI nd = nI w := fun w hw h => mt (ls_yn (by omega) hw).mp h
  have NE : ∀ w, w < 100 → nd = w → nI nd = nI w := fun w hw h => by rw [h]
  have DEC : ∀ nd' : Nat, ls_yout v0 (ls_ydec nd' t C O fl ct fu N) post → wpY_isName (fun r_207 => (((r_207 = 0 → (post 0 (f_most, f_n, f_stored, f_nm, nI N.length, f_base, f_ns, nI O.length, nI C.length, f_pc, f_mode, f_err, f_errAt, f_ticks, f_calls, f_outs, f_resK, f_part, f_resV, nI ct, nI fu, nI fl, nI nd', a_tk, a_tv, a_tp, a_mName, a_mKind, a_mCount, a_mPar, a_mAt, a_vName, a_vDecl, a_vKind, a_vVal, a_sk, a_sv, a_oKind, a_oAt, a_oArgs, a_cKind, a_cA, a_cB, a_outK, a_outV))) ∧ (¬ r_207 = 0 → (wpY_declares (fun r_9 u => match u with | (f_most, f_n, f_stored, f_nm, f_nEnv, f_base, f_ns, f_no, f_nc, f_pc, f_mode, f_err, f_errAt, f_ticks, f_calls, f_outs, f_resK, f_part, f_resV, f_cnt, f_full, f_flag, f_need, a_tk, a_tv, a_tp, a_mName, a_mKind, a_mCount, a_mPar, a_mAt, a_vName, a_vDecl, a_vKind, a_vVal, a_sk, a_sv, a_oKind, a_oAt, a_oArgs, a_cKind, a_cA, a_cB, a_outK, a_outV) => ((r_9 = 0 → post 0 (f_most, f_n, f_stored, f_nm, f_nEnv, f_base, f_ns, f_no, f_nc, f_pc, f_mode, f_err, f_errAt, f_ticks, f_calls, f_outs, f_resK, f_part, f_resV, f_cnt, f_full, f_flag, f_need, a_tk, a_tv, a_tp, a_mName, a_mKind, a_mCount, a_mPar, a_mAt, a_vName, a_vDecl, a_vKind, a_vVal, a_sk, a_sv, a_oKind, a_oAt, a_oArgs, a_cKind, a_cA, a_cB, a_outK, a_outV)) ∧ (¬ r_9 = 0 → post 1 (f_most, f_n, f_stored, f_nm, f_nEnv, f_base, f_ns, f_no, f_nc, f_pc, f_mode, f_err, f_errAt, f_ticks, f_calls, f_outs, f_resK, f_part, f_resV, f_cnt, f_full, f_flag, f_need, a_tk, a_tv, a_tp, a_mName, a_mKind, a_mCount, a_mPar, a_mAt, a_vName, a_vDecl, a_vKind, a_vVal, a_sk, a_sv, a_oKind, a_oAt, a_oArgs, a_cKind, a_cA, a_cB, a_outK, a_outV)))) (f_most, f_n, f_stored, f_nm, nI N.length, f_base, f_ns, nI O.length, nI C.length, f_pc, f_mode, f_err, f_errAt, f_ticks, f_calls, f_outs, f_resK, f_part, f_resV, nI ct, nI fu, nI fl, nI nd', a_tk, a_tv, a_tp, a_mName, a_mKind, a_mCount, a_mPar, a_mAt, a_vName, a_vDecl, a_vKind, a_vVal, a_sk, a_sv, a_oKind, a_oAt, a_oArgs, a_cKind, a_cA, a_cB, a_outK, a_outV) (nI t)))))) (f_most, f_n, f_stored, f_nm, nI N.length, f_base, f_ns, nI O.length, nI C.length, f_pc, f_mode, f_err, f_errAt, f_ticks, f_calls, f_outs, f_resK, f_part, f_resV, nI ct, nI fu, nI fl, nI nd', a_tk, a_tv, a_tp, a_mName, a_mKind, a_mCount, a_mPar, a_mAt, a_vName, a_vDecl, a_vKind, a_vVal, a_sk, a_sv, a_oKind, a_oAt, a_oArgs, a_cKind, a_cA, a_cB, a_outK, a_outV) (nI t) := by
    intro nd' hp
    refine hy_isName ht (fun n => br_f (by decide) ?_) (fun n => br_t rfl ?_)
    · exact hy_declares hk hC hO hN bC bN hc hcN hx ht n (ls_yout_bool hp)
    · unfold ls_ydec at hp
      rw [if_neg n] at hp
      exact hp _ hk
  unfold wpY_header
  dsimp only
  unfold ls_yhd at hp
  by_cases q8 : nd = 8
  · rw [if_pos q8] at hp
    exact br_t (NE 8 (by decide) q8) (DEC 9 hp)
  rw [if_neg q8] at hp
  refine br_f (ND 8 (by decide) q8) ?_
  by_cases q9 : nd = 9
  · rw [if_pos q9] at hp
    refine br_t (NE 9 (by decide) q9) ?_
    have H79 : ∀ z0 : Nat, (t = 20 → z0 = 0) → (t = 21 → z0 = 3) → (t = 15 → z0 = 10) → wY_header_79 post (nI t) (nI z0) f_most f_n f_stored f_nm (nI N.length) f_base f_ns (nI O.length) (nI C.length) f_pc f_mode f_err f_errAt f_ticks f_calls f_outs f_resK f_part f_resV 0 20 (nI fl) (nI nd) a_tk a_tv a_tp a_mName a_mKind a_mCount a_mPar a_mAt a_vName a_vDecl a_vKind a_vVal a_sk a_sv a_oKind a_oAt a_oArgs a_cKind a_cA a_cB a_outK a_outV := by
      intro z0 z20 z21 z15
      have H107 : ¬ (t = 15 ∧ C = []) → wY_header_107 post (nI t) f_most f_n f_stored f_nm (nI N.length) f_base f_ns (nI O.length) (nI C.length) f_pc f_mode f_err f_errAt f_ticks f_calls f_outs f_resK f_part f_resV 0 20 (nI fl) (nI z0) a_tk a_tv a_tp a_mName a_mKind a_mCount a_mPar a_mAt a_vName a_vDecl a_vKind a_vVal a_sk a_sv a_oKind a_oAt a_oArgs a_cKind a_cA a_cB a_outK a_outV := by
        intro h
        rw [if_neg h] at hp
        by_cases t20 : t = 20
        · rw [if_pos t20] at hp
          have := z20 t20; subst this
          exact br_t (TE 20 (by decide) t20) (hp _ ⟨hk, rfl, rfl, rfl, rfl, rfl, rfl, rfl, hC, hO, hN⟩)
        · rw [if_neg t20] at hp
          refine br_f (TN 20 (by decide) t20) ?_
          by_cases t21 : t = 21
          · rw [if_pos t21] at hp
            have := z21 t21; subst this
            exact br_t (TE 21 (by decide) t21) (hp _ ⟨hk, rfl, rfl, rfl, rfl, rfl, rfl, rfl, hC, hO, hN⟩)
          · rw [if_neg t21] at hp
            exact br_f (TN 21 (by decide) t21) (hp _ hk)
      by_cases t15 : t = 15
      · refine br_t (TE 15 (by decide) t15) ?_
        cases C with
        | nil =>
          rw [if_pos ⟨t15, rfl⟩] at hp
          have := z15 t15; subst this
          refine br_t rfl (hy_open (C := []) (k := 3) (by decide) (by decide) bN ?_)
          exact hp _ ⟨hk, rfl, rfl, rfl, rfl, rfl, rfl, rfl, ⟨pk_us, pk_us, trivial⟩, trivial, hN⟩
        | cons e r => exact br_f (nI_ne0 (n := r.length + 1) (by omega) (by have : r.length + 1 < 699 := bC; omega)) (H107 (fun h => List.cons_ne_nil _ _ h.2))
      · exact br_f (TN 15 (by decide) t15) (H107 (fun h => t15 h.1))
    by_cases t20 : t = 20
    · exact br_t (TE 20 (by decide) t20) (H79 0 (fun _ => rfl) (fun h => by omega) (fun h => by omega))
    · refine br_f (TN 20 (by decide) t20) ?_
      by_cases t21 : t = 21
      · exact br_t (TE 21 (by decide) t21) (H79 3 (fun h => by omega) (fun _ => rfl) (fun h => by omega))
      · exact br_f (TN 21 (by decide) t21) (H79 10 (fun h => by omega) (fun h => by omega) (fun _ => rfl))
  rw [if_neg q9] at hp
  refine br_f (ND 9 (by decide) q9) ?_
  have S14 : (nd = 10 ∨ nd = 13) → t = 16 → post 1 (f_most, f_n, f_stored, f_nm, nI N.length, f_base, f_ns, nI O.length, nI C.length, f_pc, f_mode, f_err, f_errAt, f_ticks, f_calls, f_outs, f_resK, f_part, f_resV, nI ct, nI fu, nI fl, 14, a_tk, a_tv, a_tp, a_mName, a_mKind, a_mCount, a_mPar, a_mAt, a_vName, a_vDecl, a_vKind, a_vVal, a_sk, a_sv, a_oKind, a_oAt, a_oArgs, a_cKind, a_cA, a_cB, a_outK, a_outV) := fun h1 h2 => by
    rw [if_pos ⟨h1, h2⟩] at hp
    exact hp _ ⟨hk, rfl, rfl, rfl, rfl, rfl, rfl, rfl, hC, hO, hN⟩
  have H157 : ¬ ((nd = 10 ∨ nd = 13) ∧ t = 16) → wY_header_157 post (nI t) (nI nd) f_most f_n f_stored f_nm (nI N.length) f_base f_ns (nI O.length) (nI C.length) f_pc f_mode f_err f_errAt f_ticks f_calls f_outs f_resK f_part f_resV (nI ct) (nI fu) (nI fl) (nI nd) a_tk a_tv a_tp a_mName a_mKind a_mCount a_mPar a_mAt a_vName a_vDecl a_vKind a_vVal a_sk a_sv a_oKind a_oAt a_oArgs a_cKind a_cA a_cB a_outK a_outV := by
    intro h
    rw [if_neg h] at hp
    have H169 : (nd = 10 ∨ nd = 11) → wY_header_169 post (nI t) f_most f_n f_stored f_nm (nI N.length) f_base f_ns (nI O.length) (nI C.length) f_pc f_mode f_err f_errAt f_ticks f_calls f_outs f_resK f_part f_resV (nI ct) (nI fu) (nI fl) (nI nd) a_tk a_tv a_tp a_mName a_mKind a_mCount a_mPar a_mAt a_vName a_vDecl a_vKind a_vVal a_sk a_sv a_oKind a_oAt a_oArgs a_cKind a_cA a_cB a_outK a_outV := by
      intro h1
      rw [if_pos h1] at hp
      by_cases t6 : t < 6
      · rw [if_pos t6] at hp
        exact br_f (nI_ge (b := 6) t6 (by decide)) (hp _ ⟨hk, rfl, rfl, rfl, rfl, rfl, rfl, rfl, hC, hO, hN⟩)
      · rw [if_neg t6] at hp
        exact br_t (nI_le (a := 6) (by omega) (by omega)) (hp _ hk)
    by_cases q10 : nd = 10
    · exact br_t (NE 10 (by decide) q10) (H169 (Or.inl q10))
    refine br_f (ND 10 (by decide) q10) ?_
    by_cases q11 : nd = 11
    · exact br_t (NE 11 (by decide) q11) (H169 (Or.inr q11))
    rw [if_neg (fun h => h.elim q10 q11)] at hp
    refine br_f (ND 11 (by decide) q11) ?_
    by_cases q12 : nd = 12
    · rw [if_pos q12] at hp
      exact br_t (NE 12 (by decide) q12) (DEC 13 hp)
    rw [if_neg q12] at hp
    refine br_f (ND 12 (by decide) q12) ?_
    by_cases q13 : nd = 13
    · rw [if_pos q13] at hp
      refine br_t (NE 13 (by decide) q13) ?_
      by_cases t19 : t = 19
      · refine br_t (TE 19 (by decide) t19) ?_
        by_cases n3 : N.length < 3
        · rw [if_pos ⟨t19, n3⟩] at hp
          exact br_f (nI_ge (b := 3) n3 (by decide)) (hp _ ⟨hk, rfl, rfl, rfl, rfl, rfl, rfl, rfl, hC, hO, hN⟩)
        · rw [if_neg (fun h => n3 h.2)] at hp
          exact br_t (nI_le (a := 3) (by omega) (by omega)) (hp _ hk)
      · rw [if_neg (fun h => t19 h.1)] at hp
        exact br_f (TN 19 (by decide) t19) (hp _ hk)
    rw [if_neg q13] at hp
    refine br_f (ND 13 (by decide) q13) (hy_open (k := 1) (by decide) bC bN ?_)
    by_cases t17 : t = 17
    · rw [if_pos t17] at hp
      exact br_t (TE 17 (by decide) t17) (hp _ ⟨hk, rfl, rfl, rfl, rfl, rfl, rfl, rfl, ⟨pk_us, pk_us, ls_StC_up (Nat.le_refl _) hC⟩, hO, hN⟩)
    · rw [if_neg t17] at hp
      exact br_f (TN 17 (by decide) t17) (hp _ hk)
  have H137 : ¬ (nd = 10 ∧ t = 16) → wY_header_137 post (nI t) (nI nd) f_most f_n f_stored f_nm (nI N.length) f_base f_ns (nI O.length) (nI C.length) f_pc f_mode f_err f_errAt f_ticks f_calls f_outs f_resK f_part f_resV (nI ct) (nI fu) (nI fl) (nI nd) a_tk a_tv a_tp a_mName a_mKind a_mCount a_mPar a_mAt a_vName a_vDecl a_vKind a_vVal a_sk a_sv a_oKind a_oAt a_oArgs a_cKind a_cA a_cB a_outK a_outV := by
    intro h
    by_cases q13 : nd = 13
    · refine br_t (NE 13 (by decide) q13) ?_
      by_cases t16 : t = 16
      · exact br_t (TE 16 (by decide) t16) (S14 (Or.inr q13) t16)
      · exact br_f (TN 16 (by decide) t16) (H157 (fun h => t16 h.2))
    · exact br_f (ND 13 (by decide) q13) (H157 (fun g => g.1.elim (fun a => h ⟨a, g.2⟩) q13))
  by_cases q10 : nd = 10
  · refine br_t (NE 10 (by decide) q10) ?_
    by_cases t16 : t = 16
    · exact br_t (TE 16 (by decide) t16) (S14 (Or.inl q10) t16)
    · exact br_f (TN 16 (by decide) t16) (H137 (fun h => t16 h.2))
  · exact br_f (ND 10 (by decide) q10) (H137 (fun h => q10 h.1))
set_option maxHeartbeats 200000 in
theorem hy_finished {p : Int32 → SY → Prop} {x : Int32} (hx : ∀ e ∈ C, 1 ≤ e.1 ∧ e.1 ≤ 5 ∧ e.2 ≤ 8) (hC : ls_StC a_cKind a_cA C) (bC : C.length < 699) (ht : t < 100) (hxt : x = nI t ∨ (x = -1 ∧ t = 99))
    (h1 : ∀ D, ls_yfin t C = (true, D) → ls_StC a_cKind a_cA D → D.length ≤ C.length → p 1 (f_most, f_n, f_stored, f_nm, f_nEnv, f_base, f_ns, f_no, nI D.length, f_pc, f_mode, f_err, f_errAt, f_ticks, f_calls, f_outs, f_resK, f_part, f_resV, f_cnt, f_full, f_flag, f_need, a_tk, a_tv, a_tp, a_mName, a_mKind, a_mCount, a_mPar, a_mAt, a_vName, a_vDecl, a_vKind, a_vVal, a_sk, a_sv, a_oKind, a_oAt, a_oArgs, a_cKind, a_cA, a_cB, a_outK, a_outV)) (h0 : ∀ D, ls_yfin t C = (false, D) → ls_StC a_cKind a_cA D → D.length ≤ C.length → p 0 (f_most, f_n, f_stored, f_nm, f_nEnv, f_base, f_ns, f_no, nI D.length, f_pc, f_mode, f_err, f_errAt, f_ticks, f_calls, f_outs, f_resK, f_part, f_resV, f_cnt, f_full, f_flag, f_need, a_tk, a_tv, a_tp, a_mName, a_mKind, a_mCount, a_mPar, a_mAt, a_vName, a_vDecl, a_vKind, a_vVal, a_sk, a_sv, a_oKind, a_oAt, a_oArgs, a_cKind, a_cA, a_cB, a_outK, a_outV)) : wpY_finished p (f_most, f_n, f_stored, f_nm, f_nEnv, f_base, f_ns, f_no, nI C.length, f_pc, f_mode, f_err, f_errAt, f_ticks, f_calls, f_outs, f_resK, f_part, f_resV, f_cnt, f_full, f_flag, f_need, a_tk, a_tv, a_tp, a_mName, a_mKind, a_mCount, a_mPar, a_mAt, a_vName, a_vDecl, a_vKind, a_vVal, a_sk, a_sv, a_oKind, a_oAt, a_oArgs, a_cKind, a_cA, a_cB, a_outK, a_outV) x := by
  have H : ∀ D : List (Nat × Nat), ls_StC a_cKind a_cA D → D.length ≤ C.length → (∀ e ∈ D, 1 ≤ e.1 ∧ e.1 ≤ 5 ∧ e.2 ≤ 8) → ls_yfin t D = ls_yfin t C → wY_finished_0 p x f_most f_n f_stored f_nm f_nEnv f_base f_ns f_no f_pc f_mode f_err f_errAt f_ticks f_calls f_outs f_resK f_part f_resV f_cnt f_full f_flag f_need a_tk a_tv a_tp a_mName a_mKind a_mCount a_mPar a_mAt a_vName a_vDecl a_vKind a_vVal a_sk a_sv a_oKind a_oAt a_oArgs a_cKind a_cA a_cB a_outK a_outV (D.length + 1) (nI D.length) := by
    intro D
    induction D with
    | nil => intro _ _ _ e; exact br_t (by decide) (h0 [] e.symm trivial (by simp))
    | cons e r ih =>
      intro hS hl hd he
      have hl' : r.length + 1 ≤ C.length := hl
      obtain ⟨d1, d2, d3⟩ := hd e (List.mem_cons_self ..)
      have iv : vp_in (nI r.length) 700 := vp_in_nI (by omega) (by decide)
      have ei : nI (e :: r : List (Nat × Nat)).length - 1 = nI r.length := nI_pred r.length
      have K : (e.1 = 2 ∨ 3 < e.1) → wY_finished_37 p (wY_finished_0 p x f_most f_n f_stored f_nm f_nEnv f_base f_ns f_no f_pc f_mode f_err f_errAt f_ticks f_calls f_outs f_resK f_part f_resV f_cnt f_full f_flag f_need a_tk a_tv a_tp a_mName a_mKind a_mCount a_mPar a_mAt a_vName a_vDecl a_vKind a_vVal a_sk a_sv a_oKind a_oAt a_oArgs a_cKind a_cA a_cB a_outK a_outV (r.length + 1)) x f_most f_n f_stored f_nm f_nEnv f_base f_ns f_no (nI (e :: r : List (Nat × Nat)).length) f_pc f_mode f_err f_errAt f_ticks f_calls f_outs f_resK f_part f_resV f_cnt f_full f_flag f_need a_tk a_tv a_tp a_mName a_mKind a_mCount a_mPar a_mAt a_vName a_vDecl a_vKind a_vVal a_sk a_sv a_oKind a_oAt a_oArgs a_cKind a_cA a_cB a_outK a_outV := by
        intro h23
        unfold wY_finished_37
        rw [ei]
        refine ⟨iv, ?_⟩
        rw [nI_clamp (by omega), hS.1]
        have GO : ¬ (e.1 = 4 ∧ t = 7) → wY_finished_0 p x f_most f_n f_stored f_nm f_nEnv f_base f_ns f_no f_pc f_mode f_err f_errAt f_ticks f_calls f_outs f_resK f_part f_resV f_cnt f_full f_flag f_need a_tk a_tv a_tp a_mName a_mKind a_mCount a_mPar a_mAt a_vName a_vDecl a_vKind a_vVal a_sk a_sv a_oKind a_oAt a_oArgs a_cKind a_cA a_cB a_outK a_outV (r.length + 1) (nI r.length) := fun h =>
          ih hS.2.2 (by omega) (fun e he => hd e (List.mem_cons_of_mem _ he)) (by rw [← he]; simp only [ls_yfin]; rw [if_pos h23, if_neg h])
        by_cases q4 : e.1 = 4
        · refine br_t ((ls_yn (by omega) (by decide)).mpr q4) ?_
          by_cases t7 : t = 7
          · refine br_t ?_ (h1 (e :: r) (by rw [← he]; simp only [ls_yfin]; rw [if_pos h23, if_pos ⟨q4, t7⟩]) hS hl)
            rcases hxt with h | ⟨_, h⟩
            · rw [h, t7]; rfl
            · omega
          · refine br_f ?_ (nm_e (GO (fun h => t7 h.2)))
            rcases hxt with h | ⟨h, _⟩
            · rw [h]; exact mt (ls_yn (w := 7) ht (by decide)).mp t7
            · rw [h]; decide
        · exact br_f (mt (ls_yn (w := 4) (by omega) (by decide)).mp q4) (nm_e (GO (fun h => q4 h.1)))
      have Z : ¬ (e.1 = 2 ∨ 3 < e.1) → p 0 (f_most, f_n, f_stored, f_nm, f_nEnv, f_base, f_ns, f_no, nI (e :: r : List (Nat × Nat)).length, f_pc, f_mode, f_err, f_errAt, f_ticks, f_calls, f_outs, f_resK, f_part, f_resV, f_cnt, f_full, f_flag, f_need, a_tk, a_tv, a_tp, a_mName, a_mKind, a_mCount, a_mPar, a_mAt, a_vName, a_vDecl, a_vKind, a_vVal, a_sk, a_sv, a_oKind, a_oAt, a_oArgs, a_cKind, a_cA, a_cB, a_outK, a_outV) := fun h =>
        h0 (e :: r) (by rw [← he]; simp only [ls_yfin]; rw [if_neg h]) hS hl
      refine br_f (nI_nle (n := r.length + 1) (by omega) (by omega)) ?_
      rw [ei]
      refine ⟨iv, ?_⟩
      rw [nI_clamp (by omega), hS.1]
      by_cases q2 : e.1 = 2
      · exact br_t ((ls_yn (by omega) (by decide)).mpr q2) (K (Or.inl q2))
      · refine br_f (mt (ls_yn (w := 2) (by omega) (by decide)).mp q2) ⟨iv, ?_⟩
        by_cases q3 : 3 < e.1
        · exact br_f (nI_ge (a := 3) q3 (by omega)) (K (Or.inr q3))
        · exact br_t (nI_le (b := 3) (by omega) (by decide)) (Z (fun h => h.elim q2 q3))
  exact ⟨_, H C hC (Nat.le_refl _) hx rfl⟩
end
section
variable {v0 v : SY} {post : Int32 → SY → Prop} {t : Nat}
set_option maxHeartbeats 200000 in
theorem ls_yfin_sub {t : Nat} : ∀ {C D : List (Nat × Nat)} {b : Bool}, ls_yfin t C = (b, D) → (∀ e ∈ D, e ∈ C) ∧ (b = true → D ≠ [])
  | [], D, b, h => by
    have h' : (false, ([] : List (Nat × Nat))) = (b, D) := h
    injection h' with h1 h2
    subst h1 h2
    exact ⟨fun e he => he, fun h => by cases h⟩
  | e :: r, D, b, h => by
    have h' : (if e.1 = 2 ∨ 3 < e.1 then (if e.1 = 4 ∧ t = 7 then (true, e :: r) else ls_yfin t r) else (false, e :: r)) = (b, D) := h
    split at h'
    · split at h'
      · injection h' with h1 h2
        subst h1 h2
        exact ⟨fun e he => he, fun _ => List.cons_ne_nil _ _⟩
      · obtain ⟨i1, i2⟩ := ls_yfin_sub h'
        exact ⟨fun e he => List.mem_cons_of_mem _ (i1 e he), i2⟩
    · injection h' with h1 h2
      subst h1 h2
      exact ⟨fun e he => he, fun h => by cases h⟩
set_option maxHeartbeats 200000 in
theorem hy_goesOn {nd fl ct fu : Nat} {C : List (Nat × Nat)} {O N : List Nat} {nx : Int32} (h : ls_YR v0 (nd, C, O, fl, ct, fu, N) v) (hb : ls_yb (nd, C, O, fl, ct, fu, N)) (hcN : ∀ e ∈ C, e.2 ≤ N.length) (hO1 : nd = 15 ∨ nd = 17 → O ≠ []) (ht : t < 90) (hp : ls_yout v0 (ls_yg (nd, C, O, fl, ct, fu, N) t) post) : wpY_goesOn post v (nI t) nx := by
  obtain ⟨f_most, f_n, f_stored, f_nm, f_nEnv, f_base, f_ns, f_no, f_nc, f_pc, f_mode, f_err, f_errAt, f_ticks, f_calls, f_outs, f_resK, f_part, f_resV, f_cnt, f_full, f_flag, f_need, a_tk, a_tv, a_tp, a_mName, a_mKind, a_mCount, a_mPar, a_mAt, a_vName, a_vDecl, a_vKind, a_vVal, a_sk, a_sv, a_oKind, a_oAt, a_oArgs, a_cKind, a_cA, a_cB, a_outK, a_outV⟩ := v
  obtain ⟨hk, rfl, rfl, rfl, rfl, rfl, rfl, rfl, hC, hO, hN⟩ := h
  obtain ⟨b1, bC, bO, bN, bfl, bct, bfu, hc, hx, ho⟩ := hb
  have TN : ∀ w, w < 100 → t ≠ w → ¬ nI t = nI w := fun w hw h => mt (ls_yn (by omega) hw).mp h
  have TE : ∀ w, w < 100 → t = w → nI t = nI w := fun w hw h => by rw [h]
  have ND : ∀ w, w < 100 → nd ≠ w → ¬ nI nd = nI w := fun w hw h => mt (ls_yn (by omega) hw).mp h
  have NE : ∀ w, w < 100 → nd = w → nI nd = nI w := fun w hw h => by rw [h]
  unfold wpY_goesOn
  dsimp only
  unfold ls_yg at hp
  dsimp only at hp
  by_cases q0 : nd = 0
  · subst q0
    rw [if_pos rfl] at hp
    refine br_t rfl ?_
    refine hy_finished hc hC bC (by omega) (Or.inl rfl) (fun D hD hS hl => ?_) (fun D hD hS hl => ?_)
    · rw [hD] at hp
      dsimp only at hp
      obtain ⟨s1, s2⟩ := ls_yfin_sub hD
      cases D with
      | nil => exact absurd rfl (s2 rfl)
      | cons e r =>
        have hl' : r.length + 1 ≤ C.length := hl
        refine br_f (by decide) ?_
        rw [show nI (e :: r : List (Nat × Nat)).length - 1 = nI r.length from nI_pred r.length]
        refine ⟨vp_in_nI (by omega) (by decide), nm_r (by rw [nI_clamp (by omega), show vp_nar .byte 5 = nI 5 from ls_vnb (n := 5) (by decide)]) ?_⟩
        exact hp _ ⟨hk, rfl, rfl, rfl, rfl, rfl, rfl, rfl, ⟨pk_us, hS.2.1, ls_StC_up1 (Nat.le_refl _) hS.2.2⟩, hO, hN⟩
    · rw [hD] at hp
      dsimp only at hp
      obtain ⟨s1, s2⟩ := ls_yfin_sub hD
      refine br_t rfl (br_t rfl ?_)
      exact hy_beg true hk hS hO hN (by omega) bO bN (fun e he => hc e (s1 e he)) (fun e he => hcN e (s1 e he)) ho (by omega) 0 rfl (ls_yout_nar hp)
  rw [if_neg q0] at hp
  refine br_f (ND 0 (by decide) q0) (br_f (ND 0 (by decide) q0) ?_)
  by_cases q1 : nd = 1
  · subst q1
    rw [if_pos rfl] at hp
    refine br_t rfl ?_
    exact hy_beg false hk hC hO hN bC bO bN hc hcN ho (by omega) 1 rfl (ls_yout_nar hp)
  rw [if_neg q1] at hp
  refine br_f (ND 1 (by decide) q1) ?_
  have W3 : fu < 100 → ∀ c : Nat, c < 200 → ls_yout v0 (ls_ywith 3 t C O fl c fu N) post → wY_goesOn_80 post (nI t) f_most f_n f_stored f_nm (nI N.length) f_base f_ns (nI O.length) (nI C.length) f_pc f_mode f_err f_errAt f_ticks f_calls f_outs f_resK f_part f_resV (nI c) (nI fu) (nI fl) 3 a_tk a_tv a_tp a_mName a_mKind a_mCount a_mPar a_mAt a_vName a_vDecl a_vKind a_vVal a_sk a_sv a_oKind a_oAt a_oArgs a_cKind a_cA a_cB a_outK a_outV := fun bfu c c200 hp =>
    br_t rfl (hy_with (nd := 3) hk hC hO hN bO ho (by omega) (fun h => by omega) c200 (by decide) bfu (fun h => by omega) (ls_yout_nar hp))
  have G80 : ¬ (nd = 7 ∧ t ≠ 20) → wY_goesOn_80 post (nI t) f_most f_n f_stored f_nm (nI N.length) f_base f_ns (nI O.length) (nI C.length) f_pc f_mode f_err f_errAt f_ticks f_calls f_outs f_resK f_part f_resV (nI ct) (nI fu) (nI fl) (nI nd) a_tk a_tv a_tp a_mName a_mKind a_mCount a_mPar a_mAt a_vName a_vDecl a_vKind a_vVal a_sk a_sv a_oKind a_oAt a_oArgs a_cKind a_cA a_cB a_outK a_outV := by
    intro h7
    rw [if_neg h7] at hp
    have G113 : (nd = 3 ∨ nd = 4 ∨ nd = 5 ∨ 15 ≤ nd) → wY_goesOn_113 post (nI t) f_most f_n f_stored f_nm (nI N.length) f_base f_ns (nI O.length) (nI C.length) f_pc f_mode f_err f_errAt f_ticks f_calls f_outs f_resK f_part f_resV (nI ct) (nI fu) (nI fl) (nI nd) a_tk a_tv a_tp a_mName a_mKind a_mCount a_mPar a_mAt a_vName a_vDecl a_vKind a_vVal a_sk a_sv a_oKind a_oAt a_oArgs a_cKind a_cA a_cB a_outK a_outV := by
      intro h
      rw [if_pos h] at hp
      exact hy_with hk hC hO hN bO ho (by omega) bfl (bct h) b1 (bfu (by omega)) hO1 (ls_yout_nar hp)
    by_cases q3 : nd = 3
    · exact br_t (NE 3 (by decide) q3) (G113 (Or.inl q3))
    refine br_f (ND 3 (by decide) q3) ?_
    by_cases q4 : nd = 4
    · exact br_t (NE 4 (by decide) q4) (G113 (Or.inr (Or.inl q4)))
    refine br_f (ND 4 (by decide) q4) ?_
    by_cases q5 : nd = 5
    · exact br_t (NE 5 (by decide) q5) (G113 (Or.inr (Or.inr (Or.inl q5))))
    refine br_f (ND 5 (by decide) q5) ?_
    by_cases q15 : 15 ≤ nd
    · exact br_f (nI_nlt (b := 15) q15 (by omega)) (G113 (Or.inr (Or.inr (Or.inr q15))))
    rw [if_neg (by omega)] at hp
    refine br_t (nI_lt (b := 15) (by omega) (by decide)) ?_
    by_cases q2 : nd = 2
    · rw [if_pos q2] at hp
      refine br_t (NE 2 (by decide) q2) ?_
      by_cases t15 : t = 15
      · rw [if_pos t15] at hp
        exact br_t (TE 15 (by decide) t15) (hp _ ⟨hk, rfl, rfl, rfl, rfl, rfl, rfl, rfl, hC, hO, hN⟩)
      · rw [if_neg t15] at hp
        exact br_f (TN 15 (by decide) t15) (hp _ hk)
    rw [if_neg q2] at hp
    refine br_f (ND 2 (by decide) q2) ?_
    have G167 : (nd = 6 ∨ nd = 7) → wY_goesOn_167 post (nI t) f_most f_n f_stored f_nm (nI N.length) f_base f_ns (nI O.length) (nI C.length) f_pc f_mode f_err f_errAt f_ticks f_calls f_outs f_resK f_part f_resV (nI ct) (nI fu) (nI fl) (nI nd) a_tk a_tv a_tp a_mName a_mKind a_mCount a_mPar a_mAt a_vName a_vDecl a_vKind a_vVal a_sk a_sv a_oKind a_oAt a_oArgs a_cKind a_cA a_cB a_outK a_outV := by
      intro h
      rw [if_pos h] at hp
      by_cases t20 : t = 20
      · rw [if_pos t20] at hp
        exact br_t (TE 20 (by decide) t20) (hp _ ⟨hk, rfl, rfl, rfl, rfl, rfl, rfl, rfl, hC, hO, hN⟩)
      · rw [if_neg t20] at hp
        exact br_f (TN 20 (by decide) t20) (hp _ hk)
    by_cases q6 : nd = 6
    · exact br_t (NE 6 (by decide) q6) (G167 (Or.inl q6))
    refine br_f (ND 6 (by decide) q6) ?_
    by_cases q7 : nd = 7
    · exact br_t (NE 7 (by decide) q7) (G167 (Or.inr q7))
    rw [if_neg (fun h => h.elim q6 q7)] at hp
    refine br_f (ND 7 (by decide) q7) ?_
    exact hy_hd hk hC hO hN bC bN hc hcN hx (by omega) ⟨by omega, by omega⟩ (ls_yout_nar hp)
  by_cases q7 : nd = 7
  · refine br_t (NE 7 (by decide) q7) ?_
    by_cases t20 : t = 20
    · exact br_t (TE 20 (by decide) t20) (G80 (fun h => h.2 t20))
    · rw [if_pos ⟨q7, t20⟩] at hp
      exact br_f (TN 20 (by decide) t20) (W3 (bfu (by omega)) 0 (by decide) hp)
  · exact br_f (ND 7 (by decide) q7) (G80 (fun h => q7 h.1))
end
