section
variable {f_most f_n f_stored f_nm f_nEnv f_base f_ns f_no f_nc f_pc f_mode f_err f_errAt f_ticks f_calls f_outs f_resK f_part f_cnt f_full f_flag f_need : Int32}
variable {f_resV : Int64}
variable {a_tk a_tp a_mName a_mKind a_mCount a_mPar a_mAt a_vName a_vDecl a_vKind a_sk a_oKind a_oAt a_oArgs a_cKind a_cA a_cB a_outK : Nat → Int32}
variable {a_tv a_vVal a_sv a_outV : Nat → Int64}
variable {v0 : SY} {post : Int32 → SY → Prop} {q : Int32 → Prop} {t nm nd ct fu fl : Nat} {C : List (Nat × Nat)} {O N : List Nat}
set_option maxHeartbeats 200000 in
theorem hy_with115 (hk : ((f_most, f_n, f_stored, f_nm, f_base, f_ns, f_pc, f_mode, f_err, f_errAt, f_ticks, f_calls, f_outs, f_resK, f_part, f_resV), (a_tk, a_tv, a_tp, a_mName, a_mKind, a_mCount, a_mPar, a_mAt), (a_vDecl, a_vKind, a_vVal, a_sk, a_sv, a_oKind, a_oAt, a_cB, a_outK, a_outV)) = ls_ykept v0) (hC : ls_StC a_cKind a_cA C) (hO : ls_StN a_oArgs O) (hN : ls_StN a_vName N) (bO : O.length < 399) (ho : ∀ x ∈ O, x ≤ 3) (ht : t < 100) (hfl : nd = 5 → fl < 3) (hct : ct < 200) (hnd : nd < 18) (hO1 : nd = 15 ∨ nd = 17 → O ≠ [])
    (hno : ¬ (nd = 5 ∧ O = [] ∧ (t = 20 ∧ (fu = 20 ∨ fu = 11) ∨ t = 16 ∧ (fu = 6 ∨ fu = 8 ∨ fu = 12)))) (hp : ls_yout v0 (ls_ywith nd t C O fl ct fu N) post) : wY_within_115 post (nI t) (nI nd) (nI fl) f_most f_n f_stored f_nm (nI N.length) f_base f_ns (nI O.length) (nI C.length) f_pc f_mode f_err f_errAt f_ticks f_calls f_outs f_resK f_part f_resV (nI ct) (nI fu) 0 (nI nd) a_tk a_tv a_tp a_mName a_mKind a_mCount a_mPar a_mAt a_vName a_vDecl a_vKind a_vVal a_sk a_sv a_oKind a_oAt a_oArgs a_cKind a_cA a_cB a_outK a_outV := by
  unfold ls_ywith at hp
  rw [if_neg hno] at hp
  unfold wY_within_115
  rw [nI_1]
  refine nm_e ?_
  have ND : ∀ w, w < 100 → nd ≠ w → ¬ nI nd = nI w := fun w hw h => mt (ls_yn (by omega) hw).mp h
  by_cases c32 : 32 < ct + 1
  · rw [if_pos c32] at hp
    exact br_f (nI_ge (a := 32) c32 (by omega)) (hp _ hk)
  rw [if_neg c32] at hp
  refine br_t (nI_le (b := 32) (by omega) (by decide)) ?_
  by_cases q5 : nd = 5
  · subst q5
    rw [if_pos rfl] at hp
    exact br_t rfl (hy_aft hk hC hO hN bO ho ht (hfl rfl) (ls_yout_nar hp))
  rw [if_neg q5] at hp
  refine br_f (ND 5 (by decide) q5) ?_
  by_cases q16 : nd = 16
  · subst q16
    rw [if_pos rfl] at hp
    refine br_t rfl ?_
    by_cases t16 : t = 16
    · rw [if_pos t16] at hp
      exact br_t ((ls_yn ht (by decide)).mpr t16) (hp _ ⟨hk, rfl, rfl, rfl, rfl, rfl, rfl, rfl, hC, hO, hN⟩)
    · rw [if_neg t16] at hp
      exact br_f (mt (ls_yn ht (by decide)).mp t16) (hp _ hk)
  rw [if_neg q16] at hp
  refine br_f (ND 16 (by decide) q16) ?_
  have TL : O ≠ [] → nI O.length - 1 = nI O.tail.length ∧ ls_StN a_oArgs O.tail := fun h => by
    cases O with
    | nil => exact absurd rfl h
    | cons o r => exact ⟨nI_pred r.length, hO.2⟩
  have OP : ls_yout v0 (ls_yopd t (if nd = 4 then 1 else 2) C O (ct + 1) fu N) post → wY_within_226 post (nI t) (nI nd) f_most f_n f_stored f_nm (nI N.length) f_base f_ns (nI O.length) (nI C.length) f_pc f_mode f_err f_errAt f_ticks f_calls f_outs f_resK f_part f_resV (nI (ct + 1)) (nI fu) 0 (nI nd) a_tk a_tv a_tp a_mName a_mKind a_mCount a_mPar a_mAt a_vName a_vDecl a_vKind a_vVal a_sk a_sv a_oKind a_oAt a_oArgs a_cKind a_cA a_cB a_outK a_outV := by
    intro hp
    by_cases q4 : nd = 4
    · rw [if_pos q4] at hp
      exact br_t (by rw [q4]; rfl) (hy_opd hk hC hO hN bO ht (ls_yout_nar hp))
    · rw [if_neg q4] at hp
      exact br_f (ND 4 (by decide) q4) (hy_opd hk hC hO hN bO ht (ls_yout_nar hp))
  have W197 : ls_yout v0 (if nd = 15 ∧ t < 5 then some (16, C, O.tail, 0, ct + 1, fu, N) else ls_yopd t (if nd = 4 then 1 else 2) C O (ct + 1) fu N) post → wY_within_197 post (nI t) (nI nd) f_most f_n f_stored f_nm (nI N.length) f_base f_ns (nI O.length) (nI C.length) f_pc f_mode f_err f_errAt f_ticks f_calls f_outs f_resK f_part f_resV (nI (ct + 1)) (nI fu) 0 (nI nd) a_tk a_tv a_tp a_mName a_mKind a_mCount a_mPar a_mAt a_vName a_vDecl a_vKind a_vVal a_sk a_sv a_oKind a_oAt a_oArgs a_cKind a_cA a_cB a_outK a_outV := by
    intro hp
    by_cases q15 : nd = 15
    · refine br_t (by rw [q15]; rfl) ?_
      by_cases t5 : t < 5
      · rw [if_pos ⟨q15, t5⟩] at hp
        obtain ⟨e1, e2⟩ := TL (hO1 (Or.inl q15))
        exact br_f (nI_ge (b := 5) t5 (by decide)) (nm_r e1 (hp _ ⟨hk, rfl, rfl, rfl, rfl, rfl, rfl, rfl, hC, e2, hN⟩))
      · rw [if_neg (fun h => t5 h.2)] at hp
        exact br_t (nI_le (a := 5) (by omega) (by omega)) (OP hp)
    · rw [if_neg (fun h => q15 h.1)] at hp
      exact br_f (ND 15 (by decide) q15) (OP hp)
  by_cases q17 : nd = 17
  · refine br_t (by rw [q17]; rfl) ?_
    by_cases t16 : t = 16
    · rw [if_pos ⟨q17, t16⟩] at hp
      obtain ⟨e1, e2⟩ := TL (hO1 (Or.inr q17))
      exact br_t ((ls_yn ht (by decide)).mpr t16) (nm_r e1 (hp _ ⟨hk, rfl, rfl, rfl, rfl, rfl, rfl, rfl, hC, e2, hN⟩))
    · rw [if_neg (fun h => t16 h.2)] at hp
      exact br_f (mt (ls_yn ht (by decide)).mp t16) (W197 hp)
  · rw [if_neg (fun h => q17 h.1)] at hp
    exact br_f (ND 17 (by decide) q17) (W197 hp)
set_option maxHeartbeats 200000 in
theorem hy_with (hk : ((f_most, f_n, f_stored, f_nm, f_base, f_ns, f_pc, f_mode, f_err, f_errAt, f_ticks, f_calls, f_outs, f_resK, f_part, f_resV), (a_tk, a_tv, a_tp, a_mName, a_mKind, a_mCount, a_mPar, a_mAt), (a_vDecl, a_vKind, a_vVal, a_sk, a_sv, a_oKind, a_oAt, a_cB, a_outK, a_outV)) = ls_ykept v0) (hC : ls_StC a_cKind a_cA C) (hO : ls_StN a_oArgs O) (hN : ls_StN a_vName N) (bO : O.length < 399) (ho : ∀ x ∈ O, x ≤ 3) (ht : t < 100) (hfl : nd = 5 → fl < 3) (hct : ct < 200) (hnd : nd < 18) (hfu : fu < 100) (hO1 : nd = 15 ∨ nd = 17 → O ≠ [])
    (hp : ls_yout v0 (ls_ywith nd t C O fl ct fu N) post) : wpY_within post (f_most, f_n, f_stored, f_nm, nI N.length, f_base, f_ns, nI O.length, nI C.length, f_pc, f_mode, f_err, f_errAt, f_ticks, f_calls, f_outs, f_resK, f_part, f_resV, nI ct, nI fu, nI fl, nI nd, a_tk, a_tv, a_tp, a_mName, a_mKind, a_mCount, a_mPar, a_mAt, a_vName, a_vDecl, a_vKind, a_vVal, a_sk, a_sv, a_oKind, a_oAt, a_oArgs, a_cKind, a_cA, a_cB, a_outK, a_outV) (nI t) := by
  have K : ¬ (nd = 5 ∧ O = [] ∧ (t = 20 ∧ (fu = 20 ∨ fu = 11) ∨ t = 16 ∧ (fu = 6 ∨ fu = 8 ∨ fu = 12))) → wY_within_115 post (nI t) (nI nd) (nI fl) f_most f_n f_stored f_nm (nI N.length) f_base f_ns (nI O.length) (nI C.length) f_pc f_mode f_err f_errAt f_ticks f_calls f_outs f_resK f_part f_resV (nI ct) (nI fu) 0 (nI nd) a_tk a_tv a_tp a_mName a_mKind a_mCount a_mPar a_mAt a_vName a_vDecl a_vKind a_vVal a_sk a_sv a_oKind a_oAt a_oArgs a_cKind a_cA a_cB a_outK a_outV :=
    fun h => hy_with115 hk hC hO hN bO ho ht hfl hct hnd hO1 h hp
  have ND : ∀ w, w < 100 → nd ≠ w → ¬ nI nd = nI w := fun w hw h => mt (ls_yn (by omega) hw).mp h
  have FU : ∀ w, w < 100 → fu ≠ w → ¬ nI fu = nI w := fun w hw h => mt (ls_yn (by omega) hw).mp h
  unfold wpY_within
  dsimp only
  by_cases q5 : nd = 5
  · refine br_t (by rw [q5]; rfl) ?_
    cases O with
    | nil =>
      refine br_t rfl ?_
      have D84 : (t = 20 ∧ (fu = 20 ∨ fu = 11) ∨ t = 16 ∧ (fu = 6 ∨ fu = 8 ∨ fu = 12)) → wY_within_84 post (nI t) f_most f_n f_stored f_nm (nI N.length) f_base f_ns (nI 0) (nI C.length) f_pc f_mode f_err f_errAt f_ticks f_calls f_outs f_resK f_part f_resV (nI ct) (nI fu) 0 (nI nd) a_tk a_tv a_tp a_mName a_mKind a_mCount a_mPar a_mAt a_vName a_vDecl a_vKind a_vVal a_sk a_sv a_oKind a_oAt a_oArgs a_cKind a_cA a_cB a_outK a_outV := by
        intro h
        unfold ls_ywith at hp
        rw [if_pos ⟨q5, rfl, h⟩] at hp
        by_cases t20 : t = 20
        · rw [if_pos t20] at hp
          exact br_t ((ls_yn ht (by decide)).mpr t20) (hp _ ⟨hk, rfl, rfl, rfl, rfl, rfl, rfl, rfl, hC, hO, hN⟩)
        · rw [if_neg t20] at hp
          refine br_f (mt (ls_yn ht (by decide)).mp t20) ?_
          by_cases f12 : fu = 12
          · rw [if_pos f12] at hp
            exact br_t ((ls_yn hfu (by decide)).mpr f12) (hp _ ⟨hk, rfl, rfl, rfl, rfl, rfl, rfl, rfl, hC, hO, hN⟩)
          · rw [if_neg f12] at hp
            exact br_f (FU 12 (by decide) f12) (hp _ ⟨hk, rfl, rfl, rfl, rfl, rfl, rfl, rfl, hC, hO, hN⟩)
      have D51 : ¬ (t = 20 ∧ (fu = 20 ∨ fu = 11)) → wY_within_51 post (nI t) (nI nd) (nI fl) f_most f_n f_stored f_nm (nI N.length) f_base f_ns (nI 0) (nI C.length) f_pc f_mode f_err f_errAt f_ticks f_calls f_outs f_resK f_part f_resV (nI ct) (nI fu) 0 (nI nd) a_tk a_tv a_tp a_mName a_mKind a_mCount a_mPar a_mAt a_vName a_vDecl a_vKind a_vVal a_sk a_sv a_oKind a_oAt a_oArgs a_cKind a_cA a_cB a_outK a_outV := by
        intro h
        refine br_c (fun t16 => ?_) (fun t16 => K ?_)
        · have t16 := (ls_yn ht (by decide)).mp t16
          refine br_c (fun f => D84 (Or.inr ⟨t16, Or.inl ((ls_yn hfu (by decide)).mp f)⟩)) (fun f6 => br_c (fun f => D84 (Or.inr ⟨t16, Or.inr (Or.inl ((ls_yn hfu (by decide)).mp f))⟩)) (fun f8 => br_c (fun f => D84 (Or.inr ⟨t16, Or.inr (Or.inr ((ls_yn hfu (by decide)).mp f))⟩)) (fun f12 => K ?_)))
          intro ⟨_, _, g⟩
          rcases g with g | ⟨_, g | g | g⟩
          · exact h g
          · exact f6 ((ls_yn hfu (by decide)).mpr g)
          · exact f8 ((ls_yn hfu (by decide)).mpr g)
          · exact f12 ((ls_yn hfu (by decide)).mpr g)
        · intro ⟨_, _, g⟩
          rcases g with g | ⟨g, _⟩
          · exact h g
          · exact t16 ((ls_yn ht (by decide)).mpr g)
      refine br_c (fun t20 => ?_) (fun t20 => D51 (fun h => t20 ((ls_yn ht (by decide)).mpr h.1)))
      have t20 := (ls_yn ht (by decide)).mp t20
      refine br_c (fun f => D84 (Or.inl ⟨t20, Or.inl ((ls_yn hfu (by decide)).mp f)⟩)) (fun f20 => br_c (fun f => D84 (Or.inl ⟨t20, Or.inr ((ls_yn hfu (by decide)).mp f)⟩)) (fun f11 => D51 ?_))
      intro ⟨_, g⟩
      rcases g with g | g
      · exact f20 ((ls_yn hfu (by decide)).mpr g)
      · exact f11 ((ls_yn hfu (by decide)).mpr g)
    | cons o r =>
      exact br_f (nI_ne0 (n := r.length + 1) (by omega) (by have : r.length + 1 < 399 := bO; omega)) (K (fun h => List.cons_ne_nil _ _ h.2.1))
  · exact br_f (ND 5 (by decide) q5) (K (fun h => q5 h.1))
set_option maxHeartbeats 200000 in
theorem hy_open {k : Nat} {p : SY → Prop} (hk5 : k < 100) (bC : C.length < 699) (bN : N.length ≤ 8)
    (hp : p (f_most, f_n, f_stored, f_nm, nI N.length, f_base, f_ns, f_no, nI (C.length + 1), f_pc, f_mode, f_err, f_errAt, f_ticks, f_calls, f_outs, f_resK, f_part, f_resV, f_cnt, f_full, f_flag, f_need, a_tk, a_tv, a_tp, a_mName, a_mKind, a_mCount, a_mPar, a_mAt, a_vName, a_vDecl, a_vKind, a_vVal, a_sk, a_sv, a_oKind, a_oAt, a_oArgs, upd a_cKind C.length (nI k), upd a_cA C.length (nI N.length), a_cB, a_outK, a_outV)) : wpY_openStatement p (f_most, f_n, f_stored, f_nm, nI N.length, f_base, f_ns, f_no, nI C.length, f_pc, f_mode, f_err, f_errAt, f_ticks, f_calls, f_outs, f_resK, f_part, f_resV, f_cnt, f_full, f_flag, f_need, a_tk, a_tv, a_tp, a_mName, a_mKind, a_mCount, a_mPar, a_mAt, a_vName, a_vDecl, a_vKind, a_vVal, a_sk, a_sv, a_oKind, a_oAt, a_oArgs, a_cKind, a_cA, a_cB, a_outK, a_outV) (nI k) := by
  have iv : vp_in (nI C.length) 700 := vp_in_nI (by omega) (by decide)
  have ei : (nI C.length).toNatClampNeg = C.length := nI_clamp (by omega)
  exact ⟨iv, nm_r (by rw [ei, ls_vnb2 (by omega)]) (nm_r (nI_1 _) ⟨iv, nm_r (by rw [ei, ls_vns2 (by omega)]) hp⟩)⟩
set_option maxHeartbeats 200000 in
theorem hy_inside (hC : ls_StC a_cKind a_cA C) (bC : C.length < 699) (hc : ∀ e ∈ C, 1 ≤ e.1 ∧ e.1 ≤ 5 ∧ e.2 ≤ 8) (h1 : ls_yins C = true → q 1) (h0 : ls_yins C = false → q 0) : wpY_inside q (f_most, f_n, f_stored, f_nm, f_nEnv, f_base, f_ns, f_no, nI C.length, f_pc, f_mode, f_err, f_errAt, f_ticks, f_calls, f_outs, f_resK, f_part, f_resV, f_cnt, f_full, f_flag, f_need, a_tk, a_tv, a_tp, a_mName, a_mKind, a_mCount, a_mPar, a_mAt, a_vName, a_vDecl, a_vKind, a_vVal, a_sk, a_sv, a_oKind, a_oAt, a_oArgs, a_cKind, a_cA, a_cB, a_outK, a_outV) 2 := by
  have H : ∀ (D : List (Nat × Nat)), D.length < 699 → ls_StC a_cKind a_cA D → (∀ e ∈ D, 1 ≤ e.1 ∧ e.1 ≤ 5 ∧ e.2 ≤ 8) → ls_yins D = ls_yins C → ∀ x : Int32, (D = [] → x = -1) → (∀ e r, D = e :: r → x = nI r.length) → wY_inside_7 q 2 f_most f_n f_stored f_nm f_nEnv f_base f_ns f_no (nI C.length) f_pc f_mode f_err f_errAt f_ticks f_calls f_outs f_resK f_part f_resV f_cnt f_full f_flag f_need a_tk a_tv a_tp a_mName a_mKind a_mCount a_mPar a_mAt a_vName a_vDecl a_vKind a_vVal a_sk a_sv a_oKind a_oAt a_oArgs a_cKind a_cA a_cB a_outK a_outV (D.length + 1) x := by
    intro D
    induction D with
    | nil =>
      intro _ _ _ e x hx _
      rw [hx rfl]
      exact br_t (by decide) (h0 e.symm)
    | cons e r ih =>
      intro hl hS hd he x _ hx
      have hl' : r.length + 1 < 699 := hl
      rw [hx e r rfl]
      obtain ⟨d1, d2, d3⟩ := hd e (List.mem_cons_self ..)
      have iv : vp_in (nI r.length) 700 := vp_in_nI (by omega) (by decide)
      refine br_f (nI_pos (by omega)) ⟨iv, ?_⟩
      rw [nI_clamp (by omega), hS.1]
      by_cases q3 : e.1 = 3
      · exact br_t ((ls_yn (by omega) (by decide)).mpr q3) (h0 (by rw [← he]; simp [ls_yins, q3]))
      · refine br_f (mt (ls_yn (w := 3) (by omega) (by decide)).mp q3) ⟨iv, ?_⟩
        by_cases q2 : e.1 = 2
        · exact br_t ((ls_yn (by omega) (by decide)).mpr q2) (h1 (by rw [← he]; simp [ls_yins, q2]))
        · refine br_f (mt (ls_yn (w := 2) (by omega) (by decide)).mp q2) (nm_e ?_)
          refine ih (by omega) hS.2.2 (fun e he => hd e (List.mem_cons_of_mem _ he)) (by rw [← he]; simp [ls_yins, q3, q2]) _ (fun hr => ?_) (fun g r2 hr => ?_)
          · subst hr; decide
          · subst hr; exact pk_m1 r2.length
  refine nm_e ⟨_, H C bC hC hc rfl _ (fun h => ?_) (fun e r h => ?_)⟩
  · subst h; decide
  · subst h; exact nI_pred r.length
set_option maxHeartbeats 200000 in
theorem hy_bot (hC : ls_StC a_cKind a_cA C) (hc : ∀ e ∈ C, 1 ≤ e.1 ∧ e.1 ≤ 5 ∧ e.2 ≤ 8) (hne : C ≠ []) : a_cKind 0 = 3 ↔ ls_ybot C = true := by
  induction C with
  | nil => exact absurd rfl hne
  | cons e r ih =>
    cases r with
    | nil =>
      have h0 : a_cKind 0 = nI e.1 := hC.1
      obtain ⟨d1, d2, d3⟩ := hc e (List.mem_cons_self ..)
      rw [h0]
      show nI e.1 = nI 3 ↔ decide (e.1 = 3) = true
      rw [ls_yn (by omega) (by decide)]; simp
    | cons g r2 => exact ih hC.2.2 (fun e he => hc e (List.mem_cons_of_mem _ he)) (List.cons_ne_nil _ _)
end
