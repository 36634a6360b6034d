section
variable {f_most f_n f_stored f_nm f_nEnv f_base f_ns f_no f_nc f_pc f_mode f_err f_errAt f_ticks f_calls f_outs f_resK f_part f_cnt f_full f_flag f_need : Int32}
variable {f_resV : Int64}
variable {a_tk a_tp a_mName a_mKind a_mCount a_mPar a_mAt a_vName a_vDecl a_vKind a_sk a_oKind a_oAt a_oArgs a_cKind a_cA a_cB a_outK : Nat → Int32}
variable {a_tv a_vVal a_sv a_outV : Nat → Int64}
variable {v0 : SY} {post : Int32 → SY → Prop} {q : Int32 → Prop} {t nm nd ct fu fl : Nat} {C : List (Nat × Nat)} {O N : List Nat}
set_option maxHeartbeats 200000 in
theorem ls_StN_dropTo {a : Nat → Int32} {M : List Nat} {x : Nat} (h : ls_StN a M) (hx : x ≤ M.length) : ls_StN a (M.drop (M.length - x)) ∧ (M.drop (M.length - x)).length = x :=
  ⟨ls_StN_drop _ h, by rw [List.length_drop]; omega⟩
set_option maxHeartbeats 200000 in
theorem hy_beg (list : Bool) (hk : ((f_most, f_n, f_stored, f_nm, f_base, f_ns, f_pc, f_mode, f_err, f_errAt, f_ticks, f_calls, f_outs, f_resK, f_part, f_resV), (a_tk, a_tv, a_tp, a_mName, a_mKind, a_mCount, a_mPar, a_mAt), (a_vDecl, a_vKind, a_vVal, a_sk, a_sv, a_oKind, a_oAt, a_cB, a_outK, a_outV)) = ls_ykept v0) (hC : ls_StC a_cKind a_cA C) (hO : ls_StN a_oArgs O) (hN : ls_StN a_vName N) (bC : C.length < 699) (bO : O.length < 399) (bN : N.length ≤ 8) (hc : ∀ e ∈ C, 1 ≤ e.1 ∧ e.1 ≤ 5 ∧ e.2 ≤ 8) (hcN : ∀ e ∈ C, e.2 ≤ N.length) (ho : ∀ x ∈ O, x ≤ 3) (ht : t < 100) (nd : Nat) (hnd : nd = if list then 0 else 1)
    (hp : ls_yout v0 (ls_ybeg list t C O fl ct fu N) post) : wpY_begins post (f_most, f_n, f_stored, f_nm, nI N.length, f_base, f_ns, nI O.length, nI C.length, f_pc, f_mode, f_err, f_errAt, f_ticks, f_calls, f_outs, f_resK, f_part, f_resV, nI ct, nI fu, nI fl, nI nd, a_tk, a_tv, a_tp, a_mName, a_mKind, a_mCount, a_mPar, a_mAt, a_vName, a_vDecl, a_vKind, a_vVal, a_sk, a_sv, a_oKind, a_oAt, a_oArgs, a_cKind, a_cA, a_cB, a_outK, a_outV) (nI t) := by
  have TN : ∀ w, w < 100 → t ≠ w → ¬ nI t = nI w := fun w hw h => mt (ls_yn ht hw).mp h
  have TE : ∀ w, w < 100 → t = w → nI t = nI w := fun w hw h => by rw [h]
  have M : ∀ z : Nat, (z = if list then 1 else 0) → wY_begins_12 post (nI t) (nI z) f_most f_n f_stored f_nm (nI N.length) f_base f_ns (nI O.length) (nI C.length) f_pc f_mode f_err f_errAt f_ticks f_calls f_outs f_resK f_part f_resV (nI ct) (nI fu) (nI fl) (nI nd) a_tk a_tv a_tp a_mName a_mKind a_mCount a_mPar a_mAt a_vName a_vDecl a_vKind a_vVal a_sk a_sv a_oKind a_oAt a_oArgs a_cKind a_cA a_cB a_outK a_outV := by
    intro z hz
    unfold ls_ybeg at hp
    by_cases t20 : t = 20
    · rw [if_pos t20] at hp
      exact br_t (TE 20 (by decide) t20) (hp _ ⟨hk, rfl, rfl, rfl, rfl, rfl, rfl, rfl, hC, hO, hN⟩)
    rw [if_neg t20] at hp
    refine br_f (TN 20 (by decide) t20) ?_
    by_cases t6 : t < 6
    · rw [if_pos t6] at hp
      refine br_f (nI_ge (b := 6) t6 (by decide)) (br_f (nI_ge (b := 6) t6 (by decide)) ?_)
      cases list with
      | true =>
        have : z = 1 := hz
        subst this
        exact ⟨rfl, hp _ ⟨hk, rfl, rfl, rfl, rfl, rfl, rfl, rfl, hC, hO, hN⟩⟩
      | false =>
        have : z = 0 := hz
        subst this
        exact ⟨rfl, hp _ hk⟩
    rw [if_neg t6] at hp
    have g6 : (6 : Int32) ≤ nI t := nI_le (a := 6) (by omega) (by omega)
    refine br_t g6 (br_t g6 ?_)
    by_cases t17 : t = 17
    · rw [if_pos t17] at hp
      refine br_t (TE 17 (by decide) t17) (hy_open (k := 1) (by decide) bC bN ?_)
      exact br_t (TE 17 (by decide) t17) (hp _ ⟨hk, rfl, rfl, rfl, rfl, rfl, rfl, rfl, ⟨pk_us, pk_us, ls_StC_up (Nat.le_refl _) hC⟩, hO, hN⟩)
    rw [if_neg t17] at hp
    refine br_f (TN 17 (by decide) t17) (br_f (TN 17 (by decide) t17) ?_)
    by_cases t18 : t = 18
    · rw [if_pos t18] at hp
      refine br_t (TE 18 (by decide) t18) ?_
      cases list with
      | false =>
        have : z = 0 := hz
        subst this
        exact br_t rfl (hp _ hk)
      | true =>
        have : z = 1 := hz
        subst this
        refine br_f (by decide) ?_
        rw [if_pos rfl] at hp
        unfold ls_ycl at hp
        cases C with
        | nil => exact br_t rfl (hp _ hk)
        | cons e r =>
          dsimp only at hp
          have bC' : r.length + 1 < 699 := bC
          refine br_f (nI_ne0 (n := r.length + 1) (by omega) (by omega)) (nm_r (nI_pred r.length) ?_)
          rw [show nI (e :: r : List (Nat × Nat)).length - 1 = nI r.length from nI_pred r.length]
          refine ⟨vp_in_nI (by omega) (by decide), ?_⟩
          rw [nI_clamp (by omega)]
          refine nm_r hC.2.1 ?_
          obtain ⟨s1, s2⟩ := ls_StN_dropTo hN (hcN e (List.mem_cons_self ..))
          cases r with
          | nil =>
            refine br_t (by decide) (hp _ ⟨hk, rfl, rfl, rfl, rfl, rfl, rfl, ?_, trivial, hO, s1⟩)
            rw [s2]
          | cons g r2 =>
            dsimp only at hp
            have bC2 : r2.length + 1 + 1 < 699 := bC'
            refine br_f (nI_nle (n := r2.length + 1) (by omega) (by omega)) ?_
            rw [show nI (g :: r2 : List (Nat × Nat)).length - 1 = nI r2.length from nI_pred r2.length]
            have iv : vp_in (nI r2.length) 700 := vp_in_nI (by omega) (by decide)
            refine ⟨iv, ?_⟩
            rw [nI_clamp (by omega), hC.2.2.1]
            obtain ⟨d1, d2, d3⟩ := hc g (by simp)
            by_cases q3 : g.1 = 3
            · rw [if_pos q3] at hp
              refine br_t ((ls_yn (by omega) (by decide)).mpr q3) (nm_e ⟨iv, ?_⟩)
              refine nm_r hC.2.2.2.1 ?_
              obtain ⟨s3, s4⟩ := ls_StN_dropTo hN (hcN g (by simp))
              refine hp _ ⟨hk, rfl, rfl, rfl, rfl, rfl, rfl, ?_, hC.2.2.2.2, hO, s3⟩
              rw [s4]
            · rw [if_neg q3] at hp
              refine br_f (mt (ls_yn (w := 3) (by omega) (by decide)).mp q3) (hp _ ⟨hk, rfl, rfl, rfl, rfl, rfl, rfl, ?_, hC.2.2, hO, s1⟩)
              rw [s2]
    rw [if_neg t18] at hp
    refine br_f (TN 18 (by decide) t18) ?_
    by_cases t6 : t = 6
    · rw [if_pos t6] at hp
      refine br_t (TE 6 (by decide) t6) (br_f (TN 12 (by decide) (by omega)) (br_t (TE 6 (by decide) t6) (hy_open (k := 4) (by decide) bC bN ?_)))
      subst t6
      exact hp _ ⟨hk, rfl, rfl, rfl, rfl, rfl, rfl, rfl, ⟨pk_us, pk_us, ls_StC_up (Nat.le_refl _) hC⟩, hO, hN⟩
    rw [if_neg t6] at hp
    refine br_f (TN 6 (by decide) t6) ?_
    by_cases t8 : t = 8
    · rw [if_pos t8] at hp
      refine br_t (TE 8 (by decide) t8) (br_f (TN 12 (by decide) (by omega)) (br_f (TN 6 (by decide) t6) (hy_open (k := 2) (by decide) bC bN ?_)))
      subst t8
      exact hp _ ⟨hk, rfl, rfl, rfl, rfl, rfl, rfl, rfl, ⟨pk_us, pk_us, ls_StC_up (Nat.le_refl _) hC⟩, hO, hN⟩
    rw [if_neg t8] at hp
    refine br_f (TN 8 (by decide) t8) ?_
    by_cases t12 : t = 12
    · rw [if_pos t12] at hp
      refine br_t (TE 12 (by decide) t12) (br_t (TE 12 (by decide) t12) ?_)
      subst t12
      exact hp _ ⟨hk, rfl, rfl, rfl, rfl, rfl, rfl, rfl, hC, hO, hN⟩
    rw [if_neg t12] at hp
    refine br_f (TN 12 (by decide) t12) ?_
    by_cases t910 : t = 9 ∨ t = 10
    · rw [if_pos t910] at hp
      refine br_f (TN 11 (by decide) (by omega)) ?_
      have I : wY_begins_233 post f_most f_n f_stored f_nm (nI N.length) f_base f_ns (nI O.length) (nI C.length) f_pc f_mode f_err f_errAt f_ticks f_calls f_outs f_resK f_part f_resV (nI ct) (nI t) (nI fl) (nI 6) a_tk a_tv a_tp a_mName a_mKind a_mCount a_mPar a_mAt a_vName a_vDecl a_vKind a_vVal a_sk a_sv a_oKind a_oAt a_oArgs a_cKind a_cA a_cB a_outK a_outV := by
        refine hy_inside hC bC hc (fun i => ⟨rfl, ?_⟩) (fun i => ⟨rfl, ?_⟩)
        · rw [if_pos i] at hp
          exact hp _ ⟨hk, rfl, rfl, rfl, rfl, rfl, rfl, rfl, hC, hO, hN⟩
        · rw [if_neg (by rw [i]; simp)] at hp
          exact hp _ hk
      rcases t910 with h | h
      · exact br_t (TE 9 (by decide) h) I
      · exact br_f (TN 9 (by decide) (by omega)) (br_t (TE 10 (by decide) h) I)
    rw [if_neg t910] at hp
    have B213 : ∀ z0 : Nat, (t = 11 → z0 = 7) → wY_begins_213 post (nI t) (nI z0) f_most f_n f_stored f_nm (nI N.length) f_base f_ns (nI O.length) (nI C.length) f_pc f_mode f_err f_errAt f_ticks f_calls f_outs f_resK f_part f_resV (nI ct) (nI fu) (nI fl) (nI 0) a_tk a_tv a_tp a_mName a_mKind a_mCount a_mPar a_mAt a_vName a_vDecl a_vKind a_vVal a_sk a_sv a_oKind a_oAt a_oArgs a_cKind a_cA a_cB a_outK a_outV := by
      intro z0 hz0
      refine br_f (TN 9 (by decide) (by omega)) (br_f (TN 10 (by decide) (by omega)) ?_)
      by_cases t11 : t = 11
      · rw [if_pos t11] at hp
        have := hz0 t11
        subst this
        refine br_t (TE 11 (by decide) t11) ?_
        by_cases c0 : C = []
        · subst c0
          exact br_t (by decide) (hp _ hk)
        · have c1 : 0 < C.length := List.length_pos_iff.mpr c0
          refine br_f (nI_nle c1 (by omega)) (br_c (fun h => ?_) (fun h => ?_))
          · rw [if_pos ((hy_bot hC hc c0).mp h)] at hp
            subst t11
            exact hp _ ⟨hk, rfl, rfl, rfl, rfl, rfl, rfl, rfl, hC, hO, hN⟩
          · rw [if_neg (fun g => h ((hy_bot hC hc c0).mpr g))] at hp
            exact hp _ hk
      · rw [if_neg t11] at hp
        refine br_f (TN 11 (by decide) t11) ?_
        exact hy_with (nd := 3) (ct := 0) (fu := 20) hk hC hO hN bO ho ht (fun h => by omega) (by decide) (by decide) (by decide) (fun h => by omega) (ls_yout_nar hp)
    exact br_c (fun h => B213 7 (fun _ => rfl)) (fun h => B213 6 (fun e => absurd (TE 11 (by decide) e) h))
  unfold wpY_begins
  dsimp only
  cases list with
  | true =>
    have : nd = 0 := hnd
    subst this
    exact br_t rfl (M 1 rfl)
  | false =>
    have : nd = 1 := hnd
    subst this
    exact br_f (by decide) (M 0 rfl)
set_option maxHeartbeats 200000 in
theorem hy_declares (hk : ((f_most, f_n, f_stored, f_nm, f_base, f_ns, f_pc, f_mode, f_err, f_errAt, f_ticks, f_calls, f_outs, f_resK, f_part, f_resV), (a_tk, a_tv, a_tp, a_mName, a_mKind, a_mCount, a_mPar, a_mAt), (a_vDecl, a_vKind, a_vVal, a_sk, a_sv, a_oKind, a_oAt, a_cB, a_outK, a_outV)) = ls_ykept v0) (hC : ls_StC a_cKind a_cA C) (hO : ls_StN a_oArgs O) (hN : ls_StN a_vName N) (bC : C.length < 699) (bN : N.length ≤ 8) (hc : ∀ e ∈ C, 1 ≤ e.1 ∧ e.1 ≤ 5 ∧ e.2 ≤ 8) (hcN : ∀ e ∈ C, e.2 ≤ N.length) (hx : ∀ x ∈ N, x < 100) (ht : t < 100) (tn : ls_nam t)
    (hp : ls_yout v0 (ls_ydec nd t C O fl ct fu N) post) : wpY_declares post (f_most, f_n, f_stored, f_nm, nI N.length, f_base, f_ns, nI O.length, nI C.length, f_pc, f_mode, f_err, f_errAt, f_ticks, f_calls, f_outs, f_resK, f_part, f_resV, nI ct, nI fu, nI fl, nI nd, a_tk, a_tv, a_tp, a_mName, a_mKind, a_mCount, a_mPar, a_mAt, a_vName, a_vDecl, a_vKind, a_vVal, a_sk, a_sv, a_oKind, a_oAt, a_oArgs, a_cKind, a_cA, a_cB, a_outK, a_outV) (nI t) := by
  unfold ls_ydec at hp
  rw [if_pos tn] at hp
  have key : ∀ (M : List Nat), ls_StN a_vName M → ∀ i, i < M.length → ∃ x, a_vName i = nI x ∧ x ∈ M ∧ M.take (M.length - i) = M.take (M.length - (i + 1)) ++ [x] := by
    intro M
    induction M with
    | nil => intro _ i hi; exact absurd hi (by simp)
    | cons z r ih =>
      intro hS i hi
      obtain ⟨s1, s2⟩ := hS
      have hi' : i < r.length + 1 := hi
      by_cases q : i = r.length
      · subst q
        refine ⟨z, s1, by simp, ?_⟩
        show (z :: r).take (r.length + 1 - r.length) = (z :: r).take (r.length + 1 - (r.length + 1)) ++ [z]
        rw [show r.length + 1 - r.length = 1 by omega, show r.length + 1 - (r.length + 1) = 0 by omega]; rfl
      · obtain ⟨x, h1, h2, h3⟩ := ih s2 i (by omega)
        refine ⟨x, h1, List.mem_cons_of_mem _ h2, ?_⟩
        have e : (z :: r).length - i = (r.length - i) + 1 := by show r.length + 1 - i = _; omega
        have e' : (z :: r).length - (i + 1) = (r.length - (i + 1)) + 1 := by show r.length + 1 - (i + 1) = _; omega
        rw [e, e', List.take_succ_cons, List.take_succ_cons, h3]; rfl
  have SCAN : ∀ a, ls_ysc C = some a → a ≤ N.length → ∀ d i, i + d = N.length → a ≤ i → (t ∈ N.take (N.length - a) ↔ t ∈ N.take (N.length - i)) → wY_declares_50 post (nI t) f_most f_n f_stored f_nm (nI N.length) f_base f_ns (nI O.length) (nI C.length) f_pc f_mode f_err f_errAt f_ticks f_calls f_outs f_resK f_part f_resV (nI ct) (nI fu) (nI fl) (nI nd) a_tk a_tv a_tp a_mName a_mKind a_mCount a_mPar a_mAt a_vName a_vDecl a_vKind a_vVal a_sk a_sv a_oKind a_oAt a_oArgs a_cKind a_cA a_cB a_outK a_outV (d + 1) (nI i) := by
    intro a ha haN
    rw [ha] at hp
    dsimp only at hp
    intro d
    induction d with
    | zero =>
      intro i hi hai hq
      have e : N.take (N.length - i) = [] := by rw [show N.length - i = 0 by omega]; rfl
      rw [e] at hq
      have nin : ¬ t ∈ N.take (N.length - a) := fun h => by have := hq.mp h; simp at this
      refine br_t (nI_le (by omega) (by omega)) ?_
      by_cases n8 : N.length = 8
      · rw [if_pos (Or.inr n8)] at hp
        exact br_t (by rw [n8]; rfl) (hp _ hk)
      · rw [if_neg (fun h => h.elim nin n8)] at hp
        refine br_f (mt (ls_yn (w := 8) (by omega) (by decide)).mp n8) (nm_r (nI_1 _) ⟨vp_in_nI (by omega) (by decide), nm_r (by rw [nI_clamp (by omega), ls_vnb2 (by omega)]) ?_⟩)
        exact hp _ ⟨hk, rfl, rfl, rfl, rfl, rfl, rfl, rfl, hC, hO, ls_StN_push t hN⟩
    | succ d ih =>
      intro i hi hai hq
      obtain ⟨x, k1, k2, k3⟩ := key N hN i (by omega)
      have hx1 := hx x k2
      refine br_f (nI_ge (by omega) (by omega)) ⟨vp_in_nI (by omega) (by decide), ?_⟩
      rw [nI_clamp (by omega), k1]
      by_cases z : x = t
      · subst z
        rw [if_pos (Or.inl (hq.mpr (by rw [k3]; simp)))] at hp
        exact br_t rfl (hp _ hk)
      · refine br_f (mt (ls_yn (by omega) (by omega)).mp z) (nm_r (nI_1 i) (ih (i + 1) (by omega) (by omega) ?_))
        rw [hq, k3]
        simp only [List.mem_append, List.mem_singleton]
        exact ⟨fun h => h.elim id (fun e => absurd e.symm z), Or.inl⟩
  have H : ∀ (D : List (Nat × Nat)), D.length < 699 → ls_StC a_cKind a_cA D → (∀ e ∈ D, 1 ≤ e.1 ∧ e.1 ≤ 5 ∧ e.2 ≤ 8) → (∀ e ∈ D, e.2 ≤ N.length) → ls_ysc D = ls_ysc C → ∀ x : Int32, (D = [] → x = -1) → (∀ e r, D = e :: r → x = nI r.length) → wY_declares_7 post (nI t) f_most f_n f_stored f_nm (nI N.length) f_base f_ns (nI O.length) (nI C.length) f_pc f_mode f_err f_errAt f_ticks f_calls f_outs f_resK f_part f_resV (nI ct) (nI fu) (nI fl) (nI nd) a_tk a_tv a_tp a_mName a_mKind a_mCount a_mPar a_mAt a_vName a_vDecl a_vKind a_vVal a_sk a_sv a_oKind a_oAt a_oArgs a_cKind a_cA a_cB a_outK a_outV (D.length + 1) x := by
    intro D
    induction D with
    | nil =>
      intro _ _ _ _ e x hx _
      rw [hx rfl]
      rw [← e] at hp
      exact br_t (by decide) (br_f (by decide) (hp _ ⟨hk, rfl, rfl, rfl, rfl, rfl, rfl, rfl, hC, hO, hN⟩))
    | cons e r ih =>
      intro hl hS hd hdN he x _ hx
      have hl' : r.length + 1 < 699 := hl
      rw [hx e r rfl]
      obtain ⟨d1, d2, d3⟩ := hd e (List.mem_cons_self ..)
      have iv : vp_in (nI r.length) 700 := vp_in_nI (by omega) (by decide)
      refine br_f (nI_pos (by omega)) ⟨iv, ?_⟩
      rw [nI_clamp (by omega), hS.1]
      have F : (e.1 = 1 ∨ e.1 = 3) → wY_declares_37 post (nI t) (nI r.length) f_most f_n f_stored f_nm (nI N.length) f_base f_ns (nI O.length) (nI C.length) f_pc f_mode f_err f_errAt f_ticks f_calls f_outs f_resK f_part f_resV (nI ct) (nI fu) (nI fl) (nI nd) a_tk a_tv a_tp a_mName a_mKind a_mCount a_mPar a_mAt a_vName a_vDecl a_vKind a_vVal a_sk a_sv a_oKind a_oAt a_oArgs a_cKind a_cA a_cB a_outK a_outV := by
        intro h13
        have es : ls_ysc C = some e.2 := by rw [← he]; simp [ls_ysc, h13]
        refine br_t (nI_pos' (by omega)) ⟨iv, ?_⟩
        rw [nI_clamp (by omega)]
        refine nm_r hS.2.1 ⟨_, SCAN e.2 es (hdN e (List.mem_cons_self ..)) (N.length - e.2) e.2 (by have := hdN e (List.mem_cons_self ..); omega) (Nat.le_refl _) Iff.rfl⟩
      by_cases q1 : e.1 = 1
      · exact br_t ((ls_yn (by omega) (by decide)).mpr q1) (F (Or.inl q1))
      · refine br_f (mt (ls_yn (w := 1) (by omega) (by decide)).mp q1) ⟨iv, ?_⟩
        by_cases q3 : e.1 = 3
        · exact br_t ((ls_yn (by omega) (by decide)).mpr q3) (F (Or.inr q3))
        · refine br_f (mt (ls_yn (w := 3) (by omega) (by decide)).mp q3) (nm_e ?_)
          refine ih (by omega) hS.2.2 (fun e he => hd e (List.mem_cons_of_mem _ he)) (fun e he => hdN e (List.mem_cons_of_mem _ he)) (by rw [← he]; simp [ls_ysc, q3, q1]) _ (fun hr => ?_) (fun g r2 hr => ?_)
          · subst hr; decide
          · subst hr; exact pk_m1 r2.length
  refine nm_e ⟨_, H C bC hC hc hcN rfl _ (fun h => ?_) (fun e r h => ?_)⟩
  · subst h; decide
  · subst h; exact nI_pred r.length
end
