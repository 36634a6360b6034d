/-! What skip leaves behind in the reference's control is one thing only -/
section
variable {f_most f_n f_stored f_nm f_nEnv f_base f_ns f_no f_nc f_pc f_mode f_err f_errAt f_ticks f_calls f_outs f_resK f_part f_cnt f_full f_flag f_need : Int32}
variable {f_resV : Int64}
variable {a_tk a_tp a_mName a_mKind a_mCount a_mPar a_mAt a_vName a_vDecl a_vKind a_sk a_oKind a_oAt a_oArgs a_cKind a_cA a_cB a_outK : Nat → Int32}
variable {a_tv a_vVal a_sv a_outV : Nat → Int64}
variable {T : Nat → Nat} {e lo hi p q : Nat}
set_option maxHeartbeats 1000000 in
theorem hy_skipE1 {n nc0 x1 : Nat} (ht : ls_tks T e lo hi a_tk) (hn : n < 1000) (hx : x1 < 1000) (hlim : x1 < 140 → e = 0 ∧ hi = n ∧ ∀ p, n ≤ p → T p = 72) (hq : q ≤ hi) (hq2 : 140 ≤ x1 → q < hi) : ∀ (j p : Nat) (S : List Nat) (ck ca cb : Nat → Int32), lo ≤ p → (∀ x ∈ S, 6 ≤ x ∧ x ≤ 8) → ls_S1 ck nc0 S → (∀ i, i < nc0 → ck i = a_cKind i ∧ ca i = a_cA i ∧ cb i = a_cB i) → 3 * (nc0 + S.length) + (hi - p) ≤ 2096 → ls_sk T j p S q →
    ∃ ck' ca' cb' : Nat → Int32, (∀ i, i < nc0 → ck' i = a_cKind i ∧ ca' i = a_cA i ∧ cb' i = a_cB i) ∧ ∀ (pr : Int32 → SY → Prop), pr (nI (q + e)) (f_most, nI n, f_stored, f_nm, f_nEnv, f_base, f_ns, f_no, nI nc0, f_pc, f_mode, f_err, f_errAt, f_ticks, f_calls, f_outs, f_resK, f_part, f_resV, f_cnt, f_full, f_flag, f_need, a_tk, a_tv, a_tp, a_mName, a_mKind, a_mCount, a_mPar, a_mAt, a_vName, a_vDecl, a_vKind, a_vVal, a_sk, a_sv, a_oKind, a_oAt, a_oArgs, ck', ca', cb', a_outK, a_outV) → ∀ fu, j < fu → wY_skip_7 pr (nI x1) (nI nc0) fu (nI (p + e)) f_most (nI n) f_stored f_nm f_nEnv f_base f_ns f_no (nI (nc0 + S.length)) f_pc f_mode f_err f_errAt f_ticks f_calls f_outs f_resK f_part f_resV f_cnt f_full f_flag f_need a_tk a_tv a_tp a_mName a_mKind a_mCount a_mPar a_mAt a_vName a_vDecl a_vKind a_vVal a_sk a_sv a_oKind a_oAt a_oArgs ck ca cb a_outK a_outV := by
  have ht' := ht
  obtain ⟨h384, htk⟩ := ht
  intro j
  induction j with
  | zero => intro p S ck ca cb _ _ _ _ _ h; exact h.elim
  | succ j ih =>
    intro p S ck ca cb hl hS hS1 hbl hbd h
    have pq := ls_sk_lt h
    obtain ⟨e1, e2⟩ := htk p (by omega) (by omega)
    have iv : vp_in (nI (p + e)) 384 := vp_in_nI (by omega) (by decide)
    have ec : (nI (p + e)).toNatClampNeg = p + e := nI_clamp (by omega)
    have N : ∀ p w : Nat, T p < 100 → w < 100 → T p ≠ w → ¬ nI (T p) = nI w := fun p w h2 hw h => mt (ls_k8 h2 hw).mp h
    rcases h with ⟨c68, p2, h2, h3⟩ | ⟨n6, n8, p1, h1, h2⟩
    · have p2l := ls_bhd_lt h2
      have p2q := ls_sk_lt h3
      obtain ⟨ck', ca', cb', ag, K⟩ := ih p2 (T p :: S) (upd ck (nc0 + S.length) (nI (T p))) (upd ca (nc0 + S.length) (nI 0)) (upd cb (nc0 + S.length) (nI 0)) (by omega) (fun x hx => by
          rcases List.mem_cons.mp hx with rfl | hx
          · omega
          · exact hS x hx) ⟨pk_us, ls_S1_up (Nat.le_refl _) hS1⟩ (fun i hi' => ⟨(pk_un (by omega)).trans (hbl i hi').1, (pk_un (by omega)).trans (hbl i hi').2.1, (pk_un (by omega)).trans (hbl i hi').2.2⟩) (by rw [List.length_cons]; omega) h3
      refine ⟨ck', ca', cb', ag, fun pr hp fu hf => ?_⟩
      obtain ⟨fu', rfl⟩ : ∃ fu', fu = fu' + 1 := ⟨fu - 1, by omega⟩
      unfold wY_skip_7
      refine ⟨iv, ?_⟩
      rw [ec, e1]
      have G29 : wY_skip_29 pr (wY_skip_7 pr (nI x1) (nI nc0) fu') (nI x1) (nI (p + e)) (nI nc0) f_most (nI n) f_stored f_nm f_nEnv f_base f_ns f_no (nI (nc0 + S.length)) f_pc f_mode f_err f_errAt f_ticks f_calls f_outs f_resK f_part f_resV f_cnt f_full f_flag f_need a_tk a_tv a_tp a_mName a_mKind a_mCount a_mPar a_mAt a_vName a_vDecl a_vKind a_vVal a_sk a_sv a_oKind a_oAt a_oArgs ck ca cb a_outK a_outV := by
        unfold wY_skip_29
        refine ⟨iv, ?_⟩
        rw [ec, e1]
        refine hy_hold (kd := T p) (a := 0) (b := 0) (by omega) (by omega) (by decide) (by decide) ?_
        dsimp only
        rw [nI_1, show p + e + 1 = (p + 1) + e by omega]
        refine hy_behind ht' (by omega) (by omega) h2 ?_
        have := K pr hp fu' (by omega)
        rw [List.length_cons, show nc0 + (S.length + 1) = nc0 + S.length + 1 by omega] at this
        exact this
      rcases c68 with c | c
      · exact br_t (by rw [c]; rfl) G29
      · exact br_f (N p 6 e2 (by decide) (by omega)) ⟨iv, br_t (by rw [c]; rfl) G29⟩
    · have p1l := ls_one_lt h1
      have p1q : p1 ≤ q := by
        split at h2
        · omega
        · have := ls_sk_lt h2; omega
      have LPE : ∀ (M : List Nat), (∀ x ∈ M, 6 ≤ x ∧ x ≤ 8) → ls_S1 ck nc0 M → M.length ≤ S.length → (match ls_dr (T p1 = 7) M with | none => q = p1 | some S' => ls_sk T j (p1 + 1) (7 :: S') q) →
          ∃ ck' ca' cb' : Nat → Int32, (∀ i, i < nc0 → ck' i = a_cKind i ∧ ca' i = a_cA i ∧ cb' i = a_cB i) ∧ ∀ (pr : Int32 → SY → Prop), pr (nI (q + e)) (f_most, nI n, f_stored, f_nm, f_nEnv, f_base, f_ns, f_no, nI nc0, f_pc, f_mode, f_err, f_errAt, f_ticks, f_calls, f_outs, f_resK, f_part, f_resV, f_cnt, f_full, f_flag, f_need, a_tk, a_tv, a_tp, a_mName, a_mKind, a_mCount, a_mPar, a_mAt, a_vName, a_vDecl, a_vKind, a_vVal, a_sk, a_sv, a_oKind, a_oAt, a_oArgs, ck', ca', cb', a_outK, a_outV) → ∀ fu' g, j < fu' → M.length < g → wY_skip_125 pr (wY_skip_7 pr (nI x1) (nI nc0) fu') (nI x1) (nI (p1 + e)) (nI nc0) (if T p1 = 7 then 0 else 1) f_most (nI n) f_stored f_nm f_nEnv f_base f_ns f_no f_pc f_mode f_err f_errAt f_ticks f_calls f_outs f_resK f_part f_resV f_cnt f_full f_flag f_need a_tk a_tv a_tp a_mName a_mKind a_mCount a_mPar a_mAt a_vName a_vDecl a_vKind a_vVal a_sk a_sv a_oKind a_oAt a_oArgs ck ca cb a_outK a_outV g (nI (nc0 + M.length)) := by
        intro M
        induction M with
        | nil =>
          intro _ _ _ hm
          refine ⟨ck, ca, cb, hbl, fun pr hp fu' g _ hg => ?_⟩
          obtain ⟨g', rfl⟩ : ∃ g', g = g' + 1 := ⟨g - 1, by omega⟩
          unfold wY_skip_125
          refine br_t (nI_le (Nat.le_refl _) (by omega)) ?_
          unfold wY_skip_167
          refine br_t rfl ?_
          have hm' : q = p1 := hm
          rw [← hm']
          exact hp
        | cons x r ihM =>
          intro hM hM1 hMl hm
          rw [List.length_cons] at hMl
          obtain ⟨m1, m2⟩ := hM1
          have hx := hM x (List.mem_cons_self ..)
          by_cases x67 : x = 6 ∧ T p1 = 7
          · obtain ⟨x6, t7⟩ := x67
            subst x6
            have hm' : ls_sk T j (p1 + 1) (7 :: r) q := by
              have : ls_dr (T p1 = 7) (6 :: r) = some r := by
                show (if (6 : Nat) = 6 ∧ T p1 = 7 then _ else _) = _
                rw [if_pos ⟨rfl, t7⟩]
              rw [this] at hm
              exact hm
            obtain ⟨ck', ca', cb', ag, K⟩ := ih (p1 + 1) (7 :: r) (upd ck (nc0 + r.length) (nI 7)) ca cb (by omega) (fun y hy => by
              rcases List.mem_cons.mp hy with rfl | hy
              · omega
              · exact hM y (List.mem_cons_of_mem _ hy)) ⟨pk_us, ls_S1_up (Nat.le_refl _) m2⟩ (fun i hi' => ⟨(pk_un (by omega)).trans (hbl i hi').1, (hbl i hi').2.1, (hbl i hi').2.2⟩) (by rw [List.length_cons]; omega) hm'
            refine ⟨ck', ca', cb', ag, fun pr hp fu' g hfu hg => ?_⟩
            rw [List.length_cons] at hg
            obtain ⟨g', rfl⟩ : ∃ g', g = g' + 1 := ⟨g - 1, by omega⟩
            unfold wY_skip_125
            rw [List.length_cons, show nc0 + (r.length + 1) = nc0 + r.length + 1 by omega, nI_pred, nI_clamp (by omega), m1]
            refine br_f (nI_ge (by omega) (by omega)) ⟨vp_in_nI (by omega) (by decide), br_t rfl ?_⟩
            rw [if_pos t7]
            refine br_t rfl ?_
            unfold wY_skip_167
            rw [nI_pred]
            refine br_f (fun g => by have := (nI_eq (by omega) (by omega)).mp g; omega) ⟨vp_in_nI (by omega) (by decide), nm_r (e' := upd ck (nc0 + r.length) (nI 7)) (by rw [nI_clamp (by omega)]; rfl) (nm_r (nI_1 _) ?_)⟩
            have := K pr hp fu' hfu
            rw [List.length_cons, show nc0 + (r.length + 1) = nc0 + r.length + 1 by omega, show p1 + 1 + e = p1 + e + 1 by omega] at this
            exact this
          · have : ls_dr (T p1 = 7) (x :: r) = ls_dr (T p1 = 7) r := by
              show (if x = 6 ∧ T p1 = 7 then _ else _) = _
              rw [if_neg x67]
            rw [this] at hm
            obtain ⟨ck', ca', cb', ag, K⟩ := ihM (fun y hy => hM y (List.mem_cons_of_mem _ hy)) m2 (by omega) hm
            refine ⟨ck', ca', cb', ag, fun pr hp fu' g hfu hg => ?_⟩
            rw [List.length_cons] at hg
            obtain ⟨g', rfl⟩ : ∃ g', g = g' + 1 := ⟨g - 1, by omega⟩
            have P := K pr hp fu' g' hfu (by omega)
            unfold wY_skip_125
            rw [List.length_cons, show nc0 + (r.length + 1) = nc0 + r.length + 1 by omega, nI_pred, nI_clamp (by omega), m1]
            refine br_f (nI_ge (by omega) (by omega)) ⟨vp_in_nI (by omega) (by decide), ?_⟩
            by_cases x6 : x = 6
            · have t7 : ¬ T p1 = 7 := fun q => x67 ⟨x6, q⟩
              subst x6
              refine br_t rfl ?_
              rw [if_neg t7] at P ⊢
              exact br_f (by decide) (nm_r rfl P)
            · exact br_f (mt (ls_k8 (by omega) (by decide)).mp x6) (nm_r rfl P)
      obtain ⟨ck', ca', cb', ag, LL⟩ := LPE S hS hS1 (Nat.le_refl _) h2
      refine ⟨ck', ca', cb', ag, fun pr hp fu hf => ?_⟩
      obtain ⟨fu', rfl⟩ : ∃ fu', fu = fu' + 1 := ⟨fu - 1, by omega⟩
      have L := LL pr hp fu' (S.length + 1) (by omega) (by omega)
      have AFT : wY_skip_92 pr (wY_skip_7 pr (nI x1) (nI nc0) fu') (nI x1) (nI (p1 + e)) (nI nc0) f_most (nI n) f_stored f_nm f_nEnv f_base f_ns f_no (nI (nc0 + S.length)) f_pc f_mode f_err f_errAt f_ticks f_calls f_outs f_resK f_part f_resV f_cnt f_full f_flag f_need a_tk a_tv a_tp a_mName a_mKind a_mCount a_mPar a_mAt a_vName a_vDecl a_vKind a_vVal a_sk a_sv a_oKind a_oAt a_oArgs ck ca cb a_outK a_outV := by
        have G107 : p1 < hi → wY_skip_107 pr (wY_skip_7 pr (nI x1) (nI nc0) fu') (nI x1) (nI (p1 + e)) (nI nc0) f_most (nI n) f_stored f_nm f_nEnv f_base f_ns f_no (nI (nc0 + S.length)) f_pc f_mode f_err f_errAt f_ticks f_calls f_outs f_resK f_part f_resV f_cnt f_full f_flag f_need a_tk a_tv a_tp a_mName a_mKind a_mCount a_mPar a_mAt a_vName a_vDecl a_vKind a_vVal a_sk a_sv a_oKind a_oAt a_oArgs ck ca cb a_outK a_outV := by
          intro hh
          obtain ⟨f1, f2⟩ := htk p1 (by omega) hh
          unfold wY_skip_107
          refine ⟨vp_in_nI (by omega) (by decide), ?_⟩
          rw [nI_clamp (by omega), f1]
          by_cases t7 : T p1 = 7
          · rw [if_pos t7] at L
            exact br_t (by rw [t7]; rfl) ⟨_, L⟩
          · rw [if_neg t7] at L
            exact br_f (N p1 7 f2 (by decide) t7) ⟨_, L⟩
        unfold wY_skip_92
        by_cases x140 : 140 ≤ x1
        · exact br_t (nI_le (a := 140) x140 (by omega)) (G107 (by have := hq2 x140; omega))
        · refine br_f (nI_ge (b := 140) (by omega) (by decide)) ?_
          obtain ⟨l1, l2, l3⟩ := hlim (by omega)
          by_cases c : n ≤ p1
          · refine br_t (nI_le (by omega) (by omega)) ⟨S.length + 1, ?_⟩
            rw [if_neg (by rw [l3 p1 c]; decide)] at L
            exact L
          · exact br_f (nI_ge (by omega) (by omega)) (G107 (by omega))
      unfold wY_skip_7
      refine ⟨iv, ?_⟩
      rw [ec, e1]
      refine br_f (N p 6 e2 (by decide) n6) ⟨iv, br_f (N p 8 e2 (by decide) n8) ⟨iv, ?_⟩⟩
      unfold ls_one at h1
      by_cases c17 : T p = 17
      · rw [if_pos c17] at h1
        exact br_t (by rw [c17]; rfl) (hy_behind ht' hl (by omega) h1 AFT)
      · rw [if_neg c17] at h1
        obtain ⟨i, h1⟩ := h1
        refine br_f (N p 17 e2 (by decide) c17) ⟨i + 1, ?_⟩
        have W : ∀ (i p' : Nat), lo ≤ p' → p ≤ p' → ls_f20 T i p' p1 → wY_skip_72 pr (wY_skip_7 pr (nI x1) (nI nc0) fu') (nI x1) (nI nc0) f_most (nI n) f_stored f_nm f_nEnv f_base f_ns f_no (nI (nc0 + S.length)) f_pc f_mode f_err f_errAt f_ticks f_calls f_outs f_resK f_part f_resV f_cnt f_full f_flag f_need a_tk a_tv a_tp a_mName a_mKind a_mCount a_mPar a_mAt a_vName a_vDecl a_vKind a_vVal a_sk a_sv a_oKind a_oAt a_oArgs ck ca cb a_outK a_outV (i + 1) (nI (p' + e)) := by
          intro i
          induction i with
          | zero =>
            intro p' l1 l2 hf
            obtain ⟨f1, f2⟩ := hf
            obtain ⟨g1, g2⟩ := htk p' l1 (by omega)
            unfold wY_skip_72
            refine ⟨vp_in_nI (by omega) (by decide), ?_⟩
            rw [nI_clamp (by omega), g1]
            refine br_t (by rw [f1]; rfl) (nm_r (nI_1 _) ?_)
            rw [show p' + e + 1 = p1 + e by omega]
            exact AFT
          | succ i ihi =>
            intro p' l1 l2 hf
            obtain ⟨f1, f2⟩ := hf
            have lt := ls_f20_lt f2
            obtain ⟨g1, g2⟩ := htk p' l1 (by omega)
            unfold wY_skip_72
            refine ⟨vp_in_nI (by omega) (by decide), ?_⟩
            rw [nI_clamp (by omega), g1]
            refine br_f (N p' 20 g2 (by decide) f1) (nm_r (nI_1 _) ?_)
            rw [show p' + e + 1 = (p' + 1) + e by omega]
            exact ihi (p' + 1) (by omega) (by omega) f2
        exact W i p hl (Nat.le_refl _) h1
set_option maxHeartbeats 200000 in
theorem hy_skipE {n nc0 j : Nat} (ht : ls_tks T e lo hi a_tk) (hn : n < 1000) (hl : lo ≤ p) (hlim : p + e < 140 → e = 0 ∧ hi = n ∧ ∀ p, n ≤ p → T p = 72) (hq : q ≤ hi) (hq2 : 140 ≤ p + e → q < hi) (hb : 3 * nc0 + (hi - p) ≤ 2096) (h : ls_sk T j p [] q) : ∃ ck ca cb : Nat → Int32, (∀ i, i < nc0 → ck i = a_cKind i ∧ ca i = a_cA i ∧ cb i = a_cB i) ∧ ∀ (pr : Int32 → SY → Prop), pr (nI (q + e)) (f_most, nI n, f_stored, f_nm, f_nEnv, f_base, f_ns, f_no, nI nc0, f_pc, f_mode, f_err, f_errAt, f_ticks, f_calls, f_outs, f_resK, f_part, f_resV, f_cnt, f_full, f_flag, f_need, a_tk, a_tv, a_tp, a_mName, a_mKind, a_mCount, a_mPar, a_mAt, a_vName, a_vDecl, a_vKind, a_vVal, a_sk, a_sv, a_oKind, a_oAt, a_oArgs, ck, ca, cb, a_outK, a_outV) → wpY_skip pr (f_most, nI n, f_stored, f_nm, f_nEnv, f_base, f_ns, f_no, nI nc0, f_pc, f_mode, f_err, f_errAt, f_ticks, f_calls, f_outs, f_resK, f_part, f_resV, f_cnt, f_full, f_flag, f_need, a_tk, a_tv, a_tp, a_mName, a_mKind, a_mCount, a_mPar, a_mAt, a_vName, a_vDecl, a_vKind, a_vVal, a_sk, a_sv, a_oKind, a_oAt, a_oArgs, a_cKind, a_cA, a_cB, a_outK, a_outV) (nI (p + e)) := by
  obtain ⟨ck, ca, cb, ag, K⟩ := hy_skipE1 ht hn (by have := ls_sk_lt h; have := ht.1; omega) hlim hq hq2 j p [] a_cKind a_cA a_cB hl (by simp) trivial (fun _ _ => ⟨rfl, rfl, rfl⟩) hb h
  exact ⟨ck, ca, cb, ag, fun pr hp => ⟨j + 1, K pr hp (j + 1) (Nat.lt_succ_self _)⟩⟩
end
