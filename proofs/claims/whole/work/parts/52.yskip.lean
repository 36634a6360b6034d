/-! The reference leaves statements out -/
/-- the tokens of a unit, as they stand in the reference's array -/
def ls_tks (T : Nat → Nat) (e lo hi : Nat) (tk : Nat → Int32) : Prop := hi + e ≤ 384 ∧ ∀ i, lo ≤ i → i < hi → tk (i + e) = nI (T i) ∧ T i < 100
/-- the kinds that skip has put down, innermost first -/
def ls_S1 (ck : Nat → Int32) (b : Nat) : List Nat → Prop
  | [] => True
  | x :: r => ck (b + r.length) = nI x ∧ ls_S1 ck b r
section
variable {f_most f_n f_stored f_nm f_nEnv f_base f_ns f_no f_nc f_pc f_mode f_err f_errAt f_ticks f_calls f_outs f_resK f_part f_cnt f_full f_flag f_need : Int32}
variable {f_resV : Int64}
variable {a_tk a_tp a_mName a_mKind a_mCount a_mPar a_mAt a_vName a_vDecl a_vKind a_sk a_oKind a_oAt a_oArgs a_cKind a_cA a_cB a_outK : Nat → Int32}
variable {a_tv a_vVal a_sv a_outV : Nat → Int64}
variable {T : Nat → Nat} {e lo hi p q : Nat} {rp : Int32 → Prop} {pr : Int32 → SY → Prop}
set_option maxHeartbeats 200000 in
theorem ls_S1_up {ck : Nat → Int32} {b j : Nat} {x : Int32} : ∀ {S : List Nat}, b + S.length ≤ j → ls_S1 ck b S → ls_S1 (upd ck j x) b S
  | [], _, _ => trivial
  | y :: r, hl, h => by
    rw [List.length_cons] at hl
    exact ⟨(pk_un (by omega)).trans h.1, ls_S1_up (by omega) h.2⟩
set_option maxHeartbeats 200000 in
theorem hy_behind1 (ht : ls_tks T e lo hi a_tk) : ∀ (j p d fu : Nat), j < fu → lo ≤ p → p + j ≤ hi → d + j < 1000 → ls_br T 0 j p (d + 1) 0 → rp (nI (p + j + e)) → wY_behind_4 rp f_most f_n f_stored f_nm f_nEnv f_base f_ns f_no f_nc f_pc f_mode f_err f_errAt f_ticks f_calls f_outs f_resK f_part f_resV f_cnt f_full f_flag f_need a_tk a_tv a_tp a_mName a_mKind a_mCount a_mPar a_mAt a_vName a_vDecl a_vKind a_vVal a_sk a_sv a_oKind a_oAt a_oArgs a_cKind a_cA a_cB a_outK a_outV fu (nI (p + e)) (nI (d + 1)) := by
  obtain ⟨h384, htk⟩ := ht
  intro j
  induction j with
  | zero =>
    intro p d fu _ _ _ _ hb _
    have hb' : d + 1 = 0 := hb
    omega
  | succ j ih =>
    intro p d fu hf hl hh hd hb hp
    obtain ⟨fu', rfl⟩ : ∃ fu', fu = fu' + 1 := ⟨fu - 1, by omega⟩
    obtain ⟨_, hb⟩ := hb
    obtain ⟨e1, e2⟩ := htk p (by omega) (by omega)
    have iv : vp_in (nI (p + e)) 384 := vp_in_nI (by omega) (by decide)
    have ec : (nI (p + e)).toNatClampNeg = p + e := nI_clamp (by omega)
    have N : ∀ w : Nat, w < 100 → T p ≠ w → ¬ nI (T p) = nI w := fun w hw h => mt (ls_k8 e2 hw).mp h
    -- what is behind the token
    have G54 : ∀ d' : Nat, d' + j < 1001 → ls_br T 0 j (p + 1) d' 0 → wY_behind_54 rp (wY_behind_4 rp f_most f_n f_stored f_nm f_nEnv f_base f_ns f_no f_nc f_pc f_mode f_err f_errAt f_ticks f_calls f_outs f_resK f_part f_resV f_cnt f_full f_flag f_need a_tk a_tv a_tp a_mName a_mKind a_mCount a_mPar a_mAt a_vName a_vDecl a_vKind a_vVal a_sk a_sv a_oKind a_oAt a_oArgs a_cKind a_cA a_cB a_outK a_outV fu') (nI (p + e)) (nI d') f_most f_n f_stored f_nm f_nEnv f_base f_ns f_no f_nc f_pc f_mode f_err f_errAt f_ticks f_calls f_outs f_resK f_part f_resV f_cnt f_full f_flag f_need a_tk a_tv a_tp a_mName a_mKind a_mCount a_mPar a_mAt a_vName a_vDecl a_vKind a_vVal a_sk a_sv a_oKind a_oAt a_oArgs a_cKind a_cA a_cB a_outK a_outV := by
      intro d' hd' hb'
      unfold wY_behind_54
      refine nm_r (nI_1 _) ?_
      rw [show p + e + 1 = (p + 1) + e by omega]
      by_cases d0 : d' = 0
      · subst d0
        refine br_f (by decide) ?_
        cases j with
        | zero => rw [show p + (0 + 1) + e = p + 1 + e by omega] at hp; exact hp
        | succ j => exact absurd hb'.1 (by omega)
      · obtain ⟨d2, rfl⟩ : ∃ d2, d' = d2 + 1 := ⟨d' - 1, by omega⟩
        refine br_t (nI_lt (a := 0) (by omega) (by omega)) ?_
        cases j with
        | zero =>
          have hb2 : d2 + 1 = 0 := hb'
          omega
        | succ j' =>
          exact ih (p + 1) d2 fu' (by omega) (by omega) (by omega) (by omega) hb' (by rw [show p + 1 + (j' + 1) + e = p + (j' + 1 + 1) + e by omega]; exact hp)
    have G29 : ∀ d' : Nat, d' + j < 1001 → (T p = 16 ∨ T p = 18 → 0 < d' ∧ ls_br T 0 j (p + 1) (d' - 1) 0) → (T p ≠ 16 → T p ≠ 18 → ls_br T 0 j (p + 1) d' 0) → wY_behind_29 rp (wY_behind_4 rp f_most f_n f_stored f_nm f_nEnv f_base f_ns f_no f_nc f_pc f_mode f_err f_errAt f_ticks f_calls f_outs f_resK f_part f_resV f_cnt f_full f_flag f_need a_tk a_tv a_tp a_mName a_mKind a_mCount a_mPar a_mAt a_vName a_vDecl a_vKind a_vVal a_sk a_sv a_oKind a_oAt a_oArgs a_cKind a_cA a_cB a_outK a_outV fu') (nI (p + e)) (nI d') f_most f_n f_stored f_nm f_nEnv f_base f_ns f_no f_nc f_pc f_mode f_err f_errAt f_ticks f_calls f_outs f_resK f_part f_resV f_cnt f_full f_flag f_need a_tk a_tv a_tp a_mName a_mKind a_mCount a_mPar a_mAt a_vName a_vDecl a_vKind a_vVal a_sk a_sv a_oKind a_oAt a_oArgs a_cKind a_cA a_cB a_outK a_outV := by
      intro d' hd' h1 h2
      unfold wY_behind_29
      refine ⟨iv, ?_⟩
      rw [ec, e1]
      have G51 : (T p = 16 ∨ T p = 18) → wY_behind_51 rp (wY_behind_4 rp f_most f_n f_stored f_nm f_nEnv f_base f_ns f_no f_nc f_pc f_mode f_err f_errAt f_ticks f_calls f_outs f_resK f_part f_resV f_cnt f_full f_flag f_need a_tk a_tv a_tp a_mName a_mKind a_mCount a_mPar a_mAt a_vName a_vDecl a_vKind a_vVal a_sk a_sv a_oKind a_oAt a_oArgs a_cKind a_cA a_cB a_outK a_outV fu') (nI (p + e)) (nI d') f_most f_n f_stored f_nm f_nEnv f_base f_ns f_no f_nc f_pc f_mode f_err f_errAt f_ticks f_calls f_outs f_resK f_part f_resV f_cnt f_full f_flag f_need a_tk a_tv a_tp a_mName a_mKind a_mCount a_mPar a_mAt a_vName a_vDecl a_vKind a_vVal a_sk a_sv a_oKind a_oAt a_oArgs a_cKind a_cA a_cB a_outK a_outV := by
        intro c
        obtain ⟨c1, c2⟩ := h1 c
        unfold wY_behind_51
        obtain ⟨d2, rfl⟩ : ∃ d2, d' = d2 + 1 := ⟨d' - 1, by omega⟩
        exact nm_r (pk_m1 d2) (G54 d2 (by omega) c2)
      by_cases c16 : T p = 16
      · exact br_t (by rw [c16]; rfl) (G51 (Or.inl c16))
      · refine br_f (N 16 (by decide) c16) ⟨iv, ?_⟩
        by_cases c18 : T p = 18
        · exact br_t (by rw [c18]; rfl) (G51 (Or.inr c18))
        · exact br_f (N 18 (by decide) c18) (G54 d' hd' (h2 c16 c18))
    have G26 : (T p = 15 ∨ T p = 17) → wY_behind_26 rp (wY_behind_4 rp f_most f_n f_stored f_nm f_nEnv f_base f_ns f_no f_nc f_pc f_mode f_err f_errAt f_ticks f_calls f_outs f_resK f_part f_resV f_cnt f_full f_flag f_need a_tk a_tv a_tp a_mName a_mKind a_mCount a_mPar a_mAt a_vName a_vDecl a_vKind a_vVal a_sk a_sv a_oKind a_oAt a_oArgs a_cKind a_cA a_cB a_outK a_outV fu') (nI (p + e)) (nI (d + 1)) f_most f_n f_stored f_nm f_nEnv f_base f_ns f_no f_nc f_pc f_mode f_err f_errAt f_ticks f_calls f_outs f_resK f_part f_resV f_cnt f_full f_flag f_need a_tk a_tv a_tp a_mName a_mKind a_mCount a_mPar a_mAt a_vName a_vDecl a_vKind a_vVal a_sk a_sv a_oKind a_oAt a_oArgs a_cKind a_cA a_cB a_outK a_outV := by
      intro c
      unfold wY_behind_26
      refine nm_r (nI_1 _) (G29 (d + 2) (by omega) (fun q => by omega) (fun _ _ => ?_))
      rw [ls_bd_o c] at hb
      exact hb
    unfold wY_behind_4
    refine ⟨iv, ?_⟩
    rw [ec, e1]
    by_cases c15 : T p = 15
    · exact br_t (by rw [c15]; rfl) (G26 (Or.inl c15))
    · refine br_f (N 15 (by decide) c15) ⟨iv, ?_⟩
      by_cases c17 : T p = 17
      · exact br_t (by rw [c17]; rfl) (G26 (Or.inr c17))
      · refine br_f (N 17 (by decide) c17) (G29 (d + 1) (by omega) (fun c => ⟨by omega, ?_⟩) (fun n16 n18 => ?_))
        · rw [ls_bd_c c] at hb; exact hb
        · rw [ls_bd_n ⟨c15, n16, c17, n18⟩] at hb; exact hb
set_option maxHeartbeats 200000 in
theorem hy_behind (ht : ls_tks T e lo hi a_tk) (hl : lo ≤ p) (hh : q ≤ hi) (h : ls_bhd T p q) (hp : rp (nI (q + e))) : wpY_behind rp (f_most, f_n, f_stored, f_nm, f_nEnv, f_base, f_ns, f_no, f_nc, f_pc, f_mode, f_err, f_errAt, f_ticks, f_calls, f_outs, f_resK, f_part, f_resV, f_cnt, f_full, f_flag, f_need, a_tk, a_tv, a_tp, a_mName, a_mKind, a_mCount, a_mPar, a_mAt, a_vName, a_vDecl, a_vKind, a_vVal, a_sk, a_sv, a_oKind, a_oAt, a_oArgs, a_cKind, a_cA, a_cB, a_outK, a_outV) (nI (p + e)) := by
  obtain ⟨h1, j, rfl, hb⟩ := h
  have ht' := ht
  obtain ⟨h384, htk⟩ := ht
  obtain ⟨e1, e2⟩ := htk p (by omega) (by omega)
  have iv : vp_in (nI (p + e)) 384 := vp_in_nI (by omega) (by decide)
  have ec : (nI (p + e)).toNatClampNeg = p + e := nI_clamp (by omega)
  have N : ∀ w : Nat, w < 100 → T p ≠ w → ¬ nI (T p) = nI w := fun w hw h => mt (ls_k8 e2 hw).mp h
  unfold wpY_behind
  refine ⟨j + 2, ?_⟩
  unfold wY_behind_4
  have G26 : wY_behind_26 rp (wY_behind_4 rp f_most f_n f_stored f_nm f_nEnv f_base f_ns f_no f_nc f_pc f_mode f_err f_errAt f_ticks f_calls f_outs f_resK f_part f_resV f_cnt f_full f_flag f_need a_tk a_tv a_tp a_mName a_mKind a_mCount a_mPar a_mAt a_vName a_vDecl a_vKind a_vVal a_sk a_sv a_oKind a_oAt a_oArgs a_cKind a_cA a_cB a_outK a_outV (j + 1)) (nI (p + e)) 0 f_most f_n f_stored f_nm f_nEnv f_base f_ns f_no f_nc f_pc f_mode f_err f_errAt f_ticks f_calls f_outs f_resK f_part f_resV f_cnt f_full f_flag f_need a_tk a_tv a_tp a_mName a_mKind a_mCount a_mPar a_mAt a_vName a_vDecl a_vKind a_vVal a_sk a_sv a_oKind a_oAt a_oArgs a_cKind a_cA a_cB a_outK a_outV := by
    unfold wY_behind_26
    refine nm_r (e' := nI 1) rfl ?_
    unfold wY_behind_29
    refine ⟨iv, ?_⟩
    rw [ec, e1]
    refine br_f (N 16 (by decide) (by omega)) ⟨iv, br_f (N 18 (by decide) (by omega)) ?_⟩
    unfold wY_behind_54
    refine nm_r (nI_1 _) (br_t (by decide) ?_)
    rw [show p + e + 1 = (p + 1) + e by omega]
    exact hy_behind1 ht' j (p + 1) 0 (j + 1) (by omega) (by omega) (by omega) (by omega) hb hp
  refine ⟨iv, ?_⟩
  rw [ec, e1]
  by_cases c15 : T p = 15
  · exact br_t (by rw [c15]; rfl) G26
  · refine br_f (N 15 (by decide) c15) ⟨iv, ?_⟩
    exact br_t (by rw [show T p = 17 by omega]; rfl) G26
set_option maxHeartbeats 200000 in
theorem ls_f20_lt : ∀ {j p q}, ls_f20 T j p q → p < q
  | 0, p, q, h => by have := h.2; omega
  | j + 1, p, q, h => by have := ls_f20_lt h.2; omega
set_option maxHeartbeats 200000 in
theorem ls_br_pos {b : Nat} : ∀ {j p}, ls_br T b j p 1 0 → 0 < j
  | 0, p, h => by have h' : (1 : Nat) = 0 := h; omega
  | j + 1, p, h => by omega
set_option maxHeartbeats 200000 in
theorem ls_bhd_lt (h : ls_bhd T p q) : p + 2 ≤ q := by
  obtain ⟨_, j, rfl, hb⟩ := h
  have := ls_br_pos hb
  omega
set_option maxHeartbeats 200000 in
theorem ls_one_lt (h : ls_one T p q) : p < q := by
  unfold ls_one at h
  split at h
  · have := ls_bhd_lt h; omega
  · obtain ⟨i, h⟩ := h; exact ls_f20_lt h
set_option maxHeartbeats 200000 in
theorem ls_sk_lt : ∀ {j p S}, ls_sk T j p S q → p < q
  | 0, p, S, h => h.elim
  | j + 1, p, S, h => by
    rcases h with ⟨_, p2, h2, h3⟩ | ⟨_, _, p1, h1, h2⟩
    · have := ls_bhd_lt h2
      have := ls_sk_lt h3
      omega
    · have := ls_one_lt h1
      split at h2
      · omega
      · have := ls_sk_lt h2; omega
set_option maxHeartbeats 1000000 in
theorem hy_skip1 {n nc0 x1 : Nat} (ht : ls_tks T e lo hi a_tk) (hn : n < 1000) (hx : x1 < 1000) (hlim : x1 < 140 → e = 0 ∧ hi = n ∧ ∀ p, n ≤ p → T p = 72) (hq : q ≤ hi) (hq2 : 140 ≤ x1 → q < hi)
    (hp : ∀ ck ca cb : Nat → Int32, (∀ i, i < nc0 → ck i = a_cKind i ∧ ca i = a_cA i ∧ cb i = a_cB i) → pr (nI (q + e)) (f_most, nI n, f_stored, f_nm, f_nEnv, f_base, f_ns, f_no, nI nc0, f_pc, f_mode, f_err, f_errAt, f_ticks, f_calls, f_outs, f_resK, f_part, f_resV, f_cnt, f_full, f_flag, f_need, a_tk, a_tv, a_tp, a_mName, a_mKind, a_mCount, a_mPar, a_mAt, a_vName, a_vDecl, a_vKind, a_vVal, a_sk, a_sv, a_oKind, a_oAt, a_oArgs, ck, ca, cb, a_outK, a_outV)) : ∀ (j p fu : Nat) (S : List Nat) (ck ca cb : Nat → Int32), j < fu → lo ≤ p → (∀ x ∈ S, 6 ≤ x ∧ x ≤ 8) → ls_S1 ck nc0 S → (∀ i, i < nc0 → ck i = a_cKind i ∧ ca i = a_cA i ∧ cb i = a_cB i) → 3 * (nc0 + S.length) + (hi - p) ≤ 2096 → ls_sk T j p S q →
    wY_skip_7 pr (nI x1) (nI nc0) fu (nI (p + e)) f_most (nI n) f_stored f_nm f_nEnv f_base f_ns f_no (nI (nc0 + S.length)) f_pc f_mode f_err f_errAt f_ticks f_calls f_outs f_resK f_part f_resV f_cnt f_full f_flag f_need a_tk a_tv a_tp a_mName a_mKind a_mCount a_mPar a_mAt a_vName a_vDecl a_vKind a_vVal a_sk a_sv a_oKind a_oAt a_oArgs ck ca cb a_outK a_outV := by
  have ht' := ht
  obtain ⟨h384, htk⟩ := ht
  intro j
  induction j with
  | zero => intro p fu S ck ca cb _ _ _ _ _ _ h; exact h.elim
  | succ j ih =>
    intro p fu S ck ca cb hf hl hS hS1 hbl hbd h
    obtain ⟨fu', rfl⟩ : ∃ fu', fu = fu' + 1 := ⟨fu - 1, by omega⟩
    have pq := ls_sk_lt h
    obtain ⟨e1, e2⟩ := htk p (by omega) (by omega)
    have iv : vp_in (nI (p + e)) 384 := vp_in_nI (by omega) (by decide)
    have ec : (nI (p + e)).toNatClampNeg = p + e := nI_clamp (by omega)
    have N : ∀ p w : Nat, T p < 100 → w < 100 → T p ≠ w → ¬ nI (T p) = nI w := fun p w h2 hw h => mt (ls_k8 h2 hw).mp h
    -- the inner loop that takes finished kinds away
    have LP : ∀ p1 (M : List Nat) (g : Nat), M.length < g → lo ≤ p1 → p < p1 → p1 ≤ q → (∀ x ∈ M, 6 ≤ x ∧ x ≤ 8) → ls_S1 ck nc0 M → M.length ≤ S.length → (match ls_dr (T p1 = 7) M with | none => q = p1 | some S' => ls_sk T j (p1 + 1) (7 :: S') q) →
        wY_skip_125 pr (wY_skip_7 pr (nI x1) (nI nc0) fu') (nI x1) (nI (p1 + e)) (nI nc0) (if T p1 = 7 then 0 else 1) f_most (nI n) f_stored f_nm f_nEnv f_base f_ns f_no f_pc f_mode f_err f_errAt f_ticks f_calls f_outs f_resK f_part f_resV f_cnt f_full f_flag f_need a_tk a_tv a_tp a_mName a_mKind a_mCount a_mPar a_mAt a_vName a_vDecl a_vKind a_vVal a_sk a_sv a_oKind a_oAt a_oArgs ck ca cb a_outK a_outV g (nI (nc0 + M.length)) := by
      intro p1 M
      induction M with
      | nil =>
        intro g hg l1 l2 l3 _ _ _ hm
        obtain ⟨g', rfl⟩ : ∃ g', g = g' + 1 := ⟨g - 1, by omega⟩
        unfold wY_skip_125
        refine br_t (nI_le (Nat.le_refl _) (by omega)) ?_
        unfold wY_skip_167
        refine br_t rfl ?_
        have hm' : q = p1 := hm
        rw [← hm']
        exact hp ck ca cb hbl
      | cons x r ihM =>
        intro g hg l1 l2 l3 hM hM1 hMl hm
        obtain ⟨g', rfl⟩ : ∃ g', g = g' + 1 := ⟨g - 1, by omega⟩
        rw [List.length_cons] at hg hMl
        obtain ⟨m1, m2⟩ := hM1
        have hx := hM x (List.mem_cons_self ..)
        unfold wY_skip_125
        rw [List.length_cons, show nc0 + (r.length + 1) = nc0 + r.length + 1 by omega, nI_pred, nI_clamp (by omega), m1]
        refine br_f (nI_ge (by omega) (by omega)) ⟨vp_in_nI (by omega) (by decide), ?_⟩
        have POP : ¬ (x = 6 ∧ T p1 = 7) → wY_skip_125 pr (wY_skip_7 pr (nI x1) (nI nc0) fu') (nI x1) (nI (p1 + e)) (nI nc0) (if T p1 = 7 then 0 else 1) f_most (nI n) f_stored f_nm f_nEnv f_base f_ns f_no f_pc f_mode f_err f_errAt f_ticks f_calls f_outs f_resK f_part f_resV f_cnt f_full f_flag f_need a_tk a_tv a_tp a_mName a_mKind a_mCount a_mPar a_mAt a_vName a_vDecl a_vKind a_vVal a_sk a_sv a_oKind a_oAt a_oArgs ck ca cb a_outK a_outV g' (nI (nc0 + r.length)) := by
          intro hne
          refine ihM g' (by omega) l1 l2 l3 (fun y hy => hM y (List.mem_cons_of_mem _ hy)) m2 (by omega) ?_
          have : ls_dr (T p1 = 7) (x :: r) = ls_dr (T p1 = 7) r := by
            show (if x = 6 ∧ T p1 = 7 then _ else _) = _
            rw [if_neg hne]
          rw [this] at hm
          exact hm
        by_cases x6 : x = 6
        · subst x6
          refine br_t rfl ?_
          by_cases t7 : T p1 = 7
          · rw [if_pos t7]
            refine br_t rfl ?_
            unfold wY_skip_167
            rw [nI_pred]
            refine br_f (fun g => by have := (nI_eq (by omega) (by omega)).mp g; omega) ⟨vp_in_nI (by omega) (by decide), nm_r (e' := upd ck (nc0 + r.length) (nI 7)) (by rw [nI_clamp (by omega)]; rfl) (nm_r (nI_1 _) ?_)⟩
            have hm' : ls_sk T j (p1 + 1) (7 :: r) q := by
              have : ls_dr (T p1 = 7) (6 :: r) = some r := by
                show (if (6 : Nat) = 6 ∧ T p1 = 7 then _ else _) = _
                rw [if_pos ⟨rfl, t7⟩]
              rw [this] at hm
              exact hm
            have := ih (p1 + 1) fu' (7 :: r) (upd ck (nc0 + r.length) (nI 7)) ca cb (by omega) (by omega) (fun y hy => by
              rcases List.mem_cons.mp hy with rfl | hy
              · omega
              · exact hM y (List.mem_cons_of_mem _ hy)) ⟨pk_us, ls_S1_up (Nat.le_refl _) m2⟩ (fun i hi' => ⟨(pk_un (by omega)).trans (hbl i hi').1, (hbl i hi').2.1, (hbl i hi').2.2⟩) (by rw [List.length_cons]; omega) hm'
            rw [List.length_cons, show nc0 + (r.length + 1) = nc0 + r.length + 1 by omega, show p1 + 1 + e = p1 + e + 1 by omega] at this
            exact this
          · have P := POP (fun q => t7 q.2)
            rw [if_neg t7] at P ⊢
            exact br_f (by decide) (nm_r rfl P)
        · exact br_f (mt (ls_k8 (by omega) (by decide)).mp x6) (nm_r rfl (POP (fun q => x6 q.1)))
    have AFT : ∀ p1, lo ≤ p1 → p < p1 → p1 ≤ q → (match ls_dr (T p1 = 7) S with | none => q = p1 | some S' => ls_sk T j (p1 + 1) (7 :: S') q) → wY_skip_92 pr (wY_skip_7 pr (nI x1) (nI nc0) fu') (nI x1) (nI (p1 + e)) (nI nc0) f_most (nI n) f_stored f_nm f_nEnv f_base f_ns f_no (nI (nc0 + S.length)) f_pc f_mode f_err f_errAt f_ticks f_calls f_outs f_resK f_part f_resV f_cnt f_full f_flag f_need a_tk a_tv a_tp a_mName a_mKind a_mCount a_mPar a_mAt a_vName a_vDecl a_vKind a_vVal a_sk a_sv a_oKind a_oAt a_oArgs ck ca cb a_outK a_outV := by
      intro p1 hl1 hp1 hq1 hm
      have L := LP p1 S (S.length + 1) (by omega) hl1 hp1 hq1 hS hS1 (Nat.le_refl _) hm
      have G107 : p1 < hi → wY_skip_107 pr (wY_skip_7 pr (nI x1) (nI nc0) fu') (nI x1) (nI (p1 + e)) (nI nc0) f_most (nI n) f_stored f_nm f_nEnv f_base f_ns f_no (nI (nc0 + S.length)) f_pc f_mode f_err f_errAt f_ticks f_calls f_outs f_resK f_part f_resV f_cnt f_full f_flag f_need a_tk a_tv a_tp a_mName a_mKind a_mCount a_mPar a_mAt a_vName a_vDecl a_vKind a_vVal a_sk a_sv a_oKind a_oAt a_oArgs ck ca cb a_outK a_outV := by
        intro hh
        obtain ⟨f1, f2⟩ := htk p1 hl1 hh
        unfold wY_skip_107
        refine ⟨vp_in_nI (by omega) (by decide), ?_⟩
        rw [nI_clamp (by omega), f1]
        by_cases t7 : T p1 = 7
        · rw [if_pos t7] at L
          exact br_t (by rw [t7]; rfl) ⟨_, L⟩
        · rw [if_neg t7] at L
          exact br_f (N p1 7 f2 (by decide) t7) ⟨_, L⟩
      unfold wY_skip_92
      by_cases x140 : 140 ≤ x1
      · exact br_t (nI_le (a := 140) x140 (by omega)) (G107 (by have := hq2 x140; omega))
      · refine br_f (nI_ge (b := 140) (by omega) (by decide)) ?_
        obtain ⟨l1, l2, l3⟩ := hlim (by omega)
        by_cases c : n ≤ p1
        · refine br_t (nI_le (by omega) (by omega)) ⟨S.length + 1, ?_⟩
          rw [if_neg (by rw [l3 p1 c]; decide)] at L
          exact L
        · exact br_f (nI_ge (by omega) (by omega)) (G107 (by omega))
    unfold wY_skip_7
    refine ⟨iv, ?_⟩
    rw [ec, e1]
    rcases h with ⟨c68, p2, h2, h3⟩ | ⟨n6, n8, p1, h1, h2⟩
    · have p2l := ls_bhd_lt h2
      have p2q := ls_sk_lt h3
      have G29 : wY_skip_29 pr (wY_skip_7 pr (nI x1) (nI nc0) fu') (nI x1) (nI (p + e)) (nI nc0) f_most (nI n) f_stored f_nm f_nEnv f_base f_ns f_no (nI (nc0 + S.length)) f_pc f_mode f_err f_errAt f_ticks f_calls f_outs f_resK f_part f_resV f_cnt f_full f_flag f_need a_tk a_tv a_tp a_mName a_mKind a_mCount a_mPar a_mAt a_vName a_vDecl a_vKind a_vVal a_sk a_sv a_oKind a_oAt a_oArgs ck ca cb a_outK a_outV := by
        unfold wY_skip_29
        refine ⟨iv, ?_⟩
        rw [ec, e1]
        refine hy_hold (kd := T p) (a := 0) (b := 0) (by omega) (by omega) (by decide) (by decide) ?_
        dsimp only
        rw [nI_1, show p + e + 1 = (p + 1) + e by omega]
        refine hy_behind ht' (by omega) (by omega) h2 ?_
        have := ih p2 fu' (T p :: S) (upd ck (nc0 + S.length) (nI (T p))) (upd ca (nc0 + S.length) (nI 0)) (upd cb (nc0 + S.length) (nI 0)) (by omega) (by omega) (fun x hx => by
          rcases List.mem_cons.mp hx with rfl | hx
          · omega
          · exact hS x hx) ⟨pk_us, ls_S1_up (Nat.le_refl _) hS1⟩ (fun i hi' => ⟨(pk_un (by omega)).trans (hbl i hi').1, (pk_un (by omega)).trans (hbl i hi').2.1, (pk_un (by omega)).trans (hbl i hi').2.2⟩) (by rw [List.length_cons]; omega) h3
        rw [List.length_cons, show nc0 + (S.length + 1) = nc0 + S.length + 1 by omega] at this
        exact this
      rcases c68 with c | c
      · exact br_t (by rw [c]; rfl) G29
      · exact br_f (N p 6 e2 (by decide) (by omega)) ⟨iv, br_t (by rw [c]; rfl) G29⟩
    · have p1l := ls_one_lt h1
      have p1q : p1 ≤ q := by
        split at h2
        · omega
        · have := ls_sk_lt h2; omega
      refine br_f (N p 6 e2 (by decide) n6) ⟨iv, br_f (N p 8 e2 (by decide) n8) ⟨iv, ?_⟩⟩
      unfold ls_one at h1
      by_cases c17 : T p = 17
      · rw [if_pos c17] at h1
        exact br_t (by rw [c17]; rfl) (hy_behind ht' hl (by omega) h1 (AFT p1 (by omega) p1l p1q h2))
      · rw [if_neg c17] at h1
        obtain ⟨i, h1⟩ := h1
        refine br_f (N p 17 e2 (by decide) c17) ⟨i + 1, ?_⟩
        -- to the semicolon
        have W : ∀ (i p' : Nat), lo ≤ p' → p ≤ p' → ls_f20 T i p' p1 → wY_skip_72 pr (wY_skip_7 pr (nI x1) (nI nc0) fu') (nI x1) (nI nc0) f_most (nI n) f_stored f_nm f_nEnv f_base f_ns f_no (nI (nc0 + S.length)) f_pc f_mode f_err f_errAt f_ticks f_calls f_outs f_resK f_part f_resV f_cnt f_full f_flag f_need a_tk a_tv a_tp a_mName a_mKind a_mCount a_mPar a_mAt a_vName a_vDecl a_vKind a_vVal a_sk a_sv a_oKind a_oAt a_oArgs ck ca cb a_outK a_outV (i + 1) (nI (p' + e)) := by
          intro i
          induction i with
          | zero =>
            intro p' l1 l2 hf
            obtain ⟨f1, f2⟩ := hf
            obtain ⟨g1, g2⟩ := htk p' l1 (by omega)
            unfold wY_skip_72
            refine ⟨vp_in_nI (by omega) (by decide), ?_⟩
            rw [nI_clamp (by omega), g1]
            refine br_t (by rw [f1]; rfl) (nm_r (nI_1 _) ?_)
            rw [show p' + e + 1 = p1 + e by omega]
            exact AFT p1 (by omega) p1l p1q h2
          | succ i ihi =>
            intro p' l1 l2 hf
            obtain ⟨f1, f2⟩ := hf
            have lt := ls_f20_lt f2
            obtain ⟨g1, g2⟩ := htk p' l1 (by omega)
            unfold wY_skip_72
            refine ⟨vp_in_nI (by omega) (by decide), ?_⟩
            rw [nI_clamp (by omega), g1]
            refine br_f (N p' 20 g2 (by decide) f1) (nm_r (nI_1 _) ?_)
            rw [show p' + e + 1 = (p' + 1) + e by omega]
            exact ihi (p' + 1) (by omega) (by omega) f2
        exact W i p hl (Nat.le_refl _) h1
set_option maxHeartbeats 200000 in
theorem hy_skip {n nc0 j : Nat} (ht : ls_tks T e lo hi a_tk) (hn : n < 1000) (hl : lo ≤ p) (hlim : p + e < 140 → e = 0 ∧ hi = n ∧ ∀ p, n ≤ p → T p = 72) (hq : q ≤ hi) (hq2 : 140 ≤ p + e → q < hi) (hb : 3 * nc0 + (hi - p) ≤ 2096) (h : ls_sk T j p [] q)
    (hp : ∀ ck ca cb : Nat → Int32, (∀ i, i < nc0 → ck i = a_cKind i ∧ ca i = a_cA i ∧ cb i = a_cB i) → pr (nI (q + e)) (f_most, nI n, f_stored, f_nm, f_nEnv, f_base, f_ns, f_no, nI nc0, f_pc, f_mode, f_err, f_errAt, f_ticks, f_calls, f_outs, f_resK, f_part, f_resV, f_cnt, f_full, f_flag, f_need, a_tk, a_tv, a_tp, a_mName, a_mKind, a_mCount, a_mPar, a_mAt, a_vName, a_vDecl, a_vKind, a_vVal, a_sk, a_sv, a_oKind, a_oAt, a_oArgs, ck, ca, cb, a_outK, a_outV)) : wpY_skip pr (f_most, nI n, f_stored, f_nm, f_nEnv, f_base, f_ns, f_no, nI nc0, f_pc, f_mode, f_err, f_errAt, f_ticks, f_calls, f_outs, f_resK, f_part, f_resV, f_cnt, f_full, f_flag, f_need, a_tk, a_tv, a_tp, a_mName, a_mKind, a_mCount, a_mPar, a_mAt, a_vName, a_vDecl, a_vKind, a_vVal, a_sk, a_sv, a_oKind, a_oAt, a_oArgs, a_cKind, a_cA, a_cB, a_outK, a_outV) (nI (p + e)) :=
  ⟨j + 1, hy_skip1 ht hn (by have := ls_sk_lt h; have := ht.1; omega) hlim hq hq2 hp j p (j + 1) [] a_cKind a_cA a_cB (Nat.lt_succ_self _) hl (by simp) trivial (fun _ _ => ⟨rfl, rfl, rfl⟩) hb h⟩
end
