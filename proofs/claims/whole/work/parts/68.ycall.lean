/-! The reference: calls -/
def ls_yms (mc : Nat) (mN mC mP : Nat → Int32) (nf cf : Nat → Nat) (pf : Nat → Nat → Nat) : Prop := mc ≤ 8 ∧ ∀ m, m < mc → mN m = nI (nf m + 54) ∧ nf m < 16 ∧ mC m = nI (cf m) ∧ cf m ≤ 3 ∧ (∀ i, i < cf m → mP (3 * m + i) = nI (pf m i)) ∧ (∀ i, pf m i ≤ 5) ∧ ∀ i, cf m ≤ i → pf m i = 0
set_option maxHeartbeats 200000 in
theorem ls_mul (a b : Nat) : nI a * nI b = nI (a * b) := (Int32.ofNat_mul a b).symm
set_option maxHeartbeats 200000 in
theorem ls_or7 : ∀ m : Fin 8, ∀ b : Fin 128, nI (m.1 * 128) ||| nI b.1 = nI (m.1 * 128 + b.1) := by decide +kernel
section
variable {f_most f_n f_stored f_nm f_nEnv f_base f_ns f_no f_nc f_pc f_mode f_err f_errAt f_ticks f_calls f_outs f_resK f_part f_cnt f_full f_flag f_need : Int32}
variable {f_resV : Int64}
variable {a_tk a_tp a_mName a_mKind a_mCount a_mPar a_mAt a_vName a_vDecl a_vKind a_sk a_oKind a_oAt a_oArgs a_cKind a_cA a_cB a_outK : Nat → Int32}
variable {a_tv a_vVal a_sv a_outV : Nat → Int64}
variable {q : Int32 → Prop} {post : SY → Prop} {nf cf : Nat → Nat} {pf : Nat → Nat → Nat} {nm c : Nat} {ak : Nat → Nat} {mc m o fs : Nat}
set_option maxHeartbeats 200000 in
theorem hy_takes (hs : ls_yms mc a_mName a_mCount a_mPar nf cf pf) (hm : m < mc) (hn : nm < 16) (hc : c ≤ 3) (hf : fs + c ≤ 400) (hk : ∀ i, i < c → a_sk (fs + i) = nI (ak i) ∧ ak i ≤ 4) (h1 : ls_tak nf cf pf nm c ak m → q 1) (h0 : ¬ ls_tak nf cf pf nm c ak m → q 0) : wpY_takes q (f_most, f_n, f_stored, f_nm, f_nEnv, f_base, nI (fs + c), f_no, f_nc, f_pc, f_mode, f_err, f_errAt, f_ticks, f_calls, f_outs, f_resK, f_part, f_resV, f_cnt, f_full, f_flag, f_need, a_tk, a_tv, a_tp, a_mName, a_mKind, a_mCount, a_mPar, a_mAt, a_vName, a_vDecl, a_vKind, a_vVal, a_sk, a_sv, a_oKind, a_oAt, a_oArgs, a_cKind, a_cA, a_cB, a_outK, a_outV) (nI m) (nI (nm + 54)) (nI c) := by
  obtain ⟨h8, hh⟩ := hs
  obtain ⟨e1, e2, e3, e4, e5, e6, e7⟩ := hh m hm
  have im : vp_in (nI m) 8 := vp_in_nI (by omega) (by decide)
  unfold wpY_takes
  dsimp only
  rw [nI_clamp (by omega), e1, e3]
  refine ⟨im, ?_⟩
  by_cases c1 : nf m = nm
  · refine br_t (by rw [c1]) ⟨im, ?_⟩
    by_cases c2 : cf m = c
    · refine br_t (by rw [c2]) ⟨c + 1, ?_⟩
      have K : ∀ (j i fu : Nat), i + j = c → j < fu → (∀ i', i' < i → ls_fit (ak i') (pf m i') = true) → wY_takes_25 q (nI m) (nI c) f_most f_n f_stored f_nm f_nEnv f_base (nI (fs + c)) f_no f_nc f_pc f_mode f_err f_errAt f_ticks f_calls f_outs f_resK f_part f_resV f_cnt f_full f_flag f_need a_tk a_tv a_tp a_mName a_mKind a_mCount a_mPar a_mAt a_vName a_vDecl a_vKind a_vVal a_sk a_sv a_oKind a_oAt a_oArgs a_cKind a_cA a_cB a_outK a_outV fu (nI i) := by
        intro j
        induction j with
        | zero =>
          intro i fu e hf' hh'
          obtain ⟨fu', rfl⟩ : ∃ fu', fu = fu' + 1 := ⟨fu - 1, by omega⟩
          have : i = c := by omega
          subst this
          unfold wY_takes_25
          exact br_t (nI_le (by omega) (by omega)) (h1 ⟨c1, c2, hh'⟩)
        | succ j ih =>
          intro i fu e hf' hh'
          obtain ⟨fu', rfl⟩ : ∃ fu', fu = fu' + 1 := ⟨fu - 1, by omega⟩
          obtain ⟨k1, k2⟩ := hk i (by omega)
          have pm := e6 i
          unfold wY_takes_25
          have s1 : nI (fs + c) - nI c + nI i = nI (fs + i) := by
            rw [← nI_add, Int32.add_sub_cancel, nI_add]
          have s2 : (3 : Int32) * nI m + nI i = nI (3 * m + i) := by
            rw [show (3 : Int32) = nI 3 from rfl, ls_mul, nI_add]
          rw [s1, s2, nI_clamp (by omega), nI_clamp (by omega), k1, e5 i (by omega)]
          refine br_f (nI_ge (by omega) (by omega)) ⟨vp_in_nI (by omega) (by decide), vp_in_nI (by omega) (by decide), hy_fit (by omega) pm (fun ft => br_f (by decide) (nm_r (nI_1 i) ?_)) (fun ft => br_t rfl (h0 (fun t => ?_)))⟩
          · refine ih (i + 1) fu' (by omega) (by omega) (fun i' hi' => ?_)
            rcases Nat.lt_or_ge i' i with g | g
            · exact hh' i' g
            · have : i' = i := by omega
              subst this
              exact ft
          · rw [t.2.2 i (by omega)] at ft
            cases ft
      exact K c 0 (c + 1) (by omega) (by omega) (fun i' hi' => by omega)
    · exact br_f (fun g => c2 ((nI_eq (by omega) (by omega)).mp g)) (h0 (fun t => c2 t.2.1))
  · exact br_f (fun g => c1 (by have := (nI_eq (a := nf m + 54) (b := nm + 54) (by omega) (by omega)).mp g; omega)) (h0 (fun t => c1 t.1))
set_option maxHeartbeats 200000 in
theorem hy_most (hs : ls_yms mc a_mName a_mCount a_mPar nf cf pf) (hm : m < mc) (tm : ls_tak nf cf pf nm c ak m) (hn : nm < 16) (hc : c ≤ 3) (hf : fs + c ≤ 400) (hk : ∀ i, i < c → a_sk (fs + i) = nI (ak i) ∧ ak i ≤ 4) (h1 : ls_mo (ls_tkb nf cf pf nm c ak) (ls_asb pf) mc m → q 1) (h0 : ¬ ls_mo (ls_tkb nf cf pf nm c ak) (ls_asb pf) mc m → q 0) : wpY_mostSpecial q (f_most, f_n, f_stored, nI mc, f_nEnv, f_base, nI (fs + c), f_no, f_nc, f_pc, f_mode, f_err, f_errAt, f_ticks, f_calls, f_outs, f_resK, f_part, f_resV, f_cnt, f_full, f_flag, f_need, a_tk, a_tv, a_tp, a_mName, a_mKind, a_mCount, a_mPar, a_mAt, a_vName, a_vDecl, a_vKind, a_vVal, a_sk, a_sv, a_oKind, a_oAt, a_oArgs, a_cKind, a_cA, a_cB, a_outK, a_outV) (nI m) (nI (nm + 54)) (nI c) := by
  have hs' := hs
  obtain ⟨h8, hh⟩ := hs
  obtain ⟨e1, e2, e3, e4, e5, e6, e7⟩ := hh m hm
  have cm : cf m = c := tm.2.1
  unfold wpY_mostSpecial
  dsimp only
  have K : ∀ (j i fu : Nat), i + j = mc → j < fu → (∀ o, o < i → ls_tkb nf cf pf nm c ak o = true → ls_asb pf m o = true) → wY_mostSpecial_3 q (nI m) (nI (nm + 54)) (nI c) f_most f_n f_stored (nI mc) f_nEnv f_base (nI (fs + c)) f_no f_nc f_pc f_mode f_err f_errAt f_ticks f_calls f_outs f_resK f_part f_resV f_cnt f_full f_flag f_need a_tk a_tv a_tp a_mName a_mKind a_mCount a_mPar a_mAt a_vName a_vDecl a_vKind a_vVal a_sk a_sv a_oKind a_oAt a_oArgs a_cKind a_cA a_cB a_outK a_outV fu (nI i) := by
    intro j
    induction j with
    | zero =>
      intro i fu e hf' hh'
      obtain ⟨fu', rfl⟩ : ∃ fu', fu = fu' + 1 := ⟨fu - 1, by omega⟩
      have : i = mc := by omega
      subst this
      unfold wY_mostSpecial_3
      exact br_t (nI_le (by omega) (by omega)) (h1 hh')
    | succ j ih =>
      intro i fu e hf' hh'
      obtain ⟨fu', rfl⟩ : ∃ fu', fu = fu' + 1 := ⟨fu - 1, by omega⟩
      obtain ⟨o1, o2, o3, o4, o5, o6, o7⟩ := hh i (by omega)
      unfold wY_mostSpecial_3
      refine br_f (nI_ge (by omega) (by omega)) (hy_takes hs' (by omega) hn hc hf hk (fun t => br_f (by decide) ⟨c + 1, ?_⟩) (fun t => br_t rfl (nm_r (nI_1 i) ?_)))
      · have co : cf i = c := t.2.1
        have W : ∀ (y x fu2 : Nat), x + y = c → y < fu2 → (∀ x', x' < x → ls_fit (pf m x') (pf i x') = true) → wY_mostSpecial_29 q (wY_mostSpecial_3 q (nI m) (nI (nm + 54)) (nI c) f_most f_n f_stored (nI mc) f_nEnv f_base (nI (fs + c)) f_no f_nc f_pc f_mode f_err f_errAt f_ticks f_calls f_outs f_resK f_part f_resV f_cnt f_full f_flag f_need a_tk a_tv a_tp a_mName a_mKind a_mCount a_mPar a_mAt a_vName a_vDecl a_vKind a_vVal a_sk a_sv a_oKind a_oAt a_oArgs a_cKind a_cA a_cB a_outK a_outV fu') (nI m) (nI (nm + 54)) (nI c) (nI i) f_most f_n f_stored (nI mc) f_nEnv f_base (nI (fs + c)) f_no f_nc f_pc f_mode f_err f_errAt f_ticks f_calls f_outs f_resK f_part f_resV f_cnt f_full f_flag f_need a_tk a_tv a_tp a_mName a_mKind a_mCount a_mPar a_mAt a_vName a_vDecl a_vKind a_vVal a_sk a_sv a_oKind a_oAt a_oArgs a_cKind a_cA a_cB a_outK a_outV fu2 (nI x) := by
          intro y
          induction y with
          | zero =>
            intro x fu2 ex hf2 hx
            obtain ⟨fu3, rfl⟩ : ∃ fu3, fu2 = fu3 + 1 := ⟨fu2 - 1, by omega⟩
            have : x = c := by omega
            subst this
            unfold wY_mostSpecial_29
            refine br_t (nI_le (by omega) (by omega)) (nm_r (nI_1 i) (ih (i + 1) fu' (by omega) (by omega) (fun o ho to => ?_)))
            rcases Nat.lt_or_ge o i with g | g
            · exact hh' o g to
            · have : o = i := by omega
              subst this
              refine ls_asb_t.mpr (fun z hz => ?_)
              rcases Nat.lt_or_ge z x with g2 | g2
              · exact hx z g2
              · rw [e7 z (by omega), o7 z (by omega)]; rfl
          | succ y ihy =>
            intro x fu2 ex hf2 hx
            obtain ⟨fu3, rfl⟩ : ∃ fu3, fu2 = fu3 + 1 := ⟨fu2 - 1, by omega⟩
            unfold wY_mostSpecial_29
            have s1 : (3 : Int32) * nI m + nI x = nI (3 * m + x) := by rw [show (3 : Int32) = nI 3 from rfl, ls_mul, nI_add]
            have s2 : (3 : Int32) * nI i + nI x = nI (3 * i + x) := by rw [show (3 : Int32) = nI 3 from rfl, ls_mul, nI_add]
            rw [s1, s2, nI_clamp (by omega), nI_clamp (by omega), e5 x (by omega), o5 x (by omega)]
            refine br_f (nI_ge (by omega) (by omega)) ⟨vp_in_nI (by omega) (by decide), vp_in_nI (by omega) (by decide), hy_fit (e6 x) (o6 x) (fun ft => br_f (by decide) (nm_r (nI_1 x) ?_)) (fun ft => br_t rfl (h0 (fun mo => ?_)))⟩
            · refine ihy (x + 1) fu3 (by omega) (by omega) (fun x' hx' => ?_)
              rcases Nat.lt_or_ge x' x with g | g
              · exact hx x' g
              · have : x' = x := by omega
                subst this
                exact ft
            · have := ls_asb_t.mp (mo i (by omega) (ls_tkb_t.mpr t)) x (by omega)
              rw [this] at ft
              cases ft
        exact W c 0 (c + 1) (by omega) (by omega) (fun x' hx' => by omega)
      · refine ih (i + 1) fu' (by omega) (by omega) (fun o ho to => ?_)
        rcases Nat.lt_or_ge o i with g | g
        · exact hh' o g to
        · have : o = i := by omega
          subst this
          exact absurd (ls_tkb_t.mp to) t
  exact ⟨mc + 1, K mc 0 (mc + 1) (by omega) (by omega) (fun o ho => by omega)⟩
set_option maxHeartbeats 200000 in
/-- the parameters become local variables, and the body begins -/
theorem hy_call_196 {ne nc at0 : Nat} {v : Nat → Int64} {tn : Nat → Nat} (hs : ls_yms mc a_mName a_mCount a_mPar nf cf pf) (hm : m < mc) (cm : cf m = c) (hne : ne + c ≤ 80) (hnc : nc < 700) (hf : fs + c ≤ 400) (hat : a_mAt m = nI at0) (ha : at0 + 4 + 3 * c < 384) (hk : ∀ i, i < c → a_sk (fs + i) = nI (ak i) ∧ ak i ≤ 4 ∧ a_sv (fs + i) = v i) (htn : ∀ i, i < c → a_tk (at0 + 4 + 3 * i) = nI (tn i) ∧ tn i < 100)
    (g : ∀ (vn vd vk : Nat → Int32) (vv : Nat → Int64), (∀ j, (j < ne ∨ ne + c ≤ j) → vn j = a_vName j ∧ vd j = a_vDecl j ∧ vk j = a_vKind j ∧ vv j = a_vVal j) → (∀ i, i < c → vn (ne + i) = nI (tn i) ∧ vd (ne + i) = nI (pf m i) ∧ vk (ne + i) = nI (ls_ent1 (pf m) ak i) ∧ vv (ne + i) = v i) → post (f_most, f_n, f_stored, f_nm, nI (ne + c), f_base, nI fs, f_no, nI (nc + 1), nI (at0 + (if c = 0 then 5 else 4 + 3 * c)), 0, f_err, f_errAt, f_ticks, f_calls, f_outs, f_resK, f_part, f_resV, f_cnt, f_full, f_flag, f_need, a_tk, a_tv, a_tp, a_mName, a_mKind, a_mCount, a_mPar, a_mAt, vn, vd, vk, vv, a_sk, a_sv, a_oKind, a_oAt, a_oArgs, upd a_cKind nc (nI 1), upd a_cA nc (nI (ne + c)), upd a_cB nc (nI 0), a_outK, a_outV)) : ∃ fu, wY_call_196 post (nI c) (nI m) fu 0 f_most f_n f_stored f_nm (nI ne) f_base (nI fs) f_no (nI nc) f_pc f_mode f_err f_errAt f_ticks f_calls f_outs f_resK f_part f_resV f_cnt f_full f_flag f_need a_tk a_tv a_tp a_mName a_mKind a_mCount a_mPar a_mAt a_vName a_vDecl a_vKind a_vVal a_sk a_sv a_oKind a_oAt a_oArgs a_cKind a_cA a_cB a_outK a_outV := by
  obtain ⟨h8, hh⟩ := hs
  obtain ⟨e1, e2, e3, e4, e5, e6, e7⟩ := hh m hm
  have K : ∀ (j i fu : Nat) (vn vd vk : Nat → Int32) (vv : Nat → Int64), i + j = c → j < fu → (∀ x, (x < ne ∨ ne + i ≤ x) → vn x = a_vName x ∧ vd x = a_vDecl x ∧ vk x = a_vKind x ∧ vv x = a_vVal x) → (∀ x, x < i → vn (ne + x) = nI (tn x) ∧ vd (ne + x) = nI (pf m x) ∧ vk (ne + x) = nI (ls_ent1 (pf m) ak x) ∧ vv (ne + x) = v x) → wY_call_196 post (nI c) (nI m) fu (nI i) f_most f_n f_stored f_nm (nI (ne + i)) f_base (nI fs) f_no (nI nc) f_pc f_mode f_err f_errAt f_ticks f_calls f_outs f_resK f_part f_resV f_cnt f_full f_flag f_need a_tk a_tv a_tp a_mName a_mKind a_mCount a_mPar a_mAt vn vd vk vv a_sk a_sv a_oKind a_oAt a_oArgs a_cKind a_cA a_cB a_outK a_outV := by
    intro j
    induction j with
    | zero =>
      intro i fu vn vd vk vv e hf' h1 h2
      obtain ⟨fu', rfl⟩ : ∃ fu', fu = fu' + 1 := ⟨fu - 1, by omega⟩
      have : i = c := by omega
      subst this
      unfold wY_call_196
      refine br_t (nI_le (by omega) (by omega)) (hy_hold (kd := 1) (b := 0) hnc (by decide) (by omega) (by decide) ?_)
      dsimp only
      rw [nI_clamp (by omega), hat]
      have G := g vn vd vk vv h1 h2
      refine ⟨vp_in_nI (by omega) (by decide), ?_⟩
      by_cases c0 : i = 0
      · rw [if_pos c0] at G
        exact br_t (by rw [c0]; rfl) (nm_r (by rw [show (5 : Int32) = nI 5 from rfl, nI_add]) G)
      · rw [if_neg c0] at G
        exact br_f (fun q' => c0 ((nI_eq (b := 0) (by omega) (by decide)).mp q')) (nm_r (by rw [show (4 : Int32) = nI 4 from rfl, show (3 : Int32) = nI 3 from rfl, ls_mul, nI_add, nI_add]) G)
    | succ j ih =>
      intro i fu vn vd vk vv e hf' h1 h2
      obtain ⟨fu', rfl⟩ : ∃ fu', fu = fu' + 1 := ⟨fu - 1, by omega⟩
      obtain ⟨k1, k2, k3⟩ := hk i (by omega)
      obtain ⟨t1, t2⟩ := htn i (by omega)
      have p5 := e6 i
      unfold wY_call_196
      have s1 : (3 : Int32) * nI m + nI i = nI (3 * m + i) := by rw [show (3 : Int32) = nI 3 from rfl, ls_mul, nI_add]
      have s2 : nI at0 + 4 + 3 * nI i = nI (at0 + 4 + 3 * i) := by rw [show (4 : Int32) = nI 4 from rfl, show (3 : Int32) = nI 3 from rfl, ls_mul, nI_add, nI_add]
      have s3 : nI fs + nI i = nI (fs + i) := nI_add fs i
      have NEXT : wY_call_261 post (wY_call_196 post (nI c) (nI m) fu') (nI c) (nI m) (nI i) (nI (ls_ent1 (pf m) ak i)) (nI (pf m i)) (nI (tn i)) f_most f_n f_stored f_nm (nI (ne + i)) f_base (nI fs) f_no (nI nc) f_pc f_mode f_err f_errAt f_ticks f_calls f_outs f_resK f_part f_resV f_cnt f_full f_flag f_need a_tk a_tv a_tp a_mName a_mKind a_mCount a_mPar a_mAt vn vd vk vv a_sk a_sv a_oKind a_oAt a_oArgs a_cKind a_cA a_cB a_outK a_outV := by
        unfold wY_call_261
        rw [s3, nI_clamp (by omega), k3]
        have ke : ls_ent1 (pf m) ak i < 128 := by unfold ls_ent1; split <;> omega
        refine ⟨vp_in_nI (by omega) (by decide), hy_local (by omega) (by omega) (by omega) ke (nm_r (nI_1 i) ?_)⟩
        refine ih (i + 1) fu' _ _ _ _ (by omega) (by omega) (fun x hx => ?_) (fun x hx => ?_)
        · obtain ⟨y1, y2, y3, y4⟩ := h1 x (by omega)
          exact ⟨(pk_un (by omega)).trans y1, (pk_un (by omega)).trans y2, (pk_un (by omega)).trans y3, (pk_uLn (by omega)).trans y4⟩
        · rcases Nat.lt_or_ge x i with gx | gx
          · obtain ⟨y1, y2, y3, y4⟩ := h2 x gx
            exact ⟨(pk_un (by omega)).trans y1, (pk_un (by omega)).trans y2, (pk_un (by omega)).trans y3, (pk_uLn (by omega)).trans y4⟩
          · have : x = i := by omega
            subst this
            exact ⟨pk_us, pk_us, pk_us, pk_uLs⟩
      rw [s1, nI_clamp (by omega), nI_clamp (by omega), hat, s2, nI_clamp (by omega), t1, s3, nI_clamp (by omega), k1, e5 i (by omega)]
      refine br_f (nI_ge (by omega) (by omega)) ⟨vp_in_nI (by omega) (by decide), nm_e ⟨vp_in_nI (by omega) (by decide), vp_in_nI (by omega) (by decide), ?_⟩⟩
      by_cases c5 : pf m i = 5
      · have E : ls_ent1 (pf m) ak i = ak i := by unfold ls_ent1; rw [if_pos c5]
        rw [E] at NEXT
        exact br_t (by rw [c5]; rfl) ⟨vp_in_nI (by omega) (by decide), NEXT⟩
      · have E : ls_ent1 (pf m) ak i = pf m i := by unfold ls_ent1; rw [if_neg c5]
        rw [E] at NEXT
        exact br_f (mt (ls_k8 (b := 5) (by omega) (by decide)).mp c5) NEXT
  exact ⟨c + 1, K c 0 (c + 1) a_vName a_vDecl a_vKind a_vVal (by omega) (by omega) (fun _ _ => ⟨rfl, rfl, rfl, rfl⟩) (fun x hx => by omega)⟩
set_option maxHeartbeats 200000 in
/-- the whole call -/
theorem hy_call {no qq ne nc p ca tc mx ob : Nat} {v : Nat → Int64} (hs : ls_yms mc a_mName a_mCount a_mPar nf cf pf) (hno : no < 400) (e1 : a_oAt no = nI qq) (hq : qq < 384) (e2 : a_oArgs no = nI c) (e3 : a_tk qq = nI (nm + 54)) (hn : nm < 16) (hc : c ≤ 3) (hf : fs + c ≤ 400) (hk : ∀ i, i < c → a_sk (fs + i) = nI (ak i) ∧ ak i ≤ 4 ∧ a_sv (fs + i) = v i) (hne : ne + 3 ≤ 80) (hnc : nc + 1 < 700) (hp : p < 1000) (hca : ca ≤ 8) (hmx : mx < 1000) (htc : tc ≤ mx) (hob : ob < 128) (he : f_err = 0)
    (anti : ∀ a b, a < mc → b < mc → ls_tkb nf cf pf nm c ak a = true → ls_tkb nf cf pf nm c ak b = true → ls_asb pf a b = true → ls_asb pf b a = true → a = b)
    (h5 : (∀ m, m < mc → ¬ ls_tak nf cf pf nm c ak m) → post (nI mx, f_n, f_stored, nI mc, nI ne, nI ob, nI (fs + c), nI no, nI nc, nI p, f_mode, 5, ls_pl a_tp qq, nI tc, nI ca, f_outs, f_resK, f_part, f_resV, f_cnt, f_full, f_flag, f_need, a_tk, a_tv, a_tp, a_mName, a_mKind, a_mCount, a_mPar, a_mAt, a_vName, a_vDecl, a_vKind, a_vVal, a_sk, a_sv, a_oKind, a_oAt, a_oArgs, a_cKind, a_cA, a_cB, a_outK, a_outV))
    (h6 : (∃ m, m < mc ∧ ls_tak nf cf pf nm c ak m) → (∀ m, m < mc → ls_tak nf cf pf nm c ak m → ¬ ls_mo (ls_tkb nf cf pf nm c ak) (ls_asb pf) mc m) → post (nI mx, f_n, f_stored, nI mc, nI ne, nI ob, nI (fs + c), nI no, nI nc, nI p, f_mode, 6, ls_pl a_tp qq, nI tc, nI ca, f_outs, f_resK, f_part, f_resV, f_cnt, f_full, f_flag, f_need, a_tk, a_tv, a_tp, a_mName, a_mKind, a_mCount, a_mPar, a_mAt, a_vName, a_vDecl, a_vKind, a_vVal, a_sk, a_sv, a_oKind, a_oAt, a_oArgs, a_cKind, a_cA, a_cB, a_outK, a_outV))
    (h7 : ∀ m, m < mc → ls_tak nf cf pf nm c ak m → ls_mo (ls_tkb nf cf pf nm c ak) (ls_asb pf) mc m → ca = 8 → post (nI mx, f_n, f_stored, nI mc, nI ne, nI ob, nI (fs + c), nI no, nI nc, nI p, f_mode, 7, ls_pl a_tp qq, nI tc, nI ca, f_outs, f_resK, f_part, f_resV, f_cnt, f_full, f_flag, f_need, a_tk, a_tv, a_tp, a_mName, a_mKind, a_mCount, a_mPar, a_mAt, a_vName, a_vDecl, a_vKind, a_vVal, a_sk, a_sv, a_oKind, a_oAt, a_oArgs, a_cKind, a_cA, a_cB, a_outK, a_outV))
    (h9 : ∀ m, m < mc → ls_tak nf cf pf nm c ak m → ls_mo (ls_tkb nf cf pf nm c ak) (ls_asb pf) mc m → ca < 8 → tc = mx → post (nI mx, f_n, f_stored, nI mc, nI ne, nI ob, nI (fs + c), nI no, nI nc, nI p, f_mode, 9, ls_pl a_tp qq, nI tc, nI ca, f_outs, f_resK, f_part, f_resV, f_cnt, f_full, f_flag, f_need, a_tk, a_tv, a_tp, a_mName, a_mKind, a_mCount, a_mPar, a_mAt, a_vName, a_vDecl, a_vKind, a_vVal, a_sk, a_sv, a_oKind, a_oAt, a_oArgs, a_cKind, a_cA, a_cB, a_outK, a_outV))
    (h1 : ∀ m, m < mc → ls_tak nf cf pf nm c ak m → ls_mo (ls_tkb nf cf pf nm c ak) (ls_asb pf) mc m → ca < 8 → tc < mx → ∃ (at0 : Nat) (tn : Nat → Nat), a_mAt m = nI at0 ∧ at0 + 4 + 3 * c < 384 ∧ (∀ i, i < c → a_tk (at0 + 4 + 3 * i) = nI (tn i) ∧ tn i < 100) ∧ ∀ (vn vd vk : Nat → Int32) (vv : Nat → Int64), (∀ j, (j < ne ∨ ne + c ≤ j) → vn j = a_vName j ∧ vd j = a_vDecl j ∧ vk j = a_vKind j ∧ vv j = a_vVal j) → (∀ i, i < c → vn (ne + i) = nI (tn i) ∧ vd (ne + i) = nI (pf m i) ∧ vk (ne + i) = nI (ls_ent1 (pf m) ak i) ∧ vv (ne + i) = v i) → post (nI mx, f_n, f_stored, nI mc, nI (ne + c), nI ne, nI fs, nI no, nI (nc + 2), nI (at0 + (if c = 0 then 5 else 4 + 3 * c)), 0, f_err, f_errAt, nI (tc + 1), nI (ca + 1), f_outs, f_resK, f_part, f_resV, f_cnt, f_full, f_flag, f_need, a_tk, a_tv, a_tp, a_mName, a_mKind, a_mCount, a_mPar, a_mAt, vn, vd, vk, vv, a_sk, a_sv, a_oKind, a_oAt, a_oArgs, upd (upd a_cKind nc (nI 3)) (nc + 1) (nI 1), upd (upd a_cA nc (nI p)) (nc + 1) (nI (ne + c)), upd (upd a_cB nc (nI (m * 128 + ob))) (nc + 1) (nI 0), a_outK, a_outV)) : wpY_call post (nI mx, f_n, f_stored, nI mc, nI ne, nI ob, nI (fs + c), nI (no + 1), nI nc, nI p, f_mode, f_err, f_errAt, nI tc, nI ca, f_outs, f_resK, f_part, f_resV, f_cnt, f_full, f_flag, f_need, a_tk, a_tv, a_tp, a_mName, a_mKind, a_mCount, a_mPar, a_mAt, a_vName, a_vDecl, a_vKind, a_vVal, a_sk, a_sv, a_oKind, a_oAt, a_oArgs, a_cKind, a_cA, a_cB, a_outK, a_outV) := by
  have h8 := hs.1
  have hk' : ∀ i, i < c → a_sk (fs + i) = nI (ak i) ∧ ak i ≤ 4 := fun i hi => ⟨(hk i hi).1, (hk i hi).2.1⟩
  unfold wpY_call
  dsimp only
  rw [nI_pred, nI_clamp (by omega), e1]
  refine nm_e ⟨vp_in_nI hno (by decide), nm_e ⟨vp_in_nI hno (by decide), ?_⟩⟩
  rw [nI_clamp (by omega), e2]
  refine nm_e ⟨vp_in_nI hq (by decide), ?_⟩
  rw [nI_clamp (by omega), e3]
  refine nm_e ⟨mc + 1, ?_⟩
  have OK : ∀ m, m < mc → ls_tak nf cf pf nm c ak m → ls_mo (ls_tkb nf cf pf nm c ak) (ls_asb pf) mc m → ca < 8 → tc < mx → wY_call_138 post (nI c) (nI m) (nI mx) f_n f_stored (nI mc) (nI ne) (nI ob) (nI (fs + c)) (nI no) (nI nc) (nI p) f_mode f_err f_errAt (nI (tc + 1)) (nI ca) f_outs f_resK f_part f_resV f_cnt f_full f_flag f_need a_tk a_tv a_tp a_mName a_mKind a_mCount a_mPar a_mAt a_vName a_vDecl a_vKind a_vVal a_sk a_sv a_oKind a_oAt a_oArgs a_cKind a_cA a_cB a_outK a_outV := by
    intro m hm t mo c8 lt
    obtain ⟨at0, tn, a1, a2, a3, a4⟩ := h1 m hm t mo c8 lt
    have cm : cf m = c := t.2.1
    unfold wY_call_138
    rw [pk_shlN _ 7 (by decide) (by omega), show m * 2 ^ 7 = m * 128 by omega, ls_or7 ⟨m, by omega⟩ ⟨ob, hob⟩, nI_1]
    refine br_t he (nm_e (hy_hold (kd := 3) (by omega) (by decide) (by omega) (by show m * 128 + ob < 32768; omega) ?_))
    dsimp only
    refine nm_r (show nI (fs + c) - nI c = nI fs by rw [← nI_add]; exact Int32.add_sub_cancel (nI fs) (nI c)) ?_
    exact hy_call_196 hs hm cm (by omega) (by omega) hf a1 a2 hk a3 a4
  have ERR : ∀ (x5 : Int32) (z : Int32), z ≠ 0 → post (nI mx, f_n, f_stored, nI mc, nI ne, nI ob, nI (fs + c), nI no, nI nc, nI p, f_mode, z, ls_pl a_tp qq, nI tc, nI ca, f_outs, f_resK, f_part, f_resV, f_cnt, f_full, f_flag, f_need, a_tk, a_tv, a_tp, a_mName, a_mKind, a_mCount, a_mPar, a_mAt, a_vName, a_vDecl, a_vKind, a_vVal, a_sk, a_sv, a_oKind, a_oAt, a_oArgs, a_cKind, a_cA, a_cB, a_outK, a_outV) → wY_call_138 post (nI c) x5 (nI mx) f_n f_stored (nI mc) (nI ne) (nI ob) (nI (fs + c)) (nI no) (nI nc) (nI p) f_mode z (ls_pl a_tp qq) (nI tc) (nI ca) f_outs f_resK f_part f_resV f_cnt f_full f_flag f_need a_tk a_tv a_tp a_mName a_mKind a_mCount a_mPar a_mAt a_vName a_vDecl a_vKind a_vVal a_sk a_sv a_oKind a_oAt a_oArgs a_cKind a_cA a_cB a_outK a_outV := by
    intro x5 z hz hp'
    unfold wY_call_138
    exact br_f hz hp'
  have K : ∀ (j i fu cnt : Nat) (x5 : Int32), i + j = mc → j < fu → cnt ≤ i → (cnt = 0 → ∀ m, m < i → ¬ ls_tak nf cf pf nm c ak m) → (cnt ≠ 0 → ∃ m, m < mc ∧ ls_tak nf cf pf nm c ak m) → ((x5 = -1 ∧ ∀ m, m < i → ls_tak nf cf pf nm c ak m → ¬ ls_mo (ls_tkb nf cf pf nm c ak) (ls_asb pf) mc m) ∨ ∃ m, m < mc ∧ x5 = nI m ∧ ls_tak nf cf pf nm c ak m ∧ ls_mo (ls_tkb nf cf pf nm c ak) (ls_asb pf) mc m) → wY_call_43 post (nI qq) (nI c) (nI (nm + 54)) (nI mx) f_n f_stored (nI mc) (nI ne) (nI ob) (nI (fs + c)) (nI no) (nI nc) (nI p) f_mode f_err f_errAt (nI tc) (nI ca) f_outs f_resK f_part f_resV f_cnt f_full f_flag f_need a_tk a_tv a_tp a_mName a_mKind a_mCount a_mPar a_mAt a_vName a_vDecl a_vKind a_vVal a_sk a_sv a_oKind a_oAt a_oArgs a_cKind a_cA a_cB a_outK a_outV fu (nI cnt) x5 (nI i) := by
    intro j
    induction j with
    | zero =>
      intro i fu cnt x5 e hf' hci hc0 hc1 hx
      obtain ⟨fu', rfl⟩ : ∃ fu', fu = fu' + 1 := ⟨fu - 1, by omega⟩
      have : i = mc := by omega
      subst this
      unfold wY_call_43
      refine br_t (nI_le (by omega) (by omega)) ?_
      rcases hx with ⟨rfl, hx⟩ | ⟨m, m1, rfl, m2, m3⟩
      · refine br_f (by decide) ?_
        unfold wY_call_107
        by_cases c0 : cnt = 0
        · subst c0
          exact br_t rfl (hy_fail hq (ERR _ _ (by decide) (h5 (hc0 rfl))))
        · exact br_f (fun q' => c0 ((nI_eq (b := 0) (by omega) (by decide)).mp q')) (hy_fail hq (ERR _ _ (by decide) (h6 (hc1 c0) hx)))
      · refine br_t (nI_le (a := 0) (by omega) (by omega)) ?_
        by_cases c8 : ca = 8
        · refine br_t (by rw [c8]; rfl) (hy_fail hq (ERR _ _ (by decide) (h7 m m1 m2 m3 c8)))
        · refine br_f (fun q' => c8 ((nI_eq (b := 8) (by omega) (by decide)).mp q')) (hy_tick hmx hq htc (fun lt => OK m m1 m2 m3 (by omega) lt) (fun eq => ERR _ _ (by decide) (h9 m m1 m2 m3 (by omega) eq)))
    | succ j ih =>
      intro i fu cnt x5 e hf' hci hc0 hc1 hx
      obtain ⟨fu', rfl⟩ : ∃ fu', fu = fu' + 1 := ⟨fu - 1, by omega⟩
      unfold wY_call_43
      refine br_f (nI_ge (by omega) (by omega)) (hy_takes hs (by omega) hn hc hf hk' (fun t => br_f (by decide) (nm_r (nI_1 cnt) (hy_most hs (by omega) t hn hc hf hk' (fun mo => br_f (by decide) (nm_r (nI_1 i) ?_)) (fun mo => br_t rfl (nm_r (nI_1 i) ?_))))) (fun t => br_t rfl (nm_r (nI_1 i) ?_)))
      · exact ih (i + 1) fu' (cnt + 1) _ (by omega) (by omega) (by omega) (fun q' => by omega) (fun _ => ⟨i, by omega, t⟩) (Or.inr ⟨i, by omega, rfl, t, mo⟩)
      · refine ih (i + 1) fu' (cnt + 1) _ (by omega) (by omega) (by omega) (fun q' => by omega) (fun _ => ⟨i, by omega, t⟩) ?_
        rcases hx with ⟨r1, hx⟩ | hx
        · refine Or.inl ⟨r1, fun m hm tm => ?_⟩
          rcases Nat.lt_or_ge m i with g | g
          · exact hx m g tm
          · have : m = i := by omega
            subst this
            exact mo
        · exact Or.inr hx
      · refine ih (i + 1) fu' cnt _ (by omega) (by omega) (by omega) (fun q' m hm => ?_) hc1 ?_
        · rcases Nat.lt_or_ge m i with g | g
          · exact hc0 q' m g
          · have : m = i := by omega
            subst this
            exact t
        · rcases hx with ⟨r1, hx⟩ | hx
          · refine Or.inl ⟨r1, fun m hm tm => ?_⟩
            rcases Nat.lt_or_ge m i with g | g
            · exact hx m g tm
            · have : m = i := by omega
              subst this
              exact absurd tm t
          · exact Or.inr hx
  exact K mc 0 (mc + 1) 0 (-1) (by omega) (by omega) (Nat.le_refl _) (fun _ m hm => by omega) (fun q' => absurd rfl q') (Or.inl ⟨rfl, fun m hm => by omega⟩)
end
