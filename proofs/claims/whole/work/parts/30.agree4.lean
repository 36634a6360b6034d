section
variable {T : Nat → Nat} {V : Nat → Int32} {n : Nat} {pos es : Nat} {pe : List LsP} {fr : List LsF} {L : List Nat} {k : LsK} {y : LsY}
/-- where a step within an expression leads -/
def ls_shp (pos es : Nat) (r : Except Nat LsC) : Prop := match r with
  | .ok c => (c.1 = 4 ∨ c.1 = 5) ∧ c.2.2.1 = es ∧ pos ≤ c.2.1
  | .error e => ∃ p, pos ≤ p ∧ e = if es + 32 < p then es + 32 else p
set_option maxHeartbeats 200000 in
theorem ls_shp_f {p : Nat} (h : pos ≤ p) : ls_shp pos es (ls_flt es p) := ⟨p, h, rfl⟩
set_option maxHeartbeats 200000 in
theorem ls_shp4 : ls_shp (pos + 1) es (ls_r4 T V pos es pe fr L k) ∨ ls_r4 T V pos es pe fr L k = ls_flt es pos := by
  have K : ∀ st p (pe' : List LsP) (k' : LsK), (st = 4 ∨ st = 5) → pos + 1 ≤ p → ls_shp (pos + 1) es (.ok (st, p, es, pe', fr, L, k')) := fun st p pe' k' h1 h2 => ⟨h1, rfl, h2⟩
  unfold ls_r4
  split
  · dsimp only
    split
    · split
      · exact Or.inl (K _ _ _ _ (by decide) (by omega))
      · exact Or.inl (K _ _ _ _ (by decide) (by omega))
    · split
      · split
        · exact Or.inl (K _ _ _ _ (by decide) (by omega))
        · exact Or.inl (K _ _ _ _ (by decide) (by omega))
      · exact Or.inl (K _ _ _ _ (by decide) (by omega))
  split
  · exact Or.inl (K _ _ _ _ (by decide) (by omega))
  split
  · exact Or.inl (K _ _ _ _ (by decide) (by omega))
  split
  · exact Or.inl (K _ _ _ _ (by decide) (by omega))
  split
  · exact Or.inl (K _ _ _ _ (by decide) (by omega))
  split
  · split
    · split
      · exact Or.inl (K _ _ _ _ (by decide) (by omega))
      · exact Or.inl (ls_shp_f (by omega))
    · split
      · exact Or.inl (ls_shp_f (by omega))
      · exact Or.inl (K _ _ _ _ (by decide) (by omega))
  split
  · exact Or.inl (K _ _ _ _ (by decide) (by omega))
  · exact Or.inr rfl
set_option maxHeartbeats 200000 in
theorem ls_shp5 (h : es + 32 < pos) : ls_shp pos es (ls_r5 T pos es pe fr L k) := by
  have K : ∀ st p (pe' : List LsP) (k' : LsK), (st = 4 ∨ st = 5) → pos ≤ p → ls_shp pos es (.ok (st, p, es, pe', fr, L, k')) := fun st p pe' k' h1 h2 => ⟨h1, rfl, h2⟩
  unfold ls_r5
  dsimp only
  split
  · split
    · exact K _ _ _ _ (by decide) (by omega)
    · unfold ls_end
      rw [if_pos h]
      exact ⟨pos, Nat.le_refl _, by rw [if_pos h]⟩
  · split
    · exact K _ _ _ _ (by decide) (by omega)
    split
    · exact K _ _ _ _ (by decide) (by omega)
    split
    · split
      · exact K _ _ _ _ (by decide) (by omega)
      · exact K _ _ _ _ (by decide) (by omega)
    split
    · split
      · exact K _ _ _ _ (by decide) (by omega)
      · exact ls_shp_f (Nat.le_refl _)
    · exact ls_shp_f (Nat.le_refl _)
set_option maxHeartbeats 200000 in
theorem ls_doomed (hT : ls_txt T n) : ∀ (m : Nat) (c : LsC), ls_doom c → ls_Inv T n c → ls_mu n c ≤ m → ls_run T V m c = .error (c.2.2.1 + 32) := by
  intro m
  induction m with
  | zero =>
    intro c hd hI hm
    have := ls_mu0 (by have := hd.1; omega) hI (by omega)
    have := hd.1
    omega
  | succ m ih =>
    intro c hd hI hm
    unfold ls_run
    rw [if_neg (by have := hd.1; omega)]
    have S : ls_shp c.2.1 c.2.2.1 (ls_rs T V c) := by
      obtain ⟨st, pos, es, pe, fr, L, k⟩ := c
      obtain ⟨h1, h2⟩ := hd
      dsimp only at h1 h2
      show ls_shp pos es (ls_rs T V (st, pos, es, pe, fr, L, k))
      unfold ls_rs
      dsimp only
      rw [if_neg (by omega), if_neg (by omega), if_neg (by omega), if_neg (by omega)]
      rcases h1 with rfl | rfl
      · rw [if_pos rfl]
        rcases ls_shp4 (T := T) (V := V) (pos := pos) (es := es) (pe := pe) (fr := fr) (L := L) (k := k) with h | h
        · revert h
          cases ls_r4 T V pos es pe fr L k with
          | ok c => exact fun h => ⟨h.1, h.2.1, by have := h.2.2; omega⟩
          | error e => exact fun ⟨p, h, h'⟩ => ⟨p, by omega, h'⟩
        · rw [h]; exact ls_shp_f (Nat.le_refl _)
      · rw [if_neg (by decide)]
        exact ls_shp5 h2
    cases hr : ls_rs T V c with
    | error e =>
      rw [hr] at S
      obtain ⟨p, h1, h2⟩ := S
      have := hd.2
      rw [if_pos (by omega)] at h2
      rw [h2]
    | ok c' =>
      rw [hr] at S
      obtain ⟨h1, h2, h3⟩ := S
      obtain ⟨j1, j2⟩ := ls_inv_rs hT (by have := hd.1; omega) hI hr
      have := hd.2
      have G := ih c' ⟨h1, by omega⟩ j1 (by omega)
      dsimp only
      rw [G, h2]
set_option maxHeartbeats 200000 in
theorem ls_yw_long {nd t fl fu : Nat} {C : List (Nat × Nat)} {O N : List Nat} (h : nd ≠ 5 ∨ (t ≠ 20 ∧ t ≠ 16) ∨ O ≠ []) : ls_ywith nd t C O fl 32 fu N = none := by
  unfold ls_ywith
  rw [if_neg, if_pos (by decide)]
  intro ⟨h1, h2, h3⟩
  rcases h with h | h | h
  · exact h h1
  · omega
  · exact h h2
set_option maxHeartbeats 200000 in
theorem ls_nd4_in : ls_nd4 pe = 3 ∨ ls_nd4 pe = 4 ∨ ls_nd4 pe = 15 ∨ ls_nd4 pe = 17 := by
  unfold ls_nd4
  split
  · exact Or.inl rfl
  · (repeat' split) <;> decide
set_option maxHeartbeats 200000 in
theorem ls_al4 {p : Nat} {C : List (Nat × Nat)} {fl : Nat} (hm : ls_mb fr) (hp : p ≤ es + 32) (hc : ∀ e ∈ pe, e.1 = 0 → 1 ≤ e.2.2) (h3 : ls_rc fr C) (c15 : ls_nd4 pe = 15 → 6 ≤ T p) (c17 : ls_nd4 pe = 17 → T p ≠ 16) : ls_al T n (4, p, es, pe, fr, L, k) (ls_nd4 pe, C, ls_os pe, fl, p - es, ls_fu (ls_fk fr), ls_m54 L) := by
  unfold ls_al
  dsimp only
  rw [if_pos (Or.inl rfl), if_neg (by decide)]
  refine ⟨hm, hp, hc, C, h3, c15, c17, ⟨fl, ls_yg_w ?_⟩, fun _ => ls_yv_0 ?_⟩
  · have := ls_nd4_in (pe := pe); omega
  · have := ls_nd4_in (pe := pe); omega
set_option maxHeartbeats 200000 in
theorem ls_al5 {p : Nat} {C : List (Nat × Nat)} {fl : Nat} (hm : ls_mb fr) (hp : p ≤ es + 32) (hc : ∀ e ∈ pe, e.1 = 0 → 1 ≤ e.2.2) (h3 : ls_rc fr C) (f1 : 0 < fl → T p ≠ 15) (f2 : fl = 2 → ¬ ls_asg (T p)) : ls_al T n (5, p, es, pe, fr, L, k) (5, C, ls_os pe, fl, p - es, ls_fu (ls_fk fr), ls_m54 L) := by
  unfold ls_al
  dsimp only
  rw [if_pos (Or.inr rfl), if_pos rfl]
  exact ⟨hm, hp, hc, rfl, h3, f1, f2⟩
set_option maxHeartbeats 200000 in
theorem ls_ag4 (hT : ls_txt T n) (hI : ls_Inv T n (4, pos, es, pe, fr, L, k)) (h : ls_al T n (4, pos, es, pe, fr, L, k) y) : ls_ag T n (4, pos, es, pe, fr, L, k) y (ls_r4 T V pos es pe fr L k) := by
  obtain ⟨nd, C0, O, fl0, ct, fu, N⟩ := y
  unfold ls_al at h
  dsimp only at h
  rw [if_pos (Or.inl rfl), if_neg (by decide)] at h
  obtain ⟨hm, hp32, hc, C, h3, c15, c17, ⟨fl, hy⟩, h72⟩ := h
  obtain ⟨i1, i2, i3, i4, i5, i6, i7⟩ := hI
  rw [if_pos (Or.inl rfl), if_pos rfl] at i7
  obtain ⟨a1, a2, a3, a4, f, r, a5, a6, a7⟩ := i7
  have nd4 := ls_nd4_in (pe := pe)
  by_cases long : pos = es + 32
  · -- its 33rd token
    have B : ls_yc T n (4, pos, es, pe, fr, L, k) (nd, C0, O, fl0, ct, fu, N) = some pos := by
      refine ls_yv_bad (p := pos) hT i1 (fun _ => ?_) h72
      rw [hy, show pos - es = 32 by omega]
      exact ls_yw_long (Or.inl (by omega))
    rcases ls_shp4 (T := T) (V := V) (pos := pos) (es := es) (pe := pe) (fr := fr) (L := L) (k := k) with S | S
    · revert S
      cases ls_r4 T V pos es pe fr L k with
      | ok c =>
        intro ⟨s1, s2, s3⟩
        refine Or.inr ⟨⟨s1, by omega⟩, ?_⟩
        rw [B, s2, long]
      | error e =>
        intro ⟨p, s1, s2⟩
        rw [if_pos (by omega)] at s2
        show ls_yc T n _ _ = some e
        rw [B, s2, long]
    · rw [S]
      show ls_yc T n _ _ = some (if es + 32 < pos then es + 32 else pos)
      rw [B, if_neg (by omega)]
  have ct32 : ¬ 32 < (pos - es) + 1 := by omega
  -- the first token as an operand
  have OPD : ¬ (ls_nd4 pe = 17 ∧ T pos = 16) → ¬ (ls_nd4 pe = 15 ∧ T pos < 5) → ls_yg (nd, C0, O, fl0, ct, fu, N) (T pos) = ls_yopd (T pos) (if ls_nd4 pe = 4 then 1 else 2) C (ls_os pe) (pos - es + 1) (ls_fu (ls_fk fr)) (ls_m54 L) := by
    intro h1 h2
    rw [hy]
    unfold ls_ywith
    rw [if_neg (by omega), if_neg ct32, if_neg (by omega), if_neg (by omega), if_neg h1, if_neg h2]
  have hn17 : ¬ (ls_nd4 pe = 17 ∧ T pos = 16) := fun h => c17 h.1 h.2
  have hn15 : ¬ (ls_nd4 pe = 15 ∧ T pos < 5) := fun h => by have := c15 h.1; omega
  have OP := OPD hn17 hn15
  have sub1 : pos - es + 1 = (pos + 1) - es := by omega
  have sub2 : pos - es + 1 + 1 = (pos + 2) - es := by omega
  have sub3 : pos - es + 1 + 1 + 1 = (pos + 3) - es := by omega
  unfold ls_r4
  by_cases tn : ls_nam (T pos)
  · rw [if_pos tn]
    have t54 := tn.1
    have t70 := tn.2
    have pn := ls_txt_lt hT (p := pos) (by omega)
    have E1 : ls_yg (nd, C0, O, fl0, ct, fu, N) (T pos) = some (5, C, ls_os pe, if ls_nd4 pe = 4 then 1 else 2, pos - es + 1, ls_fu (ls_fk fr), ls_m54 L) := by
      rw [OP]; unfold ls_yopd
      rw [if_neg (by omega), if_neg (by omega), if_pos (by omega), if_pos tn]
    have s1 := ls_yv_step pn E1
    have nm0 : 0 < (if ls_nd4 pe = 4 then 1 else 2) := by split <;> decide
    have g2 : ∀ t, ls_yg (5, C, ls_os pe, if ls_nd4 pe = 4 then 1 else 2, pos - es + 1, ls_fu (ls_fk fr), ls_m54 L) t = ls_ywith 5 t C (ls_os pe) (if ls_nd4 pe = 4 then 1 else 2) (pos - es + 1) (ls_fu (ls_fk fr)) (ls_m54 L) := fun t => ls_yg_w (Or.inr (Or.inr (Or.inl rfl)))
    dsimp only
    -- the second token comes too late
    have LATE : pos + 1 = es + 32 → T (pos + 1) ≠ 20 → T (pos + 1) ≠ 16 → ls_yc T n (4, pos, es, pe, fr, L, k) (nd, C0, O, fl0, ct, fu, N) = some (es + 32) := by
      intro hl h20 h16
      refine s1.trans ((ls_yv_bad (p := pos + 1) hT (by omega) (fun _ => ?_) (fun _ => ls_yv_0 (by decide))).trans (by rw [hl]))
      rw [g2, show pos - es + 1 = 32 by omega]
      exact ls_yw_long (Or.inr (Or.inl ⟨h20, h16⟩))
    by_cases t15 : T (pos + 1) = 15
    · rw [if_pos t15]
      have p1 := ls_txt_lt hT (p := pos + 1) (by omega)
      by_cases l1 : pos + 1 = es + 32
      · have B := LATE l1 (by omega) (by omega)
        by_cases t16 : T (pos + 2) = 16
        · rw [if_pos t16]
          exact Or.inr ⟨⟨Or.inr rfl, by show es + 32 < pos + 3; omega⟩, B⟩
        · rw [if_neg t16]
          exact Or.inr ⟨⟨Or.inl rfl, by show es + 32 < pos + 2; omega⟩, B⟩
      have E2 : ls_yg (5, C, ls_os pe, if ls_nd4 pe = 4 then 1 else 2, pos - es + 1, ls_fu (ls_fk fr), ls_m54 L) (T (pos + 1)) = some (17, C, 1 :: ls_os pe, 0, pos - es + 1 + 1, ls_fu (ls_fk fr), ls_m54 L) := by
        rw [g2]; unfold ls_ywith ls_yaft
        rw [if_neg (by omega), if_neg (by omega), if_pos rfl, if_neg (by rw [t15]; decide), if_neg (by rw [t15]; decide), if_pos t15, if_pos nm0]
      have s2 := s1.trans (ls_yv_step p1 E2)
      by_cases t16 : T (pos + 2) = 16
      · rw [if_pos t16]
        have p2 := ls_txt_lt hT (p := pos + 2) (by omega)
        have g3 : ∀ t, ls_yg (17, C, 1 :: ls_os pe, 0, pos - es + 1 + 1, ls_fu (ls_fk fr), ls_m54 L) t = ls_ywith 17 t C (1 :: ls_os pe) 0 (pos - es + 1 + 1) (ls_fu (ls_fk fr)) (ls_m54 L) := fun t => ls_yg_w (Or.inr (Or.inr (Or.inr (by decide))))
        by_cases l2 : pos + 2 = es + 32
        · refine Or.inr ⟨⟨Or.inr rfl, by show es + 32 < pos + 3; omega⟩, ?_⟩
          refine s2.trans ((ls_yv_bad (p := pos + 2) hT (by omega) (fun _ => ?_) (fun _ => ls_yv_0 (by decide))).trans (by rw [l2]))
          rw [g3, show pos - es + 1 + 1 = 32 by omega]
          exact ls_yw_long (Or.inl (by decide))
        · have E3 : ls_yg (17, C, 1 :: ls_os pe, 0, pos - es + 1 + 1, ls_fu (ls_fk fr), ls_m54 L) (T (pos + 2)) = some (5, C, ls_os pe, 0, (pos + 3) - es, ls_fu (ls_fk fr), ls_m54 L) := by
            rw [g3]; unfold ls_ywith
            rw [if_neg (by omega), if_neg (by omega), if_neg (by decide), if_neg (by decide), if_pos ⟨rfl, t16⟩, sub3]; rfl
          exact Or.inl ⟨_, ls_al5 (fl := 0) hm (by omega) hc h3 (fun h => by omega) (fun h => by omega), (s2.trans (ls_yv_step p2 E3)).symm⟩
      · rw [if_neg t16]
        refine Or.inl ⟨_, ls_al4 (pe := (0, pos, 1) :: pe) (fl := 0) hm (by omega) (fun e he => ?_) h3 (fun h => absurd h (by show (17 : Nat) ≠ 15; decide)) (fun _ => t16), ?_⟩
        · rcases List.mem_cons.mp he with rfl | he
          · exact fun _ => Nat.le_refl _
          · exact hc e he
        · refine Eq.trans ?_ s2.symm
          rw [sub2]; rfl
    rw [if_neg t15]
    have stq : ls_starts pe = true ↔ ls_nd4 pe ≠ 4 := by
      unfold ls_starts ls_nd4
      cases pe with
      | nil => simp
      | cons e r =>
        dsimp only
        constructor
        · intro h
          have h := of_decide_eq_true h
          (repeat' split) <;> omega
        · intro h
          apply decide_eq_true
          revert h
          (repeat' split) <;> omega
    by_cases st : ls_starts pe = true ∧ ls_asg (T (pos + 1))
    · rw [if_pos st]
      have n4 := stq.mp st.1
      have ta := st.2
      have p1 := ls_txt_lt hT (p := pos + 1) (by unfold ls_asg at ta; omega)
      have ALR : ∀ k' : LsK, ls_ag T n (4, pos, es, pe, fr, L, k) (nd, C0, O, fl0, ct, fu, N) (.ok (4, pos + 2, es, (2, pos + 1, ls_addr L (T pos - 54)) :: pe, fr, L, k')) := by
        intro k'
        by_cases l1 : pos + 1 = es + 32
        · exact Or.inr ⟨⟨Or.inl rfl, by show es + 32 < pos + 2; omega⟩, LATE l1 (by unfold ls_asg at ta; omega) (by unfold ls_asg at ta; omega)⟩
        have lv2 : ¬ 2 < ls_lv (T (pos + 1)) := by have := ls_lv_c (T (pos + 1)); unfold ls_asg at ta; omega
        have E2 : ls_yg (5, C, ls_os pe, if ls_nd4 pe = 4 then 1 else 2, pos - es + 1, ls_fu (ls_fk fr), ls_m54 L) (T (pos + 1)) = some (3, C, ls_os pe, 0, pos - es + 1 + 1, ls_fu (ls_fk fr), ls_m54 L) := by
          rw [g2, if_neg n4]; unfold ls_ywith ls_yaft
          rw [if_neg (by unfold ls_asg at ta; omega), if_neg (by omega), if_pos rfl, if_neg lv2, if_pos ta, if_pos rfl]
        have s2 := s1.trans (ls_yv_step p1 E2)
        refine Or.inl ⟨_, ls_al4 (pe := (2, pos + 1, ls_addr L (T pos - 54)) :: pe) (fl := 0) hm (by omega) (fun e he => ?_) h3 (fun h => absurd h (by show (3 : Nat) ≠ 15; decide)) (fun h => absurd h (by show (3 : Nat) ≠ 17; decide)), ?_⟩
        · rcases List.mem_cons.mp he with rfl | he
          · exact fun h => absurd h (by show (2 : Nat) ≠ 0; decide)
          · exact hc e he
        · refine Eq.trans ?_ s2.symm
          rw [sub2]; rfl
      by_cases t21 : T (pos + 1) = 21
      · rw [if_pos t21]; exact ALR _
      · rw [if_neg t21]; exact ALR _
    · rw [if_neg st]
      refine Or.inl ⟨_, ls_al5 (fl := if ls_nd4 pe = 4 then 1 else 2) hm (by omega) hc h3 (fun _ => t15) (fun h2 ha => st ⟨stq.mpr (fun h4 => ?_), ha⟩), ?_⟩
      · rw [if_pos h4] at h2; cases h2
      · refine Eq.trans ?_ s1.symm
        rw [sub1]; rfl
  rw [if_neg tn]
  -- a literal
  have LIT : (T pos = 70 ∨ T pos = 71 ∨ T pos = 13 ∨ T pos = 14) → ∀ k' : LsK, ls_ag T n (4, pos, es, pe, fr, L, k) (nd, C0, O, fl0, ct, fu, N) (.ok (5, pos + 1, es, pe, fr, L, k')) := by
    intro ht k'
    have pn := ls_txt_lt hT (p := pos) (by omega)
    refine Or.inl ⟨_, ls_al5 (fl := 0) hm (by omega) hc h3 (fun h => by omega) (fun h => by omega), (ls_yv_step pn ?_).symm⟩
    rw [OP]; unfold ls_yopd
    rw [if_neg (by omega), if_neg (by omega), if_pos (by omega), if_neg tn, sub1]
  by_cases t70 : T pos = 70
  · rw [if_pos t70]; exact LIT (Or.inl t70) _
  rw [if_neg t70]
  by_cases t71 : T pos = 71
  · rw [if_pos t71]; exact LIT (Or.inr (Or.inl t71)) _
  rw [if_neg t71]
  by_cases t13 : T pos = 13
  · rw [if_pos t13]; exact LIT (Or.inr (Or.inr (Or.inl t13))) _
  rw [if_neg t13]
  by_cases t14 : T pos = 14
  · rw [if_pos t14]; exact LIT (Or.inr (Or.inr (Or.inr t14))) _
  rw [if_neg t14]
  by_cases t15 : T pos = 15
  · rw [if_pos t15]
    have pn := ls_txt_lt hT (p := pos) (by omega)
    have E1 : ls_yg (nd, C0, O, fl0, ct, fu, N) (T pos) = some (15, C, 0 :: ls_os pe, 0, pos - es + 1, ls_fu (ls_fk fr), ls_m54 L) := by
      rw [OP]; unfold ls_yopd
      rw [if_neg (by omega), if_pos t15]
    have s1 := ls_yv_step pn E1
    have g2 : ∀ t, ls_yg (15, C, 0 :: ls_os pe, 0, pos - es + 1, ls_fu (ls_fk fr), ls_m54 L) t = ls_ywith 15 t C (0 :: ls_os pe) 0 (pos - es + 1) (ls_fu (ls_fk fr)) (ls_m54 L) := fun t => ls_yg_w (Or.inr (Or.inr (Or.inr (by decide))))
    have LATE : pos + 1 = es + 32 → ls_yc T n (4, pos, es, pe, fr, L, k) (nd, C0, O, fl0, ct, fu, N) = some (es + 32) := by
      intro hl
      refine s1.trans ((ls_yv_bad (p := pos + 1) hT (by omega) (fun _ => ?_) (fun _ => ls_yv_0 (by decide))).trans (by rw [hl]))
      rw [g2, show pos - es + 1 = 32 by omega]
      exact ls_yw_long (Or.inl (by decide))
    by_cases k5 : T (pos + 1) < 5
    · rw [if_pos k5]
      have p1 := ls_txt_lt hT (p := pos + 1) (by omega)
      by_cases l1 : pos + 1 = es + 32
      · have B := LATE l1
        by_cases t16 : T (pos + 2) = 16
        · rw [if_pos t16]
          exact Or.inr ⟨⟨Or.inl rfl, by show es + 32 < pos + 3; omega⟩, B⟩
        · rw [if_neg t16]
          show ls_yc T n _ _ = some (if es + 32 < pos + 2 then es + 32 else pos + 2)
          rw [if_pos (by omega)]; exact B
      have E2 : ls_yg (15, C, 0 :: ls_os pe, 0, pos - es + 1, ls_fu (ls_fk fr), ls_m54 L) (T (pos + 1)) = some (16, C, ls_os pe, 0, pos - es + 1 + 1, ls_fu (ls_fk fr), ls_m54 L) := by
        rw [g2]; unfold ls_ywith
        rw [if_neg (by omega), if_neg (by omega), if_neg (by decide), if_neg (by decide), if_neg (by omega), if_pos ⟨rfl, k5⟩]; rfl
      have s2 := s1.trans (ls_yv_step p1 E2)
      have g3 : ∀ t, ls_yg (16, C, ls_os pe, 0, pos - es + 1 + 1, ls_fu (ls_fk fr), ls_m54 L) t = ls_ywith 16 t C (ls_os pe) 0 (pos - es + 1 + 1) (ls_fu (ls_fk fr)) (ls_m54 L) := fun t => ls_yg_w (Or.inr (Or.inr (Or.inr (by decide))))
      have LATE2 : pos + 2 = es + 32 → ls_yc T n (4, pos, es, pe, fr, L, k) (nd, C0, O, fl0, ct, fu, N) = some (es + 32) := by
        intro hl
        refine s2.trans ((ls_yv_bad (p := pos + 2) hT (by omega) (fun _ => ?_) (fun _ => ls_yv_0 (by decide))).trans (by rw [hl]))
        rw [g3, show pos - es + 1 + 1 = 32 by omega]
        exact ls_yw_long (Or.inl (by decide))
      by_cases t16 : T (pos + 2) = 16
      · rw [if_pos t16]
        by_cases l2 : pos + 2 = es + 32
        · exact Or.inr ⟨⟨Or.inl rfl, by show es + 32 < pos + 3; omega⟩, LATE2 l2⟩
        have p2 := ls_txt_lt hT (p := pos + 2) (by omega)
        have E3 : ls_yg (16, C, ls_os pe, 0, pos - es + 1 + 1, ls_fu (ls_fk fr), ls_m54 L) (T (pos + 2)) = some (4, C, ls_os pe, 0, (pos + 3) - es, ls_fu (ls_fk fr), ls_m54 L) := by
          rw [g3]; unfold ls_ywith
          rw [if_neg (by omega), if_neg (by omega), if_neg (by decide), if_pos rfl, if_pos t16, sub3]
        refine Or.inl ⟨_, ls_al4 (pe := (13, pos, T (pos + 1)) :: pe) (fl := 0) hm (by omega) (fun e he => ?_) h3 (fun h => absurd h (by show (4 : Nat) ≠ 15; decide)) (fun h => absurd h (by show (4 : Nat) ≠ 17; decide)), ?_⟩
        · rcases List.mem_cons.mp he with rfl | he
          · exact fun h => absurd h (by show (13 : Nat) ≠ 0; decide)
          · exact hc e he
        · exact (s2.trans (ls_yv_step p2 E3)).symm
      · rw [if_neg t16]
        show ls_yc T n _ _ = some (if es + 32 < pos + 2 then es + 32 else pos + 2)
        rw [if_neg (by omega)]
        refine s2.trans (ls_yv_bad (p := pos + 2) hT (by omega) (fun _ => ?_) (fun _ => ls_yv_0 (by decide)))
        rw [g3]; unfold ls_ywith
        rw [if_neg (by omega)]
        by_cases c : 32 < pos - es + 1 + 1 + 1
        · rw [if_pos c]
        · rw [if_neg c, if_neg (by decide), if_pos rfl, if_neg t16]
    · rw [if_neg k5]
      by_cases k6 : T (pos + 1) = 5
      · rw [if_pos k6]
        show ls_yc T n _ _ = some (if es + 32 < pos + 1 then es + 32 else pos + 1)
        rw [if_neg (by omega)]
        refine s1.trans (ls_yv_bad (p := pos + 1) hT (by omega) (fun _ => ?_) (fun _ => ls_yv_0 (by decide)))
        rw [g2]; unfold ls_ywith ls_yopd
        rw [if_neg (by omega)]
        by_cases c : 32 < pos - es + 1 + 1
        · rw [if_pos c]
        · rw [if_neg c, if_neg (by decide), if_neg (by decide), if_neg (by omega), if_neg (by omega), if_neg (by omega), if_neg (by omega), if_neg (by omega)]
      · rw [if_neg k6]
        refine Or.inl ⟨_, ls_al4 (pe := (1, pos, 0) :: pe) (fl := 0) hm (by omega) (fun e he => ?_) h3 (fun _ => by omega) (fun h => absurd h (by show (15 : Nat) ≠ 17; decide)), ?_⟩
        · rcases List.mem_cons.mp he with rfl | he
          · exact fun h => absurd h (by show (1 : Nat) ≠ 0; decide)
          · exact hc e he
        · refine Eq.trans ?_ s1.symm
          rw [sub1]; rfl
  rw [if_neg t15]
  by_cases tu : 22 ≤ T pos ∧ T pos ≤ 25
  · rw [if_pos tu]
    have pn := ls_txt_lt hT (p := pos) (by omega)
    refine Or.inl ⟨_, ls_al4 (pe := (13, pos, 0) :: pe) (fl := 0) hm (by omega) (fun e he => ?_) h3 (fun h => absurd h (by show (4 : Nat) ≠ 15; decide)) (fun h => absurd h (by show (4 : Nat) ≠ 17; decide)), (ls_yv_step pn ?_).symm⟩
    · rcases List.mem_cons.mp he with rfl | he
      · exact fun h => absurd h (by show (13 : Nat) ≠ 0; decide)
      · exact hc e he
    · rw [OP]; unfold ls_yopd
      rw [if_pos tu, sub1]; rfl
  · rw [if_neg tu]
    show ls_yc T n _ _ = some (if es + 32 < pos then es + 32 else pos)
    rw [if_neg (by omega)]
    refine ls_yv_bad (p := pos) hT i1 (fun h => ?_) h72
    rw [OP]; unfold ls_yopd
    have := hT.2.1 pos (ls_txt_lt hT h)
    have tn' : ¬ (54 ≤ T pos ∧ T pos < 70) := tn
    rw [if_neg tu, if_neg t15, if_neg (by omega)]
end
