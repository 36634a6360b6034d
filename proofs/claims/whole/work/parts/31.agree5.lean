section
variable {T : Nat → Nat} {V : Nat → Int32} {n : Nat} {pos es : Nat} {pe : List LsP} {fr : List LsF} {L : List Nat} {k : LsK} {y : LsY}
set_option maxHeartbeats 200000 in
theorem ls_os_red {e : LsP} (h : 2 ≤ e.1) : ls_os (e :: pe) = ls_os pe := by
  show (if e.1 = 0 then _ else if e.1 = 1 then _ else _) = _
  rw [if_neg (by omega), if_neg (by omega)]
set_option maxHeartbeats 200000 in
/-- no token but the closing ones ends the expression -/
theorem ls_yaft_none {t fl ct fu : Nat} {C : List (Nat × Nat)} {O N : List Nat} (h1 : ¬ 2 < ls_lv t) (h2 : fl = 2 → ¬ ls_asg t) (h3 : 0 < fl → t ≠ 15) (h4 : ∀ o r, O = o :: r → t ≠ 16 ∧ ¬ (t = 19 ∧ 0 < o ∧ o < 3)) : ls_yaft t fl C O ct fu N = none := by
  unfold ls_yaft
  rw [if_neg h1]
  by_cases a : ls_asg t
  · rw [if_pos a, if_neg (fun e => h2 e a)]
  · rw [if_neg a]
    by_cases t15 : t = 15
    · rw [if_pos t15, if_neg (fun h => h3 h t15)]
    · rw [if_neg t15]
      cases O with
      | nil => rfl
      | cons o r =>
        obtain ⟨g1, g2⟩ := h4 o r rfl
        show (if t = 16 then _ else if t = 19 ∧ 0 < o ∧ o < 3 then _ else none) = none
        rw [if_neg g1, if_neg g2]
set_option maxHeartbeats 200000 in
theorem ls_ag5 (hT : ls_txt T n) (hI : ls_Inv T n (5, pos, es, pe, fr, L, k)) (h : ls_al T n (5, pos, es, pe, fr, L, k) y) : ls_ag T n (5, pos, es, pe, fr, L, k) y (ls_r5 T pos es pe fr L k) := by
  obtain ⟨nd, C, O, fl, ct, fu, N⟩ := y
  unfold ls_al at h
  dsimp only at h
  rw [if_pos (Or.inr rfl), if_pos rfl] at h
  obtain ⟨hm, hp32, hc, hy, h3, f15, f2⟩ := h
  rw [hy]
  obtain ⟨i1, i2, i3, i4, i5, i6, i7⟩ := hI
  rw [if_pos (Or.inr rfl), if_neg (by decide)] at i7
  obtain ⟨a1, a2, a3, a4, f, r, a5, a6, a7⟩ := i7
  have g : ∀ t, ls_yg (5, C, ls_os pe, fl, pos - es, ls_fu (ls_fk fr), ls_m54 L) t = ls_ywith 5 t C (ls_os pe) fl (pos - es) (ls_fu (ls_fk fr)) (ls_m54 L) := fun t => ls_yg_w (Or.inr (Or.inr (Or.inl rfl)))
  have sub1 : pos - es + 1 = (pos + 1) - es := by omega
  -- a token that the reference does not take here
  have BAD : ¬ (ls_os pe = [] ∧ (T pos = 20 ∧ (ls_fu (ls_fk fr) = 20 ∨ ls_fu (ls_fk fr) = 11) ∨ T pos = 16 ∧ (ls_fu (ls_fk fr) = 6 ∨ ls_fu (ls_fk fr) = 8 ∨ ls_fu (ls_fk fr) = 12))) → ¬ 2 < ls_lv (T pos) → (∀ o r, ls_os pe = o :: r → T pos ≠ 16 ∧ ¬ (T pos = 19 ∧ 0 < o ∧ o < 3)) → ls_yc T n (5, pos, es, pe, fr, L, k) (5, C, ls_os pe, fl, pos - es, ls_fu (ls_fk fr), ls_m54 L) = some pos := by
    intro h1 h2 h4
    refine ls_yv_bad (p := pos) hT i1 (fun _ => ?_) (fun _ => ls_yv_0 (by decide))
    rw [g]; unfold ls_ywith
    rw [if_neg (fun q => h1 q.2)]
    by_cases c : 32 < pos - es + 1
    · rw [if_pos c]
    · rw [if_neg c, if_pos rfl]
      exact ls_yaft_none h2 f2 f15 h4
  -- the 33rd token
  have LATE : pos = es + 32 → (T pos ≠ 20 ∧ T pos ≠ 16) ∨ ls_os pe ≠ [] → ls_yc T n (5, pos, es, pe, fr, L, k) (5, C, ls_os pe, fl, pos - es, ls_fu (ls_fk fr), ls_m54 L) = some (es + 32) := by
    intro hl h
    refine (ls_yv_bad (p := pos) hT i1 (fun _ => ?_) (fun _ => ls_yv_0 (by decide))).trans (by rw [hl])
    rw [g, show pos - es = 32 by omega]
    exact ls_yw_long (Or.inr h)
  have BIN : 2 < ls_lv (T pos) → ∀ k' : LsK, ls_ag T n (5, pos, es, pe, fr, L, k) (5, C, ls_os pe, fl, pos - es, ls_fu (ls_fk fr), ls_m54 L) (.ok (4, pos + 1, es, (ls_lv (T pos), pos, k.1) :: pe, fr, L, k')) := by
    intro hl k'
    have tin := ls_lv_in hl
    have pn := ls_txt_lt hT (p := pos) (by omega)
    by_cases l : pos = es + 32
    · exact Or.inr ⟨⟨Or.inl rfl, by show es + 32 < pos + 1; omega⟩, LATE l (Or.inl ⟨by omega, by omega⟩)⟩
    have n4 : ls_nd4 ((ls_lv (T pos), pos, k.1) :: pe) = 4 := by
      show (if ls_lv (T pos) = 0 then _ else if ls_lv (T pos) = 1 then 15 else if ls_lv (T pos) = 2 then 3 else 4) = 4
      rw [if_neg (by omega), if_neg (by omega), if_neg (by omega)]
    refine Or.inl ⟨_, ls_al4 (pe := (ls_lv (T pos), pos, k.1) :: pe) (fl := 0) hm (by omega) (fun e he => ?_) h3 (fun h => by omega) (fun h => by omega), (ls_yv_step pn ?_).symm⟩
    · rcases List.mem_cons.mp he with rfl | he
      · intro h
        have : ls_lv (T pos) = 0 := h
        omega
      · exact hc e he
    · rw [n4, ls_os_red (by show 2 ≤ ls_lv (T pos); omega), g]; unfold ls_ywith ls_yaft
      rw [if_neg (by omega), if_neg (by omega), if_pos rfl, if_pos hl, sub1]
  unfold ls_r5
  dsimp only
  cases pe with
  | nil =>
    dsimp only
    by_cases hl : 2 < ls_lv (T pos)
    · rw [if_pos hl]; exact BIN hl _
    rw [if_neg hl]
    subst a5
    obtain ⟨fk, mo, sp, l⟩ := f
    obtain ⟨x1, x2, x3, x4, x5, x6, x7, x8⟩ := a6
    dsimp only at x1 x2
    have fr2 : ls_fk r ≠ 2 := ls_mb_2 hm (by show fk ≠ 1; omega)
    unfold ls_end
    rw [if_neg (by omega)]
    dsimp only
    have e0 : ls_os [] = [] := rfl
    have BAD' : (∀ w, (T pos = 20 ∧ (w = 20 ∨ w = 11) ∨ T pos = 16 ∧ (w = 6 ∨ w = 8 ∨ w = 12)) → w ≠ ls_fu fk) → ls_yc T n (5, pos, es, [], (fk, mo, sp, l) :: r, L, k) (5, C, ls_os [], fl, pos - es, ls_fu (ls_fk ((fk, mo, sp, l) :: r)), ls_m54 L) = some pos := by
      intro hw
      exact BAD (fun h => hw _ h.2 rfl) hl (fun o r h => by cases h)
    -- the reference at the closing token
    have CL : ∀ nd', (T pos = 20 ∧ (ls_fu fk = 20 ∨ ls_fu fk = 11) ∨ T pos = 16 ∧ (ls_fu fk = 6 ∨ ls_fu fk = 8 ∨ ls_fu fk = 12)) → nd' = (if T pos = 20 then 0 else if ls_fu fk = 12 then 6 else 1) → ls_yg (5, C, ls_os [], fl, pos - es, ls_fu (ls_fk ((fk, mo, sp, l) :: r)), ls_m54 L) (T pos) = some (nd', C, [], 0, pos - es, ls_fu fk, ls_m54 L) := by
      intro nd' h hn
      rw [g]; unfold ls_ywith
      rw [if_pos ⟨rfl, rfl, h⟩, hn]; rfl
    by_cases q7 : fk = 7
    · subst q7
      rw [if_pos rfl]
      by_cases t16 : T pos = 16
      · rw [if_pos t16]
        have pn := ls_txt_lt hT (p := pos) (by omega)
        obtain ⟨a, D, hD, _, _, hr⟩ := ls_rc_cons (f := (7, mo, sp, l)) (by show ¬ ((7 : Nat) = 6 ∨ 9 ≤ 7); decide) h3
        subst hD
        refine Or.inl ⟨(1, (4, a) :: D, [], 0, pos - es, 6, ls_m54 L), ls_al_mk (st := 0) (fr := (3, k.1, sp, []) :: r) (Or.inl rfl) (ls_mb_c hm.2 fr2) (by show (3 : Nat) ≠ 2; decide) (ls_rc_mk (f := (3, k.1, sp, [])) (by show ¬ ((3 : Nat) = 6 ∨ 9 ≤ 3); decide) (fun h => absurd h (by show (3 : Nat) ≠ 1; decide)) (fun h => absurd h (by show (3 : Nat) ≠ 2; decide)) hr) (fun h => by omega), (ls_yv_step pn (CL 1 (Or.inr ⟨t16, Or.inl rfl⟩) (by rw [if_neg (by omega)]; rfl))).symm⟩
      · rw [if_neg t16]
        exact BAD' (fun w h => by show w ≠ 6; omega)
    rw [if_neg q7]
    by_cases q8 : fk = 8
    · subst q8
      rw [if_pos rfl]
      by_cases t16 : T pos = 16
      · rw [if_pos t16]
        have pn := ls_txt_lt hT (p := pos) (by omega)
        obtain ⟨a, D, hD, _, _, hr⟩ := ls_rc_cons (f := (8, mo, sp, l)) (by show ¬ ((8 : Nat) = 6 ∨ 9 ≤ 8); decide) h3
        subst hD
        refine Or.inl ⟨(1, (2, a) :: D, [], 0, pos - es, 8, ls_m54 L), ls_al_mk (st := 0) (fr := (5, mo, sp, []) :: r) (Or.inl rfl) (ls_mb_c hm.2 fr2) (by show (5 : Nat) ≠ 2; decide) (ls_rc_mk (f := (5, mo, sp, [])) (by show ¬ ((5 : Nat) = 6 ∨ 9 ≤ 5); decide) (fun h => absurd h (by show (5 : Nat) ≠ 1; decide)) (fun h => absurd h (by show (5 : Nat) ≠ 2; decide)) hr) (fun h => by omega), (ls_yv_step pn (CL 1 (Or.inr ⟨t16, Or.inr (Or.inl rfl)⟩) (by rw [if_neg (by omega)]; rfl))).symm⟩
      · rw [if_neg t16]
        exact BAD' (fun w h => by show w ≠ 8; omega)
    rw [if_neg q8]
    by_cases q9 : fk = 9
    · subst q9
      rw [if_pos rfl]
      have h3' := (ls_rc_skip (f := (9, mo, sp, l)) (Or.inr (by show 9 ≤ 9; decide))).mp h3
      by_cases t16 : T pos = 16
      · rw [if_pos t16]
        have pn := ls_txt_lt hT (p := pos) (by omega)
        have s1 := ls_yv_step pn (CL 6 (Or.inr ⟨t16, Or.inr (Or.inr rfl)⟩) (by rw [if_neg (by omega)]; rfl))
        by_cases t20 : T (pos + 1) = 20
        · rw [if_pos t20]
          have p1 := ls_txt_lt hT (p := pos + 1) (by omega)
          refine Or.inl ⟨_, ls_al_3 (fl := 0) (ct := pos - es) (fu := 12) hm.2 fr2 h3', (s1.trans (ls_yv_step p1 ?_)).symm⟩
          rw [t20]; rfl
        · rw [if_neg t20]
          refine s1.trans (ls_yv_bad (p := pos + 1) hT (by omega) (fun _ => ?_) (fun _ => ls_yv_0 (by decide)))
          show (if T (pos + 1) = 20 then _ else none) = none
          rw [if_neg t20]
      · rw [if_neg t16]
        exact BAD' (fun w h => by show w ≠ 12; omega)
    rw [if_neg q9]
    have h3' := (ls_rc_skip (f := (fk, mo, sp, l)) (by show fk = 6 ∨ 9 ≤ fk; omega)).mp h3
    have fu2 : ls_fu fk = 20 ∨ ls_fu fk = 11 := by
      unfold ls_fu
      rw [if_neg q7, if_neg q8, if_neg q9]
      split
      · exact Or.inr rfl
      · exact Or.inl rfl
    by_cases t20 : T pos = 20
    · rw [if_pos t20]
      have pn := ls_txt_lt hT (p := pos) (by omega)
      have s1 := ls_yv_step pn (CL 0 (Or.inl ⟨t20, fu2⟩) (by rw [if_pos t20]))
      have FIN : ∀ k' : LsK, ls_ag T n (5, pos, es, [], (fk, mo, sp, l) :: r, L, k) (5, C, ls_os [], fl, pos - es, ls_fu (ls_fk ((fk, mo, sp, l) :: r)), ls_m54 L) (.ok (3, pos + 1, es, [], r, L, k')) := fun k' =>
        Or.inl ⟨_, ls_al_3 hm.2 fr2 h3', s1.symm⟩
      by_cases q10 : fk = 10
      · rw [if_pos q10]; exact FIN _
      rw [if_neg q10]
      by_cases q11 : fk = 11
      · rw [if_pos q11]; exact FIN _
      · rw [if_neg q11]; exact FIN _
    · rw [if_neg t20]
      exact BAD' (fun w h => by omega)
  | cons e r2 =>
    obtain ⟨lv, pl, mo⟩ := e
    obtain ⟨p1, p2, p3, p4, p5, p6, p7, p8⟩ := i6 _ (List.mem_cons_self ..)
    dsimp only at p1 p2 p3 p4 p5 p6 p7 p8 ⊢
    have hc' : ∀ e ∈ r2, e.1 = 0 → 1 ≤ e.2.2 := fun e he => hc e (List.mem_cons_of_mem _ he)
    have l2 := ls_lv_c (T pos)
    by_cases red : ls_lv (T pos) ≤ lv
    · rw [if_pos red]
      have e1 : ls_os ((lv, pl, mo) :: r2) = ls_os r2 := ls_os_red (by show 2 ≤ lv; omega)
      refine Or.inl ⟨_, ls_al5 (fl := fl) hm hp32 hc' h3 f15 f2, ?_⟩
      rw [e1]; rfl
    rw [if_neg red]
    by_cases hl : 2 < ls_lv (T pos)
    · rw [if_pos hl]; exact BIN hl _
    rw [if_neg hl]
    have lv01 : lv = 0 ∨ lv = 1 := by omega
    have one : ls_os ((lv, pl, mo) :: r2) ≠ [] := by
      show (if lv = 0 then mo :: ls_os r2 else if lv = 1 then 0 :: ls_os r2 else ls_os r2) ≠ []
      rcases lv01 with rfl | rfl
      · rw [if_pos rfl]; exact List.cons_ne_nil _ _
      · rw [if_neg (by decide), if_pos rfl]; exact List.cons_ne_nil _ _
    by_cases t16 : T pos = 16
    · rw [if_pos t16]
      have pn := ls_txt_lt hT (p := pos) (by omega)
      have CLP : ∀ k' : LsK, ls_ag T n (5, pos, es, (lv, pl, mo) :: r2, fr, L, k) (5, C, ls_os ((lv, pl, mo) :: r2), fl, pos - es, ls_fu (ls_fk fr), ls_m54 L) (.ok (5, pos + 1, es, r2, fr, L, k')) := by
        intro k'
        by_cases l : pos = es + 32
        · exact Or.inr ⟨⟨Or.inr rfl, by show es + 32 < pos + 1; omega⟩, LATE l (Or.inr one)⟩
        refine Or.inl ⟨_, ls_al5 (fl := 0) hm (by omega) hc' h3 (fun h => by omega) (fun h => by omega), (ls_yv_step pn ?_).symm⟩
        rw [g]; unfold ls_ywith ls_yaft
        rw [if_neg (fun q => one q.2.1), if_neg (by omega), if_pos rfl, if_neg hl, if_neg (by unfold ls_asg; omega), if_neg (by omega), sub1]
        rcases lv01 with rfl | rfl
        · show (if T pos = 16 then _ else _) = _
          rw [if_pos t16]
        · show (if T pos = 16 then _ else _) = _
          rw [if_pos t16]
      by_cases q0 : lv = 0
      · rw [if_pos q0]; exact CLP _
      · rw [if_neg q0]; exact CLP _
    rw [if_neg t16]
    have FLT : (∀ o r, ls_os ((lv, pl, mo) :: r2) = o :: r → ¬ (T pos = 19 ∧ 0 < o ∧ o < 3)) → ls_ag T n (5, pos, es, (lv, pl, mo) :: r2, fr, L, k) (5, C, ls_os ((lv, pl, mo) :: r2), fl, pos - es, ls_fu (ls_fk fr), ls_m54 L) (ls_flt es pos) := by
      intro h
      show ls_yc T n _ _ = some (if es + 32 < pos then es + 32 else pos)
      rw [if_neg (by omega)]
      exact BAD (fun q => one q.1) hl (fun o r ho => ⟨t16, h o r ho⟩)
    by_cases t19 : T pos = 19 ∧ lv = 0
    · rw [if_pos t19]
      obtain ⟨t19, q0⟩ := t19
      subst q0
      have m1 := hc _ (List.mem_cons_self ..) rfl
      dsimp only at m1
      by_cases m3 : mo < 3
      · rw [if_pos m3]
        have pn := ls_txt_lt hT (p := pos) (by omega)
        by_cases l : pos = es + 32
        · exact Or.inr ⟨⟨Or.inl rfl, by show es + 32 < pos + 1; omega⟩, LATE l (Or.inr one)⟩
        have n3 : ls_nd4 ((0, pl, mo + 1) :: r2) = 3 := by
          show (if mo + 1 = 1 then 17 else 3) = 3
          rw [if_neg (by omega)]
        refine Or.inl ⟨_, ls_al4 (pe := (0, pl, mo + 1) :: r2) (fl := 0) hm (by omega) (fun e he => ?_) h3 (fun h => by omega) (fun h => by omega), (ls_yv_step pn ?_).symm⟩
        · rcases List.mem_cons.mp he with rfl | he
          · exact fun _ => by show 1 ≤ mo + 1; omega
          · exact hc' e he
        · rw [n3, g]; unfold ls_ywith ls_yaft
          rw [if_neg (fun q => one q.2.1), if_neg (by omega), if_pos rfl, if_neg hl, if_neg (by unfold ls_asg; omega), if_neg (by omega), sub1]
          show (if T pos = 16 then _ else if T pos = 19 ∧ 0 < mo ∧ mo < 3 then some (3, C, (mo + 1) :: ls_os r2, 0, pos + 1 - es, ls_fu (ls_fk fr), ls_m54 L) else none) = _
          rw [if_neg t16, if_pos ⟨t19, by omega, m3⟩]; rfl
      · rw [if_neg m3]
        refine FLT (fun o r ho => ?_)
        have ho' : mo :: ls_os r2 = o :: r := ho
        injection ho' with ho1 ho2
        omega
    · rw [if_neg t19]
      refine FLT (fun o r ho h => ?_)
      have q1 : lv = 1 := by omega
      subst q1
      have ho' : 0 :: ls_os r2 = o :: r := ho
      injection ho' with ho1 ho2
      omega
set_option maxHeartbeats 200000 in
theorem ls_agree (hT : ls_txt T n) : ∀ (m : Nat) (c : LsC) (y : LsY), ls_mu n c ≤ m → ls_Inv T n c → c.1 ≤ 6 → ls_al T n c y → match ls_run T V m c with
    | .ok _ => ls_yc T n c y = none
    | .error e => ls_yc T n c y = some e := by
  intro m
  have S6 : ∀ (c : LsC) (y : LsY), c.1 = 6 → ls_al T n c y → ls_yc T n c y = none := by
    intro c y h6 h
    obtain ⟨st, pos, es, pe, fr, L, k⟩ := c
    obtain ⟨nd, C, O, fl, ct, fu, N⟩ := y
    dsimp only at h6
    subst h6
    unfold ls_al at h
    dsimp only at h
    rw [if_neg (by decide), if_pos rfl] at h
    exact h.2
  induction m with
  | zero =>
    intro c y hm hI h6 h
    exact S6 c y (ls_mu0 h6 hI (by omega)) h
  | succ m ih =>
    intro c y hm hI h6 h
    unfold ls_run
    by_cases e6 : c.1 = 6
    · rw [if_pos e6]
      exact S6 c y e6 h
    rw [if_neg e6]
    have A : ls_ag T n c y (ls_rs T V c) := by
      obtain ⟨st, pos, es, pe, fr, L, k⟩ := c
      dsimp only at e6 h6
      unfold ls_rs
      dsimp only
      rcases (show st = 0 ∨ st = 1 ∨ st = 2 ∨ st = 3 ∨ st = 4 ∨ st = 5 by omega) with rfl | rfl | rfl | rfl | rfl | rfl
      · exact ls_ag0 hT hI h
      · exact ls_ag1 hT hI h
      · exact ls_ag2 hT hI h
      · exact ls_ag3 hT hI h
      · exact ls_ag4 hT hI h
      · exact ls_ag5 hT hI h
    cases hr : ls_rs T V c with
    | error e =>
      rw [hr] at A
      exact A
    | ok c' =>
      rw [hr] at A
      obtain ⟨j1, j2⟩ := ls_inv_rs hT (by omega) hI hr
      rcases A with ⟨y', al', e'⟩ | ⟨hd, e'⟩
      · have I := ih c' y' (by omega) j1 (ls_st6 hr) al'
        dsimp only
        rw [← e']
        exact I
      · have D := ls_doomed (V := V) hT m c' hd j1 (by omega)
        dsimp only
        rw [D]
        exact e'
end
