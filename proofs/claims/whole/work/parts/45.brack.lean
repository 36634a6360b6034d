/-! Brackets balance along the reading -/
def ls_df (f : LsF) : Nat := if f.1 = 1 ∨ f.1 = 7 ∨ f.1 = 8 ∨ f.1 = 9 then 1 else 0
def ls_dF : List LsF → Nat
  | [] => 0
  | f :: r => ls_df f + ls_dF r
def ls_bd (t d : Nat) : Nat := if t = 15 ∨ t = 17 then d + 1 else if t = 16 ∨ t = 18 then d - 1 else d
/-- m tokens from p lead from depth d to depth e, and each begins deeper than b -/
def ls_br (T : Nat → Nat) (b : Nat) : Nat → Nat → Nat → Nat → Prop
  | 0, _, d, e => d = e
  | m + 1, p, d, e => b < d ∧ ls_br T b m (p + 1) (ls_bd (T p) d) e
/-- what becomes of the topmost frame g over r -/
def ls_fc (T : Nat → Nat) (c c' : LsC) (g : LsF) (r : List LsF) : Prop :=
  (c'.2.2.2.2.1 = g :: r ∨ ∃ h, c'.2.2.2.2.1 = h :: g :: r) ∨ (g.1 ≠ 1 ∧ (c'.2.2.2.2.1 = r ∨ ∃ g' : LsF, g'.1 ≠ 1 ∧ c'.2.2.2.2.1 = g' :: r)) ∨ (g.1 = 1 ∧ T c.2.1 = 18 ∧ c.1 = 0 ∧ c' = (3, c.2.1 + 1, c.2.2.1, [], r, g.2.2.2, c.2.2.2.2.2.2))
def ls_D (c : LsC) : Nat := ls_dF c.2.2.2.2.1 + ls_dp c.2.2.2.1
def ls_sb (T : Nat → Nat) (c c' : LsC) (g : LsF) (r : List LsF) : Prop :=
  ls_fc T c c' g r ∧ ∃ m, c'.2.1 = c.2.1 + m ∧ ∀ b, b < ls_D c → (g.1 = 9 → b < ls_dF r) → ls_br T b m c.2.1 (ls_D c) (ls_D c')
section
variable {T : Nat → Nat} {V : Nat → Int32} {n : Nat} {pos es : Nat} {pe : List LsP} {fr : List LsF} {L : List Nat} {k : LsK} {c c' : LsC} {g : LsF} {r : List LsF} {b m p d e : Nat}
set_option maxHeartbeats 200000 in
theorem ls_bd_n {t : Nat} (h : t ≠ 15 ∧ t ≠ 16 ∧ t ≠ 17 ∧ t ≠ 18) : ls_bd t d = d := by
  unfold ls_bd; rw [if_neg (by omega), if_neg (by omega)]
set_option maxHeartbeats 200000 in
theorem ls_bd_o {t : Nat} (h : t = 15 ∨ t = 17) : ls_bd t d = d + 1 := by
  unfold ls_bd; rw [if_pos h]
set_option maxHeartbeats 200000 in
theorem ls_bd_c {t : Nat} (h : t = 16 ∨ t = 18) : ls_bd t (d + 1) = d := by
  unfold ls_bd; rw [if_neg (by omega), if_pos h]; omega
set_option maxHeartbeats 200000 in
theorem ls_br_n (h : T p ≠ 15 ∧ T p ≠ 16 ∧ T p ≠ 17 ∧ T p ≠ 18) (hb : b < d) (g : ls_br T b m (p + 1) d e) : ls_br T b (m + 1) p d e := ⟨hb, by rw [ls_bd_n h]; exact g⟩
set_option maxHeartbeats 200000 in
theorem ls_br_o (h : T p = 15 ∨ T p = 17) (hb : b < d) (g : ls_br T b m (p + 1) (d + 1) e) : ls_br T b (m + 1) p d e := ⟨hb, by rw [ls_bd_o h]; exact g⟩
set_option maxHeartbeats 200000 in
theorem ls_br_c (h : T p = 16 ∨ T p = 18) (hb : b < d + 1) (g : ls_br T b m (p + 1) d e) : ls_br T b (m + 1) p (d + 1) e := ⟨hb, by rw [ls_bd_c h]; exact g⟩
set_option maxHeartbeats 200000 in
theorem ls_br_z (h : d = e) : ls_br T b 0 p d e := h
set_option maxHeartbeats 200000 in
theorem ls_br_app {q f : Nat} : ∀ {m p d}, ls_br T b m p d e → ls_br T b q (p + m) e f → ls_br T b (m + q) p d f
  | 0, p, d, h, g => by
    have h' : d = e := h
    subst h'
    rw [Nat.zero_add]; exact g
  | m + 1, p, d, h, g => by
    rw [show m + 1 + q = (m + q) + 1 by omega]
    exact ⟨h.1, ls_br_app h.2 (by rw [show p + 1 + m = p + (m + 1) by omega]; exact g)⟩
set_option maxHeartbeats 200000 in
theorem ls_df0 {a x y : Nat} {l : List Nat} (h : ¬ (a = 1 ∨ a = 7 ∨ a = 8 ∨ a = 9)) : ls_dF ((a, x, y, l) :: r) = ls_dF r := by
  show (if a = 1 ∨ a = 7 ∨ a = 8 ∨ a = 9 then 1 else 0) + ls_dF r = _
  rw [if_neg h]; omega
set_option maxHeartbeats 200000 in
theorem ls_df1 {a x y : Nat} {l : List Nat} (h : a = 1 ∨ a = 7 ∨ a = 8 ∨ a = 9) : ls_dF ((a, x, y, l) :: r) = ls_dF r + 1 := by
  show (if a = 1 ∨ a = 7 ∨ a = 8 ∨ a = 9 then 1 else 0) + ls_dF r = _
  rw [if_pos h]; omega
set_option maxHeartbeats 200000 in
theorem ls_D_mk {st : Nat} : ls_D (st, pos, es, pe, fr, L, k) = ls_dF fr + ls_dp pe := rfl
set_option maxHeartbeats 200000 in
theorem ls_sb_mk {st st' es' : Nat} {pe' : List LsP} {fr' : List LsF} {L' : List Nat} {k' : LsK} (h1 : ls_fc T (st, pos, es, pe, g :: r, L, k) (st', pos + m, es', pe', fr', L', k') g r) (h2 : ∀ b, b < ls_dF (g :: r) + ls_dp pe → (g.1 = 9 → b < ls_dF r) → ls_br T b m pos (ls_dF (g :: r) + ls_dp pe) (ls_dF fr' + ls_dp pe')) : ls_sb T (st, pos, es, pe, g :: r, L, k) (st', pos + m, es', pe', fr', L', k') g r := ⟨h1, m, rfl, h2⟩
set_option maxHeartbeats 200000 in
theorem ls_sb0 (hr : ls_r0 T pos es [] (g :: r) L k = .ok c') : ls_sb T (0, pos, es, [], g :: r, L, k) c' g r := by
  obtain ⟨a, x, y, l⟩ := g
  unfold ls_r0 at hr
  rw [if_neg (fun q => by cases q.2)] at hr
  dsimp only at hr
  split at hr
  · next a1 =>
    split at hr
    · next t18 =>
      injection hr with hr; subst hr
      refine ls_sb_mk (m := 1) (Or.inr (Or.inr ⟨a1, t18, rfl, rfl⟩)) (fun b hb _ => ?_)
      rw [ls_df1 (Or.inl a1)]
      rw [ls_df1 (Or.inl a1)] at hb
      exact ls_br_c (Or.inr t18) hb (ls_br_z rfl)
    split at hr
    · injection hr with hr; subst hr
      exact ls_sb_mk (m := 0) (Or.inl (Or.inl rfl)) (fun b _ _ => rfl)
    · injection hr with hr; subst hr
      exact ls_sb_mk (m := 0) (Or.inl (Or.inl rfl)) (fun b _ _ => rfl)
  · injection hr with hr; subst hr
    exact ls_sb_mk (m := 0) (Or.inl (Or.inl rfl)) (fun b _ _ => rfl)
set_option maxHeartbeats 200000 in
theorem ls_sb1 (hr : ls_r1 T pos es [] (g :: r) L k = .ok c') : ls_sb T (1, pos, es, [], g :: r, L, k) c' g r := by
  unfold ls_r1 ls_hdr at hr
  dsimp only at hr
  split at hr
  · next t =>
    injection hr with hr; subst hr
    exact ls_sb_mk (m := 1) (Or.inl (Or.inl rfl)) (fun b hb _ => ls_br_n (by omega) hb (ls_br_z rfl))
  split at hr
  · next t =>
    injection hr with hr; subst hr
    refine ls_sb_mk (m := 1) (Or.inl (Or.inr ⟨_, rfl⟩)) (fun b hb _ => ?_)
    rw [ls_df1 (a := 1) (Or.inl rfl)]
    exact ls_br_o (Or.inr t) hb (ls_br_z rfl)
  have HD : ∀ fk (kk : LsK), (fk = 7 ∨ fk = 8 ∨ fk = 9) → (T pos ≠ 15 ∧ T pos ≠ 16 ∧ T pos ≠ 17 ∧ T pos ≠ 18) → T (pos + 1) = 15 → ls_sb T (1, pos, es, [], g :: r, L, k) (4, pos + 2, pos + 2, [], (fk, k.1, pos, []) :: g :: r, L, kk) g r := by
    intro fk kk h1 h2 h3
    refine ls_sb_mk (m := 2) (Or.inl (Or.inr ⟨_, rfl⟩)) (fun b hb _ => ?_)
    rw [ls_df1 (Or.inr h1)]
    exact ls_br_n h2 hb (ls_br_o (Or.inl h3) hb (ls_br_z rfl))
  split at hr
  · split at hr
    · next t1 t2 => injection hr with hr; subst hr; exact HD 7 _ (by omega) (by omega) t2
    · cases hr
  split at hr
  · split at hr
    · next t1 t2 => injection hr with hr; subst hr; exact HD 8 _ (by omega) (by omega) t2
    · cases hr
  split at hr
  · split at hr
    · next t1 t2 => injection hr with hr; subst hr; exact HD 9 _ (by omega) (by omega) t2
    · cases hr
  have SI : ∀ (kk : LsK), (T pos ≠ 15 ∧ T pos ≠ 16 ∧ T pos ≠ 17 ∧ T pos ≠ 18) → T (pos + 1) = 20 → ls_sb T (1, pos, es, [], g :: r, L, k) (3, pos + 2, es, [], g :: r, L, kk) g r := by
    intro kk h2 h3
    exact ls_sb_mk (m := 2) (Or.inl (Or.inl rfl)) (fun b hb _ => ls_br_n h2 hb (ls_br_n (by omega) hb (ls_br_z rfl)))
  split at hr
  · split at hr
    · cases hr
    · split at hr
      · next t2 => injection hr with hr; subst hr; exact SI _ (by omega) t2
      · cases hr
  split at hr
  · split at hr
    · cases hr
    · split at hr
      · next t2 => injection hr with hr; subst hr; exact SI _ (by omega) t2
      · cases hr
  split at hr
  · split at hr
    · cases hr
    · split at hr
      · next t2 => injection hr with hr; subst hr; exact SI _ (by omega) t2
      · injection hr with hr; subst hr
        refine ls_sb_mk (m := 1) (Or.inl (Or.inr ⟨_, rfl⟩)) (fun b hb _ => ?_)
        rw [ls_df0 (a := 10) (by decide)]
        exact ls_br_n (by omega) hb (ls_br_z rfl)
  · injection hr with hr; subst hr
    refine ls_sb_mk (m := 0) (Or.inl (Or.inr ⟨_, rfl⟩)) (fun b hb _ => ?_)
    rw [ls_df0 (a := 6) (by decide)]
    rfl
set_option maxHeartbeats 200000 in
theorem ls_sb2 (h6 : T pos < 6) (hr : ls_r2 T pos es [] (g :: r) L k = .ok c') : ls_sb T (2, pos, es, [], g :: r, L, k) c' g r := by
  obtain ⟨a, x, y, l⟩ := g
  unfold ls_r2 at hr
  split at hr
  · next nm =>
    rw [if_neg (fun q => by cases q.1)] at hr
    unfold ls_var at hr
    dsimp only at hr
    split at hr
    · split at hr
      · next t21 =>
        injection hr with hr; subst hr
        refine ls_sb_mk (m := 3) (Or.inl (Or.inr ⟨_, rfl⟩)) (fun b hb _ => ?_)
        rw [ls_df0 (a := 11) (by decide)]
        exact ls_br_n (by omega) hb (ls_br_n (by omega) hb (ls_br_n (by show T (pos + 2) ≠ 15 ∧ T (pos + 2) ≠ 16 ∧ T (pos + 2) ≠ 17 ∧ T (pos + 2) ≠ 18; omega) hb (ls_br_z rfl)))
      split at hr
      · next t20 =>
        injection hr with hr; subst hr
        exact ls_sb_mk (m := 3) (Or.inl (Or.inl rfl)) (fun b hb _ => ls_br_n (by omega) hb (ls_br_n (by omega) hb (ls_br_n (by show T (pos + 2) ≠ 15 ∧ T (pos + 2) ≠ 16 ∧ T (pos + 2) ≠ 17 ∧ T (pos + 2) ≠ 18; omega) hb (ls_br_z rfl))))
      · cases hr
    · cases hr
  · cases hr
set_option maxHeartbeats 200000 in
theorem ls_sb3 (hr : ls_r3 T pos es [] (g :: r) L k = .ok c') : ls_sb T (3, pos, es, [], g :: r, L, k) c' g r := by
  obtain ⟨a, x, y, l⟩ := g
  unfold ls_r3 at hr
  dsimp only at hr
  have POP : ∀ (L' : List Nat) (kk : LsK), (a = 2 ∨ a = 3 ∨ a = 4 ∨ a = 5) → ls_sb T (3, pos, es, [], (a, x, y, l) :: r, L, k) (3, pos, es, [], r, L', kk) (a, x, y, l) r := by
    intro L' kk h
    refine ls_sb_mk (m := 0) (Or.inr (Or.inl ⟨by show a ≠ 1; omega, Or.inl rfl⟩)) (fun b hb _ => ?_)
    rw [ls_df0 (by omega)]
    rfl
  split at hr
  · split at hr
    · next a3 t7 =>
      injection hr with hr; subst hr
      refine ls_sb_mk (m := 1) (Or.inr (Or.inl ⟨by show a ≠ 1; omega, Or.inr ⟨(4, k.1, y, []), by show (4 : Nat) ≠ 1; decide, rfl⟩⟩)) (fun b hb _ => ?_)
      rw [ls_df0 (by omega)] at hb
      rw [ls_df0 (a := 4) (by decide), ls_df0 (by omega)]
      exact ls_br_n (by omega) hb (ls_br_z rfl)
    · injection hr with hr; subst hr; exact POP _ _ (by omega)
  split at hr
  · injection hr with hr; subst hr; exact POP _ _ (by omega)
  split at hr
  · injection hr with hr; subst hr; exact POP _ _ (by omega)
  split at hr
  · injection hr with hr; subst hr; exact POP _ _ (by omega)
  · injection hr with hr; subst hr
    exact ls_sb_mk (m := 0) (Or.inl (Or.inl rfl)) (fun b hb _ => rfl)
set_option maxHeartbeats 1000000 in
theorem ls_sb4 (hr : ls_r4 T V pos es pe (g :: r) L k = .ok c') : ls_sb T (4, pos, es, pe, g :: r, L, k) c' g r := by
  have SAME : ∀ st m (kk : LsK) (pe' : List LsP) , (∀ b, b < ls_dF (g :: r) + ls_dp pe → ls_br T b m pos (ls_dF (g :: r) + ls_dp pe) (ls_dF (g :: r) + ls_dp pe')) → ls_sb T (4, pos, es, pe, g :: r, L, k) (st, pos + m, es, pe', g :: r, L, kk) g r := by
    intro st m kk pe' h
    exact ls_sb_mk (m := m) (Or.inl (Or.inl rfl)) (fun b hb _ => h b hb)
  unfold ls_r4 ls_flt at hr
  dsimp only at hr
  split at hr
  · next nm =>
    split at hr
    · next t15 =>
      split at hr
      · next t16 =>
        injection hr with hr; subst hr
        exact SAME _ 3 _ _ (fun b hb => ls_br_n (by omega) hb (ls_br_o (Or.inl t15) hb (ls_br_c (Or.inl t16) (by omega) (ls_br_z rfl))))
      · injection hr with hr; subst hr
        refine SAME _ 2 _ _ (fun b hb => ls_br_n (by omega) hb (ls_br_o (Or.inl t15) hb (ls_br_z ?_)))
        rw [ls_dp_1 (by show 0 ≤ 1; decide)]; omega
    · split at hr
      · next sa =>
        obtain ⟨_, s2⟩ := sa
        have s2' : T (pos + 1) = 21 ∨ (43 ≤ T (pos + 1) ∧ T (pos + 1) ≤ 53) := s2
        split at hr
        · injection hr with hr; subst hr
          refine SAME _ 2 _ _ (fun b hb => ls_br_n (by omega) hb (ls_br_n (by omega) hb (ls_br_z ?_)))
          rw [ls_dp_0 (by show 2 ≤ 2; decide)]
        · injection hr with hr; subst hr
          refine SAME _ 2 _ _ (fun b hb => ls_br_n (by omega) hb (ls_br_n (by omega) hb (ls_br_z ?_)))
          rw [ls_dp_0 (by show 2 ≤ 2; decide)]
      · injection hr with hr; subst hr
        exact SAME _ 1 _ _ (fun b hb => ls_br_n (by omega) hb (ls_br_z rfl))
  split at hr
  · injection hr with hr; subst hr
    exact SAME _ 1 _ _ (fun b hb => ls_br_n (by omega) hb (ls_br_z rfl))
  split at hr
  · injection hr with hr; subst hr
    exact SAME _ 1 _ _ (fun b hb => ls_br_n (by omega) hb (ls_br_z rfl))
  split at hr
  · injection hr with hr; subst hr
    exact SAME _ 1 _ _ (fun b hb => ls_br_n (by omega) hb (ls_br_z rfl))
  split at hr
  · injection hr with hr; subst hr
    exact SAME _ 1 _ _ (fun b hb => ls_br_n (by omega) hb (ls_br_z rfl))
  split at hr
  · next t15 =>
    split at hr
    · next t5 =>
      split at hr
      · next t16 =>
        injection hr with hr; subst hr
        refine SAME _ 3 _ _ (fun b hb => ls_br_o (Or.inl t15) hb (ls_br_n (by omega) (by omega) (ls_br_c (Or.inl t16) (by omega) (ls_br_z ?_))))
        rw [ls_dp_0 (by show 2 ≤ 13; decide)]
      · cases hr
    · split at hr
      · cases hr
      · injection hr with hr; subst hr
        refine SAME _ 1 _ _ (fun b hb => ls_br_o (Or.inl t15) hb (ls_br_z ?_))
        rw [ls_dp_1 (by show 1 ≤ 1; decide)]; omega
  split at hr
  · injection hr with hr; subst hr
    refine SAME _ 1 _ _ (fun b hb => ls_br_n (by omega) hb (ls_br_z ?_))
    rw [ls_dp_0 (by show 2 ≤ 13; decide)]
  · cases hr
set_option maxHeartbeats 200000 in
theorem ls_sbe {a x y : Nat} {l : List Nat} (ha : 6 ≤ a) (h12 : a < 12) (hr : ls_end T pos es ((a, x, y, l) :: r) L k = .ok c') : ls_sb T (5, pos, es, [], (a, x, y, l) :: r, L, k) c' (a, x, y, l) r := by
  have REP : ∀ g' x' (kk : LsK), (a = 7 ∨ a = 8) → (g' = 3 ∨ g' = 5) → T pos = 16 → ls_sb T (5, pos, es, [], (a, x, y, l) :: r, L, k) (0, pos + 1, es, [], (g', x', y, []) :: r, L, kk) (a, x, y, l) r := by
    intro g' x' kk h1 h2 h3
    refine ls_sb_mk (m := 1) (Or.inr (Or.inl ⟨by show a ≠ 1; omega, Or.inr ⟨(g', x', y, []), by show g' ≠ 1; omega, rfl⟩⟩)) (fun b hb _ => ?_)
    rw [ls_df1 (by omega)] at hb
    rw [ls_df1 (by omega), ls_df0 (by omega)]
    exact ls_br_c (Or.inl h3) hb (ls_br_z rfl)
  have FIN : ∀ (kk : LsK), a ≠ 7 → a ≠ 8 → a ≠ 9 → T pos = 20 → ls_sb T (5, pos, es, [], (a, x, y, l) :: r, L, k) (3, pos + 1, es, [], r, L, kk) (a, x, y, l) r := by
    intro kk h1 h2 h3 h4
    refine ls_sb_mk (m := 1) (Or.inr (Or.inl ⟨by show a ≠ 1; omega, Or.inl rfl⟩)) (fun b hb _ => ?_)
    rw [ls_df0 (by omega)] at hb
    rw [ls_df0 (by omega)]
    exact ls_br_n (by omega) hb (ls_br_z rfl)
  unfold ls_end at hr
  split at hr
  · cases hr
  dsimp only at hr
  split at hr
  · split at hr
    · next a7 t16 => injection hr with hr; subst hr; exact REP 3 _ _ (by omega) (by omega) t16
    · cases hr
  split at hr
  · split at hr
    · next a7 t16 => injection hr with hr; subst hr; exact REP 5 _ _ (by omega) (by omega) t16
    · cases hr
  split at hr
  · next a9 =>
    split at hr
    · next t16 =>
      split at hr
      · next t20 =>
        injection hr with hr; subst hr
        refine ls_sb_mk (m := 2) (Or.inr (Or.inl ⟨by show a ≠ 1; omega, Or.inl rfl⟩)) (fun b hb h9 => ?_)
        have h9' := h9 a9
        rw [ls_df1 (by omega)] at hb
        rw [ls_df1 (by omega)]
        exact ls_br_c (Or.inl t16) hb (ls_br_n (by omega) (by show b < ls_dF r + 0; omega) (ls_br_z rfl))
      · cases hr
    · cases hr
  split at hr
  · next t20 =>
    split at hr
    · injection hr with hr; subst hr; exact FIN _ (by omega) (by omega) (by omega) t20
    split at hr
    · injection hr with hr; subst hr; exact FIN _ (by omega) (by omega) (by omega) t20
    · injection hr with hr; subst hr; exact FIN _ (by omega) (by omega) (by omega) t20
  · cases hr
set_option maxHeartbeats 200000 in
theorem ls_sb5 (hg : 6 ≤ g.1 ∧ g.1 < 12) (hr : ls_r5 T pos es pe (g :: r) L k = .ok c') : ls_sb T (5, pos, es, pe, g :: r, L, k) c' g r := by
  have SAME : ∀ st m (kk : LsK) (pe' : List LsP) , (∀ b, b < ls_dF (g :: r) + ls_dp pe → ls_br T b m pos (ls_dF (g :: r) + ls_dp pe) (ls_dF (g :: r) + ls_dp pe')) → ls_sb T (5, pos, es, pe, g :: r, L, k) (st, pos + m, es, pe', g :: r, L, kk) g r := by
    intro st m kk pe' h
    exact ls_sb_mk (m := m) (Or.inl (Or.inl rfl)) (fun b hb _ => h b hb)
  have lc := ls_lv_c (T pos)
  unfold ls_r5 ls_flt at hr
  dsimp only at hr
  split at hr
  · split at hr
    · injection hr with hr; subst hr
      refine SAME _ 1 _ _ (fun b hb => ls_br_n (by omega) hb (ls_br_z ?_))
      rw [ls_dp_0 (by show 2 ≤ ls_lv (T pos); omega)]
    · obtain ⟨a, x, y, l⟩ := g
      exact ls_sbe hg.1 hg.2 hr
  · next lv pl mo r2 =>
    split at hr
    · injection hr with hr; subst hr
      refine SAME _ 0 _ _ (fun b hb => ls_br_z ?_)
      rw [ls_dp_0 (by show 2 ≤ lv; omega)]
    split at hr
    · injection hr with hr; subst hr
      refine SAME _ 1 _ _ (fun b hb => ls_br_n (by omega) hb (ls_br_z ?_))
      rw [ls_dp_0 (e := (ls_lv (T pos), pos, k.1)) (by show 2 ≤ ls_lv (T pos); omega)]
    split at hr
    · next t16 =>
      have K : ∀ b, b < ls_dF (g :: r) + ls_dp ((lv, pl, mo) :: r2) → ls_br T b 1 pos (ls_dF (g :: r) + ls_dp ((lv, pl, mo) :: r2)) (ls_dF (g :: r) + ls_dp r2) := by
        intro b hb
        rw [ls_dp_1 (by show lv ≤ 1; omega)] at hb ⊢
        exact ls_br_c (Or.inl t16) hb (ls_br_z rfl)
      split at hr
      · injection hr with hr; subst hr; exact SAME _ 1 _ _ K
      · injection hr with hr; subst hr; exact SAME _ 1 _ _ K
    split at hr
    · next t19 =>
      split at hr
      · injection hr with hr; subst hr
        refine SAME _ 1 _ _ (fun b hb => ls_br_n (by omega) hb (ls_br_z ?_))
        rw [ls_dp_1 (by show lv ≤ 1; omega), ls_dp_1 (by show lv ≤ 1; omega)]
      · cases hr
    · cases hr
set_option maxHeartbeats 200000 in
theorem ls_sb_rs (hI : ls_Inv T n c) (h6 : c.1 < 6) (hf : c.2.2.2.2.1 = g :: r) (hr : ls_rs T V c = .ok c') : ls_sb T c c' g r := by
  obtain ⟨st, pos, es, pe, fr, L, k⟩ := c
  obtain ⟨i1, i2, i3, i4, i5, i6, i7⟩ := hI
  dsimp only at hf h6
  subst hf
  unfold ls_rs at hr
  dsimp only at hr
  split at hr
  · next q => subst q; rw [if_neg (by omega)] at i7; obtain ⟨_, _, rfl, _⟩ := i7; exact ls_sb0 hr
  split at hr
  · next q => subst q; rw [if_neg (by omega)] at i7; obtain ⟨_, _, rfl, _⟩ := i7; exact ls_sb1 hr
  split at hr
  · next q => subst q; rw [if_neg (by omega)] at i7; obtain ⟨_, _, rfl, _, i8⟩ := i7; exact ls_sb2 (i8 rfl).1 hr
  split at hr
  · next q => subst q; rw [if_neg (by omega)] at i7; obtain ⟨_, _, rfl, _⟩ := i7; exact ls_sb3 hr
  split at hr
  · next q => subst q; exact ls_sb4 hr
  · have q : st = 5 := by omega
    subst q
    rw [if_pos (Or.inr rfl)] at i7
    obtain ⟨_, _, _, _, f, r', e, x1, _⟩ := i7
    injection e with e1 e2
    subst e1
    exact ls_sb5 ⟨x1.1, x1.2.1⟩ hr
end
section
variable {T : Nat → Nat} {V : Nat → Int32} {n : Nat} {C : Nat → LsC} {N : Nat} {kF : LsK}
set_option maxHeartbeats 200000 in
theorem ls_dF_app : ∀ (a b : List LsF), ls_dF (a ++ b) = ls_dF a + ls_dF b
  | [], b => by show ls_dF b = 0 + ls_dF b; omega
  | f :: a, b => by
    show ls_df f + ls_dF (a ++ b) = ls_df f + ls_dF a + ls_dF b
    rw [ls_dF_app a b]; omega
set_option maxHeartbeats 200000 in
/-- a block that is open will be closed -/
theorem ls_pb (h : ls_tl T V n C N kF) {B : LsF} {F : List LsF} (hB : B.1 = 1) : ∀ (m t : Nat) (pre : List LsF), N - t ≤ m → t ≤ N → (C t).2.2.2.2.1 = pre ++ B :: F →
    ∃ t' q es' k' j, t < t' ∧ t' ≤ N ∧ C t' = (3, q, es', [], F, B.2.2.2, k') ∧ (C t).2.1 + j = q ∧ ls_br T (ls_dF F) j (C t).2.1 (ls_D (C t)) (ls_dF F) ∧ (∀ u, t ≤ u → u < t' → F.length < ((C u).2.2.2.2.1).length) := by
  have LT : ∀ t pre, t ≤ N → (C t).2.2.2.2.1 = pre ++ B :: F → t < N := by
    intro t pre ht e
    apply Decidable.byContradiction
    intro q
    have : t = N := by omega
    subst this
    rw [h.2.2.1.2] at e
    cases pre <;> cases e
  intro m
  induction m with
  | zero =>
    intro t pre hm ht e
    have := LT t pre ht e
    omega
  | succ m ih =>
    intro t pre hm ht e
    have lt := LT t pre ht e
    obtain ⟨s6, s⟩ := h.2.1 t lt
    have hI := (h.2.2.2.2 t ht).2.1
    have hlen : F.length < ((C t).2.2.2.2.1).length := by rw [e, List.length_append, List.length_cons]; omega
    have GO : ∀ pre', (C (t + 1)).2.2.2.2.1 = pre' ++ B :: F → (∃ j, (C (t + 1)).2.1 = (C t).2.1 + j ∧ ls_br T (ls_dF F) j (C t).2.1 (ls_D (C t)) (ls_D (C (t + 1)))) →
        ∃ t' q es' k' j, t < t' ∧ t' ≤ N ∧ C t' = (3, q, es', [], F, B.2.2.2, k') ∧ (C t).2.1 + j = q ∧ ls_br T (ls_dF F) j (C t).2.1 (ls_D (C t)) (ls_dF F) ∧ (∀ u, t ≤ u → u < t' → F.length < ((C u).2.2.2.2.1).length) := by
      intro pre' e' hj
      obtain ⟨j, j1, j2⟩ := hj
      obtain ⟨t', q, es', k', j', a1, a2, a3, a4, a5, a6⟩ := ih (t + 1) pre' (by omega) (by omega) e'
      rw [j1] at a4 a5
      refine ⟨t', q, es', k', j + j', by omega, a2, a3, by omega, ls_br_app j2 a5, fun u u1 u2 => ?_⟩
      by_cases ue : u = t
      · subst ue; exact hlen
      · exact a6 u (by omega) u2
    have hD : ls_dF F < ls_D (C t) := by
      unfold ls_D
      rw [e, ls_dF_app]
      obtain ⟨b1, b2, b3, b4⟩ := B
      rw [ls_df1 (Or.inl hB)]
      omega
    cases pre with
    | nil =>
      obtain ⟨fc, j, j1, j2⟩ := ls_sb_rs hI s6 e s
      have J := j2 (ls_dF F) hD (fun q => by omega)
      rcases fc with (fc | ⟨x, fc⟩) | ⟨fc, _⟩ | ⟨_, f18, _, fc⟩
      · exact GO [] fc ⟨j, j1, J⟩
      · exact GO [x] fc ⟨j, j1, J⟩
      · exact absurd hB fc
      · refine ⟨t + 1, (C t).2.1 + 1, (C t).2.2.1, (C t).2.2.2.2.2.2, 1, by omega, by omega, fc, rfl, ⟨hD, ?_⟩, fun u u1 u2 => ?_⟩
        · show ls_bd (T (C t).2.1) (ls_D (C t)) = ls_dF F
          rw [fc] at J j1
          have j1' : (C t).2.1 + 1 = (C t).2.1 + j := j1
          have : j = 1 := by omega
          subst this
          exact J.2
        · have : u = t := by omega
          subst this; exact hlen
    | cons x pre =>
      obtain ⟨fc, j, j1, j2⟩ := ls_sb_rs (g := x) (r := pre ++ B :: F) hI s6 e s
      have J := j2 (ls_dF F) hD (fun _ => by
        rw [ls_dF_app]
        obtain ⟨b1, b2, b3, b4⟩ := B
        rw [ls_df1 (Or.inl hB)]
        omega)
      rcases fc with (fc | ⟨y, fc⟩) | ⟨_, fc | ⟨y, _, fc⟩⟩ | ⟨_, _, _, fc⟩
      · exact GO (x :: pre) fc ⟨j, j1, J⟩
      · exact GO (y :: x :: pre) fc ⟨j, j1, J⟩
      · exact GO pre fc ⟨j, j1, J⟩
      · exact GO (y :: pre) fc ⟨j, j1, J⟩
      · exact GO pre (by rw [fc]) ⟨j, j1, J⟩
end
