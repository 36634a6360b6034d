/-! Counts along the reading, and where an expression began -/
def ls_n1 : List LsF → Nat
  | [] => 0
  | f :: r => (if f.1 = 1 then 1 else 0) + ls_n1 r
def ls_n5 : List LsF → Nat
  | [] => 0
  | f :: r => (if f.1 = 5 ∨ f.1 = 8 then 1 else 0) + ls_n5 r
/-- what a step does to the counts -/
def ls_cn (c c' : LsC) : Prop := c.2.1 ≤ c'.2.1 ∧ ls_n1 c.2.2.2.2.1 + c.2.1 ≤ ls_n1 c'.2.2.2.2.1 + c'.2.1 ∧ ls_n1 c'.2.2.2.2.1 + 2 * ls_n5 c'.2.2.2.2.1 + c.2.1 ≤ ls_n1 c.2.2.2.2.1 + 2 * ls_n5 c.2.2.2.2.1 + c'.2.1 ∧ (c.1 = 0 ∨ c.1 = 1 ∨ c.1 = 2 ∨ c.1 = 4 → c.2.1 < c'.2.1 ∨ (c'.1 = 1 ∨ c'.1 = 2 ∨ c'.1 = 4 ∨ c'.1 = 6))
section
variable {T : Nat → Nat} {V : Nat → Int32} {n : Nat} {pos es : Nat} {pe : List LsP} {fr : List LsF} {L : List Nat} {k : LsK} {c c' : LsC}
set_option maxHeartbeats 200000 in
theorem ls_n1_1 {a b : Nat} {l : List Nat} {r : List LsF} : ls_n1 ((1, a, b, l) :: r) = 1 + ls_n1 r := rfl
set_option maxHeartbeats 200000 in
theorem ls_n1_x {f a b : Nat} {l : List Nat} {r : List LsF} (h : f ≠ 1) : ls_n1 ((f, a, b, l) :: r) = ls_n1 r := by
  show (if f = 1 then 1 else 0) + _ = _
  rw [if_neg h]; omega
set_option maxHeartbeats 200000 in
theorem ls_n5_5 {f a b : Nat} {l : List Nat} {r : List LsF} (h : f = 5 ∨ f = 8) : ls_n5 ((f, a, b, l) :: r) = 1 + ls_n5 r := by
  show (if f = 5 ∨ f = 8 then 1 else 0) + _ = _
  rw [if_pos h]
set_option maxHeartbeats 200000 in
theorem ls_n5_x {f a b : Nat} {l : List Nat} {r : List LsF} (h : ¬ (f = 5 ∨ f = 8)) : ls_n5 ((f, a, b, l) :: r) = ls_n5 r := by
  show (if f = 5 ∨ f = 8 then 1 else 0) + _ = _
  rw [if_neg h]; omega
set_option maxHeartbeats 200000 in
theorem ls_cn_mk {st st' pos' es' : Nat} {pe' : List LsP} {fr' : List LsF} {L' : List Nat} {k' : LsK} (h1 : pos ≤ pos') (h2 : ls_n1 fr + pos ≤ ls_n1 fr' + pos') (h3 : ls_n1 fr' + 2 * ls_n5 fr' + pos ≤ ls_n1 fr + 2 * ls_n5 fr + pos') (h4 : st = 0 ∨ st = 1 ∨ st = 2 ∨ st = 4 → pos < pos' ∨ (st' = 1 ∨ st' = 2 ∨ st' = 4 ∨ st' = 6)) : ls_cn (st, pos, es, pe, fr, L, k) (st', pos', es', pe', fr', L', k') := ⟨h1, h2, h3, h4⟩
set_option maxHeartbeats 200000 in
theorem ls_cn_s {st st' pos' es' : Nat} {pe' : List LsP} {L' : List Nat} {k' : LsK} (h1 : pos ≤ pos') (h4 : st = 0 ∨ st = 1 ∨ st = 2 ∨ st = 4 → pos < pos' ∨ (st' = 1 ∨ st' = 2 ∨ st' = 4 ∨ st' = 6)) : ls_cn (st, pos, es, pe, fr, L, k) (st', pos', es', pe', fr, L', k') := ⟨h1, by show ls_n1 fr + pos ≤ ls_n1 fr + pos'; omega, by show ls_n1 fr + 2 * ls_n5 fr + pos ≤ ls_n1 fr + 2 * ls_n5 fr + pos'; omega, h4⟩
set_option maxHeartbeats 200000 in
theorem ls_cn0 (hr : ls_r0 T pos es pe fr L k = .ok c') : ls_cn (0, pos, es, pe, fr, L, k) c' := by
  unfold ls_r0 at hr
  cases fr with
  | nil =>
    dsimp only at hr
    repeat' split at hr
    all_goals (injection hr with hr; subst hr; exact ls_cn_s (Nat.le_refl _) (fun _ => Or.inr (by omega)))
  | cons f r =>
    obtain ⟨fk, mo, sp, l⟩ := f
    dsimp only at hr
    split at hr
    · injection hr with hr; subst hr; exact ls_cn_s (Nat.le_refl _) (fun _ => Or.inr (by omega))
    · split at hr
      · next f1 =>
        subst f1
        split at hr
        · injection hr with hr; subst hr
          exact ls_cn_mk (by omega) (by rw [ls_n1_1]; omega) (by rw [ls_n1_1, ls_n5_x (by omega)]; omega) (fun _ => Or.inl (by omega))
        · split at hr
          all_goals (injection hr with hr; subst hr; exact ls_cn_s (Nat.le_refl _) (fun _ => Or.inr (by omega)))
      · injection hr with hr; subst hr; exact ls_cn_s (Nat.le_refl _) (fun _ => Or.inr (by omega))
set_option maxHeartbeats 200000 in
theorem ls_cn1 (hr : ls_r1 T pos es pe fr L k = .ok c') : ls_cn (1, pos, es, pe, fr, L, k) c' := by
  unfold ls_r1 ls_hdr at hr
  dsimp only at hr
  repeat' split at hr
  all_goals first
    | cases hr; done
    | (injection hr with hr; subst hr; first
      | exact ls_cn_s (by omega) (fun _ => by omega)
      | exact ls_cn_mk (by omega) (by rw [ls_n1_1]; omega) (by rw [ls_n1_1, ls_n5_x (by omega)]; omega) (fun _ => by omega)
      | exact ls_cn_mk (by omega) (by rw [ls_n1_x (by omega)]; omega) (by rw [ls_n1_x (by omega), ls_n5_x (by omega)]; omega) (fun _ => by omega)
      | exact ls_cn_mk (by omega) (by rw [ls_n1_x (by omega)]; omega) (by rw [ls_n1_x (by omega), ls_n5_5 (by omega)]; omega) (fun _ => by omega))
set_option maxHeartbeats 200000 in
theorem ls_cn2 (hT : ls_txt T n) (hr : ls_r2 T pos es pe fr L k = .ok c') : ls_cn (2, pos, es, pe, fr, L, k) c' := by
  unfold ls_r2 ls_var at hr
  dsimp only at hr
  split at hr
  · split at hr
    · next h0 =>
      split at hr
      · cases hr
      · next p L1 sg hh =>
        have := ls_head_ok hT hh
        obtain ⟨hf, _⟩ := h0
        subst hf
        injection hr with hr; subst hr
        exact ls_cn_mk (by omega) (by rw [ls_n1_1, ls_n1_x (by omega)]; omega) (by rw [ls_n1_1, ls_n1_x (by omega), ls_n5_x (by omega), ls_n5_x (by omega)]; omega) (fun _ => by omega)
    · repeat' split at hr
      all_goals first
        | cases hr; done
        | (injection hr with hr; subst hr; first
          | exact ls_cn_s (by omega) (fun _ => by omega)
          | exact ls_cn_mk (by omega) (by rw [ls_n1_x (f := 11) (by omega)]; omega) (by rw [ls_n1_x (f := 11) (by omega), ls_n5_x (f := 11) (by omega)]; omega) (fun _ => by omega))
  · cases hr
set_option maxHeartbeats 200000 in
theorem ls_cn3 (hr : ls_r3 T pos es pe fr L k = .ok c') : ls_cn (3, pos, es, pe, fr, L, k) c' := by
  unfold ls_r3 at hr
  cases fr with
  | nil =>
    dsimp only at hr
    injection hr with hr; subst hr; exact ls_cn_s (Nat.le_refl _) (fun _ => by omega)
  | cons f r =>
    obtain ⟨fk, mo, sp, l⟩ := f
    dsimp only at hr
    split at hr
    · next f3 =>
      subst f3
      split at hr
      · injection hr with hr; subst hr
        exact ls_cn_mk (by omega) (by rw [ls_n1_x (by omega), ls_n1_x (by omega)]; omega) (by rw [ls_n1_x (by omega), ls_n1_x (by omega), ls_n5_x (by omega), ls_n5_x (by omega)]; omega) (fun _ => by omega)
      · injection hr with hr; subst hr
        exact ls_cn_mk (by omega) (by rw [ls_n1_x (by omega)]; omega) (by rw [ls_n1_x (by omega), ls_n5_x (by omega)]; omega) (fun _ => by omega)
    · split at hr
      · next f4 =>
        subst f4
        injection hr with hr; subst hr
        exact ls_cn_mk (by omega) (by rw [ls_n1_x (by omega)]; omega) (by rw [ls_n1_x (by omega), ls_n5_x (by omega)]; omega) (fun _ => by omega)
      · split at hr
        · next f5 =>
          subst f5
          injection hr with hr; subst hr
          exact ls_cn_mk (by omega) (by rw [ls_n1_x (by omega)]; omega) (by rw [ls_n1_x (by omega), ls_n5_5 (by omega)]; omega) (fun _ => by omega)
        · split at hr
          · next f2 =>
            subst f2
            injection hr with hr; subst hr
            exact ls_cn_mk (by omega) (by rw [ls_n1_x (by omega)]; omega) (by rw [ls_n1_x (by omega), ls_n5_x (by omega)]; omega) (fun _ => by omega)
          · injection hr with hr; subst hr; exact ls_cn_s (Nat.le_refl _) (fun _ => by omega)
/-- within an expression -/
def ls_stay (es : Nat) (fr : List LsF) (L : List Nat) (c' : LsC) : Prop := (c'.1 = 4 ∨ c'.1 = 5) ∧ c'.2.2.1 = es ∧ c'.2.2.2.2.1 = fr ∧ c'.2.2.2.2.2.1 = L
set_option maxHeartbeats 200000 in
theorem ls_r4_st (hr : ls_r4 T V pos es pe fr L k = .ok c') : ls_stay es fr L c' ∧ pos < c'.2.1 ∧ 13 ≤ T pos := by
  unfold ls_r4 ls_flt at hr
  dsimp only at hr
  split at hr
  · next nm =>
    have := nm.1
    repeat' split at hr
    all_goals (injection hr with hr; subst hr; exact ⟨⟨by first | exact Or.inl rfl | exact Or.inr rfl, rfl, rfl, rfl⟩, by show pos < pos + _; omega, by omega⟩)
  split at hr
  · injection hr with hr; subst hr; exact ⟨⟨Or.inr rfl, rfl, rfl, rfl⟩, by show pos < pos + _; omega, by omega⟩
  split at hr
  · injection hr with hr; subst hr; exact ⟨⟨Or.inr rfl, rfl, rfl, rfl⟩, by show pos < pos + _; omega, by omega⟩
  split at hr
  · injection hr with hr; subst hr; exact ⟨⟨Or.inr rfl, rfl, rfl, rfl⟩, by show pos < pos + _; omega, by omega⟩
  split at hr
  · injection hr with hr; subst hr; exact ⟨⟨Or.inr rfl, rfl, rfl, rfl⟩, by show pos < pos + _; omega, by omega⟩
  split at hr
  · repeat' split at hr
    all_goals first | cases hr; done | (injection hr with hr; subst hr; exact ⟨⟨Or.inl rfl, rfl, rfl, rfl⟩, by show pos < pos + _; omega, by omega⟩)
  split at hr
  · injection hr with hr; subst hr; exact ⟨⟨Or.inl rfl, rfl, rfl, rfl⟩, by show pos < pos + _; omega, by omega⟩
  · cases hr
set_option maxHeartbeats 200000 in
theorem ls_cn4 (hr : ls_r4 T V pos es pe fr L k = .ok c') : ls_cn (4, pos, es, pe, fr, L, k) c' := by
  obtain ⟨⟨_, _, e3, _⟩, h2, _⟩ := ls_r4_st hr
  obtain ⟨st', pos', es', pe', fr', L', k'⟩ := c'
  dsimp only at e3 h2
  subst e3
  exact ls_cn_s (Nat.le_of_lt h2) (fun _ => Or.inl h2)
set_option maxHeartbeats 200000 in
theorem ls_cne (hr : ls_end T pos es fr L k = .ok c') : ls_cn (5, pos, es, pe, fr, L, k) c' ∧ (c'.1 = 0 ∨ c'.1 = 3) := by
  unfold ls_end at hr
  split at hr
  · cases hr
  cases fr with
  | nil => cases hr
  | cons f r =>
    obtain ⟨fk, mo, sp, l⟩ := f
    dsimp only at hr
    split at hr
    · next f7 =>
      subst f7
      split at hr
      · injection hr with hr; subst hr
        exact ⟨ls_cn_mk (by omega) (by rw [ls_n1_x (by omega), ls_n1_x (by omega)]; omega) (by rw [ls_n1_x (by omega), ls_n1_x (by omega), ls_n5_x (by omega), ls_n5_x (by omega)]; omega) (fun _ => by omega), Or.inl rfl⟩
      · cases hr
    split at hr
    · next f8 =>
      subst f8
      split at hr
      · injection hr with hr; subst hr
        exact ⟨ls_cn_mk (by omega) (by rw [ls_n1_x (by omega), ls_n1_x (by omega)]; omega) (by rw [ls_n1_x (by omega), ls_n1_x (by omega), ls_n5_5 (by omega), ls_n5_5 (by omega)]; omega) (fun _ => by omega), Or.inl rfl⟩
      · cases hr
    have D : ∀ p', pos < p' → ls_n1 r + 2 * ls_n5 r + pos ≤ ls_n1 ((fk, mo, sp, l) :: r) + 2 * ls_n5 ((fk, mo, sp, l) :: r) + p' ∧ ls_n1 ((fk, mo, sp, l) :: r) + pos ≤ ls_n1 r + p' := by
      intro p' hp
      refine ⟨?_, ?_⟩
      · show _ ≤ (if fk = 1 then 1 else 0) + ls_n1 r + 2 * ((if fk = 5 ∨ fk = 8 then 1 else 0) + ls_n5 r) + p'
        split <;> split <;> omega
      · show (if fk = 1 then 1 else 0) + ls_n1 r + pos ≤ _
        split <;> omega
    repeat' split at hr
    all_goals first
      | cases hr; done
      | (injection hr with hr; subst hr; first | exact ⟨ls_cn_mk (by omega) (D (pos + 1) (by omega)).2 (D (pos + 1) (by omega)).1 (fun _ => by omega), Or.inr rfl⟩ | exact ⟨ls_cn_mk (by omega) (D (pos + 2) (by omega)).2 (D (pos + 2) (by omega)).1 (fun _ => by omega), Or.inr rfl⟩)
set_option maxHeartbeats 200000 in
theorem ls_r5_st (hr : ls_r5 T pos es pe fr L k = .ok c') : (ls_stay es fr L c' ∧ pos ≤ c'.2.1) ∨ (pe = [] ∧ ls_end T pos es fr L k = .ok c') := by
  unfold ls_r5 ls_flt at hr
  dsimp only at hr
  cases pe with
  | nil =>
    dsimp only at hr
    split at hr
    · injection hr with hr; subst hr; exact Or.inl ⟨⟨Or.inl rfl, rfl, rfl, rfl⟩, by show pos ≤ pos + 1; omega⟩
    · exact Or.inr ⟨rfl, hr⟩
  | cons x r =>
    obtain ⟨x1, x2, x3⟩ := x
    dsimp only at hr
    left
    repeat' split at hr
    all_goals first
      | cases hr; done
      | (injection hr with hr; subst hr; exact ⟨⟨by first | exact Or.inl rfl | exact Or.inr rfl, rfl, rfl, rfl⟩, by first | exact Nat.le_refl _ | exact Nat.le_succ _⟩)
set_option maxHeartbeats 200000 in
theorem ls_cn5 (hr : ls_r5 T pos es pe fr L k = .ok c') : ls_cn (5, pos, es, pe, fr, L, k) c' := by
  rcases ls_r5_st hr with ⟨⟨_, _, e3, _⟩, h2⟩ | ⟨rfl, h⟩
  · obtain ⟨st', pos', es', pe', fr', L', k'⟩ := c'
    dsimp only at e3 h2
    subst e3
    exact ls_cn_s h2 (fun _ => by omega)
  · exact (ls_cne h).1
set_option maxHeartbeats 200000 in
theorem ls_cn_rs (hT : ls_txt T n) (h6 : c.1 < 6) (hr : ls_rs T V c = .ok c') : ls_cn c c' := by
  obtain ⟨st, pos, es, pe, fr, L, k⟩ := c
  dsimp only at h6
  unfold ls_rs at hr
  dsimp only at hr
  rcases (show st = 0 ∨ st = 1 ∨ st = 2 ∨ st = 3 ∨ st = 4 ∨ st = 5 by omega) with rfl | rfl | rfl | rfl | rfl | rfl
  · exact ls_cn0 hr
  · exact ls_cn1 hr
  · exact ls_cn2 hT hr
  · exact ls_cn3 hr
  · exact ls_cn4 hr
  · exact ls_cn5 hr
end
section
variable {T : Nat → Nat} {V : Nat → Int32} {n : Nat} {C : Nat → LsC} {N : Nat} {kF : LsK} {t t' st pos es : Nat} {pe : List LsP} {fr : List LsF} {L : List Nat} {k : LsK}
set_option maxHeartbeats 200000 in
theorem ls_tlc (h : ls_tl T V n C N kF) (ht : t < N) : ls_cn (C t) (C (t + 1)) := ls_cn_rs h.1 (h.2.1 t ht).1 (h.2.1 t ht).2
set_option maxHeartbeats 200000 in
theorem ls_posm (h : ls_tl T V n C N kF) : ∀ m t, t + m ≤ N → (C t).2.1 ≤ (C (t + m)).2.1 := by
  intro m
  induction m with
  | zero => intro t _; exact Nat.le_refl _
  | succ m ih => intro t ht; exact Nat.le_trans (ih t (by omega)) (ls_tlc h (show t + m < N by omega)).1
set_option maxHeartbeats 200000 in
theorem ls_pos_le (h : ls_tl T V n C N kF) (h1 : t ≤ t') (h2 : t' ≤ N) : (C t).2.1 ≤ (C t').2.1 := by
  have := ls_posm h (t' - t) t (by omega)
  rw [show t + (t' - t) = t' by omega] at this
  exact this
set_option maxHeartbeats 200000 in
/-- the blocks that are begun still close -/
theorem ls_n1_hi (h : ls_tl T V n C N kF) : ∀ m t, t + m = N → ls_n1 (C t).2.2.2.2.1 + (C t).2.1 ≤ n := by
  intro m
  induction m with
  | zero =>
    intro t e
    have : t = N := by omega
    subst this
    rw [h.2.2.1.2]
    have := (h.2.2.2.2 t (Nat.le_refl _)).2.1
    have : (C t).2.1 ≤ n := by
      generalize C t = c at *
      obtain ⟨st, pos, es, pe, fr, L, k⟩ := c
      exact this.1
    show 0 + _ ≤ n
    omega
  | succ m ih =>
    intro t e
    have := ih (t + 1) (by omega)
    have := (ls_tlc h (show t < N by omega)).2.1
    omega
set_option maxHeartbeats 200000 in
theorem ls_n1_lo (h : ls_tl T V n C N kF) (h0 : (C 0).2.2.2.2.1 = []) : ∀ t, t ≤ N → ls_n1 (C t).2.2.2.2.1 + 2 * ls_n5 (C t).2.2.2.2.1 ≤ (C t).2.1 := by
  intro t
  induction t with
  | zero => intro _; rw [h0]; show 0 + 2 * 0 ≤ _; omega
  | succ t ih =>
    intro ht
    have := ih (by omega)
    have := (ls_tlc h (show t < N by omega)).2.2.1
    omega
set_option maxHeartbeats 200000 in
/-- frames that stand for entries of the reference's control: 70 at most -/
theorem ls_n15 (h : ls_tl T V n C N kF) (h0 : (C 0).2.2.2.2.1 = []) (ht : t ≤ N) : ls_n1 (C t).2.2.2.2.1 + ls_n5 (C t).2.2.2.2.1 ≤ 70 := by
  have := ls_n1_lo h h0 t ht
  have := ls_n1_hi h (N - t) t (by omega)
  have := h.1.1
  omega
set_option maxHeartbeats 200000 in
/-- a statement takes up a token -/
theorem ls_adv (h : ls_tl T V n C N kF) (h0 : (C t).1 = 0 ∨ (C t).1 = 1 ∨ (C t).1 = 2 ∨ (C t).1 = 4) : ∀ m, t + m ≤ N → (C t).2.1 < (C (t + m)).2.1 ∨ ((C (t + m)).2.1 = (C t).2.1 ∧ ((C (t + m)).1 = 0 ∨ (C (t + m)).1 = 1 ∨ (C (t + m)).1 = 2 ∨ (C (t + m)).1 = 4 ∨ (C (t + m)).1 = 6)) := by
  intro m
  induction m with
  | zero => intro _; exact Or.inr ⟨rfl, by rw [Nat.add_zero]; omega⟩
  | succ m ih =>
    intro hm
    have c := ls_tlc h (show t + m < N by omega)
    rw [← Nat.add_assoc]
    rcases ih (by omega) with g | ⟨g1, g2⟩
    · left; have := c.1; omega
    · have s6 := (h.2.1 (t + m) (by omega)).1
      rcases c.2.2.2 (by omega) with q | q
      · left; omega
      · have := c.1
        rcases Nat.lt_or_ge (C t).2.1 (C (t + m + 1)).2.1 with g | g
        · exact Or.inl g
        · exact Or.inr ⟨by omega, by omega⟩
set_option maxHeartbeats 200000 in
theorem ls_adv3 (h : ls_tl T V n C N kF) (h0 : (C t).1 = 0 ∨ (C t).1 = 1 ∨ (C t).1 = 2 ∨ (C t).1 = 4) (h1 : t ≤ t') (h2 : t' ≤ N) (h3 : (C t').1 = 3) : (C t).2.1 < (C t').2.1 := by
  have := ls_adv h h0 (t' - t) (by omega)
  rw [show t + (t' - t) = t' by omega] at this
  omega
end
section
variable {T : Nat → Nat} {V : Nat → Int32} {n : Nat} {pos es : Nat} {pe : List LsP} {fr : List LsF} {L : List Nat} {k : LsK} {c c' : LsC}
/-- how an expression comes to be -/
def ls_bgn (T : Nat → Nat) (c c' : LsC) : Prop := ∃ fk mo sp r p L' k', c' = (4, p, p, [], (fk, mo, sp, []) :: r, L', k') ∧ c.2.2.2.2.1 = r ∧ c.2.1 = sp ∧ k'.1 = mo + 1 ∧ (fk ≠ 11 → c.1 = 1 ∧ L' = c.2.2.2.2.2.1) ∧
  ((fk = 6 ∧ p = sp ∧ (T sp ≠ 6 ∧ T sp ≠ 8 ∧ T sp ≠ 9 ∧ T sp ≠ 10 ∧ T sp ≠ 11 ∧ T sp ≠ 12 ∧ T sp ≠ 17 ∧ T sp ≠ 20)) ∨ (fk = 7 ∧ p = sp + 2 ∧ T sp = 6) ∨ (fk = 8 ∧ p = sp + 2 ∧ T sp = 8) ∨ (fk = 9 ∧ p = sp + 2 ∧ T sp = 12) ∨ (fk = 10 ∧ p = sp + 1 ∧ T sp = 11 ∧ T (sp + 1) ≠ 20) ∨ (fk = 11 ∧ p = sp + 3 ∧ ls_nam (T (sp + 1)) ∧ T (sp + 2) = 21 ∧ (r ≠ [] → ∃ l, L' = (T (sp + 1) - 54) :: l) ∧ (r = [] → L' = c.2.2.2.2.2.1)))
set_option maxHeartbeats 200000 in
theorem ls_b0 (hr : ls_r0 T pos es pe fr L k = .ok c') : c'.1 ≠ 4 ∧ c'.1 ≠ 5 := by
  unfold ls_r0 at hr
  repeat' split at hr
  all_goals (injection hr with hr; subst hr; exact ⟨by dsimp only; omega, by dsimp only; omega⟩)
set_option maxHeartbeats 200000 in
theorem ls_b3 (hr : ls_r3 T pos es pe fr L k = .ok c') : c'.1 ≠ 4 ∧ c'.1 ≠ 5 := by
  unfold ls_r3 at hr
  repeat' split at hr
  all_goals (injection hr with hr; subst hr; exact ⟨by dsimp only; omega, by dsimp only; omega⟩)
set_option maxHeartbeats 200000 in
theorem ls_b1 (hr : ls_r1 T pos es [] fr L k = .ok c') (h : c'.1 = 4 ∨ c'.1 = 5) : ls_bgn T (1, pos, es, [], fr, L, k) c' := by
  unfold ls_r1 ls_hdr at hr
  dsimp only at hr
  have NO : ∀ {st p e' q f l k'}, (st = 0 ∨ st = 3) → c' = (st, p, e', q, f, l, k') → ls_bgn T (1, pos, es, [], fr, L, k) c' := by
    intro st p e' q f l k' hs e
    subst e
    dsimp only at h
    omega
  split at hr
  · injection hr with hr; exact NO (Or.inr rfl) hr.symm
  split at hr
  · injection hr with hr; exact NO (Or.inl rfl) hr.symm
  split at hr
  · split at hr
    · injection hr with hr; subst hr
      exact ⟨7, _, _, _, _, _, _, rfl, rfl, rfl, rfl, fun _ => ⟨rfl, rfl⟩, Or.inr (Or.inl ⟨rfl, rfl, by assumption⟩)⟩
    · cases hr
  split at hr
  · split at hr
    · injection hr with hr; subst hr
      exact ⟨8, _, _, _, _, _, _, rfl, rfl, rfl, rfl, fun _ => ⟨rfl, rfl⟩, Or.inr (Or.inr (Or.inl ⟨rfl, rfl, by assumption⟩))⟩
    · cases hr
  split at hr
  · split at hr
    · injection hr with hr; subst hr
      exact ⟨9, _, _, _, _, _, _, rfl, rfl, rfl, rfl, fun _ => ⟨rfl, rfl⟩, Or.inr (Or.inr (Or.inr (Or.inl ⟨rfl, rfl, by assumption⟩)))⟩
    · cases hr
  split at hr
  · split at hr
    · cases hr
    · split at hr
      · injection hr with hr; exact NO (Or.inr rfl) hr.symm
      · cases hr
  split at hr
  · split at hr
    · cases hr
    · split at hr
      · injection hr with hr; exact NO (Or.inr rfl) hr.symm
      · cases hr
  split at hr
  · next t11 =>
    split at hr
    · cases hr
    · split at hr
      · injection hr with hr; exact NO (Or.inr rfl) hr.symm
      · next n20 =>
        injection hr with hr; subst hr
        exact ⟨10, _, _, _, _, _, _, rfl, rfl, rfl, rfl, fun _ => ⟨rfl, rfl⟩, Or.inr (Or.inr (Or.inr (Or.inr (Or.inl ⟨rfl, rfl, t11, n20⟩))))⟩
  · injection hr with hr; subst hr
    exact ⟨6, _, _, _, _, _, _, rfl, rfl, rfl, rfl, fun _ => ⟨rfl, rfl⟩, Or.inl ⟨rfl, rfl, by assumption, by assumption, by assumption, by assumption, by assumption, by assumption, by assumption, by assumption⟩⟩
set_option maxHeartbeats 200000 in
theorem ls_b2 (hr : ls_r2 T pos es [] fr L k = .ok c') (h : c'.1 = 4 ∨ c'.1 = 5) : ls_bgn T (2, pos, es, [], fr, L, k) c' := by
  unfold ls_r2 ls_var at hr
  dsimp only at hr
  have NO : ∀ {st p e' q f l k'}, (st = 0 ∨ st = 3) → c' = (st, p, e', q, f, l, k') → ls_bgn T (2, pos, es, [], fr, L, k) c' := by
    intro st p e' q f l k' hs e
    subst e
    dsimp only at h
    omega
  split at hr
  · next nm =>
    split at hr
    · split at hr
      · cases hr
      · injection hr with hr; exact NO (Or.inl rfl) hr.symm
    · cases fr with
      | nil =>
        dsimp only at hr
        split at hr
        · next t21 =>
          injection hr with hr; subst hr
          exact ⟨11, _, _, _, _, _, _, rfl, rfl, rfl, rfl, fun q => absurd rfl q, Or.inr (Or.inr (Or.inr (Or.inr (Or.inr ⟨rfl, rfl, nm, t21, fun q => absurd rfl q, fun _ => rfl⟩))))⟩
        · split at hr
          · injection hr with hr; exact NO (Or.inl rfl) hr.symm
          · cases hr
      | cons f r =>
        obtain ⟨fk, mo, sp, l⟩ := f
        dsimp only at hr
        split at hr
        · split at hr
          · next t21 =>
            injection hr with hr; subst hr
            exact ⟨11, _, _, _, _, _, _, rfl, rfl, rfl, rfl, fun q => absurd rfl q, Or.inr (Or.inr (Or.inr (Or.inr (Or.inr ⟨rfl, rfl, nm, t21, fun _ => ⟨_, rfl⟩, fun q => by cases q⟩))))⟩
          · split at hr
            · injection hr with hr; exact NO (Or.inl rfl) hr.symm
            · cases hr
        · cases hr
  · cases hr
set_option maxHeartbeats 200000 in
theorem ls_org_rs (hI : ls_Inv T n c) (h6 : c.1 < 6) (hr : ls_rs T V c = .ok c') (h : c'.1 = 4 ∨ c'.1 = 5) : ((c.1 = 4 ∨ c.1 = 5) ∧ ls_stay c.2.2.1 c.2.2.2.2.1 c.2.2.2.2.2.1 c') ∨ ((c.1 = 1 ∨ c.1 = 2) ∧ ls_bgn T c c') := by
  obtain ⟨st, pos, es, pe, fr, L, k⟩ := c
  dsimp only at h6
  unfold ls_rs at hr
  dsimp only at hr
  have PE : st = 1 ∨ st = 2 → pe = [] := by
    intro q
    obtain ⟨_, _, _, _, _, _, h7⟩ := hI
    rw [if_neg (by omega)] at h7
    exact h7.2.2.1
  rcases (show st = 0 ∨ st = 1 ∨ st = 2 ∨ st = 3 ∨ st = 4 ∨ st = 5 by omega) with rfl | rfl | rfl | rfl | rfl | rfl
  · have := ls_b0 hr; omega
  · have := PE (Or.inl rfl); subst this
    exact Or.inr ⟨Or.inl rfl, ls_b1 hr h⟩
  · have := PE (Or.inr rfl); subst this
    exact Or.inr ⟨Or.inr rfl, ls_b2 hr h⟩
  · have := ls_b3 hr; omega
  · exact Or.inl ⟨Or.inl rfl, (ls_r4_st hr).1⟩
  · rcases ls_r5_st hr with g | ⟨_, g⟩
    · exact Or.inl ⟨Or.inr rfl, g.1⟩
    · have := (ls_cne (pe := pe) g).2; omega
end
section
variable {T : Nat → Nat} {V : Nat → Int32} {n : Nat} {C : Nat → LsC} {N : Nat} {kF : LsK} {ta : Nat}
set_option maxHeartbeats 200000 in
/-- an expression's first configuration -/
theorem ls_org (h : ls_tl T V n C N kF) (hta : (C ta).1 < 4) : ∀ t, ta ≤ t → t ≤ N → (C t).1 = 4 ∨ (C t).1 = 5 → ∃ s k0, ta ≤ s ∧ s < t ∧ C (s + 1) = (4, (C t).2.2.1, (C t).2.2.1, [], (C t).2.2.2.2.1, (C t).2.2.2.2.2.1, k0) ∧ ((C s).1 = 1 ∨ (C s).1 = 2) ∧ ls_bgn T (C s) (C (s + 1)) ∧ ∀ u, s < u → u ≤ t → (C u).2.2.2.2.1 = (C t).2.2.2.2.1 ∧ ((C u).1 = 4 ∨ (C u).1 = 5) := by
  intro t
  induction t with
  | zero =>
    intro h1 h2 h3
    have : ta = 0 := by omega
    subst this
    omega
  | succ t ih =>
    intro h1 h2 h3
    rcases Nat.eq_or_lt_of_le h1 with e | e
    · subst e; omega
    · have s := h.2.1 t (by omega)
      rcases ls_org_rs (h.2.2.2.2 t (by omega)).2.1 s.1 s.2 h3 with ⟨g1, g2, g3, g4, g5⟩ | ⟨g1, g2⟩
      · obtain ⟨s0, k0, i1, i2, i3, i4, i5, i6⟩ := ih (by omega) (by omega) g1
        rw [← g3, ← g4, ← g5] at i3
        refine ⟨s0, k0, i1, by omega, i3, i4, i5, fun u u1 u2 => ?_⟩
        rcases Nat.eq_or_lt_of_le u2 with q | q
        · subst q; exact ⟨rfl, h3⟩
        · have := i6 u u1 (by omega)
          rw [g4]; exact this
      · have g2' := g2
        obtain ⟨fk, mo, sp, r, p, L', k', b1, b2, b3, b4, b5, b6⟩ := g2'
        refine ⟨t, k', by omega, by omega, ?_, g1, g2, fun u u1 u2 => ?_⟩
        · rw [b1]
        · have : u = t + 1 := by omega
          subst this
          exact ⟨rfl, h3⟩
end
