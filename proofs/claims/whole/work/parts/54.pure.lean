/-! The choice among methods; the size of a method's code -/
def ls_bx (tk : Nat → Bool) (as : Nat → Nat → Bool) : Nat → Option Nat
  | 0 => none
  | i + 1 => match ls_bx tk as i with
    | none => if tk i then some i else none
    | some b => if tk i && as i b then some i else some b
def ls_mo (tk : Nat → Bool) (as : Nat → Nat → Bool) (nm m : Nat) : Prop := ∀ o, o < nm → tk o = true → as m o = true
section
variable {tk : Nat → Bool} {as : Nat → Nat → Bool} {nm : Nat}
set_option maxHeartbeats 200000 in
theorem ls_bx_some : ∀ {i b}, ls_bx tk as i = some b → b < i ∧ tk b = true
  | 0, b, h => by cases h
  | i + 1, b, h => by
    unfold ls_bx at h
    split at h
    · split at h
      · next g => injection h with h; subst h; exact ⟨Nat.lt_succ_self _, g⟩
      · cases h
    · next c hc =>
      split at h
      · next g => injection h with h; subst h; rw [Bool.and_eq_true] at g; exact ⟨Nat.lt_succ_self _, g.1⟩
      · injection h with h; subst h
        have := ls_bx_some hc
        exact ⟨by omega, this.2⟩
set_option maxHeartbeats 200000 in
theorem ls_bx_none : ∀ {i}, ls_bx tk as i = none → ∀ o, o < i → tk o = false
  | 0, _, o, ho => by omega
  | i + 1, h, o, ho => by
    unfold ls_bx at h
    split at h
    · next hc =>
      split at h
      · cases h
      · next g =>
        rcases Nat.lt_or_ge o i with q | q
        · exact ls_bx_none hc o q
        · have : o = i := by omega
          subst this
          exact Bool.eq_false_iff.mpr g
    · split at h <;> cases h
set_option maxHeartbeats 200000 in
/-- the one that is most special is met, and stays -/
theorem ls_bx_most (anti : ∀ a b, a < nm → b < nm → tk a = true → tk b = true → as a b = true → as b a = true → a = b) {m : Nat} (hm : m < nm) (ht : tk m = true) (h : ls_mo tk as nm m) : ∀ i, i ≤ nm → m < i → ls_bx tk as i = some m := by
  intro i
  induction i with
  | zero => intro _ g; omega
  | succ i ih =>
    intro hi hmi
    unfold ls_bx
    rcases Nat.lt_or_ge m i with q | q
    · rw [ih (by omega) q]
      dsimp only
      split
      · next g =>
        rw [Bool.and_eq_true] at g
        rw [anti i m (by omega) hm g.1 ht g.2 (h i (by omega) g.1)]
      · rfl
    · have : m = i := by omega
      subst this
      split
      · rw [if_pos ht]
      · next b hb =>
        have := ls_bx_some hb
        rw [if_pos (by rw [ht, h b (by omega) this.2]; rfl)]
set_option maxHeartbeats 200000 in
theorem ls_fit_anti : ∀ a b : Fin 6, ls_fit a.1 b.1 = true → ls_fit b.1 a.1 = true → a.1 = b.1 := by decide
end
/-- code and what is still owed, against the places -/
def ls_psi (T : Nat → Nat) (c c' : LsC) : Prop := match c, c' with
  | (st, pos, _, pe, fr, _, k), (st', pos', _, pe', fr', _, k') => k'.1 + ls_dpe T pe' + ls_dfr fr' + 2 * pos + (if st = 4 then 1 else 0) ≤ k.1 + ls_dpe T pe + ls_dfr fr + 2 * pos' + (if st' = 4 then 1 else 0) ∧ k.1 ≤ k'.1
section
variable {T : Nat → Nat} {V : Nat → Int32} {n : Nat} {pos es : Nat} {pe : List LsP} {fr : List LsF} {L : List Nat} {k : LsK} {c c' : LsC}
set_option maxHeartbeats 200000 in
theorem ls_dfr_c {a b d : Nat} {l : List Nat} {r : List LsF} : ls_dfr ((a, b, d, l) :: r) = (if a = 5 ∨ a = 8 ∨ a = 2 then 1 else 0) + ls_dfr r := rfl
set_option maxHeartbeats 200000 in
theorem ls_dpe_c {a b d : Nat} {r : List LsP} : ls_dpe T ((a, b, d) :: r) = (if a = 2 then (if T b = 21 then 1 else 2) else if a = 1 then 0 else 1) + ls_dpe T r := rfl
set_option maxHeartbeats 200000 in
theorem ls_psi_mk {st st' pos' es' : Nat} {pe' : List LsP} {fr' : List LsF} {L' : List Nat} {k' : LsK} (h : k'.1 + ls_dpe T pe' + ls_dfr fr' + 2 * pos + (if st = 4 then 1 else 0) ≤ k.1 + ls_dpe T pe + ls_dfr fr + 2 * pos' + (if st' = 4 then 1 else 0)) (h2 : k.1 ≤ k'.1) : ls_psi T (st, pos, es, pe, fr, L, k) (st', pos', es', pe', fr', L', k') := ⟨h, h2⟩
set_option maxHeartbeats 200000 in
theorem ls_em_1 {o a d p : Int32} : (ls_em k o a d p).1 = k.1 + 1 := rfl
set_option maxHeartbeats 200000 in
theorem ls_aim_1 {j : Nat} : (ls_aim k j).1 = k.1 := rfl
set_option maxHeartbeats 200000 in
theorem ls_exits_1 {j : Nat} : (ls_exits k j).1 = k.1 := rfl
set_option maxHeartbeats 200000 in
theorem ls_psi0 (hr : ls_r0 T pos es pe fr L k = .ok c') : ls_psi T (0, pos, es, pe, fr, L, k) c' := by
  unfold ls_r0 at hr
  cases fr with
  | nil =>
    dsimp only at hr
    repeat' split at hr
    all_goals (injection hr with hr; subst hr; exact ls_psi_mk (by simp) (Nat.le_refl _))
  | cons f r =>
    obtain ⟨fk, mo, sp, l⟩ := f
    dsimp only at hr
    have D : ls_dfr r ≤ ls_dfr ((fk, mo, sp, l) :: r) := by rw [ls_dfr_c]; omega
    repeat' split at hr
    all_goals (injection hr with hr; subst hr; exact ls_psi_mk (by rw [if_neg (by decide), if_neg (by decide)]; omega) (Nat.le_refl _))
set_option maxHeartbeats 200000 in
theorem ls_psi1 (hr : ls_r1 T pos es pe fr L k = .ok c') : ls_psi T (1, pos, es, pe, fr, L, k) c' := by
  unfold ls_r1 ls_hdr at hr
  dsimp only at hr
  repeat' split at hr
  all_goals first
    | cases hr; done
    | (injection hr with hr; subst hr; exact ls_psi_mk (by simp [ls_dfr_c, ls_em_1] <;> omega) (by simp only [ls_em_1]; omega))
set_option maxHeartbeats 200000 in
theorem ls_psi2 (hT : ls_txt T n) (hr : ls_r2 T pos es pe fr L k = .ok c') : ls_psi T (2, pos, es, pe, fr, L, k) c' := by
  unfold ls_r2 ls_var at hr
  dsimp only at hr
  split at hr
  · split at hr
    · next h0 =>
      split at hr
      · cases hr
      · next p L1 sg hh =>
        have := ls_head_ok hT hh
        obtain ⟨hf, _⟩ := h0
        subst hf
        injection hr with hr; subst hr
        exact ls_psi_mk (by simp [ls_dfr_c, ls_em_1, ls_dfr]; omega) (by simp only [ls_em_1]; omega)
    · repeat' split at hr
      all_goals first
        | cases hr; done
        | (injection hr with hr; subst hr; exact ls_psi_mk (by simp [ls_dfr_c, ls_em_1] <;> omega) (by simp only [ls_em_1]; omega))
  · cases hr
set_option maxHeartbeats 200000 in
theorem ls_psi3 (hr : ls_r3 T pos es pe fr L k = .ok c') : ls_psi T (3, pos, es, pe, fr, L, k) c' := by
  unfold ls_r3 at hr
  cases fr with
  | nil =>
    dsimp only at hr
    injection hr with hr; subst hr; exact ls_psi_mk (by simp) (Nat.le_refl _)
  | cons f r =>
    obtain ⟨fk, mo, sp, l⟩ := f
    dsimp only at hr
    split at hr
    · next f3 =>
      subst f3
      split at hr
      · injection hr with hr; subst hr
        exact ls_psi_mk (by simp [ls_dfr_c, ls_em_1, ls_aim_1]; omega) (by simp only [ls_em_1, ls_aim_1]; omega)
      · injection hr with hr; subst hr
        exact ls_psi_mk (by simp [ls_dfr_c, ls_em_1, ls_aim_1]) (by simp only [ls_aim_1]; omega)
    · split at hr
      · next f4 =>
        subst f4
        injection hr with hr; subst hr
        exact ls_psi_mk (by simp [ls_dfr_c, ls_em_1, ls_aim_1]) (by simp only [ls_aim_1]; omega)
      · split at hr
        · next f5 =>
          subst f5
          injection hr with hr; subst hr
          exact ls_psi_mk (by simp [ls_dfr_c, ls_em_1, ls_exits_1]; omega) (by simp only [ls_em_1, ls_exits_1]; omega)
        · split at hr
          · next f2 =>
            subst f2
            injection hr with hr; subst hr
            exact ls_psi_mk (by simp [ls_dfr_c, ls_em_1, ls_aim_1]; omega) (by simp only [ls_em_1, ls_aim_1]; omega)
          · injection hr with hr; subst hr; exact ls_psi_mk (by simp) (Nat.le_refl _)
set_option maxHeartbeats 200000 in
theorem ls_psi4 (hr : ls_r4 T V pos es pe fr L k = .ok c') : ls_psi T (4, pos, es, pe, fr, L, k) c' := by
  have E : ∀ (j : Nat) (o a d p : Int32), 1 ≤ j → ls_psi T (4, pos, es, pe, fr, L, k) (5, pos + j, es, pe, fr, L, ls_em k o a d p) := by
    intro j o a d p hj
    exact ls_psi_mk (by simp [ls_em_1]; omega) (by simp only [ls_em_1]; omega)
  unfold ls_r4 ls_flt at hr
  dsimp only at hr
  split at hr
  · split at hr
    · split at hr
      · injection hr with hr; subst hr; exact E 3 _ _ _ _ (by omega)
      · injection hr with hr; subst hr
        exact ls_psi_mk (by simp [ls_dpe_c]; omega) (Nat.le_refl _)
    · split at hr
      · split at hr
        · next t21 =>
          injection hr with hr; subst hr
          exact ls_psi_mk (by simp [ls_dpe_c, t21]; omega) (Nat.le_refl _)
        · next t21 =>
          injection hr with hr; subst hr
          exact ls_psi_mk (by simp [ls_dpe_c, t21, ls_em_1]; omega) (by simp only [ls_em_1]; omega)
      · injection hr with hr; subst hr; exact E 1 _ _ _ _ (by omega)
  split at hr
  · injection hr with hr; subst hr; exact E 1 _ _ _ _ (by omega)
  split at hr
  · injection hr with hr; subst hr; exact E 1 _ _ _ _ (by omega)
  split at hr
  · injection hr with hr; subst hr; exact E 1 _ _ _ _ (by omega)
  split at hr
  · injection hr with hr; subst hr; exact E 1 _ _ _ _ (by omega)
  split at hr
  · repeat' split at hr
    all_goals first | cases hr; done | (injection hr with hr; subst hr; exact ls_psi_mk (by simp [ls_dpe_c]; omega) (Nat.le_refl _))
  split at hr
  · injection hr with hr; subst hr; exact ls_psi_mk (by simp [ls_dpe_c]; omega) (Nat.le_refl _)
  · cases hr
set_option maxHeartbeats 200000 in
theorem ls_psie (hr : ls_end T pos es fr L k = .ok c') : ls_psi T (5, pos, es, [], fr, L, k) c' := by
  unfold ls_end at hr
  split at hr
  · cases hr
  cases fr with
  | nil => cases hr
  | cons f r =>
    obtain ⟨fk, mo, sp, l⟩ := f
    dsimp only at hr
    split at hr
    · next f7 =>
      subst f7
      split at hr
      · injection hr with hr; subst hr
        exact ls_psi_mk (by simp [ls_dfr_c, ls_em_1]; omega) (by simp only [ls_em_1]; omega)
      · cases hr
    split at hr
    · next f8 =>
      subst f8
      split at hr
      · injection hr with hr; subst hr
        exact ls_psi_mk (by simp [ls_dfr_c, ls_em_1]; omega) (by simp only [ls_em_1]; omega)
      · cases hr
    have D : ls_dfr r ≤ ls_dfr ((fk, mo, sp, l) :: r) := by rw [ls_dfr_c]; omega
    repeat' split at hr
    all_goals first
      | cases hr; done
      | (injection hr with hr; subst hr; exact ls_psi_mk (by simp [ls_em_1]; omega) (by simp only [ls_em_1]; omega))
set_option maxHeartbeats 200000 in
theorem ls_psi5 (l2 : ∀ x, x ∈ pe → x.1 < 14) (hr : ls_r5 T pos es pe fr L k = .ok c') : ls_psi T (5, pos, es, pe, fr, L, k) c' := by
  unfold ls_r5 ls_flt at hr
  dsimp only at hr
  have B : ∀ r, 2 < ls_lv (T pos) → ls_psi T (5, pos, es, r, fr, L, k) (4, pos + 1, es, (ls_lv (T pos), pos, k.1) :: r, fr, L, if T pos = 41 ∨ T pos = 42 then ls_em k 7 0 (nI (T pos - 41)) (nI pos) else k) := by
    intro r h2
    refine ls_psi_mk ?_ ?_
    · rw [ls_dpe_c (a := ls_lv (T pos)), if_neg (show ¬ ls_lv (T pos) = 2 by omega), if_neg (show ¬ ls_lv (T pos) = 1 by omega), if_neg (show ¬ (5 : Nat) = 4 by decide), if_pos (rfl : (4 : Nat) = 4)]
      split
      · rw [ls_em_1]; omega
      · omega
    · split
      · rw [ls_em_1]; omega
      · exact Nat.le_refl _
  cases pe with
  | nil =>
    dsimp only at hr
    split at hr
    · next g => injection hr with hr; subst hr; exact B _ g
    · exact ls_psie hr
  | cons x r =>
    obtain ⟨x1, x2, x3⟩ := x
    dsimp only at hr
    split at hr
    · next g =>
      injection hr with hr; subst hr
      have := ls_lv_c (T pos)
      refine ls_psi_mk ?_ ?_
      · rw [ls_red_cs, ls_dpe_c, if_neg (show ¬ (5 : Nat) = 4 by decide)]
        by_cases x2' : x1 = 2
        · rw [if_pos x2', if_pos x2']; omega
        · rw [if_neg x2', if_neg x2', if_neg (show ¬ x1 = 1 by omega)]; omega
      · rw [ls_red_cs]; omega
    · split at hr
      · next g => injection hr with hr; subst hr; exact B _ g
      · split at hr
        · split at hr
          · next x0 =>
            injection hr with hr; subst hr; subst x0
            exact ls_psi_mk (by simp [ls_dpe_c, ls_em_1]; omega) (by simp only [ls_em_1]; omega)
          · injection hr with hr; subst hr
            refine ls_psi_mk ?_ (Nat.le_refl _)
            rw [ls_dpe_c, if_neg (show ¬ (5 : Nat) = 4 by decide)]
            omega
        · split at hr
          · next g =>
            obtain ⟨_, x0⟩ := g
            subst x0
            split at hr
            · injection hr with hr; subst hr
              exact ls_psi_mk (by simp [ls_dpe_c]; omega) (Nat.le_refl _)
            · cases hr
          · cases hr
set_option maxHeartbeats 200000 in
theorem ls_psi_rs (hT : ls_txt T n) (hI : ls_Inv T n c) (h6 : c.1 < 6) (hr : ls_rs T V c = .ok c') : ls_psi T c c' := by
  obtain ⟨st, pos, es, pe, fr, L, k⟩ := c
  dsimp only at h6
  unfold ls_rs at hr
  dsimp only at hr
  obtain ⟨_, _, _, _, _, h6', _⟩ := hI
  rcases (show st = 0 ∨ st = 1 ∨ st = 2 ∨ st = 3 ∨ st = 4 ∨ st = 5 by omega) with rfl | rfl | rfl | rfl | rfl | rfl
  · exact ls_psi0 hr
  · exact ls_psi1 hr
  · exact ls_psi2 hT hr
  · exact ls_psi3 hr
  · exact ls_psi4 hr
  · exact ls_psi5 (fun x hx => (h6' x hx).1) hr
end
section
variable {T : Nat → Nat} {V : Nat → Int32} {n : Nat} {C : Nat → LsC} {N : Nat} {kF : LsK} {t t' : Nat}
set_option maxHeartbeats 200000 in
/-- from one statement's place to another's: at most two instructions a token -/
theorem ls_psi_to (h : ls_tl T V n C N kF) : ∀ m t, t + m ≤ N → ls_psi T (C t) (C (t + m)) := by
  intro m
  induction m with
  | zero => intro t _; exact ⟨Nat.le_refl _, Nat.le_refl _⟩
  | succ m ih =>
    intro t ht
    have a := ih t (by omega)
    have s := h.2.1 (t + m) (by omega)
    have b := ls_psi_rs h.1 (h.2.2.2.2 (t + m) (by omega)).2.1 s.1 s.2
    rw [← Nat.add_assoc]
    generalize C t = c1 at *
    generalize C (t + m) = c2 at *
    generalize C (t + m + 1) = c3 at *
    obtain ⟨st, pos, es, pe, fr, L, k⟩ := c1
    obtain ⟨st2, pos2, es2, pe2, fr2, L2, k2⟩ := c2
    obtain ⟨st3, pos3, es3, pe3, fr3, L3, k3⟩ := c3
    obtain ⟨a1, a2⟩ := a
    obtain ⟨b1, b2⟩ := b
    exact ⟨by omega, by omega⟩
end
