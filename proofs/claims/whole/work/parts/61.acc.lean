/-! Code and tokens where both stand -/
/-- pending operators stand within their expression -/
def ls_pg (c : LsC) : Prop := match c with
  | (_, _, es, pe, _, _, _) => ∀ x ∈ pe, es ≤ x.2.1 ∧ (x.1 = 2 → es + 1 ≤ x.2.1)
section
variable {T : Nat → Nat} {V : Nat → Int32} {n : Nat} {pos es : Nat} {pe : List LsP} {fr : List LsF} {L : List Nat} {k : LsK} {c c' : LsC}
set_option maxHeartbeats 200000 in
theorem ls_pg_c {st pos' : Nat} {L' : List Nat} {fr' : List LsF} {k' : LsK} {x : LsP} (h : ∀ x ∈ pe, es ≤ x.2.1 ∧ (x.1 = 2 → es + 1 ≤ x.2.1)) (h1 : es ≤ x.2.1) (h2 : x.1 = 2 → es + 1 ≤ x.2.1) : ls_pg (st, pos', es, x :: pe, fr', L', k') := by
  intro y hy
  rcases List.mem_cons.mp hy with rfl | hy
  · exact ⟨h1, h2⟩
  · exact h y hy
set_option maxHeartbeats 200000 in
theorem ls_pg4 (hes : es ≤ pos) (h : ∀ x ∈ pe, es ≤ x.2.1 ∧ (x.1 = 2 → es + 1 ≤ x.2.1)) (hr : ls_r4 T V pos es pe fr L k = .ok c') : ls_pg c' := by
  unfold ls_r4 ls_flt at hr
  dsimp only at hr
  split at hr
  · split at hr
    · split at hr
      · injection hr with hr; subst hr; exact h
      · injection hr with hr; subst hr; exact ls_pg_c h hes (fun q => by have q' : (0 : Nat) = 2 := q; omega)
    · split at hr
      · split at hr
        · injection hr with hr; subst hr; exact ls_pg_c h (by show es ≤ pos + 1; omega) (fun _ => by show es + 1 ≤ pos + 1; omega)
        · injection hr with hr; subst hr; exact ls_pg_c h (by show es ≤ pos + 1; omega) (fun _ => by show es + 1 ≤ pos + 1; omega)
      · injection hr with hr; subst hr; exact h
  split at hr
  · injection hr with hr; subst hr; exact h
  split at hr
  · injection hr with hr; subst hr; exact h
  split at hr
  · injection hr with hr; subst hr; exact h
  split at hr
  · injection hr with hr; subst hr; exact h
  split at hr
  · split at hr
    · split at hr
      · injection hr with hr; subst hr; exact ls_pg_c h hes (fun q => by have q' : (13 : Nat) = 2 := q; omega)
      · cases hr
    · split at hr
      · cases hr
      · injection hr with hr; subst hr; exact ls_pg_c h hes (fun q => by have q' : (1 : Nat) = 2 := q; omega)
  split at hr
  · injection hr with hr; subst hr; exact ls_pg_c h hes (fun q => by have q' : (13 : Nat) = 2 := q; omega)
  · cases hr
set_option maxHeartbeats 200000 in
theorem ls_pg5 (hes : es ≤ pos) (h : ∀ x ∈ pe, es ≤ x.2.1 ∧ (x.1 = 2 → es + 1 ≤ x.2.1)) (hr : ls_r5 T pos es pe fr L k = .ok c') : c'.1 = 4 ∨ c'.1 = 5 → ls_pg c' := by
  intro h45
  unfold ls_r5 ls_flt at hr
  dsimp only at hr
  cases pe with
  | nil =>
    dsimp only at hr
    split at hr
    · next g => injection hr with hr; subst hr; exact ls_pg_c h hes (fun q => by have q' : ls_lv (T pos) = 2 := q; omega)
    · have := (ls_cne (pe := []) hr).2; omega
  | cons x r =>
    obtain ⟨x1, x2, x3⟩ := x
    have hr' : ∀ y ∈ r, es ≤ y.2.1 ∧ (y.1 = 2 → es + 1 ≤ y.2.1) := fun y hy => h y (List.mem_cons_of_mem _ hy)
    have hx := h (x1, x2, x3) (List.mem_cons_self ..)
    dsimp only at hr
    split at hr
    · injection hr with hr; subst hr; exact hr'
    · split at hr
      · next g => injection hr with hr; subst hr; exact ls_pg_c h hes (fun q => by have q' : ls_lv (T pos) = 2 := q; omega)
      · split at hr
        · split at hr
          · injection hr with hr; subst hr; exact hr'
          · injection hr with hr; subst hr; exact hr'
        · split at hr
          · split at hr
            · injection hr with hr; subst hr; exact ls_pg_c hr' hx.1 hx.2
            · cases hr
          · cases hr
set_option maxHeartbeats 200000 in
theorem ls_T72 (h6 : c.1 < 6) (hr : ls_rs T V c = .ok c') (h : c'.1 = 6) : T c'.2.1 = 72 := by
  obtain ⟨st, pos, es, pe, fr, L, k⟩ := c
  dsimp only at h6
  unfold ls_rs at hr
  dsimp only at hr
  have NO : ∀ {st p e' q f l k'}, st ≠ 6 → c' = (st, p, e', q, f, l, k') → T c'.2.1 = 72 := by
    intro st p e' q f l k' hs e
    subst e
    exact absurd h hs
  rcases (show st = 0 ∨ st = 1 ∨ st = 2 ∨ st = 3 ∨ st = 4 ∨ st = 5 by omega) with rfl | rfl | rfl | rfl | rfl | rfl
  · have hr' : ls_r0 T pos es pe fr L k = .ok c' := hr
    unfold ls_r0 at hr'
    split at hr'
    · next g => injection hr' with hr'; subst hr'; exact g.1
    · repeat' split at hr'
      all_goals (injection hr' with hr'; exact NO (by decide) hr'.symm)
  · have hr' : ls_r1 T pos es pe fr L k = .ok c' := hr
    unfold ls_r1 ls_hdr at hr'
    dsimp only at hr'
    repeat' split at hr'
    all_goals first | cases hr'; done | (injection hr' with hr'; exact NO (by decide) hr'.symm)
  · have hr' : ls_r2 T pos es pe fr L k = .ok c' := hr
    unfold ls_r2 ls_var at hr'
    dsimp only at hr'
    repeat' split at hr'
    all_goals first | cases hr'; done | (injection hr' with hr'; exact NO (by decide) hr'.symm)
  · have hr' : ls_r3 T pos es pe fr L k = .ok c' := hr
    unfold ls_r3 at hr'
    repeat' split at hr'
    all_goals (injection hr' with hr'; exact NO (by decide) hr'.symm)
  · have := (ls_r4_st hr).1.1; omega
  · rcases ls_r5_st hr with g | ⟨_, g⟩
    · have := g.1.1; omega
    · have := (ls_cne (pe := pe) g).2; omega
end
section
variable {T : Nat → Nat} {V : Nat → Int32} {C : Nat → LsC} {kF : LsK} {n N d e ta tz : Nat} {yn : Nat} {co ca ck cp tk : Nat → Int32} {tv : Nat → Int64} {tp : Nat → Int32}
variable {t t' st pos es p : Nat} {pe : List LsP} {fr r : List LsF} {L : List Nat} {k : LsK} {as : List LsA}
set_option maxHeartbeats 200000 in
theorem ls_pgt (h : ls_tl T V n C N kF) (hta : (C ta).1 < 4) : ∀ t, ta ≤ t → t ≤ N → (C t).1 = 4 ∨ (C t).1 = 5 → ls_pg (C t) := by
  intro t
  induction t with
  | zero => intro h1 _ h3; have : ta = 0 := by omega
            subst this; omega
  | succ t ih =>
    intro h1 h2 h3
    rcases Nat.eq_or_lt_of_le h1 with q | q
    · subst q; omega
    · have s := h.2.1 t (by omega)
      have hI := (h.2.2.2.2 t (by omega)).2.1
      have hI' := hI
      rcases ls_org_rs hI s.1 s.2 h3 with ⟨g1, _⟩ | ⟨_, g2⟩
      · have P := ih (by omega) (by omega) g1
        have key : ∀ c : LsC, ls_Inv T n c → (c.1 = 4 ∨ c.1 = 5) → ls_pg c → ls_rs T V c = .ok (C (t + 1)) → ls_pg (C (t + 1)) := by
          intro c hI' g1 P hs
          obtain ⟨st, pos, es, pe, fr, L, k⟩ := c
          have g1 : st = 4 ∨ st = 5 := g1
          obtain ⟨_, _, _, _, _, _, i7⟩ := hI'
          rw [if_pos g1] at i7
          rcases g1 with rfl | rfl
          · exact ls_pg4 i7.2.1 P hs
          · exact ls_pg5 i7.2.1 P hs h3
        exact key (C t) hI' g1 P s.2
      · obtain ⟨fk, mo, sp, r, p, L', k', b1, _⟩ := g2
        rw [b1]
        intro x hx
        cases hx
set_option maxHeartbeats 200000 in
theorem ls_kmono (h : ls_tl T V n C N kF) (h1 : t ≤ t') (h2 : t' ≤ N) : (ls_kk7 (C t)).1 ≤ (ls_kk7 (C t')).1 := by
  have := ls_psi_to h (t' - t) t (by omega)
  rw [show t + (t' - t) = t' by omega] at this
  generalize C t = c1 at *
  generalize C t' = c2 at *
  obtain ⟨st, pos, es, pe, fr, L, k⟩ := c1
  obtain ⟨st2, pos2, es2, pe2, fr2, L2, k2⟩ := c2
  exact this.2
set_option maxHeartbeats 200000 in
/-- an instruction from the present one on -/
theorem ls_cod (h : ls_UA co ca ck cp tk tv tp (T, V, C, kF, n, N, d, e, ta, tz)) (h3 : ta ≤ t ∧ t ≤ tz) (ec : C t = (st, pos, es, pe, fr, L, k)) {i : Nat} (h1 : k.1 ≤ i) {st' pos' es' : Nat} {pe' : List LsP} {fr' : List LsF} {L' : List Nat} {k' : LsK} (ht' : t ≤ t' ∧ t' ≤ tz) (ec' : C t' = (st', pos', es', pe', fr', L', k')) (h2 : i ≤ k'.1) : d ≤ i ∧ i - d < 761 ∧ co (i - d) = kF.2.1 i ∧ ca (i - d) = kF.2.2.1 i ∧ ck (i - d) = kF.2.2.2.1 i ∧ cp (i - d) = kF.2.2.2.2 i := by
  obtain ⟨g1, _, g3, g4, _⟩ := h
  have a := ls_kmono g1 h3.1 (by omega)
  have b := ls_kmono g1 ht'.2 g3.2
  rw [ec] at a
  rw [ec'] at b
  refine g4 i ?_ ?_
  · exact Nat.le_trans a h1
  · exact Nat.le_trans h2 b
set_option maxHeartbeats 200000 in
theorem ls_d_le (h : ls_UA co ca ck cp tk tv tp (T, V, C, kF, n, N, d, e, ta, tz)) (h3 : ta ≤ t ∧ t ≤ tz) (ec : C t = (st, pos, es, pe, fr, L, k)) : d ≤ k.1 ∧ k.1 - d < 761 := by
  have := ls_cod h h3 ec (Nat.le_refl _) (t' := t) ⟨Nat.le_refl _, h3.2⟩ ec (Nat.le_refl _)
  exact ⟨this.1, this.2.1⟩
set_option maxHeartbeats 200000 in
/-- a token of the unit -/
theorem ls_tok1 (h : ls_UA co ca ck cp tk tv tp (T, V, C, kF, n, N, d, e, ta, tz)) (h1 : (C ta).2.1 ≤ p) (h2 : p < (C tz).2.1) : tk (p + e) = nI (T p) ∧ T p < 100 ∧ p + e < 384 ∧ ls_pl tp (p + e) = nI p ∧ (70 ≤ T p → tv (p + e) = (V p).toInt64) := by
  obtain ⟨g1, _, g3, _, ⟨g5, g6⟩, g7⟩ := h
  obtain ⟨a1, a2⟩ := g6 p h1 h2
  obtain ⟨a3, a4⟩ := g7 p h1 h2
  exact ⟨a1, a2, by omega, a4, a3⟩
set_option maxHeartbeats 200000 in
theorem ls_mb_n1 : ∀ {f : LsF} {S : List LsF} {g : LsF}, g.1 = 2 → ls_mb (f :: S ++ [g]) → 1 ≤ ls_n1 (f :: S ++ [g])
  | f, [], g, hg, h => by
    have f1 : f.1 = 1 := h.1 hg
    show 1 ≤ (if f.1 = 1 then 1 else 0) + _
    rw [if_pos f1]; omega
  | f, f' :: S, g, hg, h => by
    have := ls_mb_n1 (f := f') (S := S) hg h.2
    show 1 ≤ (if f.1 = 1 then 1 else 0) + ls_n1 (f' :: S ++ [g])
    omega
set_option maxHeartbeats 200000 in
/-- there is a token where both stand -/
theorem ls_hi (h : ls_UA co ca ck cp tk tv tp (T, V, C, kF, n, N, d, e, ta, tz)) (hK : ls_UK (T, V, C, kF, n, N, d, e, ta, tz) as yn (ls_mkd fr)) (h3 : ta ≤ t ∧ t < tz) (ec : C t = (st, pos, es, pe, fr, L, k)) (h72 : T pos ≠ 72 ∨ as ≠ []) : pos < (C tz).2.1 ∧ (C ta).2.1 ≤ pos := by
  obtain ⟨g1, _, g3, _⟩ := h
  have lo := ls_pos_le g1 h3.1 (show t ≤ N by omega)
  rw [ec] at lo
  refine ⟨?_, lo⟩
  by_cases g : as = []
  · obtain ⟨⟨_, _, _, q4, _⟩, _⟩ := hK.1 g
    have hn : pos < n := ls_txt_lt g1.1 (h72.resolve_right (fun q => q g))
    -- at the end of the text
    have lt : tz - 1 < N := by omega
    have s := g1.2.1 (tz - 1) lt
    rw [show tz - 1 + 1 = tz by omega] at s
    have e6 := g1.2.2.1.1
    rw [← q4] at e6
    have := ls_T72 s.1 s.2 e6
    apply Decidable.byContradiction
    intro q
    have := g1.1.2.1 (C tz).2.1 (by omega)
    omega
  · obtain ⟨q, mo, pb, es', L', k', _, _, _, _, k5, k6⟩ := hK.2 g
    obtain ⟨f, S, hS⟩ := k6 t h3.1 h3.2
    rw [ec] at hS
    dsimp only at hS
    obtain ⟨_, _, _, _, y, ha⟩ := g1.2.2.2.2 t (by omega)
    rw [ec] at ha
    have mb := ha.1
    rw [hS] at mb
    have n1 := ls_mb_n1 (g := (2, mo, pb, [q])) rfl mb
    have M : ∀ m t, t + m ≤ N → ls_n1 (C t).2.2.2.2.1 + (C t).2.1 ≤ ls_n1 (C (t + m)).2.2.2.2.1 + (C (t + m)).2.1 := by
      intro m
      induction m with
      | zero => intro t _; exact Nat.le_refl _
      | succ m ih => intro t ht; exact Nat.le_trans (ih t (by omega)) (ls_tlc g1 (show t + m < N by omega)).2.1
    have := M (tz - t) t (by omega)
    rw [show t + (tz - t) = tz by omega, ec, hS] at this
    have e0 : ls_n1 (C tz).2.2.2.2.1 = 0 := by rw [k5]; rfl
    rw [e0] at this
    dsimp only at this
    omega
set_option maxHeartbeats 200000 in
/-- the token where both stand -/
theorem ls_tokp (h : ls_UA co ca ck cp tk tv tp (T, V, C, kF, n, N, d, e, ta, tz)) (hK : ls_UK (T, V, C, kF, n, N, d, e, ta, tz) as yn (ls_mkd fr)) (h3 : ta ≤ t ∧ t < tz) (ec : C t = (st, pos, es, pe, fr, L, k)) (h72 : T pos ≠ 72 ∨ as ≠ []) : tk (pos + e) = nI (T pos) ∧ T pos < 100 ∧ pos + e < 384 ∧ ls_pl tp (pos + e) = nI pos ∧ (70 ≤ T pos → tv (pos + e) = (V pos).toInt64) := by
  obtain ⟨a, b⟩ := ls_hi h hK h3 ec h72
  exact ls_tok1 h b a
set_option maxHeartbeats 200000 in
/-- tokens that a step takes up -/
theorem ls_tokn (h : ls_UA co ca ck cp tk tv tp (T, V, C, kF, n, N, d, e, ta, tz)) (h3 : ta ≤ t ∧ t < tz) (ec : C t = (st, pos, es, pe, fr, L, k)) (h1 : pos ≤ p) {st' pos' es' : Nat} {pe' : List LsP} {fr' : List LsF} {L' : List Nat} {k' : LsK} (ht' : t' ≤ tz) (ec' : C t' = (st', pos', es', pe', fr', L', k')) (h2 : p < pos') : tk (p + e) = nI (T p) ∧ T p < 100 ∧ p + e < 384 ∧ ls_pl tp (p + e) = nI p ∧ (70 ≤ T p → tv (p + e) = (V p).toInt64) := by
  have U := h
  obtain ⟨g1, _, g3, _⟩ := h
  have lo := ls_pos_le g1 h3.1 (show t ≤ N by omega)
  have hi := ls_pos_le g1 ht' g3.2
  rw [ec] at lo
  rw [ec'] at hi
  exact ls_tok1 U (Nat.le_trans lo h1) (Nat.lt_of_lt_of_le h2 hi)
set_option maxHeartbeats 200000 in
/-- tokens of the expression so far -/
theorem ls_toke (h : ls_UA co ca ck cp tk tv tp (T, V, C, kF, n, N, d, e, ta, tz)) (h3 : ta ≤ t ∧ t ≤ tz) (ec : C t = (st, pos, es, pe, fr, L, k)) (hs : st = 4 ∨ st = 5) {f : LsF} {r : List LsF} (ef : fr = f :: r) (h1 : f.2.2.1 ≤ p) (h2 : p < pos) : tk (p + e) = nI (T p) ∧ T p < 100 ∧ p + e < 384 ∧ ls_pl tp (p + e) = nI p ∧ (70 ≤ T p → tv (p + e) = (V p).toInt64) := by
  have U := h
  obtain ⟨g1, g2, g3, _⟩ := h
  obtain ⟨s, k0, o1, o2, o3, o4, o5, o6⟩ := ls_org g1 (ta := ta) (by rw [g2.2]; decide) t h3.1 (by omega) (by rw [ec]; exact hs)
  obtain ⟨fk, mo', sp', r', p', L', k'', b1, b2, b3, b4, b5, b6⟩ := o5
  have lo := ls_pos_le g1 o1 (show s ≤ N by omega)
  rw [b3] at lo
  have hi := ls_pos_le g1 h3.2 g3.2
  rw [ec] at hi o3
  rw [o3] at b1
  dsimp only at b1
  injection b1 with _ b1
  injection b1 with _ b1
  injection b1 with _ b1
  injection b1 with _ b1
  injection b1 with b1 _
  rw [ef] at b1
  injection b1 with b1 _
  rw [b1] at h1
  exact ls_tok1 U (Nat.le_trans lo h1) (Nat.lt_of_lt_of_le h2 hi)
end
