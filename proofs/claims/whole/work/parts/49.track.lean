/-! A jump that waits for the end of its loop -/
def ls_gd (i : Nat) (f : LsF) : Prop := (f.1 = 5 ∨ f.1 = 8 → i < f.2.1) ∧ (f.1 = 2 ∨ f.1 = 3 ∨ f.1 = 4 → f.2.1 ≠ i)
def ls_trk (i : Nat) (F : List LsF) (c : LsC) : Prop := match c with
  | (_, _, _, _, fr, _, k) => (i < k.1 ∧ (k.2.1 i = 14 ∨ k.2.1 i = 15) ∧ k.2.2.1 i = 0) ∧ ∃ X, fr = X ++ F ∧ ∀ f ∈ X, ls_gd i f
section
variable {T : Nat → Nat} {V : Nat → Int32} {n : Nat} {pos es st : Nat} {pe : List LsP} {fr F X : List LsF} {L : List Nat} {k : LsK} {c c' : LsC} {i : Nat}
set_option maxHeartbeats 200000 in
theorem ls_trk_mk {st' pos' es' : Nat} {pe' : List LsP} {fr' : List LsF} {L' : List Nat} {k' : LsK} (X' : List LsF) (h : i < k.1 ∧ (k.2.1 i = 14 ∨ k.2.1 i = 15) ∧ k.2.2.1 i = 0) (hm : ls_mv k k' i) (e : fr' = X' ++ F) (hX : ∀ f ∈ X', ls_gd i f) : ls_trk i F (st', pos', es', pe', fr', L', k') :=
  ⟨⟨by have := hm.1; omega, by rw [hm.2.1]; exact h.2.1, by rw [hm.2.2]; exact h.2.2⟩, X', e, hX⟩
set_option maxHeartbeats 200000 in
theorem ls_gd_n {a b d : Nat} {l : List Nat} (h : a = 1 ∨ a = 6 ∨ a = 7 ∨ 9 ≤ a) : ls_gd i (a, b, d, l) := ⟨fun q => by dsimp only at q; omega, fun q => by dsimp only at q; omega⟩
set_option maxHeartbeats 200000 in
theorem ls_gd_w {a b d : Nat} {l : List Nat} (h : i < b) : ls_gd i (a, b, d, l) := ⟨fun q => h, fun q => by show b ≠ i; omega⟩
set_option maxHeartbeats 200000 in
theorem ls_gd_c {f : LsF} (h : ls_gd i f) (g : ∀ f ∈ X, ls_gd i f) : ∀ x ∈ f :: X, ls_gd i x := fun x hx => by
  rcases List.mem_cons.mp hx with rfl | hx
  · exact h
  · exact g x hx
set_option maxHeartbeats 200000 in
theorem ls_mv_ex2 {j : Nat} (h : i < j) : ls_mv k (ls_exits k j) i := by
  refine ⟨Nat.le_refl _, rfl, ?_⟩
  show (if j ≤ i ∧ _ then _ else _) = _
  rw [if_neg]
  intro hh
  have := hh.1
  omega
set_option maxHeartbeats 2000000 in
theorem ls_trk_rs (hI : ls_Inv T n c) (hJ : ls_J c) (h6 : c.1 < 6) {f5 : LsF} {r : List LsF} (hF : F = f5 :: r) (h5 : f5.1 = 5) (hs : ls_trk i F c) (hr : ls_rs T V c = .ok c') (hl : F.length ≤ c'.2.2.2.2.1.length) : ls_trk i F c' := by
  obtain ⟨st, pos, es, pe, fr, L, k⟩ := c
  obtain ⟨hk, X, rfl, hX⟩ := hs
  obtain ⟨jp, jf⟩ := hJ
  obtain ⟨i1, i2, i3, i4, i5, i6, i7⟩ := hI
  dsimp only at h6
  have ne : X ++ F ≠ [] := by rw [hF]; cases X <;> simp
  have em : ∀ o a d q, ls_mv k (ls_em k o a d q) i := fun o a d q => ls_mv_em hk.1
  have em2 : ∀ o a d q o2 a2 d2 q2, ls_mv k (ls_em (ls_em k o a d q) o2 a2 d2 q2) i := fun o a d q o2 a2 d2 q2 => ls_mv_em2 hk.1
  unfold ls_rs at hr
  dsimp only at hr
  split at hr
  · -- start
    unfold ls_r0 at hr
    rw [if_neg (fun q => ne q.2)] at hr
    split at hr
    · next q => exact absurd q ne
    · next fk mo sp l r' q =>
      split at hr
      · split at hr
        · injection hr with hr; subst hr
          cases X with
          | nil => rw [hF] at q; injection q with q1 q2; rw [q1] at h5; dsimp only at h5; omega
          | cons f X =>
            injection q with q1 q2
            exact ls_trk_mk X hk ls_mv_r q2.symm (fun x hx => hX x (List.mem_cons_of_mem _ hx))
        split at hr
        · injection hr with hr; subst hr; exact ls_trk_mk X hk ls_mv_r q.symm hX
        · injection hr with hr; subst hr; exact ls_trk_mk X hk ls_mv_r q.symm hX
      · injection hr with hr; subst hr; exact ls_trk_mk X hk ls_mv_r q.symm hX
  split at hr
  · -- a statement
    unfold ls_r1 ls_hdr at hr
    dsimp only at hr
    split at hr
    · injection hr with hr; subst hr; exact ls_trk_mk X hk (em ..) rfl hX
    split at hr
    · injection hr with hr; subst hr; exact ls_trk_mk ((1, L.length, pos, L) :: X) hk (em ..) rfl (ls_gd_c (ls_gd_n (by omega)) hX)
    split at hr
    · split at hr
      · injection hr with hr; subst hr; exact ls_trk_mk ((7, k.1, pos, []) :: X) hk (em ..) rfl (ls_gd_c (ls_gd_n (by omega)) hX)
      · cases hr
    split at hr
    · split at hr
      · injection hr with hr; subst hr; exact ls_trk_mk ((8, k.1, pos, []) :: X) hk (em ..) rfl (ls_gd_c (ls_gd_w hk.1) hX)
      · cases hr
    split at hr
    · split at hr
      · injection hr with hr; subst hr; exact ls_trk_mk ((9, k.1, pos, []) :: X) hk (em ..) rfl (ls_gd_c (ls_gd_n (by omega)) hX)
      · cases hr
    split at hr
    · split at hr
      · cases hr
      · split at hr
        · injection hr with hr; subst hr; exact ls_trk_mk X hk (em2 ..) rfl hX
        · cases hr
    split at hr
    · split at hr
      · cases hr
      · split at hr
        · injection hr with hr; subst hr; exact ls_trk_mk X hk (em2 ..) rfl hX
        · cases hr
    split at hr
    · split at hr
      · cases hr
      · split at hr
        · injection hr with hr; subst hr; exact ls_trk_mk X hk (em2 ..) rfl hX
        · injection hr with hr; subst hr; exact ls_trk_mk ((10, k.1, pos, []) :: X) hk (em ..) rfl (ls_gd_c (ls_gd_n (by omega)) hX)
    · injection hr with hr; subst hr; exact ls_trk_mk ((6, k.1, pos, []) :: X) hk (em ..) rfl (ls_gd_c (ls_gd_n (by omega)) hX)
  split at hr
  · -- a declaration
    unfold ls_r2 at hr
    split at hr
    · rw [if_neg (fun q => ne q.1)] at hr
      unfold ls_var at hr
      split at hr
      · next q => exact absurd q ne
      · next fk mo sp l r' q =>
        dsimp only at hr
        split at hr
        · split at hr
          · injection hr with hr; subst hr
            exact ls_trk_mk ((11, k.1, pos, []) :: X) hk (em ..) (by rw [← q]; rfl) (ls_gd_c (ls_gd_n (by omega)) hX)
          split at hr
          · injection hr with hr; subst hr; exact ls_trk_mk X hk (em ..) q.symm hX
          · cases hr
        · cases hr
    · cases hr
  split at hr
  · -- a finish
    unfold ls_r3 at hr
    split at hr
    · next q => exact absurd q ne
    · next fk mo sp l r' q =>
      cases X with
      | nil =>
        rw [List.nil_append, hF] at q
        injection q with q1 q2
        rw [q1] at h5
        dsimp only at h5
        subst h5
        rw [if_neg (by decide), if_neg (by decide), if_pos rfl] at hr
        injection hr with hr; subst hr
        rw [hF, q2] at hl
        dsimp only [List.length_cons] at hl
        omega
      | cons f X =>
        injection q with q1 q2
        subst q1
        have gf := hX _ (List.mem_cons_self ..)
        have gX : ∀ f ∈ X, ls_gd i f := fun x hx => hX x (List.mem_cons_of_mem _ hx)
        split at hr
        · next f3 =>
          have nm : i ≠ mo := fun q => gf.2 (by dsimp only; omega) q.symm
          split at hr
          · injection hr with hr; subst hr
            exact ls_trk_mk ((4, k.1, sp, []) :: X) hk (ls_mv_t (em ..) (ls_mv_aim nm)) (by rw [← q2]; rfl) (ls_gd_c (ls_gd_w hk.1) gX)
          · injection hr with hr; subst hr
            exact ls_trk_mk X hk (ls_mv_aim nm) q2.symm gX
        split at hr
        · next f4 =>
          have nm : i ≠ mo := fun q => gf.2 (by dsimp only; omega) q.symm
          injection hr with hr; subst hr
          exact ls_trk_mk X hk (ls_mv_aim nm) q2.symm gX
        split at hr
        · next f5' =>
          have lt : i < mo := gf.1 (Or.inl f5')
          injection hr with hr; subst hr
          exact ls_trk_mk X hk (ls_mv_t (em ..) (ls_mv_ex2 lt)) q2.symm gX
        split at hr
        · next f2 =>
          have nm : i ≠ mo := fun q => gf.2 (by dsimp only; omega) q.symm
          injection hr with hr; subst hr
          exact ls_trk_mk X hk (ls_mv_t (em ..) (ls_mv_aim nm)) q2.symm gX
        · injection hr with hr; subst hr
          exact ls_trk_mk ((fk, mo, sp, l) :: X) hk ls_mv_r (by rw [← q2]; rfl) hX
  split at hr
  · -- an operand
    unfold ls_r4 ls_flt at hr
    dsimp only at hr
    split at hr
    · repeat' split at hr
      all_goals (injection hr with hr; subst hr; first | exact ls_trk_mk X hk (em ..) rfl hX | exact ls_trk_mk X hk ls_mv_r rfl hX)
    split at hr
    · injection hr with hr; subst hr; exact ls_trk_mk X hk (em ..) rfl hX
    split at hr
    · injection hr with hr; subst hr; exact ls_trk_mk X hk (em ..) rfl hX
    split at hr
    · injection hr with hr; subst hr; exact ls_trk_mk X hk (em ..) rfl hX
    split at hr
    · injection hr with hr; subst hr; exact ls_trk_mk X hk (em ..) rfl hX
    split at hr
    · repeat' split at hr
      all_goals first | cases hr; done | (injection hr with hr; subst hr; exact ls_trk_mk X hk ls_mv_r rfl hX)
    split at hr
    · injection hr with hr; subst hr; exact ls_trk_mk X hk ls_mv_r rfl hX
    · cases hr
  · -- an operator
    have q5 : st = 5 := by omega
    subst q5
    rw [if_pos (Or.inr rfl)] at i7
    obtain ⟨_, _, _, _, f, r', e, x1, _⟩ := i7
    have BIN : ls_mv k (if T pos = 41 ∨ T pos = 42 then ls_em k 7 0 (nI (T pos - 41)) (nI pos) else k) i := by
      split
      · exact em ..
      · exact ls_mv_r
    unfold ls_r5 ls_flt at hr
    dsimp only at hr
    split at hr
    · split at hr
      · injection hr with hr; subst hr; exact ls_trk_mk X hk BIN rfl hX
      · cases X with
        | nil =>
          rw [List.nil_append, hF] at e
          injection e with e1 e2
          rw [e1] at h5
          have := x1.1
          omega
        | cons g X =>
          injection e with e1 e2
          subst e1
          obtain ⟨fk, mo, sp, l⟩ := g
          have gf := hX _ (List.mem_cons_self ..)
          have gX : ∀ f ∈ X, ls_gd i f := fun x hx => hX x (List.mem_cons_of_mem _ hx)
          unfold ls_end at hr
          dsimp only [List.cons_append] at hr
          split at hr
          · cases hr
          split at hr
          · split at hr
            · injection hr with hr; subst hr
              exact ls_trk_mk ((3, k.1, sp, []) :: X) hk (em ..) rfl (ls_gd_c (ls_gd_w hk.1) gX)
            · cases hr
          split at hr
          · next f8 =>
            split at hr
            · injection hr with hr; subst hr
              exact ls_trk_mk ((5, mo, sp, []) :: X) hk (em ..) rfl (ls_gd_c (ls_gd_w (gf.1 (Or.inr f8))) gX)
            · cases hr
          repeat' split at hr
          all_goals first | cases hr; done | (injection hr with hr; subst hr; exact ls_trk_mk X hk (em ..) rfl gX)
    · next lv pl mo r2 _ _ =>
      split at hr
      · injection hr with hr; subst hr
        refine ls_trk_mk X hk ?_ rfl hX
        unfold ls_red
        split
        · split
          · exact em ..
          · exact em2 ..
        split
        · split
          · exact em ..
          · exact em ..
        split
        · next n2 n13 lg =>
          refine ls_mv_t (em ..) (ls_mv_aim (fun q => ?_))
          have lgl : ls_lg (lv, pl, mo) := by
            obtain ⟨p1, p2, p3, p4, p5, p6, p7, p8⟩ := i6 _ (List.mem_cons_self ..)
            dsimp only at p7
            have lc := ls_lv_c (T pos)
            have := p7 (by omega) n13
            show lv = 3 ∨ lv = 4
            rcases lg with g | g
            · rw [g] at this; right; exact this.symm
            · rw [g] at this; left; exact this.symm
          have := (ls_pd_lt jp (List.mem_cons_self ..) lgl).2
          dsimp only at this
          rw [← q] at this
          rw [this] at hk
          rcases hk.2.1 with g | g <;> exact absurd g (by decide)
        · exact em ..
      split at hr
      · injection hr with hr; subst hr; exact ls_trk_mk X hk BIN rfl hX
      split at hr
      · split at hr
        · injection hr with hr; subst hr; exact ls_trk_mk X hk (em ..) rfl hX
        · injection hr with hr; subst hr; exact ls_trk_mk X hk ls_mv_r rfl hX
      repeat' split at hr
      all_goals first | cases hr; done | (injection hr with hr; subst hr; exact ls_trk_mk X hk ls_mv_r rfl hX)
end
section
variable {T : Nat → Nat} {V : Nat → Int32} {n : Nat} {C : Nat → LsC} {N : Nat} {kF : LsK} {t t' i : Nat} {F r : List LsF} {f5 : LsF}
set_option maxHeartbeats 200000 in
theorem ls_trk_to (h : ls_tl T V n C N kF) (hF : F = f5 :: r) (h5 : f5.1 = 5) (ht' : t' ≤ N) : ∀ m, t + m = t' → (∀ u, t ≤ u → u ≤ t' → F.length ≤ ((C u).2.2.2.2.1).length) → ls_trk i F (C t) → ls_trk i F (C t') := by
  intro m
  induction m generalizing t with
  | zero =>
    intro e _ g
    have : t = t' := by omega
    rw [← this]; exact g
  | succ m ih =>
    intro e hl g
    obtain ⟨_, f2, f3, _⟩ := h.2.2.2.2 t (by omega)
    obtain ⟨s1, s2⟩ := h.2.1 t (by omega)
    exact ih (t := t + 1) (by omega) (fun u u1 u2 => hl u (by omega) u2) (ls_trk_rs f2 f3 s1 hF h5 g s2 (hl (t + 1) (by omega) (by omega)))
end
