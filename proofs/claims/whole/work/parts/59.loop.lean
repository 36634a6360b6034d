/-! Loops, returns and calls: how the lists change -/
section
variable {T : Nat → Nat} {V : Nat → Int32} {n : Nat} {C : Nat → LsC} {N : Nat} {kF : LsK} {t pos es : Nat} {fr r : List LsF} {L : List Nat} {k : LsK} {q mo sp : Nat} {l : List Nat}
set_option maxHeartbeats 200000 in
/-- at a loop's end: the way back, and where the ways out lead -/
theorem ls_fback (h : ls_tl T V n C N kF) (ht : t ≤ N) (e : C t = (3, q, es, [], (5, mo, sp, l) :: r, L, k)) :
    ∃ k2, C (t + 1) = (3, q, es, [], r, L, k2) ∧ t < N ∧ k2.1 = k.1 + 1 ∧ mo + 2 ≤ k.1 ∧ kF.2.1 k.1 = 14 ∧ kF.2.2.1 k.1 = nI (mo + 1) - nI k.1 ∧ ∀ i, mo ≤ i → i < k.1 → k.2.1 i = 14 ∨ k.2.1 i = 15 → k.2.2.1 i = 0 → kF.2.2.1 i = nI k2.1 - nI i := by
  obtain ⟨lt, s3⟩ := ls_tl3 h ht e
  have hJ := (h.2.2.2.2 t ht).2.2.1
  rw [e] at hJ
  obtain ⟨_, jf⟩ := hJ
  obtain ⟨g1, _, _, _, g5, g6⟩ := ls_fd_hd (f := (5, mo, sp, l)) (by show (5 : Nat) ≠ 1; decide) jf
  dsimp only at g1 g6 g5
  have g5' := g5 rfl
  have kb := ls_ks h ht e
  unfold ls_r3 at s3
  dsimp only at s3
  rw [if_neg (by decide), if_neg (by decide), if_pos rfl] at s3
  injection s3 with s3
  have ne0 : nI (mo + 1) - nI k.1 ≠ 0 := fun q' => by
    have := pk_sneg (a := mo + 1) (b := k.1) (by omega) (by omega)
    rw [q'] at this
    exact absurd this (by decide)
  have SET : ∀ i, mo ≤ i → i < k.1 + 1 → ((ls_em k 14 (nI (mo + 1) - nI k.1) 0 (nI q)).2.1 i = 14 ∨ (ls_em k 14 (nI (mo + 1) - nI k.1) 0 (nI q)).2.1 i = 15 → ls_set (3, q, es, [], r, L, ls_exits (ls_em k 14 (nI (mo + 1) - nI k.1) 0 (nI q)) mo) i) := by
    intro i h1 h2 h3
    refine ⟨by show i < k.1 + 1; omega, fun e he => absurd he (by simp), fun f hf hk q' => ?_, fun _ => ?_⟩
    · have := (ls_fd_lt g6 hf (by omega)).1; omega
    · show (if mo ≤ i ∧ i < k.1 + 1 ∧ ((ls_em k 14 (nI (mo + 1) - nI k.1) 0 (nI q)).2.1 i = 14 ∨ (ls_em k 14 (nI (mo + 1) - nI k.1) 0 (nI q)).2.1 i = 15) ∧ (ls_em k 14 (nI (mo + 1) - nI k.1) 0 (nI q)).2.2.1 i = 0 then nI (k.1 + 1) - nI i else (ls_em k 14 (nI (mo + 1) - nI k.1) 0 (nI q)).2.2.1 i) ≠ 0
      split
      · exact ls_nsub (by omega) (by omega)
      · next g => exact fun q' => g ⟨h1, h2, h3, q'⟩
  have o14 : (ls_em k 14 (nI (mo + 1) - nI k.1) 0 (nI q)).2.1 k.1 = 14 := pk_us
  refine ⟨_, s3.symm, lt, rfl, g5', ?_, ?_, fun i i1 i2 i3 i4 => ?_⟩
  · obtain ⟨f1, _⟩ := ls_fat h (by omega) s3.symm (i := k.1) (by show k.1 < k.1 + 1; omega)
    exact f1.trans o14
  · have A := ls_farg h (by omega) s3.symm (SET k.1 (by omega) (by omega) (Or.inl o14))
    refine A.trans ?_
    have this : (ls_em k 14 (nI (mo + 1) - nI k.1) 0 (nI q)).2.2.1 k.1 = nI (mo + 1) - nI k.1 := pk_us
    show (if mo ≤ k.1 ∧ k.1 < k.1 + 1 ∧ ((ls_em k 14 (nI (mo + 1) - nI k.1) 0 (nI q)).2.1 k.1 = 14 ∨ (ls_em k 14 (nI (mo + 1) - nI k.1) 0 (nI q)).2.1 k.1 = 15) ∧ (ls_em k 14 (nI (mo + 1) - nI k.1) 0 (nI q)).2.2.1 k.1 = 0 then nI (k.1 + 1) - nI k.1 else (ls_em k 14 (nI (mo + 1) - nI k.1) 0 (nI q)).2.2.1 k.1) = _
    split
    · next g => exact absurd (by rw [← this]; exact g.2.2.2) ne0
    · exact this
  · have eo : (ls_em k 14 (nI (mo + 1) - nI k.1) 0 (nI q)).2.1 i = k.2.1 i := pk_un (by omega)
    have ea : (ls_em k 14 (nI (mo + 1) - nI k.1) 0 (nI q)).2.2.1 i = k.2.2.1 i := pk_un (by omega)
    have A := ls_farg h (by omega) s3.symm (SET i i1 (by omega) (by rw [eo]; exact i3))
    refine A.trans ?_
    show (if mo ≤ i ∧ i < k.1 + 1 ∧ ((ls_em k 14 (nI (mo + 1) - nI k.1) 0 (nI q)).2.1 i = 14 ∨ (ls_em k 14 (nI (mo + 1) - nI k.1) 0 (nI q)).2.1 i = 15) ∧ (ls_em k 14 (nI (mo + 1) - nI k.1) 0 (nI q)).2.2.1 i = 0 then nI (k.1 + 1) - nI i else _) = _
    rw [if_pos ⟨i1, by omega, by rw [eo]; exact i3, by rw [ea]; exact i4⟩]
    rfl
end
/-- the reference's names once these entries are gone -/
def ls_evo (ne : Nat) : List LsP → Nat
  | [] => ne
  | x :: r => ls_evo (if x.1 = 1 then x.2.1 else ne) r
section
variable {b e0 : Nat} {Q : LsF → List LsF → List Nat → Nat → Prop} {c0 : List LsP} {k : LsK} {mo : Nat}
set_option maxHeartbeats 200000 in
theorem ls_ct_app : ∀ {fr : List LsF} {L : List Nat} {cs : List LsP}, ls_ct b e0 Q c0 fr L cs → ∃ cX, cs = cX ++ c0 ∧ ∀ x ∈ cX, x.1 = 1 ∨ x.1 = 2
  | [], L, cs, h => ⟨[], h, fun x hx => absurd hx (by simp)⟩
  | f :: r, L, cs, h => by
    unfold ls_ct at h
    split at h
    · obtain ⟨cs', h1, h2⟩ := h
      obtain ⟨cX, g1, g2⟩ := ls_ct_app h2
      subst h1 g1
      refine ⟨(1, _, 0) :: cX, rfl, fun x hx => ?_⟩
      rcases List.mem_cons.mp hx with rfl | hx
      · exact Or.inl rfl
      · exact g2 x hx
    · split at h
      · obtain ⟨q, cs', h1, h2, h3⟩ := h
        obtain ⟨cX, g1, g2⟩ := ls_ct_app h3
        subst h1 g1
        refine ⟨(2, _, _) :: cX, rfl, fun x hx => ?_⟩
        rcases List.mem_cons.mp hx with rfl | hx
        · exact Or.inr rfl
        · exact g2 x hx
      · exact ls_ct_app h
set_option maxHeartbeats 200000 in
theorem ls_drop_drop {l : List Nat} {a b : Nat} : (l.drop a).drop b = l.drop (a + b) := by rw [List.drop_drop]
set_option maxHeartbeats 200000 in
/-- the innermost loop -/
theorem ls_ct_loop : ∀ {fr : List LsF} {L : List Nat} {cs : List LsP}, ls_ct b e0 Q c0 fr L cs → ls_loop fr = some mo → ls_sco fr L → ls_fok k fr → ∃ X f r L5 q cX cs5, fr = X ++ f :: r ∧ f.1 = 5 ∧ f.2.1 = mo ∧ (∀ g ∈ X, g.1 = 1 ∨ g.1 = 3 ∨ g.1 = 4) ∧ cs = cX ++ (2, f.2.2.1 + e0, q + e0) :: cs5 ∧ Q f r L5 q ∧ ls_ct b e0 Q c0 r L5 cs5 ∧ (∃ m, L5 = L.drop m) ∧ (∀ x ∈ cX, x.1 = 1) ∧ ls_evo (b + L.length) cX = b + L5.length
  | [], L, cs, h, hl, _, _ => by cases hl
  | f :: r, L, cs, h, hl, hs, hf => by
    obtain ⟨f1, _, f3, f4⟩ := hf
    unfold ls_ct at h
    by_cases c5 : f.1 = 5
    · rw [if_neg (by omega), if_pos c5] at h
      obtain ⟨q, cs', h1, h2, h3⟩ := h
      have hl' : (if f.1 = 5 then some f.2.1 else ls_loop r) = some mo := hl
      rw [if_pos c5] at hl'
      injection hl' with hl'
      exact ⟨[], f, r, L, q, [], cs', rfl, c5, hl', fun g hg => absurd hg (by simp), h1, h2, h3, ⟨0, rfl⟩, fun x hx => absurd hx (by simp), rfl⟩
    · have hl' : (if f.1 = 5 then some f.2.1 else ls_loop r) = some mo := hl
      rw [if_neg c5] at hl'
      have n2 : f.1 ≠ 2 := fun q => by
        have := (f3 q).1
        subst this
        cases hl'
      have hs' : (if f.1 = 1 then f.2.1 = f.2.2.2.length ∧ (∃ m, f.2.2.2 = L.drop m) ∧ ls_sco r f.2.2.2 else if f.1 = 2 then True else ls_sco r L) := hs
      by_cases c1 : f.1 = 1
      · rw [if_pos c1] at h hs'
        obtain ⟨cs', h1, h2⟩ := h
        obtain ⟨_, ⟨m, hm⟩, hs2⟩ := hs'
        obtain ⟨X, f', r', L5, q, cX, cs5, e1, e2, e3, e4, e5, e6, e7, ⟨m', e8⟩, e9, e10⟩ := ls_ct_loop h2 hl' hs2 f4
        refine ⟨f :: X, f', r', L5, q, (1, b + f.2.2.2.length, 0) :: cX, cs5, by rw [e1]; rfl, e2, e3, fun g hg => ?_, by rw [h1, e5]; rfl, e6, e7, ⟨m + m', ?_⟩, fun x hx => ?_, ?_⟩
        · rcases List.mem_cons.mp hg with rfl | hg
          · exact Or.inl c1
          · exact e4 g hg
        · rw [e8, hm, List.drop_drop]
        · rcases List.mem_cons.mp hx with rfl | hx
          · rfl
          · exact e9 x hx
        · show ls_evo (if (1 : Nat) = 1 then b + f.2.2.2.length else _) cX = _
          rw [if_pos rfl]
          exact e10
      · rw [if_neg c1, if_neg c5] at h
        rw [if_neg c1, if_neg n2] at hs'
        obtain ⟨X, f', r', L5, q, cX, cs5, e1, e2, e3, e4, e5, e6, e7, e8, e9, e10⟩ := ls_ct_loop h hl' hs' f4
        refine ⟨f :: X, f', r', L5, q, cX, cs5, by rw [e1]; rfl, e2, e3, fun g hg => ?_, e5, e6, e7, e8, e9, e10⟩
        rcases List.mem_cons.mp hg with rfl | hg
        · omega
        · exact e4 g hg
end
section
variable {T : Nat → Nat} {V : Nat → Int32} {C : Nat → LsC} {kF : LsK} {n N d e ta tz : Nat} {yn : Nat} {cr mk D D' cr' : Nat → Int32} {co ca ck cp tk : Nat → Int32} {tv : Nat → Int64} {tp : Nat → Int32}
variable {t t' st pos es : Nat} {pe : List LsP} {fr r : List LsF} {L L' l : List Nat} {k : LsK} {as : List LsA} {Ls : List (List Nat)} {xs ys x1 y1 x0 y0 : List LsV} {os cs o0 c0 : List LsP} {mo sp : Nat}
set_option maxHeartbeats 200000 in
theorem ls_mkd_app : ∀ {X : List LsF}, (∀ g ∈ X, g.1 ≠ 2) → ls_mkd (X ++ r) = ls_mkd r
  | [], _ => rfl
  | f :: X, h => by
    have : ls_mkd (f :: (X ++ r)) = ls_mkd (X ++ r) := ls_mkd_c (h f (List.mem_cons_self ..))
    exact this.trans (ls_mkd_app (fun g hg => h g (List.mem_cons_of_mem _ hg)))
set_option maxHeartbeats 200000 in
/-- a loop's span begins with its body -/
theorem ls_lp_mk {pos' es' : Nat} {k' : LsK} (h1 : ls_UA co ca ck cp tk tv tp (T, V, C, kF, n, N, d, e, ta, tz)) (h2 : ls_UK (T, V, C, kF, n, N, d, e, ta, tz) as yn (ls_mkd ((8, mo, sp, l) :: r))) (h3 : ta ≤ t ∧ t ≤ tz) (a4 : C t = (5, pos, es, [], (8, mo, sp, l) :: r, L, k)) (hc : C (t + 1) = (0, pos', es', [], (5, mo, sp, []) :: r, L, k')) : ∃ t2 q es2 k2 j, ls_lp C ta tz (t + 1) (5, mo, sp, []) r L q ∧ t + 1 ≤ t2 ∧ t2 < tz ∧ C t2 = (3, q, es2, [], (5, mo, sp, []) :: r, L, k2) ∧ ls_sk T j pos' [] q ∧ (∀ u, t + 1 ≤ u → u ≤ t2 → r.length + 1 ≤ ((C u).2.2.2.2.1).length) := by
  have U := h1
  obtain ⟨g1, g2, g3, _⟩ := h1
  have lt := (ls_tl5 g1 (by omega) a4).1
  obtain ⟨s, k0, o1, o2, o3, o4, o5, o6⟩ := ls_org g1 (ta := ta) (by rw [g2.2]; decide) t h3.1 (by omega) (by rw [a4]; exact Or.inr rfl)
  rw [a4] at o3 o6
  dsimp only at o3 o6
  obtain ⟨fk, mo', sp', r', p', L', k'', b1, b2, b3, b4, b5, b6⟩ := o5
  rw [o3] at b1
  injection b1 with _ b1
  injection b1 with b1a b1
  injection b1 with b1b b1
  injection b1 with _ b1
  injection b1 with b1c b1
  injection b1 with b1d b1e
  injection b1c with b1c b1r
  injection b1c with q1 b1c
  injection b1c with q2 b1c
  injection b1c with q3 q4
  subst q1 q2 q3 q4 b1r b1d b1e
  have p2 : p' = sp + 2 := by omega
  obtain ⟨t2, q, es2, k2, k3, j, f1, f2, f3, f4, f5, f6, f7, f8, f9, f10, f11, f12⟩ := ls_floop g1 (by omega) hc
  have M : ls_mkd ((8, mo, sp, []) :: r) = ls_mkd ((5, mo, sp, []) :: r) := by rw [ls_mkd_c (by show (8 : Nat) ≠ 2; decide), ls_mkd_c (by show (5 : Nat) ≠ 2; decide)]
  rw [M] at h2
  have lt1 : t + 1 ≤ tz := by
    have := ls_UK_lt (st := 5) (fr := (8, mo, sp, []) :: r) (by rw [M]; exact h2) g3.2 g1 h3.2 a4 (by decide) (fun q => by omega)
    omega
  have t2z := ls_UK_to2 (t := t + 1) (t' := t2) g1 h2 lt1 (by omega) (fun u u1 u2 => f12 u u1 u2)
  have t2z' := ls_UK_lt h2 g3.2 g1 t2z f3 (by decide) (fun q => by have : (5 : Nat) = 2 := q.2; omega)
  refine ⟨t2, q, es2, k2, j, ⟨s, t2, k0, es2, k2, o1, by omega, by omega, t2z', ⟨rfl, rfl⟩, b2, ?_, b4, f3, fun u u1 u2 => ?_⟩, by omega, t2z', f3, f5, f12⟩
  · rw [o3]
    show _ = (4, sp + 2, sp + 2, [], (8, mo, sp, []) :: r, L, k0)
    rw [b1a, p2]
  · rcases Nat.lt_or_ge t u with g | g
    · exact f12 u (by omega) u2
    · rw [(o6 u u1 g).1]; exact Nat.lt_succ_self _
set_option maxHeartbeats 200000 in
/-- a loop's end: back to its test -/
theorem ls_cu_back (h : ls_cu yn cr mk D (ls_UA co ca ck cp tk tv tp) (T, V, C, kF, n, N, d, e, ta, tz) t as (3, pos, es, [], (5, mo, sp, l) :: r, L, k) Ls xs ys os cs) : ∃ s k0 cs', cs = (2, sp + e, pos + e) :: cs' ∧ s < t ∧ C (s + 1) = (4, sp + 2, sp + 2, [], (8, mo, sp, []) :: r, L, k0) ∧ k0.1 = mo + 1 ∧ ls_cu yn cr mk D (ls_UA co ca ck cp tk tv tp) (T, V, C, kF, n, N, d, e, ta, tz) (s + 1) as (4, sp + 2, sp + 2, [], (8, mo, sp, []) :: r, L, k0) Ls xs ys ((1, sp + e, 0) :: os) cs' := by
  obtain ⟨a1, a2, a3, a4, c0, a5, a6⟩ := ls_cu_s h (by omega)
  have U := a1
  obtain ⟨g1, _, g3, _⟩ := a1
  obtain ⟨q, cs', e1, e2, e3⟩ := ls_ct_5.mp a5
  obtain ⟨s, t2, k0, es2, k2, b1, b2, b3, b4, b5, b6, b7, b8, b9, b10⟩ := e2
  obtain ⟨k3, c1, c2, _⟩ := ls_fback g1 (by omega) a4
  have tt : t = t2 := by
    apply Decidable.byContradiction
    intro g
    have := b10 (t + 1) (by omega) (by omega)
    rw [c1] at this
    exact absurd this (Nat.lt_irrefl _)
  subst tt
  rw [a4] at b9
  injection b9 with _ b9
  injection b9 with b9 _
  subst b9
  have M : ls_mkd ((8, mo, sp, []) :: r) = ls_mkd ((5, mo, sp, l) :: r) := by rw [ls_mkd_c (by show (8 : Nat) ≠ 2; decide), ls_mkd_c (by show (5 : Nat) ≠ 2; decide)]
  refine ⟨s, k0, cs', e1, b2, b7, b8, ?_⟩
  refine ls_cu_mk (x1 := xs) (y1 := ys) (pe := []) (f := (8, mo, sp, [])) (ins := 0) U (by rw [M]; exact a2) ⟨by omega, by omega⟩ b7 (Or.inl rfl) (by rw [if_neg (by decide)]; exact ⟨rfl, rfl⟩) ⟨rfl, rfl⟩ ⟨by omega, fun q => by have q' : (8 : Nat) = 6 := q; omega, fun q => by have q' : (8 : Nat) = 11 := q; omega⟩ ((ls_ct_x (by show (8 : Nat) ≠ 1; decide) (by show (8 : Nat) ≠ 5; decide)).mpr ?_) (by rw [M]; exact a6)
  refine ls_ct_go (t := t) g1 g3.2 (fun u u1 u2 => ?_) (fun u u1 u2 => Nat.le_of_lt (b10 u (by omega) u2)) e3
  have : u = t := by omega
  subst this
  exact Nat.le_of_lt (b10 u (by omega) (Nat.le_refl _))
set_option maxHeartbeats 200000 in
/-- break and continue -/
theorem ls_cu_out (h : ls_cu yn cr mk D (ls_UA co ca ck cp tk tv tp) (T, V, C, kF, n, N, d, e, ta, tz) t as (1, pos, es, [], fr, L, k) Ls xs ys os cs) (hl : ls_loop fr = some mo) : ∃ X f r L5 q cX cs5 s k0 t2 es2 k2 k3, fr = X ++ f :: r ∧ f.1 = 5 ∧ f.2.1 = mo ∧ f.2.2.2 = [] ∧ (∀ g ∈ X, g.1 = 1 ∨ g.1 = 3 ∨ g.1 = 4) ∧ cs = cX ++ (2, f.2.2.1 + e, q + e) :: cs5 ∧ (∃ m, L5 = L.drop m) ∧ (∀ x ∈ cX, x.1 = 1) ∧ ls_evo (ls_sl Ls + L.length) cX = ls_sl Ls + L5.length ∧
    (s < t ∧ t < t2 ∧ t2 < tz) ∧ C (s + 1) = (4, f.2.2.1 + 2, f.2.2.1 + 2, [], (8, mo, f.2.2.1, []) :: r, L5, k0) ∧ k0.1 = mo + 1 ∧ C t2 = (3, q, es2, [], f :: r, L5, k2) ∧ C (t2 + 1) = (3, q, es2, [], r, L5, k3) ∧ (∀ u, s < u → u ≤ t2 → r.length < ((C u).2.2.2.2.1).length) ∧ pos < q ∧
    ls_cu yn cr mk D (ls_UA co ca ck cp tk tv tp) (T, V, C, kF, n, N, d, e, ta, tz) (t2 + 1) as (3, q, es2, [], r, L5, k3) Ls xs ys os cs5 ∧
    ls_cu yn cr mk D (ls_UA co ca ck cp tk tv tp) (T, V, C, kF, n, N, d, e, ta, tz) t2 as (3, q, es2, [], f :: r, L5, k2) Ls xs ys os ((2, f.2.2.1 + e, q + e) :: cs5) := by
  obtain ⟨a1, a2, a3, a4, c0, a5, a6⟩ := ls_cu_s h (by omega)
  have U := a1
  obtain ⟨g1, _, g3, _⟩ := a1
  have hI := (g1.2.2.2.2 t (by omega)).2.1
  rw [a4] at hI
  obtain ⟨_, _, _, i4, _, _, i7⟩ := hI
  rw [if_neg (by omega)] at i7
  obtain ⟨X, f, r, L5, q, cX, cs5, e1, e2, e3, e4, e5, e6, e7, e8, e9, e10⟩ := ls_ct_loop a5 hl i4 i7.2.2.2.1
  have e6' := e6
  obtain ⟨s, t2, k0, es2, k2, b1, b2, b3, b4, b5, b6, b7, b8, b9, b10⟩ := e6
  have tne : t ≠ t2 := fun q => by
    subst q
    rw [a4] at b9
    injection b9 with b9 _
    omega
  obtain ⟨f1, f2, f3, f4⟩ := f
  dsimp only at e2 e3 b5 b7 b8
  obtain ⟨_, b5⟩ := b5
  subst e2 e3 b5
  obtain ⟨k3, c1, c2, _⟩ := ls_fback g1 (by omega) b9
  have M : ls_mkd fr = ls_mkd r := by
    rw [e1, ls_mkd_app (fun g hg => by have := e4 g hg; omega), ls_mkd_c (by show (5 : Nat) ≠ 2; decide)]
  have M5 : ls_mkd ((5, f2, f3, []) :: r) = ls_mkd r := ls_mkd_c (by show (5 : Nat) ≠ 2; decide)
  have pq : pos < q := by
    have := ls_adv3 g1 (t := t) (t' := t2) (by rw [a4]; exact Or.inr (Or.inl rfl)) b3 (by omega) (by rw [b9])
    rw [a4, b9] at this
    exact this
  refine ⟨X, (5, f2, f3, []), r, L5, q, cX, cs5, s, k0, t2, es2, k2, k3, e1, rfl, rfl, rfl, e4, e5, e8, e9, e10, ⟨b2, by omega, b4⟩, b7, b8, b9, c1, b10, pq, ?_, ?_⟩
  · refine ls_cu_go (t := t) U a2 M.symm ⟨by omega, by omega⟩ c1 (by omega) (fun u u1 u2 => ?_) (fun u u1 u2 => by omega) e7 a6
    rcases Nat.eq_or_lt_of_le u2 with g | g
    · subst g; rw [c1]; exact Nat.le_refl _
    · exact Nat.le_of_lt (b10 u (by omega) (by omega))
  · refine ls_cu_sm (c0 := c0) U (by rw [M5, ← M]; exact a2) ⟨by omega, by omega⟩ b9 (by omega) (ls_ct_5.mpr ⟨q, cs5, rfl, ⟨s, t2, k0, es2, k2, b1, by omega, Nat.le_refl _, b4, ⟨rfl, rfl⟩, b6, b7, b8, b9, b10⟩, ?_⟩) (by rw [M5, ← M]; exact a6)
    exact ls_ct_go (t := t) g1 g3.2 (fun u u1 u2 => Nat.le_of_lt (b10 u (by omega) u2)) (fun u u1 u2 => by omega) e7
set_option maxHeartbeats 200000 in
/-- the caller goes on -/
theorem ls_sus_ret {U : LsU} {kd : Option Nat} (h : ls_sus yn cr mk D (ls_UA co ca ck cp tk tv tp) ((U, t) :: as) kd Ls xs ys os cs) : ∃ pos es pe fr L k q m Ls' c1, (match U with | (_, _, C, _, _, _, d, e, _, _) => C t = (5, pos, es, pe, fr, L, k) ∧ cr as.length = nI (k.1 - d) ∧ cs = (3, pos + e, m * 128 + ls_sl Ls') :: c1) ∧ kd = some q ∧ m < 8 ∧ mk m = nI q ∧ Ls = L :: Ls' ∧ Ls'.length = as.length ∧ ∀ z, ls_cu yn cr mk D (ls_UA co ca ck cp tk tv tp) U t as (5, pos, es, pe, fr, L, k) Ls' (z :: xs) (z :: ys) os c1 := by
  obtain ⟨T, V, C, kF, n, N, d, e, ta, tz⟩ := U
  obtain ⟨ha, pos, es, pe, f, r, L, k, q, m, ins, Ls', xs', ys', os', c1, cs', h1, h2, h3, h4, h5, h6, h7, h8, h9, h10, h11, h12, h13, h14, h15⟩ := h
  refine ⟨pos, es, pe, f :: r, L, k, q, m, Ls', c1, ⟨h3, h7, h13⟩, h4, h5, h6, h8, h9, fun z => ?_⟩
  subst h11
  exact ls_cu_mk ha h1 h2 h3 (Or.inr rfl) (by rw [if_pos rfl]; exact ⟨z, rfl, rfl⟩) h10 h12 h14 h15
set_option maxHeartbeats 200000 in
theorem ls_sus_cr : ∀ {as : List LsA} {kd Ls xs ys os cs}, (∀ i, i < as.length → cr' i = cr i) → ls_sus yn cr mk D (ls_UA co ca ck cp tk tv tp) as kd Ls xs ys os cs → ls_sus yn cr' mk D (ls_UA co ca ck cp tk tv tp) as kd Ls xs ys os cs
  | [], kd, Ls, xs, ys, os, cs, _, h => h
  | (U, t) :: as, kd, Ls, xs, ys, os, cs, hc, h => by
    obtain ⟨T, V, C, kF, n, N, d, e, ta, tz⟩ := U
    rw [List.length_cons] at hc
    obtain ⟨ha, pos, es, pe, f, r, L, k, q, m, ins, Ls', xs', ys', os', c1, cs', h1, h2, h3, h4, h5, h6, h7, h8, h9, h10, h11, h12, h13, h14, h15⟩ := h
    exact ⟨ha, pos, es, pe, f, r, L, k, q, m, ins, Ls', xs', ys', os', c1, cs', h1, h2, h3, h4, h5, h6, (hc _ (by omega)).trans h7, h8, h9, h10, h11, h12, h13, h14, ls_sus_cr (fun i hi => hc i (by omega)) h15⟩
set_option maxHeartbeats 200000 in
/-- the caller waits -/
theorem ls_cu_wait {q m : Nat} (h : ls_cu yn cr mk D (ls_UA co ca ck cp tk tv tp) (T, V, C, kF, n, N, d, e, ta, tz) t as (5, pos, es, pe, fr, L, k) Ls xs ys os cs) (hD : ∀ c, c < 24 + 8 * as.length → D c ≠ -1 → D' c = D c) (hcr : ∀ i, i < as.length → cr' i = cr i) (hc : cr' as.length = nI (k.1 - d)) (hm : m < 8) (hk : mk m = nI q) : ∃ z x1 y1, xs = z :: x1 ∧ ys = z :: y1 ∧ ls_sus yn cr' mk D' (ls_UA co ca ck cp tk tv tp) (((T, V, C, kF, n, N, d, e, ta, tz), t) :: as) (some q) (L :: Ls) x1 y1 os ((3, pos + e, m * 128 + ls_sl Ls) :: cs) := by
  obtain ⟨h1, h2, h3, h4, x1, y1, x0, y0, o0, c0, f, r, ins, g1, g2, g3, g4, g5, g6, g7⟩ := ls_cu_e h (Or.inr rfl)
  subst g3
  rw [if_pos rfl] at g1
  obtain ⟨z, rfl, rfl⟩ := g1
  have U := h1
  obtain ⟨u1, _, u3, _⟩ := h1
  have C24 := (ls_tl_ch u1 (by omega) h4 (Or.inr rfl)).2.1
  have SL := ls_sus_len ls_UA_ex g7
  exact ⟨z, x1, y1, rfl, rfl, U, pos, es, pe, f, r, L, k, q, m, ins, Ls, x0, y0, o0, cs, c0, h2, h3, h4, rfl, hm, hk, hc, rfl, SL.2.2.2.2.2, ls_ro_dc hD C24 g2, g4, ls_in_dc hD (ls_tl_ch u1 (by omega) h4 (Or.inr rfl)).2.2.2.2.1 (ls_tl_72 u1) g5, rfl, g6, ls_sus_cr hcr (ls_sus_dc (fun c hc => hD c (by omega)) ls_UA_ex g7)⟩
end
