/-! Where the jumps lead in the end -/
section
variable {T : Nat → Nat} {V : Nat → Int32} {n : Nat} {C : Nat → LsC} {N : Nat} {kF : LsK} {t pos es : Nat} {pe : List LsP} {fr r : List LsF} {L : List Nat} {k : LsK} {j p d q i u mo sp : Nat}
set_option maxHeartbeats 200000 in
/-- a decided && or || : where the code goes on, and where the reading stood there -/
theorem ls_fdec (h : ls_tl T V n C N kF) (ht : t ≤ N) (tk : T pos = 41 ∨ T pos = 42) (e : C t = (4, pos + 1, es, (ls_lv (T pos), pos, i) :: pe, fr, L, k)) :
    ∃ t' q k' j, t < t' ∧ t' ≤ N ∧ C t' = (5, q, es, pe, fr, L, k') ∧ pos < q ∧ ls_lv (T q) ≤ ls_lv (T pos) ∧ ls_sp T (ls_lv (T pos)) j (pos + 1) 0 q ∧ (T q = 16 ∨ T q = 19 ∨ T q = 20 ∨ 2 < ls_lv (T q)) ∧ kF.2.2.1 i = nI k'.1 - nI i ∧ (∀ u, t ≤ u → u ≤ t' → (C u).2.2.2.2.1 = fr) ∧ i < k'.1 := by
  have hl : ls_lv (T pos) = 3 ∨ ls_lv (T pos) = 4 := by
    rcases tk with q | q
    · right; rw [q]; rfl
    · left; rw [q]; rfl
  obtain ⟨t', q, k', j, a1, a2, a3, a4, a5, a6, a7⟩ := ls_pex h (s := ls_lv (T pos)) (P := (ls_lv (T pos), pos, i) :: pe) (Or.inr ⟨_, _, rfl, rfl, hl⟩) (N - t) t 4 (pos + 1) [] k (Nat.le_refl _) ht (Or.inl rfl) e
  obtain ⟨_, s5⟩ := ls_tl5 h (Nat.le_of_lt a2) a3
  unfold ls_r5 at s5
  dsimp only at s5
  rw [if_pos a4] at s5
  injection s5 with s5
  have red : ls_red T q (ls_lv (T pos)) pos i k' = ls_aim (ls_em k' 8 0 0 (nI pos)) i := by
    unfold ls_red
    rw [if_neg (by omega), if_neg (by omega), if_pos tk]
  rw [red] at s5
  have hJ := (h.2.2.2.2 t' (Nat.le_of_lt a2)).2.2.1
  rw [a3] at hJ
  obtain ⟨jp, jf⟩ := hJ
  have jp' : (if ls_lg (ls_lv (T pos), pos, i) then i < k'.1 ∧ k'.2.1 i = 7 ∧ ls_pd k' i pe else ls_pd k' k'.1 pe) := jp
  rw [if_pos (show ls_lg (ls_lv (T pos), pos, i) from hl)] at jp'
  obtain ⟨p1, p2, p3⟩ := jp'
  have o7 : (ls_aim (ls_em k' 8 0 0 (nI pos)) i).2.1 i = 7 := by
    show upd k'.2.1 k'.1 8 i = 7
    rw [pk_un (by omega)]; exact p2
  have SET : ls_set (5, q, es, pe, fr, L, ls_aim (ls_em k' 8 0 0 (nI pos)) i) i := by
    refine ⟨by show i < k'.1 + 1; omega, fun e he hl' q' => ?_, fun f hf hk q' => ?_, fun q' => ?_⟩
    · have := (ls_pd_lt p3 he hl').1; omega
    · have := (ls_fd_lt jf hf (by omega)).2
      rw [q', p2] at this
      rcases hk with g | g | g
      · exact absurd (this.2.2 g) (by decide)
      · exact absurd (this.1 g) (by decide)
      · exact absurd (this.2.1 g) (by decide)
    · rw [o7] at q'
      rcases q' with q' | q' <;> exact absurd q' (by decide)
  have A := ls_farg h (by omega) s5.symm SET
  refine ⟨t' + 1, q, _, j, by omega, by omega, s5.symm, by omega, a4, a6, ?_, A.trans pk_us, fun u u1 u2 => ?_, by show i < k'.1 + 1; omega⟩
  · by_cases q2 : 2 < ls_lv (T q)
    · omega
    · have := ls_qe h _ t' k' (Nat.le_of_lt a2) a3 (by omega)
      omega
  · by_cases ue : u = t' + 1
    · subst ue; rw [← s5]
    · exact (a7 u u1 (by omega)).1
set_option maxHeartbeats 200000 in
/-- a then-part that is left out -/
theorem ls_fif (h : ls_tl T V n C N kF) (ht : t ≤ N) (e : C t = (0, p, es, [], (3, u, sp, []) :: r, L, k)) :
    ∃ t' q es' k' k2 j, t < t' ∧ t' < N ∧ C t' = (3, q, es', [], (3, u, sp, []) :: r, L, k') ∧ p < q ∧ ls_sk T j p [] q ∧ kF.2.2.1 u = nI k2.1 - nI u ∧ u < k2.1 ∧ (T q = 7 → C (t' + 1) = (0, q + 1, es', [], (4, k'.1, sp, []) :: r, L, k2)) ∧ (T q ≠ 7 → C (t' + 1) = (3, q, es', [], r, L, k2)) ∧ ∀ u, t ≤ u → u ≤ t' → r.length + 1 ≤ ((C u).2.2.2.2.1).length := by
  obtain ⟨t', q, es', k', j, a1, a2, a3, a4, a5, a6⟩ := ls_ps h (F := (3, u, sp, []) :: r) (L := L) ⟨by show 3 ≤ 3; decide, by show 3 ≤ 5; decide⟩ (N - t) t p es [] k (Nat.le_refl _) ht e (by simp)
  obtain ⟨_, s3⟩ := ls_tl3 h (Nat.le_of_lt a2) a3
  have hJ := (h.2.2.2.2 t' (Nat.le_of_lt a2)).2.2.1
  rw [a3] at hJ
  obtain ⟨_, jf⟩ := hJ
  obtain ⟨g1, _, _, _, _, g6⟩ := ls_fd_hd (f := (3, u, sp, [])) (by show (3 : Nat) ≠ 1; decide) jf
  dsimp only at g1 g6
  have kb := ls_ks h (Nat.le_of_lt a2) a3
  have kb2 := h.1.1
  unfold ls_r3 at s3
  dsimp only at s3
  rw [if_pos rfl] at s3
  have LE : ∀ f ∈ r, f.1 = 2 ∨ f.1 = 3 ∨ f.1 = 4 → f.2.1 ≠ u := fun f hf hk q' => by
    have := (ls_fd_lt g6 hf (by omega)).1; omega
  by_cases t7 : T q = 7
  · rw [if_pos t7] at s3
    injection s3 with s3
    have SET : ls_set (0, q + 1, es', [], (4, k'.1, sp, []) :: r, L, ls_aim (ls_em k' 14 0 0 (nI q)) u) u := by
      refine ⟨by show u < k'.1 + 1; omega, fun e he => absurd he (by simp), fun f hf hk q' => ?_, fun _ => ?_⟩
      · rcases List.mem_cons.mp hf with rfl | hf
        · have : k'.1 = u := q'; omega
        · exact LE f hf hk q'
      · show upd _ u (nI (k'.1 + 1) - nI u) u ≠ 0
        rw [pk_us]; exact ls_nsub (by omega) (by omega)
    have A := ls_farg h (by omega) s3.symm SET
    exact ⟨t', q, es', k', ls_aim (ls_em k' 14 0 0 (nI q)) u, j, a1, a2, a3, a4, a5, A.trans pk_us, by show u < k'.1 + 1; omega, fun _ => s3.symm, fun g => absurd t7 g, a6⟩
  · rw [if_neg t7] at s3
    injection s3 with s3
    have SET : ls_set (3, q, es', [], r, L, ls_aim k' u) u := by
      refine ⟨g1, fun e he => absurd he (by simp), LE, fun _ => ?_⟩
      show upd _ u (nI k'.1 - nI u) u ≠ 0
      rw [pk_us]; exact ls_nsub (by omega) (by omega)
    have A := ls_farg h (by omega) s3.symm SET
    exact ⟨t', q, es', k', ls_aim k' u, j, a1, a2, a3, a4, a5, A.trans pk_us, g1, fun g => absurd g t7, fun _ => s3.symm, a6⟩
set_option maxHeartbeats 200000 in
/-- an else-part that is left out -/
theorem ls_felse (h : ls_tl T V n C N kF) (ht : t ≤ N) (e : C t = (0, p, es, [], (4, u, sp, []) :: r, L, k)) :
    ∃ t' q es' k' j, t < t' ∧ t' ≤ N ∧ C t' = (3, q, es', [], r, L, k') ∧ p < q ∧ ls_sk T j p [] q ∧ kF.2.2.1 u = nI k'.1 - nI u ∧ u < k'.1 ∧ ∀ u, t ≤ u → u ≤ t' → r.length ≤ ((C u).2.2.2.2.1).length := by
  obtain ⟨t', q, es', k', j, a1, a2, a3, a4, a5, a6⟩ := ls_ps h (F := (4, u, sp, []) :: r) (L := L) ⟨by show 3 ≤ 4; decide, by show 4 ≤ 5; decide⟩ (N - t) t p es [] k (Nat.le_refl _) ht e (by simp)
  obtain ⟨_, s3⟩ := ls_tl3 h (Nat.le_of_lt a2) a3
  have hJ := (h.2.2.2.2 t' (Nat.le_of_lt a2)).2.2.1
  rw [a3] at hJ
  obtain ⟨_, jf⟩ := hJ
  obtain ⟨g1, _, _, _, _, g6⟩ := ls_fd_hd (f := (4, u, sp, [])) (by show (4 : Nat) ≠ 1; decide) jf
  dsimp only at g1 g6
  have kb := ls_ks h (Nat.le_of_lt a2) a3
  unfold ls_r3 at s3
  dsimp only at s3
  rw [if_neg (by decide), if_pos rfl] at s3
  injection s3 with s3
  have SET : ls_set (3, q, es', [], r, L, ls_aim k' u) u := by
    refine ⟨g1, fun e he => absurd he (by simp), fun f hf hk q' => ?_, fun _ => ?_⟩
    · have := (ls_fd_lt g6 hf (by omega)).1; omega
    · show upd _ u (nI k'.1 - nI u) u ≠ 0
      rw [pk_us]; exact ls_nsub (by omega) (by omega)
  have A := ls_farg h (by omega) s3.symm SET
  refine ⟨t' + 1, q, es', _, j, by omega, by omega, s3.symm, a4, a5, A.trans pk_us, g1, fun u u1 u2 => ?_⟩
  by_cases ue : u = t' + 1
  · subst ue; rw [← s3]; exact Nat.le_refl _
  · have := a6 u u1 (by omega)
    rw [List.length_cons] at this
    omega
set_option maxHeartbeats 200000 in
/-- a loop's body from its start to its end -/
theorem ls_floop (h : ls_tl T V n C N kF) (ht : t ≤ N) (e : C t = (0, p, es, [], (5, mo, sp, []) :: r, L, k)) :
    ∃ t' q es' k' k2 j, t < t' ∧ t' < N ∧ C t' = (3, q, es', [], (5, mo, sp, []) :: r, L, k') ∧ p < q ∧ ls_sk T j p [] q ∧ C (t' + 1) = (3, q, es', [], r, L, k2) ∧ k2.1 = k'.1 + 1 ∧ mo + 2 ≤ k'.1 ∧ kF.2.1 k'.1 = 14 ∧ kF.2.2.1 k'.1 = nI (mo + 1) - nI k'.1 ∧ (∀ i, mo ≤ i → i < k'.1 → k'.2.1 i = 14 ∨ k'.2.1 i = 15 → k'.2.2.1 i = 0 → kF.2.2.1 i = nI k2.1 - nI i) ∧ ∀ u, t ≤ u → u ≤ t' → r.length + 1 ≤ ((C u).2.2.2.2.1).length := by
  obtain ⟨t', q, es', k', j, a1, a2, a3, a4, a5, a6⟩ := ls_ps h (F := (5, mo, sp, []) :: r) (L := L) ⟨by show 3 ≤ 5; decide, by show 5 ≤ 5; decide⟩ (N - t) t p es [] k (Nat.le_refl _) ht e (by simp)
  obtain ⟨_, s3⟩ := ls_tl3 h (Nat.le_of_lt a2) a3
  have hJ := (h.2.2.2.2 t' (Nat.le_of_lt a2)).2.2.1
  rw [a3] at hJ
  obtain ⟨_, jf⟩ := hJ
  obtain ⟨g1, _, _, _, g5, g6⟩ := ls_fd_hd (f := (5, mo, sp, [])) (by show (5 : Nat) ≠ 1; decide) jf
  dsimp only at g1 g6 g5
  have g5' := g5 rfl
  have kb := ls_ks h (Nat.le_of_lt a2) a3
  unfold ls_r3 at s3
  dsimp only at s3
  rw [if_neg (by decide), if_neg (by decide), if_pos rfl] at s3
  injection s3 with s3
  have ne0 : nI (mo + 1) - nI k'.1 ≠ 0 := fun q' => by
    have := pk_sneg (a := mo + 1) (b := k'.1) (by omega) (by omega)
    rw [q'] at this
    exact absurd this (by decide)
  have SET : ∀ i, mo ≤ i → i < k'.1 + 1 → ((ls_em k' 14 (nI (mo + 1) - nI k'.1) 0 (nI q)).2.1 i = 14 ∨ (ls_em k' 14 (nI (mo + 1) - nI k'.1) 0 (nI q)).2.1 i = 15 → ls_set (3, q, es', [], r, L, ls_exits (ls_em k' 14 (nI (mo + 1) - nI k'.1) 0 (nI q)) mo) i) := by
    intro i h1 h2 h3
    refine ⟨by show i < k'.1 + 1; omega, fun e he => absurd he (by simp), fun f hf hk q' => ?_, fun _ => ?_⟩
    · have := (ls_fd_lt g6 hf (by omega)).1; omega
    · show (if mo ≤ i ∧ i < k'.1 + 1 ∧ ((ls_em k' 14 (nI (mo + 1) - nI k'.1) 0 (nI q)).2.1 i = 14 ∨ (ls_em k' 14 (nI (mo + 1) - nI k'.1) 0 (nI q)).2.1 i = 15) ∧ (ls_em k' 14 (nI (mo + 1) - nI k'.1) 0 (nI q)).2.2.1 i = 0 then nI (k'.1 + 1) - nI i else (ls_em k' 14 (nI (mo + 1) - nI k'.1) 0 (nI q)).2.2.1 i) ≠ 0
      split
      · exact ls_nsub (by omega) (by omega)
      · next g => exact fun q' => g ⟨h1, h2, h3, q'⟩
  have o14 : (ls_em k' 14 (nI (mo + 1) - nI k'.1) 0 (nI q)).2.1 k'.1 = 14 := pk_us
  refine ⟨t', q, es', k', _, j, a1, a2, a3, a4, a5, s3.symm, rfl, g5', ?_, ?_, fun i i1 i2 i3 i4 => ?_, a6⟩
  · obtain ⟨f1, _⟩ := ls_fat h (by omega) s3.symm (i := k'.1) (by show k'.1 < k'.1 + 1; omega)
    exact f1.trans o14
  · have A := ls_farg h (by omega) s3.symm (SET k'.1 (by omega) (by omega) (Or.inl o14))
    refine A.trans ?_
    have this : (ls_em k' 14 (nI (mo + 1) - nI k'.1) 0 (nI q)).2.2.1 k'.1 = nI (mo + 1) - nI k'.1 := pk_us
    show (if mo ≤ k'.1 ∧ k'.1 < k'.1 + 1 ∧ ((ls_em k' 14 (nI (mo + 1) - nI k'.1) 0 (nI q)).2.1 k'.1 = 14 ∨ (ls_em k' 14 (nI (mo + 1) - nI k'.1) 0 (nI q)).2.1 k'.1 = 15) ∧ (ls_em k' 14 (nI (mo + 1) - nI k'.1) 0 (nI q)).2.2.1 k'.1 = 0 then nI (k'.1 + 1) - nI k'.1 else (ls_em k' 14 (nI (mo + 1) - nI k'.1) 0 (nI q)).2.2.1 k'.1) = _
    split
    · next g => exact absurd (by rw [← this]; exact g.2.2.2) ne0
    · exact this
  · have eo : (ls_em k' 14 (nI (mo + 1) - nI k'.1) 0 (nI q)).2.1 i = k'.2.1 i := pk_un (by omega)
    have ea : (ls_em k' 14 (nI (mo + 1) - nI k'.1) 0 (nI q)).2.2.1 i = k'.2.2.1 i := pk_un (by omega)
    have A := ls_farg h (by omega) s3.symm (SET i i1 (by omega) (by rw [eo]; exact i3))
    refine A.trans ?_
    show (if mo ≤ i ∧ i < k'.1 + 1 ∧ ((ls_em k' 14 (nI (mo + 1) - nI k'.1) 0 (nI q)).2.1 i = 14 ∨ (ls_em k' 14 (nI (mo + 1) - nI k'.1) 0 (nI q)).2.1 i = 15) ∧ (ls_em k' 14 (nI (mo + 1) - nI k'.1) 0 (nI q)).2.2.1 i = 0 then nI (k'.1 + 1) - nI i else _) = _
    rw [if_pos ⟨i1, by omega, by rw [eo]; exact i3, by rw [ea]; exact i4⟩]
    rfl
end
