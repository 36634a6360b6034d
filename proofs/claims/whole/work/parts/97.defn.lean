/-! Definitions: from the head to behind the body -/
section
variable {T : Nat → Nat} {V : Nat → Int32} {n : Nat} {C : Nat → LsC} {N : Nat} {kF : LsK} {s p es c mo pb q : Nat} {L1 : List Nat} {k : LsK}
set_option maxHeartbeats 200000 in
/-- the lowest frame stays -/
theorem ls_bot (h : ls_tl T V n C N kF) {g : LsF} {t2 : Nat} (ht2 : t2 ≤ N) (h1 : ∀ u, s ≤ u → u < t2 → 1 < ((C u).2.2.2.2.1).length) (h0 : ∃ f S, (C s).2.2.2.2.1 = f :: S ++ [g]) : ∀ m, s + m < t2 → ∃ f S, (C (s + m)).2.2.2.2.1 = f :: S ++ [g] := by
  intro m
  induction m with
  | zero => intro _; exact h0
  | succ m ih =>
    intro hm
    obtain ⟨f, S, e⟩ := ih (by omega)
    have st := h.2.1 (s + m) (by omega)
    have hI := (h.2.2.2.2 (s + m) (by omega)).2.1
    have e' : (C (s + m)).2.2.2.2.1 = f :: (S ++ [g]) := e
    have sb := (ls_sb_rs hI st.1 e' st.2).1
    have len := h1 (s + (m + 1)) (by omega) hm
    rw [show s + (m + 1) = s + m + 1 by omega] at len ⊢
    have R : (C (s + m + 1)).2.2.2.2.1 = S ++ [g] → ∃ f S, (C (s + m + 1)).2.2.2.2.1 = f :: S ++ [g] := by
      intro q
      cases S with
      | nil =>
        rw [q] at len
        exact absurd len (by simp)
      | cons f' S' => exact ⟨f', S', q⟩
    rcases sb with (q | ⟨x, q⟩) | ⟨_, q | ⟨g', _, q⟩⟩ | ⟨_, _, _, q⟩
    · exact ⟨f, S, q⟩
    · exact ⟨x, f :: S, q⟩
    · exact R q
    · exact ⟨g', S, q⟩
    · exact R (by rw [q])
set_option maxHeartbeats 200000 in
/-- a definition's body from its start to its end -/
theorem ls_fdef (h : ls_tl T V n C N kF) (ht : s ≤ N) (e : C s = (0, p, es, [], [(1, c, p, L1), (2, mo, pb, [q])], L1, k)) : ∃ t2 q2 es2 k2 k3 j, s < t2 ∧ t2 < N ∧ C t2 = (3, q2, es2, [], [(2, mo, pb, [q])], L1, k2) ∧ C (t2 + 1) = (3, q2, es2, [], [], [], k3) ∧ k3.1 = k2.1 + 1 ∧ mo < k2.1 ∧ kF.2.2.1 mo = nI (k2.1 + 1) - nI mo ∧ kF.2.2.2.2 k2.1 = nI (q2 - 1) ∧ p + j = q2 ∧ ls_br T 0 j p 1 0 ∧ k2.1 + 2 * p ≤ k.1 + 2 * q2 ∧ k.1 ≤ k2.1 ∧ ∀ u, s ≤ u → u < t2 → ∃ f S, (C u).2.2.2.2.1 = f :: S ++ [(2, mo, pb, [q])] := by
  obtain ⟨t2, q2, es2, k2, j, a1, a2, a3, a4, a5, a6⟩ := ls_pb h (B := (1, c, p, L1)) (F := [(2, mo, pb, [q])]) rfl (N - s) s [] (Nat.le_refl _) ht (by rw [e]; rfl)
  have a3' : C t2 = (3, q2, es2, [], [(2, mo, pb, [q])], L1, k2) := a3
  obtain ⟨lt, s3⟩ := ls_tl3 h a2 a3'
  have hJ := (h.2.2.2.2 t2 a2).2.2.1
  rw [a3'] at hJ
  obtain ⟨_, jf⟩ := hJ
  obtain ⟨g1, _, _, _, _, g6⟩ := ls_fd_hd (f := (2, mo, pb, [q])) (by show (2 : Nat) ≠ 1; decide) jf
  dsimp only at g1 g6
  have kb := ls_ks h a2 a3'
  unfold ls_r3 at s3
  dsimp only at s3
  rw [if_neg (by decide), if_neg (by decide), if_neg (by decide), if_pos rfl] at s3
  injection s3 with s3
  have SET : ls_set (3, q2, es2, [], [], [], ls_aim (ls_em k2 18 0 (nI ([q].headD 0)) (nI (q2 - 1))) mo) mo := by
    refine ⟨by show mo < k2.1 + 1; omega, fun e he => absurd he (by simp), fun f hf hk q' => absurd hf (by simp), fun _ => ?_⟩
    show upd _ mo (nI (k2.1 + 1) - nI mo) mo ≠ 0
    rw [pk_us]; exact ls_nsub (by omega) (by omega)
  have A := ls_farg h (by omega) s3.symm SET
  obtain ⟨f1, f2, f3, _⟩ := ls_fat h (by omega) s3.symm (i := k2.1) (by show k2.1 < k2.1 + 1; omega)
  have p18 : (ls_em k2 18 0 (nI ([q].headD 0)) (nI (q2 - 1))).2.2.2.2 k2.1 = nI (q2 - 1) := pk_us
  have ps := ls_psi_to h (t2 - s) s (by omega)
  rw [show s + (t2 - s) = t2 by omega, e, a3'] at ps
  obtain ⟨ps1, ps2⟩ := ps
  have a5' : ls_br T 0 j p 1 0 := by
    rw [e] at a5
    exact a5
  rw [e] at a4
  refine ⟨t2, q2, es2, k2, _, j, a1, lt, a3', s3.symm, rfl, g1, A.trans pk_us, f3.trans p18, a4, a5', ?_, ps2, fun u u1 u2 => ?_⟩
  · have ps1' : k2.1 + 0 + (1 + 0) + 2 * p + 0 ≤ k.1 + 0 + (0 + (1 + 0)) + 2 * q2 + 0 := ps1
    omega
  · have := ls_bot h (s := s) (g := (2, mo, pb, [q])) (t2 := t2) a2 (fun u u1 u2 => by have := a6 u u1 u2; simpa using this) ⟨(1, c, p, L1), [], by rw [e]; rfl⟩ (u - s) (by omega)
    rw [show s + (u - s) = u by omega] at this
    exact this
end
