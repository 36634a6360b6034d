/-! Definitions: what their reading leaves -/
section
variable {T : Nat → Nat} {pos p : Nat} {L1 : List Nat} {sg : Nat}
/-- a head that is read -/
def ls_hok (T : Nat → Nat) (pos p : Nat) (L1 : List Nat) (sg c : Nat) (P : Nat → Nat) : Prop := L1.length = c ∧ c ≤ 3 ∧ p = pos + (if c = 0 then 5 else 4 + 3 * c) ∧ T (pos + (if c = 0 then 4 else 3 + 3 * c)) = 17 ∧ sg = ls_sg (T (pos + 1) - 54) c P ∧ (∀ i, P i ≤ 5) ∧ (∀ i, c ≤ i → P i = 0) ∧ (∀ i, i < c → L1[c - 1 - i]? = some (T (pos + 4 + 3 * i) - 54) ∧ ls_nam (T (pos + 4 + 3 * i)) ∧ T (pos + 3 + 3 * i) = P i) ∧ (T (pos + 2) = 15 → ls_bhd T (pos + 2) (pos + (if c = 0 then 4 else 3 + 3 * c)))
set_option maxHeartbeats 200000 in
theorem ls_lt_split {c : Nat} {Q : Nat → Prop} (h0 : 0 < c → Q 0) (h1 : 1 < c → Q 1) (h2 : 2 < c → Q 2) (hc : c ≤ 3) : ∀ i, i < c → Q i := by
  intro i hi
  rcases (show i = 0 ∨ i = 1 ∨ i = 2 by omega) with q | q | q
  · subst q; exact h0 hi
  · subst q; exact h1 hi
  · subst q; exact h2 hi
set_option maxHeartbeats 200000 in
theorem ls_hd_ok (h : ls_head T pos = .ok (p, L1, sg)) : ∃ c P, ls_hok T pos p L1 sg c P := by
  unfold ls_head at h
  split at h
  · next h3 =>
    split at h
    · next h4 =>
      injection h with h
      injection h with e1 h
      injection h with e2 e3
      subst e1 e2 e3
      refine ⟨0, fun _ => 0, rfl, by omega, rfl, h4, ?_, fun _ => Nat.zero_le _, fun _ _ => rfl, fun i hi => by omega, fun h15 => ⟨Or.inl h15, 1, rfl, ?_⟩⟩
      · show _ = T (pos + 1) - 54 + 16 * 0 + 64 * (0 + 8 * 0 + 64 * 0)
        omega
      · exact ls_br_c (Or.inl h3) (by omega) (ls_br_z rfl)
    · cases h
  · next h3 =>
    unfold ls_par at h
    split at h
    · next t0 =>
      split at h
      · next n0 =>
        split at h
        · next c0 =>
          rw [if_pos (by decide)] at h
          unfold ls_par at h
          split at h
          · next t1 =>
            split at h
            · next n1 =>
              split at h
              · next c1 =>
                rw [if_pos (by decide)] at h
                unfold ls_par at h
                split at h
                · next t2 =>
                  split at h
                  · next n2 =>
                    split at h
                    · next c2 => rw [if_neg (by decide)] at h; cases h
                    · split at h
                      · next d2 =>
                        split at h
                        · next e2 =>
                          injection h with h
                          injection h with h1 h
                          injection h with h2 h3'
                          subst h1 h2 h3'
                          refine ⟨3, fun i => if i = 0 then T (pos + 3) else if i = 1 then T (pos + 3 + 3) else if i = 2 then T (pos + 3 + 3 + 3) else 0, rfl, by omega, rfl, e2, ?_, fun i => ?_, fun i hi => ?_, ls_lt_split (fun _ => ⟨rfl, n0.1, rfl⟩) (fun _ => ⟨rfl, n1.1, rfl⟩) (fun _ => ⟨rfl, n2.1, rfl⟩) (by omega), fun h15 => ⟨Or.inl h15, 9, rfl, ?_⟩⟩
                          · show _ = T (pos + 1) - 54 + 16 * 3 + 64 * (T (pos + 3) + 8 * T (pos + 3 + 3) + 64 * T (pos + 3 + 3 + 3))
                            omega
                          · dsimp only; split
                            · omega
                            · split
                              · omega
                              · split <;> omega
                          · dsimp only; rw [if_neg (by omega), if_neg (by omega), if_neg (by omega)]
                          · refine ls_br_n (by have e : T (pos + 2 + 1) = T (pos + 3) := rfl; omega) (by omega) (ls_br_n ?_ (by omega) (ls_br_n ?_ (by omega) (ls_br_n ?_ (by omega) (ls_br_n ?_ (by omega) (ls_br_n ?_ (by omega) (ls_br_n ?_ (by omega) (ls_br_n ?_ (by omega) (ls_br_c ?_ (by omega) (ls_br_z rfl)))))))))
                            · have := n0.1.1; have e : T (pos + 2 + 1 + 1) = T (pos + 3 + 1) := rfl
                              omega
                            · have e : T (pos + 2 + 1 + 1 + 1) = T (pos + 3 + 2) := rfl
                              omega
                            · have e : T (pos + 2 + 1 + 1 + 1 + 1) = T (pos + 3 + 3) := rfl
                              omega
                            · have := n1.1.1; have e : T (pos + 2 + 1 + 1 + 1 + 1 + 1) = T (pos + 3 + 3 + 1) := rfl
                              omega
                            · have e : T (pos + 2 + 1 + 1 + 1 + 1 + 1 + 1) = T (pos + 3 + 3 + 2) := rfl
                              omega
                            · have e : T (pos + 2 + 1 + 1 + 1 + 1 + 1 + 1 + 1) = T (pos + 3 + 3 + 3) := rfl
                              omega
                            · have := n2.1.1; have e : T (pos + 2 + 1 + 1 + 1 + 1 + 1 + 1 + 1 + 1) = T (pos + 3 + 3 + 3 + 1) := rfl
                              omega
                            · exact Or.inl d2
                        · cases h
                      · cases h
                  · cases h
                · cases h
              · split at h
                · next d1 =>
                  split at h
                  · next e1 =>
                    injection h with h
                    injection h with h1 h
                    injection h with h2 h3'
                    subst h1 h2 h3'
                    refine ⟨2, fun i => if i = 0 then T (pos + 3) else if i = 1 then T (pos + 3 + 3) else 0, rfl, by omega, rfl, e1, ?_, fun i => ?_, fun i hi => ?_, ls_lt_split (fun _ => ⟨rfl, n0.1, rfl⟩) (fun _ => ⟨rfl, n1.1, rfl⟩) (fun q => by omega) (by omega), fun h15 => ⟨Or.inl h15, 6, rfl, ?_⟩⟩
                    · show _ = T (pos + 1) - 54 + 16 * 2 + 64 * (T (pos + 3) + 8 * T (pos + 3 + 3) + 64 * 0)
                      omega
                    · dsimp only; split
                      · omega
                      · split <;> omega
                    · dsimp only; rw [if_neg (by omega), if_neg (by omega)]
                    · refine ls_br_n (by have e : T (pos + 2 + 1) = T (pos + 3) := rfl; omega) (by omega) (ls_br_n ?_ (by omega) (ls_br_n ?_ (by omega) (ls_br_n ?_ (by omega) (ls_br_n ?_ (by omega) (ls_br_c ?_ (by omega) (ls_br_z rfl))))))
                      · have := n0.1.1; have e : T (pos + 2 + 1 + 1) = T (pos + 3 + 1) := rfl
                        omega
                      · have e : T (pos + 2 + 1 + 1 + 1) = T (pos + 3 + 2) := rfl
                        omega
                      · have e : T (pos + 2 + 1 + 1 + 1 + 1) = T (pos + 3 + 3) := rfl
                        omega
                      · have := n1.1.1; have e : T (pos + 2 + 1 + 1 + 1 + 1 + 1) = T (pos + 3 + 3 + 1) := rfl
                        omega
                      · exact Or.inl d1
                  · cases h
                · cases h
            · cases h
          · cases h
        · split at h
          · next d0 =>
            split at h
            · next e0 =>
              injection h with h
              injection h with h1 h
              injection h with h2 h3'
              subst h1 h2 h3'
              refine ⟨1, fun i => if i = 0 then T (pos + 3) else 0, rfl, by omega, rfl, e0, ?_, fun i => ?_, fun i hi => ?_, ls_lt_split (fun _ => ⟨rfl, n0.1, rfl⟩) (fun q => by omega) (fun q => by omega) (by omega), fun h15 => ⟨Or.inl h15, 3, rfl, ?_⟩⟩
              · show _ = T (pos + 1) - 54 + 16 * 1 + 64 * (T (pos + 3) + 8 * 0 + 64 * 0)
                omega
              · dsimp only; split <;> omega
              · dsimp only; rw [if_neg (by omega)]
              · refine ls_br_n (by have e : T (pos + 2 + 1) = T (pos + 3) := rfl; omega) (by omega) (ls_br_n ?_ (by omega) (ls_br_c ?_ (by omega) (ls_br_z rfl)))
                · have := n0.1.1; have e : T (pos + 2 + 1 + 1) = T (pos + 3 + 1) := rfl
                  omega
                · exact Or.inl d0
            · cases h
          · cases h
      · cases h
    · cases h
set_option maxHeartbeats 200000 in
theorem ls_sg_inj {n n' c c' : Nat} {P P' : Nat → Nat} (h1 : n < 16) (h2 : n' < 16) (h3 : c ≤ 3) (h4 : c' ≤ 3) (h5 : ∀ i, P i ≤ 5) (h6 : ∀ i, P' i ≤ 5) (h : ls_sg n c P = ls_sg n' c' P') : n = n' ∧ c = c' ∧ ∀ i, i < 3 → P i = P' i := by
  unfold ls_sg at h
  have a0 := h5 0
  have a1 := h5 1
  have a2 := h5 2
  have b0 := h6 0
  have b1 := h6 1
  have b2 := h6 2
  refine ⟨by omega, by omega, fun i hi => ?_⟩
  rcases (show i = 0 ∨ i = 1 ∨ i = 2 by omega) with q | q | q
  · subst q; omega
  · subst q; omega
  · subst q; omega
set_option maxHeartbeats 200000 in
theorem ls_sg_iff {n n' c c' : Nat} {P P' : Nat → Nat} (h1 : n < 16) (h2 : n' < 16) (h3 : c ≤ 3) (h4 : c' ≤ 3) (h5 : ∀ i, P i ≤ 5) (h6 : ∀ i, P' i ≤ 5) (h7 : ∀ i, c ≤ i → P i = 0) (h8 : ∀ i, c' ≤ i → P' i = 0) : ls_sg n c P = ls_sg n' c' P' ↔ (n = n' ∧ c = c' ∧ ∀ i, i < c' → P i = P' i) := by
  constructor
  · intro h
    obtain ⟨a, b, c⟩ := ls_sg_inj h1 h2 h3 h4 h5 h6 h
    exact ⟨a, b, fun i hi => c i (by omega)⟩
  · rintro ⟨a, b, d⟩
    have E : ∀ i, P i = P' i := fun i => by
      rcases Nat.lt_or_ge i c' with q | q
      · exact d i q
      · rw [h7 i (by omega), h8 i q]
    unfold ls_sg
    rw [a, b, E 0, E 1, E 2]
end
