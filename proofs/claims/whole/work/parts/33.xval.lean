set_option maxHeartbeats 200000 in
theorem hx_shifted {q : Int64 → Prop} {w k : Nat} {x y : Int64} (hw : w < 100) (hk : k < 100) (h32 : 32 ≤ w ∧ w ≤ 34) (hp : q (ls_shf w k x y)) : wpX_shifted q (nI w) (nI k) x y := by
  have N : ∀ a w, a < 100 → w < 100 → a ≠ w → ¬ nI a = nI w := fun a w ha hw h => mt (ls_k8 ha hw).mp h
  have E : ∀ a w, a = w → nI a = nI w := fun a w h => by rw [h]
  unfold ls_shf at hp
  dsimp only at hp
  have G : ∀ z : Int32, z = (if k = 4 then 63 else 31) → wX_shifted_15 q (nI w) (nI k) x z y.toInt32 := by
    intro z hz
    rw [← hz] at hp
    refine nm_e (nm_e ?_)
    by_cases w33 : w = 33
    · rw [if_pos w33] at hp
      exact br_t (E w 33 w33) (nm_e hp)
    rw [if_neg w33] at hp
    refine br_f (N w 33 hw (by decide) w33) ?_
    by_cases w34 : w = 34
    · rw [if_pos w34] at hp
      refine br_t (E w 34 w34) ?_
      by_cases k4 : k = 4
      · rw [if_pos k4] at hp
        exact br_t (E k 4 k4) (nm_e hp)
      · rw [if_neg k4] at hp
        exact br_f (N k 4 hk (by decide) k4) (nm_e hp)
    · rw [if_neg w34] at hp
      exact br_f (N w 34 hw (by decide) w34) hp
  by_cases k4 : k = 4
  · exact br_t (E k 4 k4) (G 63 (by rw [if_pos k4]))
  · exact br_f (N k 4 hk (by decide) k4) (G 31 (by rw [if_neg k4]))
set_option maxHeartbeats 200000 in
theorem hx_compared {q : Int32 → Prop} {w : Nat} {x y : Int64} (hw : 35 ≤ w ∧ w ≤ 40) (h1 : ls_cmp w x y → q 1) (h0 : ¬ ls_cmp w x y → q 0) : wpX_compared q (nI w) x y := by
  have N : ∀ v, v < 100 → w ≠ v → ¬ nI w = nI v := fun v hv h => mt (ls_k8 (by omega) hv).mp h
  have E : ∀ v, w = v → nI w = nI v := fun v h => by rw [h]
  unfold ls_cmp at h1 h0
  refine br_f (nI_nlt (b := 35) hw.1 (by omega)) ?_
  by_cases w40 : w = 40
  · subst w40
    refine br_t (by decide) (br_c (fun h => h0 ?_) (fun h => h1 ?_))
    · simp [h]
    · simp [h]
  refine br_f (nI_nlt (a := 39) (by omega) (by decide)) ?_
  by_cases w35 : w = 35
  · subst w35
    refine br_t rfl (br_c (fun h => h0 ?_) (fun h => h1 ?_))
    · simp only [if_true]; exact Int64.not_lt.mpr h
    · simp only [if_true]; exact Int64.not_le.mp h
  refine br_f (N 35 (by decide) w35) ?_
  by_cases w36 : w = 36
  · subst w36
    refine br_t rfl (br_c (fun h => h0 ?_) (fun h => h1 ?_))
    · simp; exact h
    · simp; exact Int64.not_lt.mp h
  refine br_f (N 36 (by decide) w36) ?_
  by_cases w37 : w = 37
  · subst w37
    refine br_t rfl (br_c (fun h => h0 ?_) (fun h => h1 ?_))
    · simp; exact h
    · simp; exact Int64.not_le.mp h
  refine br_f (N 37 (by decide) w37) ?_
  by_cases w38 : w = 38
  · subst w38
    refine br_t rfl (br_c (fun h => h0 ?_) (fun h => h1 ?_))
    · simp; exact h
    · simp; exact Int64.not_lt.mp h
  refine br_f (N 38 (by decide) w38) ?_
  have w39 : w = 39 := by omega
  subst w39
  refine br_t rfl (br_c (fun h => h1 ?_) (fun h => h0 ?_))
  · simp; exact h
  · simp; exact h
set_option maxHeartbeats 200000 in
theorem hx_computed {q : Int64 → Prop} {w k : Nat} {x y : Int64} (hw : 24 ≤ w ∧ w ≤ 40) (hk : k < 100) (hk0 : 35 ≤ w → k = 0) (hy : w = 27 ∨ w = 28 → y ≠ 0) (hp : q (ls_val w k x y)) : wpX_computed q (nI w) (nI k) x y := by
  have N : ∀ v, v < 100 → w ≠ v → ¬ nI w = nI v := fun v hv h => mt (ls_k8 (by omega) hv).mp h
  have E : ∀ v, w = v → nI w = nI v := fun v h => by rw [h]
  unfold ls_val at hp
  refine br_f (nI_nlt (b := 24) hw.1 (by omega)) ?_
  by_cases w35 : 35 ≤ w
  · have k0 := hk0 w35
    subst k0
    rw [if_neg (by omega), if_neg (by omega), if_neg (by omega), if_neg (by omega), if_neg (by omega), if_neg (by omega), if_neg (by omega), if_neg (by omega), if_neg (by omega)] at hp
    refine br_t (nI_lt (a := 34) (by omega) (by omega)) ?_
    refine hx_compared ⟨w35, by omega⟩ (fun c => br_f (by decide) ?_) (fun c => br_t rfl ?_)
    · rw [if_pos c] at hp
      exact hx_narrowed (k := 0) (by decide) hp
    · rw [if_neg c] at hp
      exact hx_narrowed (k := 0) (by decide) hp
  refine br_f (nI_nlt (a := 34) (by omega) (by decide)) ?_
  by_cases w24 : w = 24
  · rw [if_pos w24] at hp
    exact br_t (E 24 w24) (nm_e (hx_narrowed hk hp))
  rw [if_neg w24] at hp
  refine br_f (N 24 (by decide) w24) ?_
  by_cases w25 : w = 25
  · rw [if_pos w25] at hp
    exact br_t (E 25 w25) (nm_e (hx_narrowed hk hp))
  rw [if_neg w25] at hp
  refine br_f (N 25 (by decide) w25) ?_
  by_cases w26 : w = 26
  · rw [if_pos w26] at hp
    exact br_t (E 26 w26) (nm_e (hx_narrowed hk hp))
  rw [if_neg w26] at hp
  refine br_f (N 26 (by decide) w26) ?_
  by_cases w27 : w = 27
  · rw [if_pos w27] at hp
    have y0 := hy (Or.inl w27)
    exact br_t (E 27 w27) (br_f y0 ⟨y0, hx_narrowed hk hp⟩)
  rw [if_neg w27] at hp
  refine br_f (N 27 (by decide) w27) ?_
  by_cases w28 : w = 28
  · rw [if_pos w28] at hp
    have y0 := hy (Or.inr w28)
    exact br_t (E 28 w28) (br_f y0 ⟨y0, hx_narrowed hk hp⟩)
  rw [if_neg w28] at hp
  refine br_f (N 28 (by decide) w28) ?_
  by_cases w29 : w = 29
  · rw [if_pos w29] at hp
    exact br_t (E 29 w29) (nm_e (hx_narrowed hk hp))
  rw [if_neg w29] at hp
  refine br_f (N 29 (by decide) w29) ?_
  by_cases w30 : w = 30
  · rw [if_pos w30] at hp
    exact br_t (E 30 w30) (nm_e (hx_narrowed hk hp))
  rw [if_neg w30] at hp
  refine br_f (N 30 (by decide) w30) ?_
  by_cases w31 : w = 31
  · rw [if_pos w31] at hp
    exact br_t (E 31 w31) (nm_e (hx_narrowed hk hp))
  rw [if_neg w31, if_pos (by omega)] at hp
  refine br_f (N 31 (by decide) w31) ?_
  have S : wX_computed_158 q (nI w) (nI k) x y := hx_shifted (by omega) hk ⟨by omega, by omega⟩ (hx_narrowed hk hp)
  exact br_c (fun _ => S) (fun n32 => br_c (fun _ => S) (fun n33 => br_c (fun _ => S) (fun n34 => by
    have a32 : w ≠ 32 := fun e => n32 (E 32 e)
    have a33 : w ≠ 33 := fun e => n33 (E 33 e)
    have a34 : w ≠ 34 := fun e => n34 (E 34 e)
    omega)))
set_option maxHeartbeats 200000 in
theorem hx_binaryKind {q : Int32 → Prop} {w a b : Nat} (hw : 24 ≤ w ∧ w ≤ 40) (ha : a < 100) (hb : b < 100) (h1 : ∀ k, ls_bk w a b = some k → q (nI k)) (h0 : ls_bk w a b = none → q (-1)) : wpX_binaryKind q (nI w) (nI a) (nI b) := by
  have N : ∀ a v, a < 100 → v < 100 → a ≠ v → ¬ nI a = nI v := fun a v ha hv h => mt (ls_k8 ha hv).mp h
  have E : ∀ a v, a = v → nI a = nI v := fun a v h => by rw [h]
  -- the answer: numeric x3, logical x4, bits x5, equality x6, kind x9
  have R146 : ∀ x3 x4 x5 x6 kd : Nat, x3 = (if a ≠ 0 ∧ b ≠ 0 then 1 else 0) → x4 = (if a = 0 ∧ b = 0 then 1 else 0) → x5 = (if 29 ≤ w ∧ w ≤ 31 then 1 else 0) → x6 = (if w = 39 ∨ w = 40 then 1 else 0) →
      (a ≠ 0 ∧ b ≠ 0 → kd = (if 35 ≤ w then 0 else if a = 4 ∨ (b = 4 ∧ w < 32) then 4 else 3)) → (a = 0 ∧ b = 0 → kd = 0) → wX_binaryKind_146 q (nI x3) (nI x4) (nI x5) (nI x6) (nI kd) := by
    intro x3 x4 x5 x6 kd e3 e4 e5 e6 k1 k2
    unfold ls_bk at h1 h0
    by_cases n : a ≠ 0 ∧ b ≠ 0
    · rw [if_pos n] at e3 h1
      have k1 := k1 n
      subst e3 k1
      exact br_f (by decide) (h1 _ rfl)
    · rw [if_neg n] at e3 h1 h0
      subst e3
      refine br_t rfl ?_
      by_cases l : a = 0 ∧ b = 0
      · rw [if_pos l] at e4
        have k2 := k2 l
        subst e4 k2
        refine br_f (by decide) ?_
        by_cases b5 : 29 ≤ w ∧ w ≤ 31
        · rw [if_pos b5] at e5
          subst e5
          exact br_f (by decide) (h1 0 (if_pos ⟨l.1, l.2, Or.inl b5⟩))
        · rw [if_neg b5] at e5
          subst e5
          refine br_t rfl ?_
          by_cases b6 : w = 39 ∨ w = 40
          · rw [if_pos b6] at e6
            subst e6
            exact br_f (by decide) (h1 0 (if_pos ⟨l.1, l.2, Or.inr (by omega)⟩))
          · rw [if_neg b6] at e6
            subst e6
            exact br_t rfl (h0 (if_neg (fun h => by omega)))
      · rw [if_neg l] at e4
        subst e4
        exact br_t rfl (h0 (if_neg (fun h => l ⟨h.1, h.2.1⟩)))
  have R131 : ∀ x3 x4 x5 x6 x8 kd : Nat, x3 = (if a ≠ 0 ∧ b ≠ 0 then 1 else 0) → x4 = (if a = 0 ∧ b = 0 then 1 else 0) → x5 = (if 29 ≤ w ∧ w ≤ 31 then 1 else 0) → x6 = (if w = 39 ∨ w = 40 then 1 else 0) → x8 = (if 35 ≤ w then 1 else 0) → kd = (if a = 4 ∨ (b = 4 ∧ w < 32) ∨ (b = 4 ∧ 34 < w) then 4 else 3) → wX_binaryKind_131 q (nI x3) (nI x4) (nI x5) (nI x6) (nI x8) (nI kd) := by
    intro x3 x4 x5 x6 x8 kd e3 e4 e5 e6 e8 ek
    by_cases c : 35 ≤ w
    · rw [if_pos c] at e8
      subst e8
      exact br_f (by decide) (R146 x3 x4 x5 x6 0 e3 e4 e5 e6 (fun _ => by rw [if_pos c]) (fun _ => rfl))
    · rw [if_neg c] at e8
      subst e8
      refine br_t rfl ?_
      by_cases l : a = 0 ∧ b = 0
      · have e4' := e4
        rw [if_pos l] at e4'
        refine br_f (by rw [e4']; decide) (R146 x3 x4 x5 x6 0 e3 e4 e5 e6 (fun h => absurd l.1 h.1) (fun _ => rfl))
      · have e4' := e4
        rw [if_neg l] at e4'
        refine br_t (by rw [e4']; rfl) (R146 x3 x4 x5 x6 kd e3 e4 e5 e6 (fun _ => ?_) (fun h => absurd h l))
        rw [if_neg c, ek]
        by_cases z : a = 4 ∨ (b = 4 ∧ w < 32)
        · rw [if_pos z, if_pos (by omega)]
        · rw [if_neg z, if_neg (by omega)]
  have R109 : ∀ x3 x4 x5 x6 x7 x8 : Nat, x3 = (if a ≠ 0 ∧ b ≠ 0 then 1 else 0) → x4 = (if a = 0 ∧ b = 0 then 1 else 0) → x5 = (if 29 ≤ w ∧ w ≤ 31 then 1 else 0) → x6 = (if w = 39 ∨ w = 40 then 1 else 0) → x7 = (if 32 ≤ w ∧ w ≤ 34 then 1 else 0) → x8 = (if 35 ≤ w then 1 else 0) → wX_binaryKind_109 q (nI a) (nI b) (nI x3) (nI x4) (nI x5) (nI x6) (nI x7) (nI x8) := by
    intro x3 x4 x5 x6 x7 x8 e3 e4 e5 e6 e7 e8
    by_cases a4 : a = 4
    · exact br_t (E a 4 a4) (R131 x3 x4 x5 x6 x8 4 e3 e4 e5 e6 e8 (by rw [if_pos (Or.inl a4)]))
    · refine br_f (N a 4 ha (by decide) a4) ?_
      by_cases b4 : b = 4
      · refine br_t (E b 4 b4) ?_
        by_cases s : 32 ≤ w ∧ w ≤ 34
        · rw [if_pos s] at e7
          subst e7
          exact br_f (by decide) (R131 x3 x4 x5 x6 x8 3 e3 e4 e5 e6 e8 (by rw [if_neg (by omega)]))
        · rw [if_neg s] at e7
          subst e7
          exact br_t rfl (R131 x3 x4 x5 x6 x8 4 e3 e4 e5 e6 e8 (by rw [if_pos (by omega)]))
      · exact br_f (N b 4 hb (by decide) b4) (R131 x3 x4 x5 x6 x8 3 e3 e4 e5 e6 e8 (by rw [if_neg (by omega)]))
  have R90 : ∀ x3 x4 x5 x6 x7 : Nat, x3 = (if a ≠ 0 ∧ b ≠ 0 then 1 else 0) → x4 = (if a = 0 ∧ b = 0 then 1 else 0) → x5 = (if 29 ≤ w ∧ w ≤ 31 then 1 else 0) → x6 = (if w = 39 ∨ w = 40 then 1 else 0) → x7 = (if 32 ≤ w ∧ w ≤ 34 then 1 else 0) → wX_binaryKind_90 q (nI w) (nI a) (nI b) (nI x3) (nI x4) (nI x5) (nI x6) (nI x7) := by
    intro x3 x4 x5 x6 x7 e3 e4 e5 e6 e7
    by_cases c : 35 ≤ w
    · exact br_f (nI_nlt (b := 35) c (by omega)) (br_f (nI_nlt (a := 40) (by omega) (by decide)) (R109 x3 x4 x5 x6 x7 1 e3 e4 e5 e6 e7 (by rw [if_pos c])))
    · exact br_t (nI_lt (b := 35) (by omega) (by decide)) (R109 x3 x4 x5 x6 x7 0 e3 e4 e5 e6 e7 (by rw [if_neg c]))
  have R71 : ∀ x3 x4 x5 x6 : Nat, x3 = (if a ≠ 0 ∧ b ≠ 0 then 1 else 0) → x4 = (if a = 0 ∧ b = 0 then 1 else 0) → x5 = (if 29 ≤ w ∧ w ≤ 31 then 1 else 0) → x6 = (if w = 39 ∨ w = 40 then 1 else 0) → wX_binaryKind_71 q (nI w) (nI a) (nI b) (nI x3) (nI x4) (nI x5) (nI x6) := by
    intro x3 x4 x5 x6 e3 e4 e5 e6
    by_cases c : w < 32
    · exact br_t (nI_lt (b := 32) c (by decide)) (R90 x3 x4 x5 x6 0 e3 e4 e5 e6 (by rw [if_neg (by omega)]))
    · refine br_f (nI_nlt (b := 32) (by omega) (by omega)) ?_
      by_cases d : 34 < w
      · exact br_t (nI_lt (a := 34) d (by omega)) (R90 x3 x4 x5 x6 0 e3 e4 e5 e6 (by rw [if_neg (by omega)]))
      · exact br_f (nI_nlt (a := 34) (by omega) (by decide)) (R90 x3 x4 x5 x6 1 e3 e4 e5 e6 (by rw [if_pos (by omega)]))
  have R52 : ∀ x3 x4 x5 : Nat, x3 = (if a ≠ 0 ∧ b ≠ 0 then 1 else 0) → x4 = (if a = 0 ∧ b = 0 then 1 else 0) → x5 = (if 29 ≤ w ∧ w ≤ 31 then 1 else 0) → wX_binaryKind_52 q (nI w) (nI a) (nI b) (nI x3) (nI x4) (nI x5) := by
    intro x3 x4 x5 e3 e4 e5
    by_cases c : w = 39
    · exact br_t (E w 39 c) (R71 x3 x4 x5 1 e3 e4 e5 (by rw [if_pos (Or.inl c)]))
    · refine br_f (N w 39 (by omega) (by decide) c) ?_
      by_cases d : w = 40
      · exact br_t (E w 40 d) (R71 x3 x4 x5 1 e3 e4 e5 (by rw [if_pos (Or.inr d)]))
      · exact br_f (N w 40 (by omega) (by decide) d) (R71 x3 x4 x5 0 e3 e4 e5 (by rw [if_neg (by omega)]))
  have R27 : ∀ x3 x4 : Nat, x3 = (if a ≠ 0 ∧ b ≠ 0 then 1 else 0) → x4 = (if a = 0 ∧ b = 0 then 1 else 0) → wX_binaryKind_27 q (nI w) (nI a) (nI b) (nI x3) (nI x4) := by
    intro x3 x4 e3 e4
    by_cases c : w = 29
    · exact br_t (E w 29 c) (R52 x3 x4 1 e3 e4 (by rw [if_pos (by omega)]))
    refine br_f (N w 29 (by omega) (by decide) c) ?_
    by_cases d : w = 30
    · exact br_t (E w 30 d) (R52 x3 x4 1 e3 e4 (by rw [if_pos (by omega)]))
    refine br_f (N w 30 (by omega) (by decide) d) ?_
    by_cases f : w = 31
    · exact br_t (E w 31 f) (R52 x3 x4 1 e3 e4 (by rw [if_pos (by omega)]))
    · exact br_f (N w 31 (by omega) (by decide) f) (R52 x3 x4 0 e3 e4 (by rw [if_neg (by omega)]))
  by_cases a0 : a = 0
  · refine br_t (E a 0 a0) (br_t (E a 0 a0) ?_)
    by_cases b0 : b = 0
    · exact br_t (E b 0 b0) (R27 0 1 (by rw [if_neg (fun h => h.1 a0)]) (by rw [if_pos ⟨a0, b0⟩]))
    · exact br_f (N b 0 hb (by decide) b0) (R27 0 0 (by rw [if_neg (fun h => h.1 a0)]) (by rw [if_neg (fun h => b0 h.2)]))
  · refine br_f (N a 0 ha (by decide) a0) ?_
    by_cases b0 : b = 0
    · refine br_t (E b 0 b0) (br_f (N a 0 ha (by decide) a0) (R27 0 0 (by rw [if_neg (fun h => h.2 b0)]) (by rw [if_neg (fun h => a0 h.1)])))
    · exact br_f (N b 0 hb (by decide) b0) (br_f (N a 0 ha (by decide) a0) (R27 1 0 (by rw [if_pos ⟨a0, b0⟩]) (by rw [if_neg (fun h => a0 h.1)])))
