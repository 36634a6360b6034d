/-! What lies ahead of a configuration: the end of an operand -/
/-- open brackets among the pending parts -/
def ls_dp : List LsP → Nat
  | [] => 0
  | e :: r => (if e.1 ≤ 1 then 1 else 0) + ls_dp r
/-- the tokens from p to q: brackets from depth d to 0, none that ends an operand of level s -/
def ls_sp (T : Nat → Nat) (s : Nat) : Nat → Nat → Nat → Nat → Prop
  | 0, p, d, q => p = q ∧ d = 0
  | j + 1, p, d, q => (T p ≠ 17 ∧ T p ≠ 18 ∧ T p ≠ 20) ∧ (d = 0 → T p ≠ 16 ∧ T p ≠ 19 ∧ (ls_lv (T p) ≤ 2 ∨ s < ls_lv (T p))) ∧ ls_sp T s j (p + 1) (if T p = 15 then d + 1 else if T p = 16 then d - 1 else d) q
section
variable {T : Nat → Nat} {V : Nat → Int32} {n : Nat} {C : Nat → LsC} {N : Nat} {kF : LsK} {t st pos es : Nat} {pe : List LsP} {fr : List LsF} {L : List Nat} {k : LsK} {s j p d q : Nat}
set_option maxHeartbeats 200000 in
theorem ls_sp_n (h : T p ≠ 15 ∧ T p ≠ 16 ∧ T p ≠ 17 ∧ T p ≠ 18 ∧ T p ≠ 19 ∧ T p ≠ 20) (hl : ls_lv (T p) ≤ 2 ∨ s < ls_lv (T p)) (g : ls_sp T s j (p + 1) d q) : ls_sp T s (j + 1) p d q := by
  refine ⟨⟨h.2.2.1, h.2.2.2.1, h.2.2.2.2.2⟩, fun _ => ⟨h.2.1, h.2.2.2.2.1, hl⟩, ?_⟩
  rw [if_neg h.1, if_neg h.2.1]; exact g
set_option maxHeartbeats 200000 in
theorem ls_sp_o (h : T p = 15) (g : ls_sp T s j (p + 1) (d + 1) q) : ls_sp T s (j + 1) p d q := by
  have lc := ls_lv_c (T p)
  refine ⟨⟨by omega, by omega, by omega⟩, fun _ => ⟨by omega, by omega, Or.inl (by omega)⟩, ?_⟩
  rw [if_pos h]; exact g
set_option maxHeartbeats 200000 in
theorem ls_sp_c (h : T p = 16) (g : ls_sp T s j (p + 1) d q) : ls_sp T s (j + 1) p (d + 1) q := by
  refine ⟨⟨by omega, by omega, by omega⟩, fun h => by omega, ?_⟩
  rw [if_neg (by omega), if_pos h]; exact g
set_option maxHeartbeats 200000 in
theorem ls_sp_x (h : T p ≠ 15 ∧ T p ≠ 16 ∧ T p ≠ 17 ∧ T p ≠ 18 ∧ T p ≠ 20) (g : ls_sp T s j (p + 1) (d + 1) q) : ls_sp T s (j + 1) p (d + 1) q := by
  refine ⟨⟨h.2.2.1, h.2.2.2.1, h.2.2.2.2⟩, fun h => by omega, ?_⟩
  rw [if_neg h.1, if_neg h.2.1]; exact g
set_option maxHeartbeats 200000 in
theorem ls_dp_0 {e : LsP} (h : 2 ≤ e.1) : ls_dp (e :: pe) = ls_dp pe := by
  show (if e.1 ≤ 1 then 1 else 0) + ls_dp pe = _
  rw [if_neg (by omega)]; omega
set_option maxHeartbeats 200000 in
theorem ls_dp_1 {e : LsP} (h : e.1 ≤ 1) : ls_dp (e :: pe) = ls_dp pe + 1 := by
  show (if e.1 ≤ 1 then 1 else 0) + ls_dp pe = _
  rw [if_pos h]; omega
set_option maxHeartbeats 200000 in
theorem ls_ch_top {e : LsP} {P : List LsP} (he : 2 < e.1) : ∀ {pre : List LsP} {x : LsP}, ls_ch T L ((x :: pre) ++ e :: P) → ls_dp (x :: pre) = 0 → e.1 < 13 → e.1 < x.1
  | [], x, h, hd, h13 => by
    obtain ⟨h1, _, _⟩ := h
    have h1' : (2 < x.1 → x.1 ≠ 13 → e.1 < x.1) ∧ (x.1 = 2 → e.1 ≤ 2) := h1
    by_cases q : x.1 ≤ 1
    · rw [ls_dp_1 q] at hd; omega
    · by_cases q2 : x.1 = 2
      · have := h1'.2 q2; omega
      · by_cases q3 : x.1 = 13
        · omega
        · exact h1'.1 (by omega) q3
  | y :: pre, x, h, hd, h13 => by
    obtain ⟨h1, _, h3⟩ := h
    have h1' : (2 < x.1 → x.1 ≠ 13 → y.1 < x.1) ∧ (x.1 = 2 → y.1 ≤ 2) := h1
    by_cases q : x.1 ≤ 1
    · rw [ls_dp_1 q] at hd; omega
    · rw [ls_dp_0 (by omega)] at hd
      have ih := ls_ch_top he (pre := pre) (x := y) h3 hd h13
      by_cases q2 : x.1 = 2
      · have := h1'.2 q2; omega
      · by_cases q3 : x.1 = 13
        · omega
        · have := h1'.1 (by omega) q3; omega
set_option maxHeartbeats 1000000 in
/-- the operand that is being read ends: all of pre is reduced, at a token that binds no tighter than s -/
theorem ls_pex (h : ls_tl T V n C N kF) {P : List LsP} (hs : (P = [] ∧ s = 2) ∨ (∃ e P', P = e :: P' ∧ e.1 = s ∧ (s = 3 ∨ s = 4))) : ∀ (m t st pos : Nat) (pre : List LsP) (k : LsK), N - t ≤ m → t ≤ N → (st = 4 ∨ st = 5) → C t = (st, pos, es, pre ++ P, fr, L, k) →
    ∃ t' q k' j, t ≤ t' ∧ t' < N ∧ C t' = (5, q, es, P, fr, L, k') ∧ ls_lv (T q) ≤ s ∧ pos ≤ q ∧ ls_sp T s j pos (ls_dp pre) q ∧ (∀ u, t ≤ u → u ≤ t' → (C u).2.2.2.2.1 = fr ∧ ((C u).1 = 4 ∨ (C u).1 = 5) ∧ ∃ pr, (C u).2.2.2.1 = pr ++ P) := by
  intro m
  induction m with
  | zero =>
    intro t st pos pre k hm ht hst e
    have := ls_tl_lt h ht e (by omega)
    omega
  | succ m ih =>
    intro t st pos pre k hm ht hst e
    have NOW : (C t).2.2.2.2.1 = fr ∧ ((C t).1 = 4 ∨ (C t).1 = 5) ∧ ∃ pr, (C t).2.2.2.1 = pr ++ P := by rw [e]; exact ⟨rfl, hst, pre, rfl⟩
    -- one step further
    have GO : ∀ st' pos' pre' k', t < N → (st' = 4 ∨ st' = 5) → C (t + 1) = (st', pos', es, pre' ++ P, fr, L, k') → pos ≤ pos' → (∀ j q, ls_sp T s j pos' (ls_dp pre') q → ∃ j', ls_sp T s j' pos (ls_dp pre) q) →
        ∃ t' q k' j, t ≤ t' ∧ t' < N ∧ C t' = (5, q, es, P, fr, L, k') ∧ ls_lv (T q) ≤ s ∧ pos ≤ q ∧ ls_sp T s j pos (ls_dp pre) q ∧ (∀ u, t ≤ u → u ≤ t' → (C u).2.2.2.2.1 = fr ∧ ((C u).1 = 4 ∨ (C u).1 = 5) ∧ ∃ pr, (C u).2.2.2.1 = pr ++ P) := by
      intro st' pos' pre' k' lt hst' e' hp hsp
      obtain ⟨t', q, k2, j, a1, a2, a3, a4, a5, a6, a7⟩ := ih (t + 1) st' pos' pre' k' (by omega) (by omega) hst' e'
      obtain ⟨j', b⟩ := hsp j q a6
      refine ⟨t', q, k2, j', by omega, a2, a3, a4, by omega, b, fun u u1 u2 => ?_⟩
      by_cases ue : u = t
      · subst ue; exact NOW
      · exact a7 u (by omega) u2
    rcases hst with rfl | rfl
    · -- an operand is due
      obtain ⟨lt, s4⟩ := ls_tl4 h ht e
      unfold ls_r4 ls_flt at s4
      dsimp only at s4
      have lc := ls_lv_c (T pos)
      split at s4
      · next nm =>
        have lc1 := ls_lv_c (T (pos + 1))
        split at s4
        · next t15 =>
          split at s4
          · next t16 =>
            injection s4 with s4
            exact GO 5 _ pre _ lt (Or.inr rfl) s4.symm (by omega) (fun j q g => ⟨j + 3, ls_sp_n (by omega) (by omega) (ls_sp_o t15 (ls_sp_c t16 g))⟩)
          · injection s4 with s4
            exact GO 4 _ ((0, pos, 1) :: pre) _ lt (Or.inl rfl) s4.symm (by omega) (fun j q g => ⟨j + 2, ls_sp_n (by omega) (by omega) (ls_sp_o t15 (by rw [ls_dp_1 (by show 0 ≤ 1; decide)] at g; exact g))⟩)
        · split at s4
          · next sa =>
            obtain ⟨_, s2⟩ := sa
            have s2' : T (pos + 1) = 21 ∨ (43 ≤ T (pos + 1) ∧ T (pos + 1) ≤ 53) := s2
            have K : ∀ j q, ls_sp T s j (pos + 2) (ls_dp ((2, pos + 1, ls_addr L (T pos - 54)) :: pre)) q → ∃ j', ls_sp T s j' pos (ls_dp pre) q := fun j q g => ⟨j + 2, ls_sp_n (by omega) (by omega) (ls_sp_n (by omega) (by omega) (by rw [ls_dp_0 (by show 2 ≤ 2; decide)] at g; exact g))⟩
            split at s4
            · injection s4 with s4
              exact GO 4 _ ((2, pos + 1, ls_addr L (T pos - 54)) :: pre) _ lt (Or.inl rfl) s4.symm (by omega) K
            · injection s4 with s4
              exact GO 4 _ ((2, pos + 1, ls_addr L (T pos - 54)) :: pre) _ lt (Or.inl rfl) s4.symm (by omega) K
          · injection s4 with s4
            exact GO 5 _ pre _ lt (Or.inr rfl) s4.symm (by omega) (fun j q g => ⟨j + 1, ls_sp_n (by omega) (by omega) g⟩)
      split at s4
      · injection s4 with s4
        exact GO 5 _ pre _ lt (Or.inr rfl) s4.symm (by omega) (fun j q g => ⟨j + 1, ls_sp_n (by omega) (by omega) g⟩)
      split at s4
      · injection s4 with s4
        exact GO 5 _ pre _ lt (Or.inr rfl) s4.symm (by omega) (fun j q g => ⟨j + 1, ls_sp_n (by omega) (by omega) g⟩)
      split at s4
      · injection s4 with s4
        exact GO 5 _ pre _ lt (Or.inr rfl) s4.symm (by omega) (fun j q g => ⟨j + 1, ls_sp_n (by omega) (by omega) g⟩)
      split at s4
      · injection s4 with s4
        exact GO 5 _ pre _ lt (Or.inr rfl) s4.symm (by omega) (fun j q g => ⟨j + 1, ls_sp_n (by omega) (by omega) g⟩)
      split at s4
      · next t15 =>
        split at s4
        · next t5 =>
          split at s4
          · next t16 =>
            injection s4 with s4
            exact GO 4 _ ((13, pos, T (pos + 1)) :: pre) _ lt (Or.inl rfl) s4.symm (by omega) (fun j q g => ⟨j + 3, ls_sp_o t15 (ls_sp_x (by omega) (ls_sp_c t16 (by rw [ls_dp_0 (by show 2 ≤ 13; decide)] at g; exact g)))⟩)
          · cases s4
        · split at s4
          · cases s4
          · injection s4 with s4
            exact GO 4 _ ((1, pos, 0) :: pre) _ lt (Or.inl rfl) s4.symm (by omega) (fun j q g => ⟨j + 1, ls_sp_o t15 (by rw [ls_dp_1 (by show 1 ≤ 1; decide)] at g; exact g)⟩)
      split at s4
      · next tu =>
        injection s4 with s4
        have s34 : s ≤ 4 := by
          rcases hs with ⟨_, h2⟩ | ⟨_, _, _, _, h2⟩ <;> omega
        have lu : ls_lv (T pos) ≤ 2 ∨ s < ls_lv (T pos) := by
          rcases (show T pos = 22 ∨ T pos = 23 ∨ T pos = 24 ∨ T pos = 25 by omega) with q | q | q | q
          · omega
          · omega
          · right; rw [q]; show s < 11; omega
          · right; rw [q]; show s < 11; omega
        exact GO 4 _ ((13, pos, 0) :: pre) _ lt (Or.inl rfl) s4.symm (by omega) (fun j q g => ⟨j + 1, ls_sp_n (by omega) lu (by rw [ls_dp_0 (by show 2 ≤ 13; decide)] at g; exact g)⟩)
      · cases s4
    · -- after an operand
      obtain ⟨lt, s5⟩ := ls_tl5 h ht e
      have lc := ls_lv_c (T pos)
      have ch : ls_ch T L (pre ++ P) := by
        have := (h.2.2.2.2 t ht).2.2.2.1
        rw [e] at this
        exact (this (Or.inr rfl)).1
      cases pre with
      | nil =>
        by_cases q : ls_lv (T pos) ≤ s
        · refine ⟨t, pos, k, 0, Nat.le_refl _, lt, e, q, Nat.le_refl _, ⟨rfl, rfl⟩, fun u u1 u2 => ?_⟩
          have : u = t := by omega
          subst this; exact NOW
        · rcases hs with ⟨rfl, h2⟩ | ⟨e0, P', rfl, h2, h3⟩
          · unfold ls_r5 at s5
            dsimp only [List.nil_append] at s5
            rw [if_pos (by omega)] at s5
            injection s5 with s5
            exact GO 4 _ [(ls_lv (T pos), pos, k.1)] _ lt (Or.inl rfl) s5.symm (by omega) (fun j q g => ⟨j + 1, ls_sp_n (by omega) (by omega) (by rw [ls_dp_0 (by show 2 ≤ ls_lv (T pos); omega)] at g; exact g)⟩)
          · obtain ⟨a, b, c0⟩ := e0
            dsimp only at h2
            unfold ls_r5 at s5
            dsimp only [List.nil_append] at s5
            rw [if_neg (by omega), if_pos (by omega)] at s5
            injection s5 with s5
            exact GO 4 _ [(ls_lv (T pos), pos, k.1)] _ lt (Or.inl rfl) s5.symm (by omega) (fun j q g => ⟨j + 1, ls_sp_n (by omega) (by omega) (by rw [ls_dp_0 (by show 2 ≤ ls_lv (T pos); omega)] at g; exact g)⟩)
      | cons x pre =>
        obtain ⟨lv, pl, mo⟩ := x
        unfold ls_r5 ls_flt at s5
        dsimp only [List.cons_append] at s5
        split at s5
        · next le =>
          injection s5 with s5
          exact GO 5 _ pre _ lt (Or.inr rfl) s5.symm (by omega) (fun j q g => ⟨j, by rw [ls_dp_0 (by show 2 ≤ lv; omega)]; exact g⟩)
        split at s5
        · next g1 g2 =>
          injection s5 with s5
          refine GO 4 _ ((ls_lv (T pos), pos, k.1) :: (lv, pl, mo) :: pre) _ lt (Or.inl rfl) s5.symm (by omega) (fun j q g => ⟨j + 1, ?_⟩)
          rw [ls_dp_0 (by show 2 ≤ ls_lv (T pos); omega)] at g
          by_cases d0 : ls_dp ((lv, pl, mo) :: pre) = 0
          · refine ls_sp_n (by omega) (Or.inr ?_) g
            rcases hs with ⟨_, h2⟩ | ⟨e0, P', rfl, h2, h3⟩
            · omega
            · have := ls_ch_top (T := T) (L := L) (e := e0) (P := P') (by omega) (pre := pre) (x := (lv, pl, mo)) ch d0 (by omega)
              dsimp only at this
              omega
          · obtain ⟨d1, hd1⟩ : ∃ d1, ls_dp ((lv, pl, mo) :: pre) = d1 + 1 := ⟨ls_dp ((lv, pl, mo) :: pre) - 1, by omega⟩
            rw [hd1] at g ⊢
            exact ls_sp_x (by omega) g
        split at s5
        · next t16 =>
          have l1 : lv ≤ 1 := by omega
          have K : ∀ j q, ls_sp T s j (pos + 1) (ls_dp pre) q → ∃ j', ls_sp T s j' pos (ls_dp ((lv, pl, mo) :: pre)) q := fun j q g => ⟨j + 1, by rw [ls_dp_1 (by show lv ≤ 1; omega)]; exact ls_sp_c t16 g⟩
          split at s5
          · injection s5 with s5
            exact GO 5 _ pre _ lt (Or.inr rfl) s5.symm (by omega) K
          · injection s5 with s5
            exact GO 5 _ pre _ lt (Or.inr rfl) s5.symm (by omega) K
        split at s5
        · next q19 =>
          obtain ⟨t19, l0⟩ := q19
          split at s5
          · injection s5 with s5
            refine GO 4 _ ((lv, pl, mo + 1) :: pre) _ lt (Or.inl rfl) s5.symm (by omega) (fun j q g => ⟨j + 1, ?_⟩)
            rw [ls_dp_1 (by show lv ≤ 1; omega)] at g ⊢
            exact ls_sp_x (by omega) g
          · cases s5
        · cases s5
end
