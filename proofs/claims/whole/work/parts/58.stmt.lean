/-! Statements: how the lists change -/
section
variable {T : Nat → Nat} {V : Nat → Int32} {C : Nat → LsC} {kF : LsK} {n N d e ta tz : Nat} {yn : Nat} {cr mk D D' : Nat → Int32} {co ca ck cp tk : Nat → Int32} {tv : Nat → Int64} {tp : Nat → Int32}
variable {t t' st pos es : Nat} {pe : List LsP} {fr r : List LsF} {L L' : List Nat} {k : LsK} {as : List LsA} {Ls : List (List Nat)} {xs ys x1 y1 x0 y0 : List LsV} {os cs o0 c0 : List LsP}
set_option maxHeartbeats 200000 in
theorem ls_UK_to2 (h : ls_tl T V n C N kF) (hK : ls_UK (T, V, C, kF, n, N, d, e, ta, tz) as yn (ls_mkd r)) (ht : t ≤ tz) (hN : t' ≤ N) (hu : ∀ u, t ≤ u → u ≤ t' → r.length ≤ ((C u).2.2.2.2.1).length) : t' ≤ tz := by
  by_cases g : as = []
  · obtain ⟨⟨_, _, _, q4, _⟩, _⟩ := hK.1 g
    omega
  · apply Decidable.byContradiction
    intro q
    obtain ⟨q, mo, pb, es', L', k', k1, _, _, _, k5, _⟩ := hK.2 g
    have := hu (tz + 1) (by omega) (by omega)
    have st := (h.2.1 tz (by omega)).2
    rw [k5] at st
    have st' : ls_r3 T (C tz).2.1 es' [] [(2, mo, pb, [q])] L' k' = .ok (C (tz + 1)) := st
    unfold ls_r3 at st'
    dsimp only at st'
    rw [if_neg (by decide), if_neg (by decide), if_neg (by decide), if_pos rfl] at st'
    injection st' with st'
    rw [← st'] at this
    cases r with
    | nil => cases k1
    | cons f r => exact absurd this (by simp)
set_option maxHeartbeats 200000 in
/-- to another time, where the frames are some of those that stood -/
theorem ls_cu_go {st' pos' es' : Nat} {k' : LsK} {fr' : List LsF} {cs' : List LsP} (h1 : ls_UA co ca ck cp tk tv tp (T, V, C, kF, n, N, d, e, ta, tz)) (h2 : ls_UK (T, V, C, kF, n, N, d, e, ta, tz) as yn (ls_mkd fr)) (hm : ls_mkd fr' = ls_mkd fr) (h3 : ta ≤ t' ∧ t' ≤ tz) (h4 : C t' = (st', pos', es', [], fr', L', k')) (hs : ¬ (st' = 4 ∨ st' = 5)) (hu : ∀ u, t ≤ u → u ≤ t' → fr'.length ≤ ((C u).2.2.2.2.1).length) (hu' : ∀ u, t' ≤ u → u ≤ t → fr'.length ≤ ((C u).2.2.2.2.1).length) (h8 : ls_ct (ls_sl Ls) e (ls_lp C ta tz t) c0 fr' L' cs') (h9 : ls_sus yn cr mk D (ls_UA co ca ck cp tk tv tp) as (ls_mkd fr) Ls xs ys os c0) : ls_cu yn cr mk D (ls_UA co ca ck cp tk tv tp) (T, V, C, kF, n, N, d, e, ta, tz) t' as (st', pos', es', [], fr', L', k') Ls xs ys os cs' := by
  have U := h1
  obtain ⟨g1, _, g3, _⟩ := h1
  exact ls_cu_sm U (by rw [hm]; exact h2) h3 h4 hs (ls_ct_go g1 g3.2 hu hu' h8) (by rw [hm]; exact h9)
set_option maxHeartbeats 200000 in
/-- a step that keeps the frames -/
theorem ls_cu_nx {st' pos' es' : Nat} {k' : LsK} (h : ls_cu yn cr mk D (ls_UA co ca ck cp tk tv tp) (T, V, C, kF, n, N, d, e, ta, tz) t as (st, pos, es, [], fr, L, k) Ls xs ys os cs) (hs : st < 4) (h3 : ¬ (st = 3 ∧ ls_fk fr = 2)) (hs' : ¬ (st' = 4 ∨ st' = 5)) (hc : C (t + 1) = (st', pos', es', [], fr, L, k')) : ls_cu yn cr mk D (ls_UA co ca ck cp tk tv tp) (T, V, C, kF, n, N, d, e, ta, tz) (t + 1) as (st', pos', es', [], fr, L, k') Ls xs ys os cs := by
  obtain ⟨a1, a2, a3, a4, c0, a5, a6⟩ := ls_cu_s h (by omega)
  have U := a1
  obtain ⟨g1, _, g3, _⟩ := a1
  have lt := ls_UK_lt a2 g3.2 g1 a3.2 a4 (by omega) h3
  refine ls_cu_go (t := t) U a2 rfl ⟨by omega, by omega⟩ hc hs' (ls_u2 (P := fun c => fr.length ≤ c.2.2.2.2.1.length) (by rw [a4]; exact Nat.le_refl _) (by rw [hc]; exact Nat.le_refl _)) (fun u u1 u2 => by omega) a5 a6
set_option maxHeartbeats 200000 in
/-- a frame goes that the reference has no entry for -/
theorem ls_cu_pop {st' pos' es' : Nat} {k' : LsK} {f : LsF} (h : ls_cu yn cr mk D (ls_UA co ca ck cp tk tv tp) (T, V, C, kF, n, N, d, e, ta, tz) t as (st, pos, es, [], f :: r, L, k) Ls xs ys os cs) (hs : st < 4) (hf : f.1 = 3 ∨ f.1 = 4) (hs' : ¬ (st' = 4 ∨ st' = 5)) (hc : C (t + 1) = (st', pos', es', [], r, L, k')) : ls_cu yn cr mk D (ls_UA co ca ck cp tk tv tp) (T, V, C, kF, n, N, d, e, ta, tz) (t + 1) as (st', pos', es', [], r, L, k') Ls xs ys os cs := by
  obtain ⟨a1, a2, a3, a4, c0, a5, a6⟩ := ls_cu_s h (by omega)
  have U := a1
  obtain ⟨g1, _, g3, _⟩ := a1
  have lt := ls_UK_lt a2 g3.2 g1 a3.2 a4 (by omega) (fun q => by have : f.1 = 2 := q.2; omega)
  refine ls_cu_go (t := t) U a2 (ls_mkd_c (by omega)).symm ⟨by omega, by omega⟩ hc hs' (ls_u2 (P := fun c => r.length ≤ c.2.2.2.2.1.length) (by rw [a4]; exact Nat.le_succ _) (by rw [hc]; exact Nat.le_refl _)) (fun u u1 u2 => by omega) ((ls_ct_x (by omega) (by omega)).mp a5) a6
set_option maxHeartbeats 200000 in
/-- a block begins -/
theorem ls_cu_blk {pos' es' : Nat} {k' : LsK} (h : ls_cu yn cr mk D (ls_UA co ca ck cp tk tv tp) (T, V, C, kF, n, N, d, e, ta, tz) t as (1, pos, es, [], fr, L, k) Ls xs ys os cs) (hc : C (t + 1) = (0, pos', es', [], (1, L.length, pos, L) :: fr, L, k')) : ls_cu yn cr mk D (ls_UA co ca ck cp tk tv tp) (T, V, C, kF, n, N, d, e, ta, tz) (t + 1) as (0, pos', es', [], (1, L.length, pos, L) :: fr, L, k') Ls xs ys os ((1, ls_sl Ls + L.length, 0) :: cs) := by
  obtain ⟨a1, a2, a3, a4, c0, a5, a6⟩ := ls_cu_s h (by omega)
  have U := a1
  obtain ⟨g1, _, g3, _⟩ := a1
  have lt := ls_UK_lt a2 g3.2 g1 a3.2 a4 (by omega) (fun q => by omega)
  have M : ls_mkd ((1, L.length, pos, L) :: fr) = ls_mkd fr := ls_mkd_c (by show (1 : Nat) ≠ 2; decide)
  refine ls_cu_sm (c0 := c0) U (by rw [M]; exact a2) ⟨by omega, by omega⟩ hc (by omega) (ls_ct_1.mpr ⟨cs, rfl, ?_⟩) (by rw [M]; exact a6)
  exact ls_ct_go g1 g3.2 (ls_u2 (P := fun c => fr.length ≤ c.2.2.2.2.1.length) (by rw [a4]; exact Nat.le_refl _) (by rw [hc]; exact Nat.le_succ _)) (fun u u1 u2 => by omega) a5
set_option maxHeartbeats 200000 in
/-- a block ends that is not a method's -/
theorem ls_cu_cls {a sp : Nat} {l : List Nat} {pos' es' : Nat} {k' : LsK} (h : ls_cu yn cr mk D (ls_UA co ca ck cp tk tv tp) (T, V, C, kF, n, N, d, e, ta, tz) t as (0, pos, es, [], (1, a, sp, l) :: r, L, k) Ls xs ys os cs) (hc : C (t + 1) = (3, pos', es', [], r, l, k')) : ∃ cs', cs = (1, ls_sl Ls + l.length, 0) :: cs' ∧ ls_cu yn cr mk D (ls_UA co ca ck cp tk tv tp) (T, V, C, kF, n, N, d, e, ta, tz) (t + 1) as (3, pos', es', [], r, l, k') Ls xs ys os cs' := by
  obtain ⟨a1, a2, a3, a4, c0, a5, a6⟩ := ls_cu_s h (by omega)
  have U := a1
  obtain ⟨g1, _, g3, _⟩ := a1
  have lt := ls_UK_lt a2 g3.2 g1 a3.2 a4 (by omega) (fun q => by omega)
  obtain ⟨cs', e1, e2⟩ := ls_ct_1.mp a5
  exact ⟨cs', e1, ls_cu_go (t := t) U a2 (ls_mkd_c (by show (1 : Nat) ≠ 2; decide)).symm ⟨by omega, by omega⟩ hc (by omega) (ls_u2 (P := fun c => r.length ≤ c.2.2.2.2.1.length) (by rw [a4]; exact Nat.le_succ _) (by rw [hc]; exact Nat.le_refl _)) (fun u u1 u2 => by omega) e2 a6⟩
set_option maxHeartbeats 200000 in
/-- an expression begins -/
theorem ls_cu_exp {f : LsF} {p ins : Nat} {k' : LsK} (h : ls_cu yn cr mk D (ls_UA co ca ck cp tk tv tp) (T, V, C, kF, n, N, d, e, ta, tz) t as (st, pos, es, [], fr, L, k) Ls xs ys os cs) (hs : st < 4) (h3 : ¬ (st = 3 ∧ ls_fk fr = 2)) (hf : 6 ≤ f.1) (hL : L' = L ∨ fr = [] ∨ ls_fk fr = 1) (hi : ls_in T D as.length L' f fr ins) (hc : C (t + 1) = (4, p, p, [], f :: fr, L', k')) : ls_cu yn cr mk D (ls_UA co ca ck cp tk tv tp) (T, V, C, kF, n, N, d, e, ta, tz) (t + 1) as (4, p, p, [], f :: fr, L', k') Ls xs ys ((1, f.2.2.1 + e, ins) :: os) cs := by
  obtain ⟨a1, a2, a3, a4, c0, a5, a6⟩ := ls_cu_s h (by omega)
  have U := a1
  obtain ⟨g1, _, g3, _⟩ := a1
  have lt := ls_UK_lt a2 g3.2 g1 a3.2 a4 (by omega) h3
  have M : ls_mkd (f :: fr) = ls_mkd fr := ls_mkd_c (by omega)
  have CT : ls_ct (ls_sl Ls) e (ls_lp C ta tz t) c0 fr L' cs := by
    rcases hL with rfl | rfl | g
    · exact a5
    · exact a5
    · cases fr with
      | nil => exact a5
      | cons f' r' =>
        obtain ⟨x1, x2, x3, x4⟩ := f'
        have g' : x1 = 1 := g
        subst g'
        exact a5
  refine ls_cu_mk (x1 := xs) (y1 := ys) (pe := []) U (by rw [M]; exact a2) ⟨by omega, by omega⟩ hc (Or.inl rfl) (by rw [if_neg (by decide)]; exact ⟨rfl, rfl⟩) ⟨rfl, rfl⟩ hi ((ls_ct_x (by omega) (by omega)).mpr (ls_ct_go g1 g3.2 (ls_u2 (P := fun c => fr.length ≤ c.2.2.2.2.1.length) (by rw [a4]; exact Nat.le_refl _) (by rw [hc]; exact Nat.le_succ _)) (fun u u1 u2 => by omega) CT)) (by rw [M]; exact a6)
set_option maxHeartbeats 200000 in
/-- an expression ends: the frame goes -/
theorem ls_cu_fin {st' pos' es' : Nat} {k' : LsK} {f : LsF} (h : ls_cu yn cr mk D (ls_UA co ca ck cp tk tv tp) (T, V, C, kF, n, N, d, e, ta, tz) t as (5, pos, es, [], f :: r, L, k) Ls xs ys os cs) : ∃ z x0 y0 o0 ins, xs = z :: x0 ∧ ys = z :: y0 ∧ os = (1, f.2.2.1 + e, ins) :: o0 ∧ ls_in T D as.length L f r ins ∧
    (∀ (D' : Nat → Int32), (∀ c, c < 16 + 8 * as.length → D c ≠ -1 → D' c = D c) → ¬ (st' = 4 ∨ st' = 5) → C (t + 1) = (st', pos', es', [], r, L, k') → ls_cu yn cr mk D' (ls_UA co ca ck cp tk tv tp) (T, V, C, kF, n, N, d, e, ta, tz) (t + 1) as (st', pos', es', [], r, L, k') Ls x0 y0 o0 cs) ∧
    (∀ f' : LsF, (f'.1 = 3 ∨ f'.1 = 4) → ¬ (st' = 4 ∨ st' = 5) → C (t + 1) = (st', pos', es', [], f' :: r, L, k') → ls_cu yn cr mk D (ls_UA co ca ck cp tk tv tp) (T, V, C, kF, n, N, d, e, ta, tz) (t + 1) as (st', pos', es', [], f' :: r, L, k') Ls x0 y0 o0 cs) ∧
    (∀ (f' : LsF) (q : Nat), f'.1 = 5 → ls_lp C ta tz (t + 1) f' r L q → ¬ (st' = 4 ∨ st' = 5) → C (t + 1) = (st', pos', es', [], f' :: r, L, k') → ls_cu yn cr mk D (ls_UA co ca ck cp tk tv tp) (T, V, C, kF, n, N, d, e, ta, tz) (t + 1) as (st', pos', es', [], f' :: r, L, k') Ls x0 y0 o0 ((2, f'.2.2.1 + e, q + e) :: cs)) ∧
    (∀ (t' : Nat) (fr' : List LsF), fr' = r ∨ (∃ f' : LsF, (f'.1 = 3 ∨ f'.1 = 4) ∧ fr' = f' :: r) → t ≤ t' → t' ≤ N → (∀ u, t ≤ u → u ≤ t' → r.length ≤ ((C u).2.2.2.2.1).length) → ¬ (st' = 4 ∨ st' = 5) → C t' = (st', pos', es', [], fr', L, k') → ls_cu yn cr mk D (ls_UA co ca ck cp tk tv tp) (T, V, C, kF, n, N, d, e, ta, tz) t' as (st', pos', es', [], fr', L, k') Ls x0 y0 o0 cs) := by
  obtain ⟨a1, a2, a3, a4, z, x0, y0, o0, c0, f', r', ins, b1, b2, b3, b4, b5, b6, b7⟩ := ls_cu_end h
  injection b3 with b3 b3'
  subst b3 b3'
  have U := a1
  obtain ⟨g1, _, g3, _⟩ := a1
  have f6 := ls_tl_f g1 (by omega) a4 (Or.inr rfl) rfl
  have lt := ls_UK_lt a2 g3.2 g1 a3.2 a4 (by omega) (fun q => by omega)
  have M : ls_mkd (f :: r) = ls_mkd r := ls_mkd_c (by omega)
  have CT := (ls_ct_x (by omega) (by omega)).mp b6
  have B : ∀ c : LsC, C (t + 1) = c → r.length ≤ c.2.2.2.2.1.length → ∀ u, t ≤ u → u ≤ t + 1 → r.length ≤ ((C u).2.2.2.2.1).length := fun c hc hl => ls_u2 (P := fun c => r.length ≤ c.2.2.2.2.1.length) (by rw [a4]; exact Nat.le_succ _) (by rw [hc]; exact hl)
  refine ⟨z, x0, y0, o0, ins, b1, b2, b4, b5, fun D' hD hs hc => ?_, fun f' h34 hs hc => ?_, fun f' q h5 hl hs hc => ?_, fun t' fr' hf htt hN hu hs hc => ?_⟩
  · refine ls_cu_go (t := t) (D := D') U a2 M.symm ⟨by omega, by omega⟩ hc hs (B _ hc (Nat.le_refl _)) (fun u u1 u2 => by omega) CT (ls_sus_dc hD ls_UA_ex b7)
  · have M' : ls_mkd (f' :: r) = ls_mkd (f :: r) := by rw [M, ls_mkd_c (by omega)]
    refine ls_cu_sm (c0 := c0) U (by rw [M']; exact a2) ⟨by omega, by omega⟩ hc hs ((ls_ct_x (by omega) (by omega)).mpr ?_) (by rw [M']; exact b7)
    exact ls_ct_go g1 g3.2 (B _ hc (Nat.le_succ _)) (fun u u1 u2 => by omega) CT
  · have M' : ls_mkd (f' :: r) = ls_mkd (f :: r) := by rw [M, ls_mkd_c (by omega)]
    refine ls_cu_sm (c0 := c0) U (by rw [M']; exact a2) ⟨by omega, by omega⟩ hc hs ?_ (by rw [M']; exact b7)
    obtain ⟨x1, x2, x3, x4⟩ := f'
    dsimp only at h5
    subst h5
    exact ls_ct_5.mpr ⟨q, cs, rfl, hl, ls_ct_go g1 g3.2 (B _ hc (Nat.le_succ _)) (fun u u1 u2 => by omega) CT⟩
  · have tz' := ls_UK_to2 (r := r) (t := t) g1 (by rw [← M]; exact a2) a3.2 hN hu
    have CT' := ls_ct_go (t' := t') g1 g3.2 hu (fun u u1 u2 => by have : u = t := by omega
                                                                  subst this; exact hu u (Nat.le_refl _) (by omega)) CT
    rcases hf with rfl | ⟨f', h34, rfl⟩
    · exact ls_cu_sm (c0 := c0) U (by rw [← M]; exact a2) ⟨by omega, tz'⟩ hc hs CT' (by rw [← M]; exact b7)
    · have M' : ls_mkd (f' :: r) = ls_mkd (f :: r) := by rw [M, ls_mkd_c (by omega)]
      exact ls_cu_sm (c0 := c0) U (by rw [M']; exact a2) ⟨by omega, tz'⟩ hc hs ((ls_ct_x (by omega) (by omega)).mpr CT') (by rw [M']; exact b7)
end
