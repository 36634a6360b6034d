/-! Where both stand: the configuration that runs -/
def ls_cu (yn : Nat) (cr mk D : Nat → Int32) (A : LsU → Prop) (U : LsU) (t : Nat) (as : List LsA) (c : LsC) (Ls : List (List Nat)) (xs ys : List LsV) (os cs : List LsP) : Prop := A U ∧ match U with
  | (T, _, C, _, _, _, _, e, ta, tz) => match c with
    | (st, _, _, pe, fr, L, _) => ls_UK U as yn (ls_mkd fr) ∧ (ta ≤ t ∧ t ≤ tz) ∧ C t = c ∧ ∃ x1 y1 x0 y0 o0 c0, (if st = 5 then ∃ z, xs = z :: x1 ∧ ys = z :: y1 else xs = x1 ∧ ys = y1) ∧ ls_ro T D as.length pe x1 y1 x0 y0 ∧ (if st = 4 ∨ st = 5 then ∃ f r ins, fr = f :: r ∧ os = pe.map (ls_oe T e) ++ (1, f.2.2.1 + e, ins) :: o0 ∧ ls_in T D as.length L f r ins else os = o0) ∧ ls_ct (ls_sl Ls) e (ls_lp C ta tz t) c0 fr L cs ∧ ls_sus yn cr mk D A as (ls_mkd fr) Ls x0 y0 o0 c0
section
variable {T : Nat → Nat} {V : Nat → Int32} {C : Nat → LsC} {kF : LsK} {n N d e ta tz : Nat} {yn : Nat} {cr mk D D' : Nat → Int32} {co ca ck cp tk : Nat → Int32} {tv : Nat → Int64} {tp : Nat → Int32}
variable {t t' st pos es : Nat} {pe : List LsP} {fr : List LsF} {L : List Nat} {k : LsK} {as : List LsA} {Ls : List (List Nat)} {xs ys x1 y1 x0 y0 : List LsV} {os cs o0 c0 : List LsP}
set_option maxHeartbeats 200000 in
theorem ls_UA_ex : ∀ U, ls_UA co ca ck cp tk tv tp U → ∃ co ca ck cp tk tv tp, ls_UA co ca ck cp tk tv tp U := fun _ h => ⟨_, _, _, _, _, _, _, h⟩
set_option maxHeartbeats 200000 in
/-- within a method's span the bottom stays -/
theorem ls_UK_lt (hK : ls_UK (T, V, C, kF, n, N, d, e, ta, tz) as yn (ls_mkd fr)) (hz : tz ≤ N) (h : ls_tl T V n C N kF) (ht : t ≤ tz) (ec : C t = (st, pos, es, pe, fr, L, k)) (hs : st ≠ 6) (h3 : ¬ (st = 3 ∧ ls_fk fr = 2)) : t < tz := by
  rcases Nat.eq_or_lt_of_le ht with q | q
  · exfalso
    subst q
    by_cases g : as = []
    · obtain ⟨⟨_, _, _, q4, _⟩, _⟩ := hK.1 g
      have := h.2.2.1.1
      rw [← q4, ec] at this
      exact hs this
    · obtain ⟨q, mo, pb, es', L', k', _, _, _, _, k5, _⟩ := hK.2 g
      rw [ec] at k5
      injection k5 with k5 k6
      injection k6 with _ k6
      injection k6 with _ k6
      injection k6 with _ k6
      injection k6 with k6 _
      exact h3 ⟨k5, by rw [k6]; rfl⟩
  · exact q
set_option maxHeartbeats 200000 in
theorem ls_r3_5 {f : LsF} {r : List LsF} {c' : LsC} (h5 : f.1 = 5) (hr : ls_r3 T pos es pe (f :: r) L k = .ok c') : c'.2.2.2.2.1 = r := by
  obtain ⟨fk, mo, sp, l⟩ := f
  dsimp only at h5
  subst h5
  unfold ls_r3 at hr
  dsimp only at hr
  rw [if_neg (by decide), if_neg (by decide), if_pos rfl] at hr
  injection hr with hr
  rw [← hr]
set_option maxHeartbeats 200000 in
/-- the control stays while the frames are not touched -/
theorem ls_ct_go (h : ls_tl T V n C N kF) (hz : tz ≤ N) (h1 : ∀ u, t ≤ u → u ≤ t' → fr.length ≤ ((C u).2.2.2.2.1).length) (h2 : ∀ u, t' ≤ u → u ≤ t → fr.length ≤ ((C u).2.2.2.2.1).length) {b : Nat} (g : ls_ct b e (ls_lp C ta tz t) c0 fr L cs) : ls_ct b e (ls_lp C ta tz t') c0 fr L cs := by
  refine ls_ct_mv (fun f r L q hr hl => ?_) g
  have hl' := hl
  obtain ⟨s, t2, k0, es2, k2, a1, a2, a3, a4, a5, a6, a7, a8, a9, a10⟩ := hl'
  refine ⟨s, t2, k0, es2, k2, a1, ?_, ?_, a4, a5, a6, a7, a8, a9, a10⟩
  · apply Decidable.byContradiction
    intro g
    have := h2 s (by omega) (by omega)
    rw [a6] at this
    omega
  · apply Decidable.byContradiction
    intro g
    have := h1 (t2 + 1) (by omega) (by omega)
    have lt : t2 < N := by omega
    have st := (h.2.1 t2 lt).2
    rw [a9] at st
    have st' : ls_r3 T q es2 [] (f :: r) L k2 = .ok (C (t2 + 1)) := st
    rw [ls_r3_5 a5.1 st'] at this
    omega
set_option maxHeartbeats 200000 in
theorem ls_UK_to (hK : ls_UK (T, V, C, kF, n, N, d, e, ta, tz) as yn (ls_mkd fr)) (ht : t ≤ tz) (hN : t' ≤ N) (hu : ∀ u, t ≤ u → u ≤ t' → 6 ≤ ls_fk (C u).2.2.2.2.1) : t' ≤ tz := by
  by_cases g : as = []
  · obtain ⟨⟨_, _, _, q4, _⟩, _⟩ := hK.1 g
    omega
  · apply Decidable.byContradiction
    intro q
    obtain ⟨q, mo, pb, es', L', k', _, _, _, _, k5, _⟩ := hK.2 g
    have := hu tz ht (by omega)
    rw [k5] at this
    have this' : 6 ≤ 2 := this
    omega
set_option maxHeartbeats 200000 in
/-- a configuration within an expression, taken apart -/
theorem ls_cu_e (h : ls_cu yn cr mk D (ls_UA co ca ck cp tk tv tp) (T, V, C, kF, n, N, d, e, ta, tz) t as (st, pos, es, pe, fr, L, k) Ls xs ys os cs) (hs : st = 4 ∨ st = 5) : ls_UA co ca ck cp tk tv tp (T, V, C, kF, n, N, d, e, ta, tz) ∧ ls_UK (T, V, C, kF, n, N, d, e, ta, tz) as yn (ls_mkd fr) ∧ (ta ≤ t ∧ t ≤ tz) ∧ C t = (st, pos, es, pe, fr, L, k) ∧ ∃ x1 y1 x0 y0 o0 c0 f r ins, (if st = 5 then ∃ z, xs = z :: x1 ∧ ys = z :: y1 else xs = x1 ∧ ys = y1) ∧ ls_ro T D as.length pe x1 y1 x0 y0 ∧ fr = f :: r ∧ os = pe.map (ls_oe T e) ++ (1, f.2.2.1 + e, ins) :: o0 ∧ ls_in T D as.length L f r ins ∧ ls_ct (ls_sl Ls) e (ls_lp C ta tz t) c0 fr L cs ∧ ls_sus yn cr mk D (ls_UA co ca ck cp tk tv tp) as (ls_mkd fr) Ls x0 y0 o0 c0 := by
  obtain ⟨h1, h2, h3, h4, x1, y1, x0, y0, o0, c0, h5, h6, h7, h8, h9⟩ := h
  rw [if_pos hs] at h7
  obtain ⟨f, r, ins, g1, g2, g3⟩ := h7
  exact ⟨h1, h2, h3, h4, x1, y1, x0, y0, o0, c0, f, r, ins, h5, h6, g1, g2, g3, h8, h9⟩
set_option maxHeartbeats 200000 in
theorem ls_cu_mk {f : LsF} {r : List LsF} {ins : Nat} (h1 : ls_UA co ca ck cp tk tv tp (T, V, C, kF, n, N, d, e, ta, tz)) (h2 : ls_UK (T, V, C, kF, n, N, d, e, ta, tz) as yn (ls_mkd (f :: r))) (h3 : ta ≤ t ∧ t ≤ tz) (h4 : C t = (st, pos, es, pe, f :: r, L, k)) (hs : st = 4 ∨ st = 5) (h5 : if st = 5 then ∃ z, xs = z :: x1 ∧ ys = z :: y1 else xs = x1 ∧ ys = y1) (h6 : ls_ro T D as.length pe x1 y1 x0 y0) (hi : ls_in T D as.length L f r ins) (h8 : ls_ct (ls_sl Ls) e (ls_lp C ta tz t) c0 (f :: r) L cs) (h9 : ls_sus yn cr mk D (ls_UA co ca ck cp tk tv tp) as (ls_mkd (f :: r)) Ls x0 y0 o0 c0) : ls_cu yn cr mk D (ls_UA co ca ck cp tk tv tp) (T, V, C, kF, n, N, d, e, ta, tz) t as (st, pos, es, pe, f :: r, L, k) Ls xs ys (pe.map (ls_oe T e) ++ (1, f.2.2.1 + e, ins) :: o0) cs := by
  refine ⟨h1, h2, h3, h4, x1, y1, x0, y0, o0, c0, h5, h6, ?_, h8, h9⟩
  rw [if_pos hs]
  exact ⟨f, r, ins, rfl, rfl, hi⟩
set_option maxHeartbeats 200000 in
/-- on to another time of the same expression -/
theorem ls_cu_on {f : LsF} {r : List LsF} {ins pos' st' : Nat} {pe' : List LsP} {k' : LsK} {xs' ys' x1' y1' : List LsV} (h1 : ls_UA co ca ck cp tk tv tp (T, V, C, kF, n, N, d, e, ta, tz)) (h2 : ls_UK (T, V, C, kF, n, N, d, e, ta, tz) as yn (ls_mkd (f :: r))) (h3 : ta ≤ t ∧ t ≤ tz) (f6 : 6 ≤ f.1) (htt : t ≤ t') (hN : t' ≤ N) (hu : ∀ u, t ≤ u → u ≤ t' → (C u).2.2.2.2.1 = f :: r) (hD : ∀ c, D c ≠ -1 → D' c = D c) (h4 : C t' = (st', pos', es, pe', f :: r, L, k')) (hs : st' = 4 ∨ st' = 5) (h5 : if st' = 5 then ∃ z, xs' = z :: x1' ∧ ys' = z :: y1' else xs' = x1' ∧ ys' = y1') (h6 : ls_ro T D' as.length pe' x1' y1' x0 y0) (hi : ls_in T D as.length L f r ins) (h8 : ls_ct (ls_sl Ls) e (ls_lp C ta tz t) c0 (f :: r) L cs) (h9 : ls_sus yn cr mk D (ls_UA co ca ck cp tk tv tp) as (ls_mkd (f :: r)) Ls x0 y0 o0 c0) : ls_cu yn cr mk D' (ls_UA co ca ck cp tk tv tp) (T, V, C, kF, n, N, d, e, ta, tz) t' as (st', pos', es, pe', f :: r, L, k') Ls xs' ys' (pe'.map (ls_oe T e) ++ (1, f.2.2.1 + e, ins) :: o0) cs := by
  have U := h1
  obtain ⟨g1, g2, g3, _⟩ := h1
  have tz' := ls_UK_to (t := t) (t' := t') h2 h3.2 hN (fun u u1 u2 => by rw [hu u u1 u2]; exact f6)
  refine ls_cu_mk U h2 ⟨by omega, tz'⟩ h4 hs h5 h6 (ls_in_dc (fun c _ => hD c) (ls_tl_ch g1 hN h4 hs).2.2.2.2.1 (ls_tl_72 g1) hi) (ls_ct_go g1 g3.2 (fun u u1 u2 => by rw [hu u u1 u2]; exact Nat.le_refl _) (fun u u1 u2 => ?_) h8) (ls_sus_dc (fun c _ => hD c) ls_UA_ex h9)
  have : u = t := by omega
  subst this
  rw [hu u (Nat.le_refl _) htt]
  exact Nat.le_refl _
set_option maxHeartbeats 200000 in
/-- the frame of an expression -/
theorem ls_tl_f (h : ls_tl T V n C N kF) (ht : t ≤ N) (ec : C t = (st, pos, es, pe, fr, L, k)) (hs : st = 4 ∨ st = 5) {f : LsF} {r : List LsF} (ef : fr = f :: r) : 6 ≤ f.1 ∧ f.1 < 12 := by
  have hI := (h.2.2.2.2 t ht).2.1
  rw [ec] at hI
  obtain ⟨_, _, _, _, _, _, i7⟩ := hI
  rw [if_pos hs] at i7
  obtain ⟨_, _, _, _, f', r', e1, e2, _⟩ := i7
  rw [ef] at e1
  injection e1 with e1 _
  subst e1
  exact ⟨e2.1, e2.2.1⟩
set_option maxHeartbeats 200000 in
theorem ls_u2 {P : LsC → Prop} (h0 : P (C t)) (h1 : P (C (t + 1))) : ∀ u, t ≤ u → u ≤ t + 1 → P (C u) := by
  intro u u1 u2
  rcases (show u = t ∨ u = t + 1 by omega) with q | q
  · subst q; exact h0
  · subst q; exact h1
set_option maxHeartbeats 200000 in
/-- an operand -/
theorem ls_cu_opd {pos' : Nat} {k' : LsK} {z : LsV} (h : ls_cu yn cr mk D (ls_UA co ca ck cp tk tv tp) (T, V, C, kF, n, N, d, e, ta, tz) t as (4, pos, es, pe, fr, L, k) Ls xs ys os cs) (hc : C (t + 1) = (5, pos', es, pe, fr, L, k')) : ls_cu yn cr mk D (ls_UA co ca ck cp tk tv tp) (T, V, C, kF, n, N, d, e, ta, tz) (t + 1) as (5, pos', es, pe, fr, L, k') Ls (z :: xs) (z :: ys) os cs := by
  obtain ⟨h1, h2, h3, h4, x1, y1, x0, y0, o0, c0, f, r, ins, g1, g2, g3, g4, g5, g6, g7⟩ := ls_cu_e h (Or.inl rfl)
  subst g3 g4
  have U := h1
  obtain ⟨u1, _, u3, _⟩ := h1
  have f6 := ls_tl_f u1 (by omega) h4 (Or.inl rfl) rfl
  have lt := (ls_tl4 u1 (by omega) h4).1
  rw [if_neg (by decide)] at g1
  obtain ⟨rfl, rfl⟩ := g1
  exact ls_cu_on (D := D) U h2 h3 f6.1 (Nat.le_succ t) lt (ls_u2 (P := fun c => c.2.2.2.2.1 = f :: r) (by rw [h4]) (by rw [hc])) (fun _ _ => rfl) hc (Or.inr rfl) (by rw [if_pos rfl]; exact ⟨z, rfl, rfl⟩) g2 g5 g6 g7
set_option maxHeartbeats 200000 in
/-- an operator ahead of its operand -/
theorem ls_cu_pend {pos' : Nat} {k' : LsK} {e' : LsP} {w : List LsV} (h : ls_cu yn cr mk D (ls_UA co ca ck cp tk tv tp) (T, V, C, kF, n, N, d, e, ta, tz) t as (4, pos, es, pe, fr, L, k) Ls xs ys os cs) (hc : C (t + 1) = (4, pos', es, e' :: pe, fr, L, k')) (hw : w.length = ls_wt T e') (h34 : ¬ (e'.1 = 3 ∨ e'.1 = 4)) (hD : e'.1 = 2 → ∀ v ∈ w, ∃ d, D (ls_cell e'.2.2 as.length) = nI d ∧ d ≤ 5 ∧ (d = 5 ∨ (d = 0 ↔ v.1 = 0))) : ls_cu yn cr mk D (ls_UA co ca ck cp tk tv tp) (T, V, C, kF, n, N, d, e, ta, tz) (t + 1) as (4, pos', es, e' :: pe, fr, L, k') Ls (w ++ xs) (w ++ ys) (ls_oe T e e' :: os) cs := by
  obtain ⟨h1, h2, h3, h4, x1, y1, x0, y0, o0, c0, f, r, ins, g1, g2, g3, g4, g5, g6, g7⟩ := ls_cu_e h (Or.inl rfl)
  subst g3 g4
  have U := h1
  obtain ⟨u1, _, u3, _⟩ := h1
  have f6 := ls_tl_f u1 (by omega) h4 (Or.inl rfl) rfl
  have lt := (ls_tl4 u1 (by omega) h4).1
  rw [if_neg (by decide)] at g1
  obtain ⟨rfl, rfl⟩ := g1
  exact ls_cu_on (D := D) U h2 h3 f6.1 (Nat.le_succ t) lt (ls_u2 (P := fun c => c.2.2.2.2.1 = f :: r) (by rw [h4]) (by rw [hc])) (fun _ _ => rfl) hc (Or.inl rfl) (by rw [if_neg (by decide)]; exact ⟨rfl, rfl⟩) ⟨w, xs, ys, hw, rfl, by rw [if_neg h34], fun q => absurd q h34, hD, g2⟩ g5 g6 g7
set_option maxHeartbeats 200000 in
theorem ls_wt_1 {a b m : Nat} (h : 2 < a) (h13 : a ≠ 13) : ls_wt T (a, b, m) = 1 := by
  show (if a = 0 then _ else if a = 1 then _ else if a = 2 then _ else if a = 13 then _ else _) = _
  rw [if_neg (by omega), if_neg (by omega), if_neg (by omega), if_neg h13]
set_option maxHeartbeats 200000 in
/-- an operator between operands -/
theorem ls_cu_bin {pos' lv : Nat} {k' : LsK} {mo : Nat} (h : ls_cu yn cr mk D (ls_UA co ca ck cp tk tv tp) (T, V, C, kF, n, N, d, e, ta, tz) t as (5, pos, es, pe, fr, L, k) Ls xs ys os cs) (hc : C (t + 1) = (4, pos', es, (lv, pos, mo) :: pe, fr, L, k')) (l2 : 2 < lv) (l13 : lv ≠ 13) : ∃ z x1 y1, xs = z :: x1 ∧ ys = z :: y1 ∧ (¬ (lv = 3 ∨ lv = 4) → ls_cu yn cr mk D (ls_UA co ca ck cp tk tv tp) (T, V, C, kF, n, N, d, e, ta, tz) (t + 1) as (4, pos', es, (lv, pos, mo) :: pe, fr, L, k') Ls xs ys ((7, pos + e, 0) :: os) cs) ∧ (z.1 = 0 → (lv = 3 ∨ lv = 4) → ls_cu yn cr mk D (ls_UA co ca ck cp tk tv tp) (T, V, C, kF, n, N, d, e, ta, tz) (t + 1) as (4, pos', es, (lv, pos, mo) :: pe, fr, L, k') Ls x1 ys ((7, pos + e, 0) :: os) cs) := by
  obtain ⟨h1, h2, h3, h4, x1, y1, x0, y0, o0, c0, f, r, ins, g1, g2, g3, g4, g5, g6, g7⟩ := ls_cu_e h (Or.inr rfl)
  subst g3 g4
  have U := h1
  obtain ⟨u1, _, u3, _⟩ := h1
  have f6 := ls_tl_f u1 (by omega) h4 (Or.inr rfl) rfl
  have lt := (ls_tl5 u1 (by omega) h4).1
  rw [if_pos rfl] at g1
  obtain ⟨z, rfl, rfl⟩ := g1
  have OE : ls_oe T e (lv, pos, mo) = (7, pos + e, 0) := by
    show (if lv = 0 then _ else if lv = 1 then _ else if lv = 2 then _ else if lv = 13 then _ else _) = _
    rw [if_neg (by omega), if_neg (by omega), if_neg (by omega), if_neg l13]
  refine ⟨z, x1, y1, rfl, rfl, fun n34 => ?_, fun z0 y34 => ?_⟩
  · have := ls_cu_on (D := D) (st' := 4) (xs' := z :: x1) (ys' := z :: y1) U h2 h3 f6.1 (Nat.le_succ t) lt (ls_u2 (P := fun c => c.2.2.2.2.1 = f :: r) (by rw [h4]) (by rw [hc])) (fun _ _ => rfl) hc (Or.inl rfl) (by rw [if_neg (by decide)]; exact ⟨rfl, rfl⟩) ⟨[z], x1, y1, (ls_wt_1 l2 l13).symm, rfl, by rw [if_neg n34]; rfl, fun q => absurd q n34, fun q => by have q' : lv = 2 := q; omega, g2⟩ g5 g6 g7
    rw [List.map_cons, OE] at this
    exact this
  · have := ls_cu_on (D := D) (st' := 4) (xs' := x1) (ys' := z :: y1) U h2 h3 f6.1 (Nat.le_succ t) lt (ls_u2 (P := fun c => c.2.2.2.2.1 = f :: r) (by rw [h4]) (by rw [hc])) (fun _ _ => rfl) hc (Or.inl rfl) (by rw [if_neg (by decide)]; exact ⟨rfl, rfl⟩) ⟨[z], x1, y1, (ls_wt_1 l2 l13).symm, rfl, by rw [if_pos y34], fun _ v hv => by rw [List.mem_singleton] at hv; rw [hv]; exact z0, fun q => by have q' : lv = 2 := q; omega, g2⟩ g5 g6 g7
    rw [List.map_cons, OE] at this
    exact this
set_option maxHeartbeats 200000 in
/-- a decided && or || -/
theorem ls_cu_dec {q : Nat} {k' : LsK} (h : ls_cu yn cr mk D (ls_UA co ca ck cp tk tv tp) (T, V, C, kF, n, N, d, e, ta, tz) t as (5, pos, es, pe, fr, L, k) Ls xs ys os cs) (htt : t ≤ t') (hN : t' ≤ N) (hu : ∀ u, t ≤ u → u ≤ t' → (C u).2.2.2.2.1 = fr) (hc : C t' = (5, q, es, pe, fr, L, k')) : ls_cu yn cr mk D (ls_UA co ca ck cp tk tv tp) (T, V, C, kF, n, N, d, e, ta, tz) t' as (5, q, es, pe, fr, L, k') Ls xs ys os cs := by
  obtain ⟨h1, h2, h3, h4, x1, y1, x0, y0, o0, c0, f, r, ins, g1, g2, g3, g4, g5, g6, g7⟩ := ls_cu_e h (Or.inr rfl)
  subst g3 g4
  have U := h1
  obtain ⟨u1, _, u3, _⟩ := h1
  have f6 := ls_tl_f u1 (by omega) h4 (Or.inr rfl) rfl
  exact ls_cu_on (D := D) U h2 h3 f6.1 htt hN hu (fun _ _ => rfl) hc (Or.inr rfl) g1 g2 g5 g6 g7
set_option maxHeartbeats 200000 in
/-- the pending operator on top is taken away -/
theorem ls_cu_red {e' : LsP} (h : ls_cu yn cr mk D (ls_UA co ca ck cp tk tv tp) (T, V, C, kF, n, N, d, e, ta, tz) t as (5, pos, es, e' :: pe, fr, L, k) Ls xs ys os cs) : ∃ z w xr yr os', xs = z :: (if e'.1 = 3 ∨ e'.1 = 4 then xr else w ++ xr) ∧ ys = z :: (w ++ yr) ∧ w.length = ls_wt T e' ∧ os = ls_oe T e e' :: os' ∧ (e'.1 = 3 ∨ e'.1 = 4 → ∀ v ∈ w, v.1 = 0) ∧ (e'.1 = 2 → ∀ v ∈ w, ∃ d, D (ls_cell e'.2.2 as.length) = nI d ∧ d ≤ 5 ∧ (d = 5 ∨ (d = 0 ↔ v.1 = 0))) ∧
    (∀ (D' : Nat → Int32) (pos' : Nat) (k' : LsK) (z' : LsV), (∀ c, D c ≠ -1 → D' c = D c) → C (t + 1) = (5, pos', es, pe, fr, L, k') → ls_cu yn cr mk D' (ls_UA co ca ck cp tk tv tp) (T, V, C, kF, n, N, d, e, ta, tz) (t + 1) as (5, pos', es, pe, fr, L, k') Ls (z' :: xr) (z' :: yr) os' cs) ∧
    (∀ (pos' : Nat) (k' : LsK) (pl mo : Nat), e' = (0, pl, mo) → 1 ≤ mo → C (t + 1) = (4, pos', es, (0, pl, mo + 1) :: pe, fr, L, k') → ls_cu yn cr mk D (ls_UA co ca ck cp tk tv tp) (T, V, C, kF, n, N, d, e, ta, tz) (t + 1) as (4, pos', es, (0, pl, mo + 1) :: pe, fr, L, k') Ls xs ys (ls_oe T e (0, pl, mo + 1) :: os') cs) := by
  obtain ⟨h1, h2, h3, h4, x1, y1, x0, y0, o0, c0, f, r, ins, g1, g2, g3, g4, g5, g6, g7⟩ := ls_cu_e h (Or.inr rfl)
  subst g3 g4
  have U := h1
  obtain ⟨u1, _, u3, _⟩ := h1
  have f6 := ls_tl_f u1 (by omega) h4 (Or.inr rfl) rfl
  have lt := (ls_tl5 u1 (by omega) h4).1
  have C24 := (ls_tl_ch u1 (by omega) h4 (Or.inr rfl)).2.1
  rw [if_pos rfl] at g1
  obtain ⟨z, rfl, rfl⟩ := g1
  obtain ⟨w, xr, yr, r1, r2, r3, r4, r5, r6⟩ := g2
  subst r2 r3
  refine ⟨z, w, xr, yr, _, rfl, rfl, r1, rfl, r4, r5, fun D' pos' k' z' hD hc => ?_, fun pos' k' pl mo ee hm hc => ?_⟩
  · exact ls_cu_on (D := D) U h2 h3 f6.1 (Nat.le_succ t) lt (ls_u2 (P := fun c => c.2.2.2.2.1 = f :: r) (by rw [h4]) (by rw [hc])) hD hc (Or.inr rfl) (by rw [if_pos rfl]; exact ⟨z', rfl, rfl⟩) (ls_ro_dc (fun c _ => hD c) (fun x hx => C24 x (List.mem_cons_of_mem _ hx)) r6) g5 g6 g7
  · subst ee
    refine ls_cu_on (D := D) (st' := 4) (pe' := (0, pl, mo + 1) :: pe) U h2 h3 f6.1 (Nat.le_succ t) lt (ls_u2 (P := fun c => c.2.2.2.2.1 = f :: r) (by rw [h4]) (by rw [hc])) (fun _ _ => rfl) hc (Or.inl rfl) (by rw [if_neg (by decide)]; exact ⟨rfl, rfl⟩) ⟨z :: w, xr, yr, ?_, rfl, ?_, fun q => by have q' : (0 : Nat) = 3 ∨ (0 : Nat) = 4 := q; omega, fun q => by have q' : (0 : Nat) = 2 := q; omega, r6⟩ g5 g6 g7
    · have r1' : w.length = mo - 1 := r1
      show w.length + 1 = mo + 1 - 1
      omega
    · rw [if_neg (by show ¬ ((0 : Nat) = 3 ∨ (0 : Nat) = 4); omega), if_neg (by show ¬ ((0 : Nat) = 3 ∨ (0 : Nat) = 4); omega)]
      rfl
set_option maxHeartbeats 200000 in
/-- an expression is over -/
theorem ls_cu_end (h : ls_cu yn cr mk D (ls_UA co ca ck cp tk tv tp) (T, V, C, kF, n, N, d, e, ta, tz) t as (5, pos, es, [], fr, L, k) Ls xs ys os cs) : ls_UA co ca ck cp tk tv tp (T, V, C, kF, n, N, d, e, ta, tz) ∧ ls_UK (T, V, C, kF, n, N, d, e, ta, tz) as yn (ls_mkd fr) ∧ (ta ≤ t ∧ t ≤ tz) ∧ C t = (5, pos, es, [], fr, L, k) ∧ ∃ z x0 y0 o0 c0 f r ins, xs = z :: x0 ∧ ys = z :: y0 ∧ fr = f :: r ∧ os = (1, f.2.2.1 + e, ins) :: o0 ∧ ls_in T D as.length L f r ins ∧ ls_ct (ls_sl Ls) e (ls_lp C ta tz t) c0 fr L cs ∧ ls_sus yn cr mk D (ls_UA co ca ck cp tk tv tp) as (ls_mkd fr) Ls x0 y0 o0 c0 := by
  obtain ⟨h1, h2, h3, h4, x1, y1, x0, y0, o0, c0, f, r, ins, g1, g2, g3, g4, g5, g6, g7⟩ := ls_cu_e h (Or.inr rfl)
  rw [if_pos rfl] at g1
  obtain ⟨z, rfl, rfl⟩ := g1
  obtain ⟨rfl, rfl⟩ := g2
  exact ⟨h1, h2, h3, h4, z, x1, y1, o0, c0, f, r, ins, rfl, rfl, g3, g4, g5, g6, g7⟩
set_option maxHeartbeats 200000 in
/-- at statements -/
theorem ls_cu_s (h : ls_cu yn cr mk D (ls_UA co ca ck cp tk tv tp) (T, V, C, kF, n, N, d, e, ta, tz) t as (st, pos, es, [], fr, L, k) Ls xs ys os cs) (hs : ¬ (st = 4 ∨ st = 5)) : ls_UA co ca ck cp tk tv tp (T, V, C, kF, n, N, d, e, ta, tz) ∧ ls_UK (T, V, C, kF, n, N, d, e, ta, tz) as yn (ls_mkd fr) ∧ (ta ≤ t ∧ t ≤ tz) ∧ C t = (st, pos, es, [], fr, L, k) ∧ ∃ c0, ls_ct (ls_sl Ls) e (ls_lp C ta tz t) c0 fr L cs ∧ ls_sus yn cr mk D (ls_UA co ca ck cp tk tv tp) as (ls_mkd fr) Ls xs ys os c0 := by
  obtain ⟨h1, h2, h3, h4, x1, y1, x0, y0, o0, c0, h5, h6, h7, h8, h9⟩ := h
  rw [if_neg hs] at h7
  rw [if_neg (by omega)] at h5
  obtain ⟨rfl, rfl⟩ := h5
  obtain ⟨rfl, rfl⟩ := h6
  subst h7
  exact ⟨h1, h2, h3, h4, c0, h8, h9⟩
set_option maxHeartbeats 200000 in
theorem ls_cu_sm (h1 : ls_UA co ca ck cp tk tv tp (T, V, C, kF, n, N, d, e, ta, tz)) (h2 : ls_UK (T, V, C, kF, n, N, d, e, ta, tz) as yn (ls_mkd fr)) (h3 : ta ≤ t ∧ t ≤ tz) (h4 : C t = (st, pos, es, [], fr, L, k)) (hs : ¬ (st = 4 ∨ st = 5)) (h8 : ls_ct (ls_sl Ls) e (ls_lp C ta tz t) c0 fr L cs) (h9 : ls_sus yn cr mk D (ls_UA co ca ck cp tk tv tp) as (ls_mkd fr) Ls xs ys os c0) : ls_cu yn cr mk D (ls_UA co ca ck cp tk tv tp) (T, V, C, kF, n, N, d, e, ta, tz) t as (st, pos, es, [], fr, L, k) Ls xs ys os cs := by
  refine ⟨h1, h2, h3, h4, xs, ys, xs, ys, os, c0, ?_, ⟨rfl, rfl⟩, ?_, h8, h9⟩
  · rw [if_neg (by omega)]; exact ⟨rfl, rfl⟩
  · rw [if_neg hs]
end
