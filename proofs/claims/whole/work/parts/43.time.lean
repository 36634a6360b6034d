/-! The reading one configuration after the other -/
/-- how many operands a pending part keeps -/
def ls_wt (T : Nat → Nat) (e : LsP) : Nat := if e.1 = 0 then e.2.2 - 1 else if e.1 = 1 then 0 else if e.1 = 2 then (if T e.2.1 = 21 then 0 else 1) else if e.1 = 13 then 0 else 1
def ls_ow (T : Nat → Nat) : List LsP → Nat
  | [] => 0
  | e :: r => ls_wt T e + ls_ow T r
def ls_ent (T : Nat → Nat) (L : List Nat) (e : LsP) : Prop := (e.1 = 0 → 1 ≤ e.2.2 ∧ T (e.2.1 + 1) = 15) ∧ (e.1 = 1 → T e.2.1 = 15) ∧ (e.1 = 2 → 1 ≤ e.2.1 ∧ ls_nam (T (e.2.1 - 1)) ∧ e.2.2 = ls_addr L (T (e.2.1 - 1) - 54)) ∧ (e.1 = 13 → T e.2.1 = 15 → e.2.2 = T (e.2.1 + 1) ∧ T (e.2.1 + 1) < 5)
def ls_nx (e : LsP) (r : List LsP) : Prop := match r with
  | [] => True
  | y :: _ => (2 < e.1 → e.1 ≠ 13 → y.1 < e.1) ∧ (e.1 = 2 → y.1 ≤ 2)
def ls_ch (T : Nat → Nat) (L : List Nat) : List LsP → Prop
  | [] => True
  | e :: r => ls_nx e r ∧ ls_ent T L e ∧ ls_ch T L r
def ls_H (T : Nat → Nat) (c : LsC) : Prop := match c with
  | (st, pos, es, pe, _, L, _) => st = 4 ∨ st = 5 → ls_ch T L pe ∧ ls_ow T pe + (if st = 5 then 1 else 0) + es ≤ pos
section
variable {T : Nat → Nat} {V : Nat → Int32} {n : Nat} {pos es : Nat} {pe : List LsP} {fr : List LsF} {L : List Nat} {k : LsK} {c c' : LsC}
set_option maxHeartbeats 200000 in
theorem ls_H_n {st : Nat} (h : st ≠ 4 ∧ st ≠ 5) : ls_H T (st, pos, es, pe, fr, L, k) := fun g => by omega
set_option maxHeartbeats 200000 in
theorem ls_H_0 : ls_H T (4, pos, pos, [], fr, L, k) := fun _ => ⟨trivial, by show 0 + (if (4 : Nat) = 5 then 1 else 0) + pos ≤ pos; rw [if_neg (by decide)]; omega⟩
set_option maxHeartbeats 200000 in
theorem ls_H4 (h : ls_ch T L pe) (g : ls_ow T pe + es ≤ pos) : ls_H T (4, pos, es, pe, fr, L, k) := fun _ => ⟨h, by rw [if_neg (by decide)]; omega⟩
set_option maxHeartbeats 200000 in
theorem ls_H5 (h : ls_ch T L pe) (g : ls_ow T pe + 1 + es ≤ pos) : ls_H T (5, pos, es, pe, fr, L, k) := fun _ => ⟨h, by rw [if_pos rfl]; omega⟩
set_option maxHeartbeats 200000 in
theorem ls_H_r0 (hr : ls_r0 T pos es pe fr L k = .ok c') : ls_H T c' := by
  unfold ls_r0 at hr
  repeat' split at hr
  all_goals (injection hr with hr; subst hr; exact ls_H_n ⟨by decide, by decide⟩)
set_option maxHeartbeats 200000 in
theorem ls_H_r1 (h0 : pe = []) (hr : ls_r1 T pos es pe fr L k = .ok c') : ls_H T c' := by
  subst h0
  unfold ls_r1 ls_hdr at hr
  dsimp only at hr
  repeat' split at hr
  all_goals first | cases hr; done | (injection hr with hr; subst hr; first | exact ls_H_n ⟨by decide, by decide⟩ | exact ls_H_0)
set_option maxHeartbeats 200000 in
theorem ls_H_r2 (h0 : pe = []) (hr : ls_r2 T pos es pe fr L k = .ok c') : ls_H T c' := by
  subst h0
  unfold ls_r2 ls_var at hr
  dsimp only at hr
  repeat' split at hr
  all_goals first | cases hr; done | (injection hr with hr; subst hr; first | exact ls_H_n ⟨by decide, by decide⟩ | exact ls_H_0)
set_option maxHeartbeats 200000 in
theorem ls_H_r3 (hr : ls_r3 T pos es pe fr L k = .ok c') : ls_H T c' := by
  unfold ls_r3 at hr
  repeat' split at hr
  all_goals (injection hr with hr; subst hr; exact ls_H_n ⟨by decide, by decide⟩)
set_option maxHeartbeats 200000 in
theorem ls_ow_c {e : LsP} {w : Nat} (h : ls_wt T e = w) : ls_ow T (e :: pe) = w + ls_ow T pe := by
  show ls_wt T e + _ = _
  rw [h]
set_option maxHeartbeats 200000 in
theorem ls_nx_pre {a b d : Nat} (h : a = 0 ∨ a = 1 ∨ a = 13) : ls_nx (a, b, d) pe := by
  cases pe with
  | nil => trivial
  | cons y r => exact ⟨fun h1 h2 => by dsimp only at h1 h2; omega, fun h1 => by dsimp only at h1; omega⟩
set_option maxHeartbeats 200000 in
theorem ls_H_r4 (hH : ls_H T (4, pos, es, pe, fr, L, k)) (hr : ls_r4 T V pos es pe fr L k = .ok c') : ls_H T c' := by
  obtain ⟨h1, h2⟩ := hH (Or.inl rfl)
  rw [if_neg (by decide)] at h2
  have OPD : ∀ p (kk : LsK), pos < p → ls_H T (5, p, es, pe, fr, L, kk) := fun p kk hp => ls_H5 h1 (by omega)
  unfold ls_r4 ls_flt at hr
  dsimp only at hr
  split at hr
  · next nm =>
    split at hr
    · next t15 =>
      split at hr
      · injection hr with hr; subst hr; exact OPD _ _ (by omega)
      · injection hr with hr; subst hr
        exact ls_H4 ⟨ls_nx_pre (by omega), ⟨fun _ => ⟨Nat.le_refl _, t15⟩, fun h => absurd h (by show (0 : Nat) ≠ 1; decide), fun h => absurd h (by show (0 : Nat) ≠ 2; decide), fun h => absurd h (by show (0 : Nat) ≠ 13; decide)⟩, h1⟩ (by rw [ls_ow_c (w := 0) rfl]; omega)
    · split at hr
      · next sa =>
        obtain ⟨s1, s2⟩ := sa
        have NX : ls_nx (2, pos + 1, ls_addr L (T pos - 54)) pe := by
          cases pe with
          | nil => trivial
          | cons y r =>
            have : decide (y.1 ≤ 2) = true := s1
            exact ⟨fun h => absurd h (by show ¬ (2 : Nat) < 2; decide), fun _ => of_decide_eq_true this⟩
        have EN : ls_ent T L (2, pos + 1, ls_addr L (T pos - 54)) := ⟨fun h => absurd h (by show (2 : Nat) ≠ 0; decide), fun h => absurd h (by show (2 : Nat) ≠ 1; decide), fun _ => ⟨by show 1 ≤ pos + 1; omega, by show ls_nam (T (pos + 1 - 1)); rw [Nat.add_sub_cancel]; exact nm, by show _ = ls_addr L (T (pos + 1 - 1) - 54); rw [Nat.add_sub_cancel]⟩, fun h => absurd h (by show (2 : Nat) ≠ 13; decide)⟩
        split at hr
        · next t21 =>
          injection hr with hr; subst hr
          refine ls_H4 ⟨NX, EN, h1⟩ ?_
          rw [ls_ow_c (w := 0) (by show (if (2 : Nat) = 0 then _ else if (2 : Nat) = 1 then _ else if (2 : Nat) = 2 then (if T (pos + 1) = 21 then 0 else 1) else _) = _; rw [if_neg (by decide), if_neg (by decide), if_pos rfl, if_pos t21])]
          omega
        · next t21 =>
          injection hr with hr; subst hr
          refine ls_H4 ⟨NX, EN, h1⟩ ?_
          rw [ls_ow_c (w := 1) (by show (if (2 : Nat) = 0 then _ else if (2 : Nat) = 1 then _ else if (2 : Nat) = 2 then (if T (pos + 1) = 21 then 0 else 1) else _) = _; rw [if_neg (by decide), if_neg (by decide), if_pos rfl, if_neg t21])]
          omega
      · injection hr with hr; subst hr; exact OPD _ _ (by omega)
  split at hr
  · injection hr with hr; subst hr; exact OPD _ _ (by omega)
  split at hr
  · injection hr with hr; subst hr; exact OPD _ _ (by omega)
  split at hr
  · injection hr with hr; subst hr; exact OPD _ _ (by omega)
  split at hr
  · injection hr with hr; subst hr; exact OPD _ _ (by omega)
  split at hr
  · next t15 =>
    split at hr
    · next t5 =>
      split at hr
      · injection hr with hr; subst hr
        exact ls_H4 ⟨ls_nx_pre (by omega), ⟨fun h => absurd h (by show (13 : Nat) ≠ 0; decide), fun h => absurd h (by show (13 : Nat) ≠ 1; decide), fun h => absurd h (by show (13 : Nat) ≠ 2; decide), fun _ _ => ⟨rfl, t5⟩⟩, h1⟩ (by rw [ls_ow_c (w := 0) rfl]; omega)
      · cases hr
    · split at hr
      · cases hr
      · injection hr with hr; subst hr
        exact ls_H4 ⟨ls_nx_pre (by omega), ⟨fun h => absurd h (by show (1 : Nat) ≠ 0; decide), fun _ => t15, fun h => absurd h (by show (1 : Nat) ≠ 2; decide), fun h => absurd h (by show (1 : Nat) ≠ 13; decide)⟩, h1⟩ (by rw [ls_ow_c (w := 0) rfl]; omega)
  split at hr
  · next tu =>
    injection hr with hr; subst hr
    exact ls_H4 ⟨ls_nx_pre (by omega), ⟨fun h => absurd h (by show (13 : Nat) ≠ 0; decide), fun h => absurd h (by show (13 : Nat) ≠ 1; decide), fun h => absurd h (by show (13 : Nat) ≠ 2; decide), fun _ h => by have h' : T pos = 15 := h; omega⟩, h1⟩ (by rw [ls_ow_c (w := 0) rfl]; omega)
  · cases hr
set_option maxHeartbeats 200000 in
theorem ls_H_e (hr : ls_end T pos es fr L k = .ok c') : ls_H T c' := by
  unfold ls_end at hr
  repeat' split at hr
  all_goals first | cases hr; done | (injection hr with hr; subst hr; exact ls_H_n ⟨by decide, by decide⟩)
set_option maxHeartbeats 200000 in
theorem ls_wt_b {a b d : Nat} (h : 2 < a) (h13 : a ≠ 13) : ls_wt T (a, b, d) = 1 := by
  show (if a = 0 then _ else if a = 1 then _ else if a = 2 then _ else if a = 13 then 0 else 1) = 1
  rw [if_neg (by omega), if_neg (by omega), if_neg (by omega), if_neg h13]
set_option maxHeartbeats 200000 in
theorem ls_H_r5 (hH : ls_H T (5, pos, es, pe, fr, L, k)) (hr : ls_r5 T pos es pe fr L k = .ok c') : ls_H T c' := by
  obtain ⟨h1, h2⟩ := hH (Or.inr rfl)
  rw [if_pos rfl] at h2
  have lc := ls_lv_c (T pos)
  unfold ls_r5 ls_flt at hr
  dsimp only at hr
  split at hr
  · split at hr
    · next g2 =>
      injection hr with hr; subst hr
      exact ls_H4 ⟨trivial, ⟨fun h => by have h' : ls_lv (T pos) = 0 := h; omega, fun h => by have h' : ls_lv (T pos) = 1 := h; omega, fun h => by have h' : ls_lv (T pos) = 2 := h; omega, fun h => by have h' : ls_lv (T pos) = 13 := h; omega⟩, trivial⟩ (by rw [ls_ow_c (w := 1) (ls_wt_b g2 (by omega))]; omega)
    · exact ls_H_e hr
  · next lv pl mo r =>
    have h2' : ls_wt T (lv, pl, mo) + ls_ow T r + 1 + es ≤ pos := h2
    split at hr
    · injection hr with hr; subst hr
      exact ls_H5 h1.2.2 (by omega)
    split at hr
    · next g1 g2 =>
      injection hr with hr; subst hr
      exact ls_H4 ⟨⟨fun _ _ => by show lv < ls_lv (T pos); omega, fun h => by have h' : ls_lv (T pos) = 2 := h; omega⟩, ⟨fun h => by have h' : ls_lv (T pos) = 0 := h; omega, fun h => by have h' : ls_lv (T pos) = 1 := h; omega, fun h => by have h' : ls_lv (T pos) = 2 := h; omega, fun h => by have h' : ls_lv (T pos) = 13 := h; omega⟩, h1⟩ (by rw [ls_ow_c (w := 1) (ls_wt_b g2 (by omega))]; omega)
    split at hr
    · split at hr
      · injection hr with hr; subst hr
        exact ls_H5 h1.2.2 (by omega)
      · injection hr with hr; subst hr
        exact ls_H5 h1.2.2 (by omega)
    split at hr
    · next q =>
      obtain ⟨q1, q2⟩ := q
      subst q2
      split at hr
      · injection hr with hr; subst hr
        obtain ⟨n1, n2, n3⟩ := h1
        have a1 := (n2.1 rfl).1
        dsimp only at a1
        refine ls_H4 ⟨ls_nx_pre (by omega), ⟨fun _ => ⟨by show 1 ≤ mo + 1; omega, (n2.1 rfl).2⟩, fun h => absurd h (by show (0 : Nat) ≠ 1; decide), fun h => absurd h (by show (0 : Nat) ≠ 2; decide), fun h => absurd h (by show (0 : Nat) ≠ 13; decide)⟩, n3⟩ ?_
        have e1 : ls_wt T (0, pl, mo) = mo - 1 := rfl
        have e2 : ls_wt T (0, pl, mo + 1) = mo := rfl
        rw [ls_ow_c e2]
        omega
      · cases hr
    · cases hr
set_option maxHeartbeats 200000 in
theorem ls_H_rs (hI : ls_Inv T n c) (h6 : c.1 < 6) (hH : ls_H T c) (hr : ls_rs T V c = .ok c') : ls_H T c' := by
  obtain ⟨st, pos, es, pe, fr, L, k⟩ := c
  obtain ⟨i1, i2, i3, i4, i5, i6, i7⟩ := hI
  unfold ls_rs at hr
  dsimp only at hr h6
  split at hr
  · exact ls_H_r0 hr
  split at hr
  · next q => subst q; rw [if_neg (by omega)] at i7; exact ls_H_r1 i7.2.2.1 hr
  split at hr
  · next q => subst q; rw [if_neg (by omega)] at i7; exact ls_H_r2 i7.2.2.1 hr
  split at hr
  · exact ls_H_r3 hr
  split at hr
  · next q => subst q; exact ls_H_r4 hH hr
  · have q : st = 5 := by omega
    subst q; exact ls_H_r5 hH hr
end
section
variable {T : Nat → Nat} {V : Nat → Int32} {n : Nat} {pos es : Nat} {pe : List LsP} {fr : List LsF} {L : List Nat} {k : LsK} {c c' : LsC}
set_option maxHeartbeats 200000 in
theorem ls_n6 {st pos' es' : Nat} {pe' : List LsP} {fr' : List LsF} {L' : List Nat} {k' : LsK} (h : st ≠ 6) : ((st, pos', es', pe', fr', L', k') : LsC).1 = 6 → fr' = [] := fun q => absurd q h
set_option maxHeartbeats 200000 in
theorem ls_rs6_4 (hr : ls_r4 T V pos es pe fr L k = .ok c') (h : c'.1 = 6) : c'.2.2.2.2.1 = [] := by
  unfold ls_r4 ls_flt at hr
  dsimp only at hr
  split at hr
  · repeat' split at hr
    all_goals (injection hr with hr; subst hr; exact ls_n6 (by decide) h)
  split at hr
  · injection hr with hr; subst hr; exact ls_n6 (by decide) h
  split at hr
  · injection hr with hr; subst hr; exact ls_n6 (by decide) h
  split at hr
  · injection hr with hr; subst hr; exact ls_n6 (by decide) h
  split at hr
  · injection hr with hr; subst hr; exact ls_n6 (by decide) h
  split at hr
  · repeat' split at hr
    all_goals first | cases hr; done | (injection hr with hr; subst hr; exact ls_n6 (by decide) h)
  split at hr
  · injection hr with hr; subst hr; exact ls_n6 (by decide) h
  · cases hr
set_option maxHeartbeats 200000 in
theorem ls_rs6_5 (hr : ls_r5 T pos es pe fr L k = .ok c') (h : c'.1 = 6) : c'.2.2.2.2.1 = [] := by
  unfold ls_r5 ls_flt at hr
  dsimp only at hr
  split at hr
  · split at hr
    · injection hr with hr; subst hr; exact ls_n6 (by decide) h
    · unfold ls_end at hr
      repeat' split at hr
      all_goals first | cases hr; done | (injection hr with hr; subst hr; exact ls_n6 (by decide) h)
  · repeat' split at hr
    all_goals first | cases hr; done | (injection hr with hr; subst hr; exact ls_n6 (by decide) h)
set_option maxHeartbeats 200000 in
theorem ls_rs6 (hr : ls_rs T V c = .ok c') (h : c'.1 = 6) : c'.2.2.2.2.1 = [] := by
  obtain ⟨st, pos, es, pe, fr, L, k⟩ := c
  unfold ls_rs at hr
  dsimp only at hr
  split at hr
  · unfold ls_r0 at hr
    split at hr
    · next q => injection hr with hr; subst hr; exact q.2
    · repeat' split at hr
      all_goals (injection hr with hr; subst hr; exact ls_n6 (by decide) h)
  split at hr
  · unfold ls_r1 ls_hdr at hr
    dsimp only at hr
    repeat' split at hr
    all_goals first | cases hr; done | (injection hr with hr; subst hr; exact ls_n6 (by decide) h)
  split at hr
  · unfold ls_r2 ls_var at hr
    dsimp only at hr
    repeat' split at hr
    all_goals first | cases hr; done | (injection hr with hr; subst hr; exact ls_n6 (by decide) h)
  split at hr
  · unfold ls_r3 at hr
    repeat' split at hr
    all_goals (injection hr with hr; subst hr; exact ls_n6 (by decide) h)
  split at hr
  · exact ls_rs6_4 hr h
  · exact ls_rs6_5 hr h
end
/-- a good reading -/
def ls_tl (T : Nat → Nat) (V : Nat → Int32) (n : Nat) (C : Nat → LsC) (N : Nat) (kF : LsK) : Prop :=
  ls_txt T n ∧ (∀ t, t < N → (C t).1 < 6 ∧ ls_rs T V (C t) = .ok (C (t + 1))) ∧ ((C N).1 = 6 ∧ (C N).2.2.2.2.1 = []) ∧ N ≤ 1120 ∧ (∀ t, t ≤ N → ls_fin T V (C t) kF ∧ ls_Inv T n (C t) ∧ ls_J (C t) ∧ ls_H T (C t) ∧ ∃ y, ls_al T n (C t) y)
section
variable {T : Nat → Nat} {V : Nat → Int32} {n : Nat} {c d : LsC} {kF : LsK}
set_option maxHeartbeats 200000 in
theorem ls_tl_mk (hT : ls_txt T n) : ∀ (m : Nat) (c : LsC) (y : LsY), m ≤ 1120 → ls_mu n c ≤ m → c.1 ≤ 6 → (c.1 = 6 → c.2.2.2.2.1 = []) → ls_Inv T n c → ls_J c → ls_H T c → ls_al T n c y → ls_run T V m c = .ok d → kF = ls_em (ls_kk7 d) 0 0 0 (nI d.2.1) → ∃ C N, N ≤ m ∧ C 0 = c ∧ ls_tl T V n C N kF := by
  intro m
  induction m with
  | zero =>
    intro c y m1 hm h6 h6f hI hJ hH ha hr hk
    have e6 := ls_mu0 h6 hI (by omega)
    have hr' : Except.ok c = Except.ok (ε := Nat) d := hr
    injection hr' with hr'
    refine ⟨fun _ => c, 0, Nat.le_refl _, rfl, hT, fun t h => by omega, ⟨e6, h6f e6⟩, by omega, fun t _ => ⟨⟨0, d, hr, ?_, hk⟩, hI, hJ, hH, y, ha⟩⟩
    rw [← hr']; exact e6
  | succ m ih =>
    intro c y m1 hm h6 h6f hI hJ hH ha hr hk
    by_cases e6 : c.1 = 6
    · have hr' := hr
      unfold ls_run at hr'
      rw [if_pos e6] at hr'
      injection hr' with hr'
      refine ⟨fun _ => c, 0, by omega, rfl, hT, fun t h => by omega, ⟨e6, h6f e6⟩, by omega, fun t _ => ⟨⟨m + 1, d, hr, ?_, hk⟩, hI, hJ, hH, y, ha⟩⟩
      rw [← hr']; exact e6
    · have hr' := hr
      unfold ls_run at hr'
      rw [if_neg e6] at hr'
      cases hs : ls_rs T V c with
      | error e => rw [hs] at hr'; cases hr'
      | ok c' =>
        rw [hs] at hr'
        dsimp only at hr'
        obtain ⟨j1, j2⟩ := ls_inv_rs hT (by omega) hI hs
        have A : ls_ag T n c y (ls_rs T V c) := by
          obtain ⟨st, pos, es, pe, fr, L, k⟩ := c
          dsimp only at e6 h6
          unfold ls_rs
          dsimp only
          rcases (show st = 0 ∨ st = 1 ∨ st = 2 ∨ st = 3 ∨ st = 4 ∨ st = 5 by omega) with rfl | rfl | rfl | rfl | rfl | rfl
          · exact ls_ag0 hT hI ha
          · exact ls_ag1 hT hI ha
          · exact ls_ag2 hT hI ha
          · exact ls_ag3 hT hI ha
          · exact ls_ag4 hT hI ha
          · exact ls_ag5 hT hI ha
        rw [hs] at A
        rcases A with ⟨y', al', e'⟩ | ⟨hd, e'⟩
        · obtain ⟨C, N, n1, n2, n3⟩ := ih c' y' (by omega) (by omega) (ls_st6 hs) (ls_rs6 hs) j1 (ls_js_rs hT (by omega) hI hJ hs).1 (ls_H_rs hI (by omega) hH hs) al' hr' hk
          obtain ⟨t1, t2, t3, t4, t5⟩ := n3
          refine ⟨fun t => match t with | 0 => c | t + 1 => C t, N + 1, by omega, rfl, hT, ?_, t3, by omega, ?_⟩
          · intro t ht
            cases t with
            | zero => exact ⟨by show c.1 < 6; omega, by show ls_rs T V c = .ok (C 0); rw [n2]; exact hs⟩
            | succ t => exact t2 t (by omega)
          · intro t ht
            cases t with
            | zero =>
              obtain ⟨m', d', r1, r2, r3⟩ := (t5 0 (by omega)).1
              refine ⟨⟨m' + 1, d', ?_, r2, r3⟩, hI, hJ, hH, y, ha⟩
              show ls_run T V (m' + 1) c = _
              unfold ls_run
              rw [if_neg e6, hs]
              dsimp only
              rw [← n2]; exact r1
            | succ t => exact t5 t (by omega)
        · have D := ls_doomed (V := V) hT m c' hd j1 (by omega)
          rw [D] at hr'
          cases hr'
end
section
variable {T : Nat → Nat} {V : Nat → Int32} {n : Nat} {C : Nat → LsC} {N : Nat} {kF : LsK} {t st pos es : Nat} {pe : List LsP} {fr : List LsF} {L : List Nat} {k : LsK}
set_option maxHeartbeats 200000 in
theorem ls_tl_lt (h : ls_tl T V n C N kF) (ht : t ≤ N) (e : C t = (st, pos, es, pe, fr, L, k)) (hs : st ≠ 6) : t < N := by
  apply Decidable.byContradiction
  intro q
  have : t = N := by omega
  subst this
  have := h.2.2.1.1
  rw [e] at this
  exact hs this
set_option maxHeartbeats 200000 in
theorem ls_tl0 (h : ls_tl T V n C N kF) (ht : t ≤ N) (e : C t = (0, pos, es, pe, fr, L, k)) : t < N ∧ ls_r0 T pos es pe fr L k = .ok (C (t + 1)) := by
  have lt := ls_tl_lt h ht e (by decide)
  have s := (h.2.1 t lt).2
  rw [e] at s
  exact ⟨lt, s⟩
set_option maxHeartbeats 200000 in
theorem ls_tl1 (h : ls_tl T V n C N kF) (ht : t ≤ N) (e : C t = (1, pos, es, pe, fr, L, k)) : t < N ∧ ls_r1 T pos es pe fr L k = .ok (C (t + 1)) := by
  have lt := ls_tl_lt h ht e (by decide)
  have s := (h.2.1 t lt).2
  rw [e] at s
  exact ⟨lt, s⟩
set_option maxHeartbeats 200000 in
theorem ls_tl2 (h : ls_tl T V n C N kF) (ht : t ≤ N) (e : C t = (2, pos, es, pe, fr, L, k)) : t < N ∧ ls_r2 T pos es pe fr L k = .ok (C (t + 1)) := by
  have lt := ls_tl_lt h ht e (by decide)
  have s := (h.2.1 t lt).2
  rw [e] at s
  exact ⟨lt, s⟩
set_option maxHeartbeats 200000 in
theorem ls_tl3 (h : ls_tl T V n C N kF) (ht : t ≤ N) (e : C t = (3, pos, es, pe, fr, L, k)) : t < N ∧ ls_r3 T pos es pe fr L k = .ok (C (t + 1)) := by
  have lt := ls_tl_lt h ht e (by decide)
  have s := (h.2.1 t lt).2
  rw [e] at s
  exact ⟨lt, s⟩
set_option maxHeartbeats 200000 in
theorem ls_tl4 (h : ls_tl T V n C N kF) (ht : t ≤ N) (e : C t = (4, pos, es, pe, fr, L, k)) : t < N ∧ ls_r4 T V pos es pe fr L k = .ok (C (t + 1)) := by
  have lt := ls_tl_lt h ht e (by decide)
  have s := (h.2.1 t lt).2
  rw [e] at s
  exact ⟨lt, s⟩
set_option maxHeartbeats 200000 in
theorem ls_tl5 (h : ls_tl T V n C N kF) (ht : t ≤ N) (e : C t = (5, pos, es, pe, fr, L, k)) : t < N ∧ ls_r5 T pos es pe fr L k = .ok (C (t + 1)) := by
  have lt := ls_tl_lt h ht e (by decide)
  have s := (h.2.1 t lt).2
  rw [e] at s
  exact ⟨lt, s⟩
set_option maxHeartbeats 200000 in
/-- after an operand: what ends it is one of three tokens -/
theorem ls_qe (h : ls_tl T V n C N kF) : ∀ (pe : List LsP) (t : Nat) (k : LsK), t ≤ N → C t = (5, pos, es, pe, fr, L, k) → ls_lv (T pos) ≤ 2 → T pos = 16 ∨ T pos = 19 ∨ T pos = 20 := by
  intro pe
  induction pe with
  | nil =>
    intro t k ht e lv
    obtain ⟨lt, s⟩ := ls_tl5 h ht e
    unfold ls_r5 at s
    dsimp only at s
    rw [if_neg (by omega)] at s
    unfold ls_end at s
    repeat' split at s
    all_goals first | cases s; done | omega
  | cons x r ih =>
    intro t k ht e lv
    obtain ⟨lt, s⟩ := ls_tl5 h ht e
    obtain ⟨x1, x2, x3⟩ := x
    unfold ls_r5 at s
    dsimp only at s
    split at s
    · injection s with s
      exact ih (t + 1) _ (by omega) s.symm lv
    · rw [if_neg (by omega)] at s
      split at s
      · omega
      · split at s
        · omega
        · cases s
end
