section
variable {T : Nat → Nat} {V : Nat → Int32} {n : Nat} {pos es : Nat} {pe : List LsP} {fr : List LsF} {L : List Nat} {k : LsK} {y : LsY}
set_option maxHeartbeats 200000 in
/-- the reference's state at the head of a statement -/
theorem ls_al_s {st : Nat} (hst : st = 0 ∨ st = 1 ∨ st = 2) (h : ls_al T n (st, pos, es, pe, fr, L, k) y) : ∃ C fl ct fu, y = (if 3 ≤ ls_fk fr then 1 else 0, C, [], fl, ct, fu, ls_m54 L) ∧ ls_mb fr ∧ ls_fk fr ≠ 2 ∧ ls_rc fr C ∧ (st = 1 → ls_fk fr < 3 → 6 ≤ T pos ∧ (fr ≠ [] → T pos ≠ 18) ∧ (fr = [] → T pos ≠ 72)) := by
  obtain ⟨nd, C, O, fl, ct, fu, N⟩ := y
  obtain ⟨hm, h⟩ := h
  have h' : (if st = 4 ∨ st = 5 then _ else if st = 6 then _ else _) := h
  rw [if_neg (by omega), if_neg (by omega)] at h'
  obtain ⟨rfl, h'⟩ := h'
  rw [if_neg (by omega)] at h'
  obtain ⟨rfl, h2, h3, rfl, h5⟩ := h'
  exact ⟨C, fl, ct, fu, rfl, hm, h2, h3, h5⟩
set_option maxHeartbeats 200000 in
theorem ls_al_mk {st C fl ct fu} (hst : st = 0 ∨ st = 1 ∨ st = 2) (hm : ls_mb fr) (h2 : ls_fk fr ≠ 2) (h3 : ls_rc fr C) (h5 : st = 1 → ls_fk fr < 3 → 6 ≤ T pos ∧ (fr ≠ [] → T pos ≠ 18) ∧ (fr = [] → T pos ≠ 72)) : ls_al T n (st, pos, es, pe, fr, L, k) (if 3 ≤ ls_fk fr then 1 else 0, C, [], fl, ct, fu, ls_m54 L) := by
  refine ⟨hm, ?_⟩
  show (if st = 4 ∨ st = 5 then _ else if st = 6 then _ else _)
  rw [if_neg (by omega), if_neg (by omega)]
  refine ⟨rfl, ?_⟩
  rw [if_neg (by omega)]
  exact ⟨rfl, h2, h3, rfl, h5⟩
set_option maxHeartbeats 200000 in
theorem ls_al_3 {C fl ct fu} (hm : ls_mb fr) (h2 : ls_fk fr ≠ 2) (h3 : ls_rc fr C) : ls_al T n (3, pos, es, pe, fr, L, k) (0, C, [], fl, ct, fu, ls_m54 L) := by
  unfold ls_al
  dsimp only
  rw [if_neg (by decide), if_neg (by decide), if_pos rfl, if_neg h2]
  exact ⟨hm, rfl, rfl, h3, rfl⟩
set_option maxHeartbeats 200000 in
theorem ls_mb_c {f : LsF} (h : ls_mb fr) (h2 : ls_fk fr ≠ 2) : ls_mb (f :: fr) := ⟨fun e => absurd e h2, h⟩
set_option maxHeartbeats 200000 in
theorem ls_mb_2 {f : LsF} (h : ls_mb (f :: fr)) (h1 : f.1 ≠ 1) : ls_fk fr ≠ 2 := fun e => h1 (h.1 e)
set_option maxHeartbeats 200000 in
/-- what the reference does at a statement's first token -/
theorem ls_yg_s {C fl ct fu} {t : Nat} {N : List Nat} (h2 : ls_fk fr ≠ 2) (h3 : ls_rc fr C) (h0 : ∀ f ∈ fr, 1 ≤ f.1) : ls_yg (if 3 ≤ ls_fk fr then 1 else 0, C, [], fl, ct, fu, N) t = ls_ybeg (decide (ls_fk fr < 3)) t C [] fl ct fu N := by
  by_cases q : 3 ≤ ls_fk fr
  · rw [if_pos q, decide_eq_false (by omega)]; rfl
  · rw [if_neg q, decide_eq_true (by omega)]
    show (match ls_yfin t C with | (true, C1) => _ | (false, C1) => _) = _
    rw [ls_yfin_n (ls_rc_top h3 (by omega) h2 h0)]
set_option maxHeartbeats 200000 in
theorem ls_fok_1le {fr : List LsF} (h : ls_fok k fr) : ∀ f ∈ fr, 1 ≤ f.1 := fun f hf => (ls_fok_all h hf).1.1
set_option maxHeartbeats 200000 in
theorem ls_drop_l {l : List Nat} {m : Nat} (h : l = L.drop m) : (ls_m54 L).drop ((ls_m54 L).length - l.length) = ls_m54 l := by
  unfold ls_m54
  rw [List.length_map, ← List.map_drop]
  congr 1
  rw [h, List.length_drop]
  by_cases q : m ≤ L.length
  · rw [show L.length - (L.length - m) = m by omega]
  · rw [show L.length - (L.length - m) = L.length by omega, List.drop_length, List.drop_of_length_le (by omega)]
set_option maxHeartbeats 200000 in
theorem ls_ag0 (hT : ls_txt T n) (hI : ls_Inv T n (0, pos, es, pe, fr, L, k)) (h : ls_al T n (0, pos, es, pe, fr, L, k) y) : ls_ag T n (0, pos, es, pe, fr, L, k) y (ls_r0 T pos es pe fr L k) := by
  obtain ⟨C, fl, ct, fu, rfl, hm, h2, h3, _⟩ := ls_al_s (Or.inl rfl) h
  obtain ⟨i1, i2, i3, i4, i5, i6, i7⟩ := hI
  rw [if_neg (by omega)] at i7
  obtain ⟨a1, a2, a3, a4, a5⟩ := i7
  unfold ls_r0
  by_cases e : T pos = 72 ∧ fr = []
  · rw [if_pos e]
    obtain ⟨e1, e2⟩ := e
    subst e2
    have hC : C = [] := h3
    subst hC
    refine Or.inl ⟨_, ?_, rfl⟩
    refine ⟨hm, ?_⟩
    dsimp only
    rw [if_neg (by decide), if_pos rfl]
    have : pos = n := by
      apply Decidable.byContradiction
      intro hh
      have := hT.2.1 pos (by omega)
      omega
    subst this
    rw [Nat.sub_self]; rfl
  · rw [if_neg e]
    cases fr with
    | nil =>
      dsimp only
      by_cases t6 : T pos < 6
      · rw [if_pos t6]
        exact Or.inl ⟨_, ls_al_mk (Or.inr (Or.inr rfl)) hm h2 h3 (fun h => by omega), rfl⟩
      · rw [if_neg t6]
        exact Or.inl ⟨_, ls_al_mk (Or.inr (Or.inl rfl)) hm h2 h3 (fun _ _ => ⟨by omega, fun h => absurd rfl h, fun _ h => e ⟨h, rfl⟩⟩), rfl⟩
    | cons f r =>
      obtain ⟨fk, mo, sp, l⟩ := f
      dsimp only
      have hf1 := ls_fok_1le a4 _ (List.mem_cons_self ..)
      dsimp only at hf1
      by_cases q1 : fk = 1
      · subst q1
        rw [if_pos rfl]
        by_cases t18 : T pos = 18
        · rw [if_pos t18]
          have pn := ls_txt_lt hT (p := pos) (by omega)
          obtain ⟨a, D, hD, ha, _, hr⟩ := ls_rc_cons (f := (1, mo, sp, l)) (by show ¬ ((1 : Nat) = 6 ∨ 9 ≤ 1); decide) h3
          have ha := ha rfl
          dsimp only at ha
          subst ha hD
          obtain ⟨s1, ⟨m, s2⟩, s3⟩ := (show a = l.length ∧ (∃ m, l = L.drop m) ∧ ls_sco r l from i4)
          have G : ls_yg (if 3 ≤ ls_fk ((1, a, sp, l) :: r) then 1 else 0, (ls_kk 1, a) :: D, [], fl, ct, fu, ls_m54 L) (T pos) = ls_ycl ((1, a) :: D) [] fl ct fu (ls_m54 L) := by
            rw [ls_yg_s h2 h3 (ls_fok_1le a4), t18]; rfl
          refine Or.inl ?_
          by_cases rm : ls_fk r = 2
          · cases r with
            | nil => exact absurd rm (by show (0 : Nat) ≠ 2; decide)
            | cons g r2 =>
              have g2 : g.1 = 2 := rm
              obtain ⟨r20, _⟩ := a4.2.2.2.2.2.1 g2
              subst r20
              obtain ⟨b, E, hE, _, hb, hr2⟩ := ls_rc_cons (f := g) (by omega) hr
              have hb := hb g2
              have hE2 : E = [] := hr2
              subst hE hE2 hb
              refine ⟨(0, [], [], fl, ct, fu, []), ?_, ?_⟩
              · unfold ls_al
                dsimp only
                rw [if_neg (by decide), if_neg (by decide), if_pos rfl, if_pos rm]
                exact ⟨hm.2, rfl, rfl, rfl, rfl⟩
              · refine (ls_yv_step pn ?_).symm
                rw [G, g2]
                show some (0, [], [], fl, ct, fu, (ls_m54 L).drop ((ls_m54 L).length - 0)) = _
                rw [Nat.sub_zero, List.drop_length]
          · refine ⟨(0, D, [], fl, ct, fu, ls_m54 l), ls_al_3 hm.2 rm hr, ?_⟩
            refine (ls_yv_step pn ?_).symm
            rw [G]
            have dl := ls_drop_l (L := L) s2
            rw [← s1] at dl
            cases r with
            | nil =>
              have hD : D = [] := hr
              subst hD
              show some (0, [], [], fl, ct, fu, (ls_m54 L).drop ((ls_m54 L).length - a)) = _
              rw [dl]
            | cons g r2 =>
              have g2 : g.1 ≠ 2 := rm
              have gk := a4.2.2.2.1
              obtain ⟨b, E, hE, _, _, hr2⟩ := ls_rc_cons (f := g) (by omega) hr
              subst hE
              have e3 : ls_kk g.1 ≠ 3 := by unfold ls_kk; (repeat' split) <;> omega
              show (if ls_kk g.1 = 3 then _ else some (0, (ls_kk g.1, b) :: E, [], fl, ct, fu, (ls_m54 L).drop ((ls_m54 L).length - a))) = _
              rw [if_neg e3, dl]
        · rw [if_neg t18]
          by_cases t6 : T pos < 6
          · rw [if_pos t6]
            exact Or.inl ⟨_, ls_al_mk (Or.inr (Or.inr rfl)) hm h2 h3 (fun h => by omega), rfl⟩
          · rw [if_neg t6]
            exact Or.inl ⟨_, ls_al_mk (Or.inr (Or.inl rfl)) hm h2 h3 (fun _ _ => ⟨by omega, fun _ => t18, fun h => absurd h (List.cons_ne_nil _ _)⟩), rfl⟩
      · rw [if_neg q1]
        have h2' : fk ≠ 2 := h2
        refine Or.inl ⟨_, ls_al_mk (Or.inr (Or.inl rfl)) hm h2 h3 (fun _ h => ?_), rfl⟩
        have : fk < 3 := h
        omega
set_option maxHeartbeats 200000 in
theorem ls_yg_0 {C : List (Nat × Nat)} {fl ct fu t : Nat} {O N : List Nat} {a : Nat} {kd : Nat} (h : kd = 2 ∨ kd = 5 ∨ (kd = 4 ∧ t ≠ 7)) : ls_yfin t ((kd, a) :: C) = ls_yfin t C := by
  show (if kd = 2 ∨ 3 < kd then (if kd = 4 ∧ t = 7 then _ else _) else _) = _
  rw [if_pos (by omega), if_neg (by omega)]
set_option maxHeartbeats 200000 in
theorem ls_yv_pop (hT : ls_txt T n) (hp : pos ≤ n) {C : List (Nat × Nat)} {fl ct fu : Nat} {O N : List Nat} {a : Nat} {kd : Nat} (h : kd = 2 ∨ kd = 5 ∨ (kd = 4 ∧ T pos ≠ 7)) : ls_yv T n (n - pos) pos (0, (kd, a) :: C, O, fl, ct, fu, N) = ls_yv T n (n - pos) pos (0, C, O, fl, ct, fu, N) := by
  by_cases q : pos = n
  · subst q
    rw [Nat.sub_self]
    show (if (0 : Nat) = 0 ∧ (ls_yfin 99 ((kd, a) :: C)).2 = [] then _ else _) = (if (0 : Nat) = 0 ∧ (ls_yfin 99 C).2 = [] then _ else _)
    rw [ls_yg_0 (C := C) (fl := 0) (ct := 0) (fu := 0) (O := []) (N := []) (t := 99) (by omega)]
  · rw [show n - pos = (n - (pos + 1)) + 1 by omega]
    show (match ls_yg _ (T pos) with | none => some pos | some y' => _) = (match ls_yg _ (T pos) with | none => some pos | some y' => _)
    have e : ls_yg (0, (kd, a) :: C, O, fl, ct, fu, N) (T pos) = ls_yg (0, C, O, fl, ct, fu, N) (T pos) := by
      show (match ls_yfin (T pos) ((kd, a) :: C) with | (true, C1) => _ | (false, C1) => _) = (match ls_yfin (T pos) C with | (true, C1) => _ | (false, C1) => _)
      rw [ls_yg_0 (C := C) (fl := 0) (ct := 0) (fu := 0) (O := []) (N := []) h]
    rw [e]
set_option maxHeartbeats 200000 in
theorem ls_ag3 (hT : ls_txt T n) (hI : ls_Inv T n (3, pos, es, pe, fr, L, k)) (h : ls_al T n (3, pos, es, pe, fr, L, k) y) : ls_ag T n (3, pos, es, pe, fr, L, k) y (ls_r3 T pos es pe fr L k) := by
  obtain ⟨nd, C, O, fl, ct, fu, N⟩ := y
  unfold ls_al at h
  dsimp only at h
  rw [if_neg (by decide), if_neg (by decide), if_pos rfl] at h
  obtain ⟨hm, rfl, rfl, h'⟩ := h
  obtain ⟨i1, i2, i3, i4, i5, i6, i7⟩ := hI
  rw [if_neg (by omega)] at i7
  obtain ⟨a1, a2, a3, a4, a5⟩ := i7
  unfold ls_r3
  cases fr with
  | nil =>
    rw [if_neg (by decide)] at h'
    obtain ⟨h3, rfl⟩ := h'
    exact Or.inl ⟨_, ls_al_mk (st := 0) (fr := []) (Or.inl rfl) trivial (by decide) h3 (fun h => by omega), rfl⟩
  | cons f r =>
    obtain ⟨fk, mo, sp, l⟩ := f
    obtain ⟨⟨f1, f5⟩, f2, f3, f4⟩ := a4
    dsimp only at f1 f5 f2 f3 ⊢
    by_cases q2 : fk = 2
    · subst q2
      rw [if_pos (show ls_fk ((2, mo, sp, l) :: r) = 2 from rfl)] at h'
      obtain ⟨rfl, rfl⟩ := h'
      obtain ⟨r0, _⟩ := f3 rfl
      subst r0
      rw [if_neg (by decide), if_neg (by decide), if_neg (by decide), if_pos rfl]
      exact Or.inl ⟨_, ls_al_3 (fr := []) (L := []) trivial (by decide) rfl, rfl⟩
    · rw [if_neg (show ¬ ls_fk ((fk, mo, sp, l) :: r) = 2 from q2)] at h'
      obtain ⟨h3, rfl⟩ := h'
      obtain ⟨a, D, hD, ha, _, hr⟩ := ls_rc_cons (f := (fk, mo, sp, l)) (by dsimp only; omega) h3
      dsimp only at hD ha
      subst hD
      have hrm : fk ≠ 1 → ls_fk r ≠ 2 := fun h => ls_mb_2 hm h
      by_cases q3 : fk = 3
      · subst q3
        rw [if_pos rfl]
        by_cases t7 : T pos = 7
        · rw [if_pos t7]
          have pn := ls_txt_lt hT (p := pos) (by omega)
          refine Or.inl ⟨(1, (5, a) :: D, [], fl, ct, fu, ls_m54 L), ls_al_mk (st := 0) (fr := (4, k.1, sp, []) :: r) (Or.inl rfl) (ls_mb_c hm.2 (hrm (by decide))) (by show (4 : Nat) ≠ 2; decide) (ls_rc_mk (f := (4, k.1, sp, [])) (by show ¬ ((4 : Nat) = 6 ∨ 9 ≤ 4); decide) (fun h => absurd h (by show (4 : Nat) ≠ 1; decide)) (fun h => absurd h (by show (4 : Nat) ≠ 2; decide)) hr) (fun h => by omega), ?_⟩
          refine (ls_yv_step pn ?_).symm
          rw [t7]; rfl
        · rw [if_neg t7]
          exact Or.inl ⟨_, ls_al_3 (fl := fl) (ct := ct) (fu := fu) hm.2 (hrm (by decide)) hr, (ls_yv_pop hT i1 (kd := 4) (Or.inr (Or.inr ⟨rfl, t7⟩))).symm⟩
      rw [if_neg q3]
      by_cases q4 : fk = 4
      · subst q4
        rw [if_pos rfl]
        exact Or.inl ⟨_, ls_al_3 hm.2 (hrm (by decide)) hr, (ls_yv_pop hT i1 (kd := 5) (Or.inr (Or.inl rfl))).symm⟩
      rw [if_neg q4]
      by_cases q5 : fk = 5
      · subst q5
        rw [if_pos rfl]
        exact Or.inl ⟨_, ls_al_3 hm.2 (hrm (by decide)) hr, (ls_yv_pop hT i1 (kd := 2) (Or.inl rfl)).symm⟩
      rw [if_neg q5, if_neg q2]
      have q1 : fk = 1 := by omega
      subst q1
      exact Or.inl ⟨_, ls_al_mk (st := 0) (fr := (1, mo, sp, l) :: r) (Or.inl rfl) hm (by show (1 : Nat) ≠ 2; decide) h3 (fun h => by omega), rfl⟩
end
