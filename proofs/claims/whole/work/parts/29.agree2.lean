section
variable {T : Nat → Nat} {V : Nat → Int32} {n : Nat} {pos es : Nat} {pe : List LsP} {fr : List LsF} {L : List Nat} {k : LsK} {y : LsY}
set_option maxHeartbeats 200000 in
theorem ls_mem54 {t : Nat} (h : 54 ≤ t) : t ∈ ls_m54 L ↔ t - 54 ∈ L := by
  unfold ls_m54
  rw [List.mem_map]
  constructor
  · rintro ⟨a, ha, rfl⟩
    rwa [show a + 54 - 54 = a by omega]
  · intro h2
    exact ⟨t - 54, h2, by omega⟩
set_option maxHeartbeats 200000 in
theorem ls_take54 (m : Nat) : (ls_m54 L).take m = ls_m54 (L.take m) := by
  unfold ls_m54
  rw [List.map_take]
set_option maxHeartbeats 200000 in
theorem ls_cons54 {t : Nat} (h : 54 ≤ t) : t :: ls_m54 L = ls_m54 ((t - 54) :: L) := by
  show t :: _ = (t - 54 + 54) :: _
  rw [show t - 54 + 54 = t by omega]; rfl
set_option maxHeartbeats 200000 in
theorem ls_ag_par (hT : ls_txt T n) {fl : Nat} : ∀ f i p L sg nd, i + f = 3 → L.length = i → p ≤ n → (nd = 10 ∧ T p ≠ 16 ∨ nd = 11) → match ls_par T f i p L sg with
    | .error e => 0 < f → ls_yv T n (n - p) p (nd, [(3, 0)], [], fl, 0, 20, ls_m54 L) = some e
    | .ok (q, L', _) => q ≤ n ∧ ls_yv T n (n - p) p (nd, [(3, 0)], [], fl, 0, 20, ls_m54 L) = ls_yv T n (n - q) q (0, [(1, L'.length), (3, 0)], [], fl, 0, 20, ls_m54 L') := by
  intro f
  induction f with
  | zero => intro i p L sg nd _ _ _ _; unfold ls_par; exact fun h => by omega
  | succ f ih =>
    intro i p L sg nd hi hL hp hnd
    have g1 : ∀ t, t ≠ 16 ∨ nd = 11 → ls_yg (nd, [(3, 0)], [], fl, 0, 20, ls_m54 L) t = if t < 6 then some (12, [(3, 0)], [], fl, 0, 20, ls_m54 L) else none := by
      intro t ht
      rcases hnd with ⟨rfl, h16⟩ | rfl
      · show (if ((10 : Nat) = 10 ∨ (10 : Nat) = 13) ∧ t = 16 then _ else _) = _
        rw [if_neg (fun h => by omega)]; rfl
      · rfl
    have g0 := g1 (T p) (by omega)
    have nd0 : nd ≠ 0 := by omega
    unfold ls_par
    by_cases t6 : T p < 6
    · rw [if_pos t6]
      rw [if_pos t6] at g0
      have pn := ls_txt_lt hT (p := p) (by omega)
      have s1 := ls_yv_step pn g0
      have d1 : ∀ t, ls_yg (12, [(3, 0)], [], fl, 0, 20, ls_m54 L) t = ls_ydec 13 t [(3, 0)] [] fl 0 20 (ls_m54 L) := fun t => rfl
      by_cases tn : ls_nam (T (p + 1)) ∧ ¬ (T (p + 1) - 54) ∈ L
      · rw [if_pos tn]
        have t54 := tn.1.1
        have t70 := tn.1.2
        have p1 := ls_txt_lt hT (p := p + 1) (by omega)
        have d2 : ls_yg (12, [(3, 0)], [], fl, 0, 20, ls_m54 L) (T (p + 1)) = some (13, [(3, 0)], [], fl, 0, 20, ls_m54 ((T (p + 1) - 54) :: L)) := by
          rw [d1]
          unfold ls_ydec
          rw [if_pos tn.1]
          show (if T (p + 1) ∈ (ls_m54 L).take ((ls_m54 L).length - 0) ∨ (ls_m54 L).length = 8 then none else some (13, _, _, _, _, _, T (p + 1) :: ls_m54 L)) = _
          rw [if_neg, ls_cons54 t54]
          intro h
          rcases h with h | h
          · rw [Nat.sub_zero, List.take_length, ls_mem54 t54] at h
            exact tn.2 h
          · rw [ls_m54_len] at h
            omega
        have s2 := s1.trans (ls_yv_step p1 d2)
        have d3 : ∀ t, ls_yg (13, [(3, 0)], [], fl, 0, 20, ls_m54 ((T (p + 1) - 54) :: L)) t = if t = 16 then some (14, [(3, 0)], [], fl, 0, 20, ls_m54 ((T (p + 1) - 54) :: L)) else if t = 19 ∧ (ls_m54 ((T (p + 1) - 54) :: L)).length < 3 then some (11, [(3, 0)], [], fl, 0, 20, ls_m54 ((T (p + 1) - 54) :: L)) else none := by
          intro t
          show (if ((13 : Nat) = 10 ∨ (13 : Nat) = 13) ∧ t = 16 then _ else _) = _
          by_cases h : t = 16
          · rw [if_pos ⟨Or.inr rfl, h⟩, if_pos h]
          · rw [if_neg (fun g => h g.2), if_neg h]; rfl
        have len1 : (ls_m54 ((T (p + 1) - 54) :: L)).length = i + 1 := by rw [ls_m54_len]; show L.length + 1 = _; omega
        by_cases t19 : T (p + 2) = 19
        · rw [if_pos t19]
          have p2 := ls_txt_lt hT (p := p + 2) (by omega)
          by_cases i3 : i + 1 < 3
          · rw [if_pos i3]
            have s3 := s2.trans (ls_yv_step p2 (show ls_yg _ (T (p + 2)) = some (11, [(3, 0)], [], fl, 0, 20, ls_m54 ((T (p + 1) - 54) :: L)) by
              rw [d3, if_neg (by omega), if_pos ⟨t19, by omega⟩]))
            have I := ih (i + 1) (p + 3) ((T (p + 1) - 54) :: L) (sg + 16 + T p * 2 ^ (6 + 3 * i)) 11 (by omega) (by show L.length + 1 = _; omega) (by omega) (Or.inr rfl)
            revert I
            cases ls_par T f (i + 1) (p + 3) ((T (p + 1) - 54) :: L) (sg + 16 + T p * 2 ^ (6 + 3 * i)) with
            | error e => exact fun I _ => s3.trans (I (by omega))
            | ok r => exact fun I => ⟨I.1, s3.trans I.2⟩
          · rw [if_neg i3]
            exact fun _ => s2.trans (ls_yv_bad (p := p + 2) hT (by omega) (fun _ => by rw [d3, if_neg (by omega), if_neg (by omega)]) (fun _ => ls_yv_0 (by decide)))
        · rw [if_neg t19]
          by_cases t16 : T (p + 2) = 16
          · rw [if_pos t16]
            have p2 := ls_txt_lt hT (p := p + 2) (by omega)
            have s3 := s2.trans (ls_yv_step p2 (show ls_yg _ (T (p + 2)) = some (14, [(3, 0)], [], fl, 0, 20, ls_m54 ((T (p + 1) - 54) :: L)) by
              rw [d3, if_pos t16]))
            by_cases t17 : T (p + 3) = 17
            · rw [if_pos t17]
              have p3 := ls_txt_lt hT (p := p + 3) (by omega)
              refine ⟨by omega, s3.trans (ls_yv_step p3 ?_)⟩
              rw [t17]
              show some (0, (1, (ls_m54 ((T (p + 1) - 54) :: L)).length) :: [(3, 0)], [], fl, 0, 20, ls_m54 ((T (p + 1) - 54) :: L)) = _
              rw [ls_m54_len]
            · rw [if_neg t17]
              refine fun _ => s3.trans (ls_yv_bad (p := p + 3) hT (by omega) (fun _ => ?_) (fun _ => ls_yv_0 (by decide)))
              show (if T (p + 3) = 17 then _ else none) = none
              rw [if_neg t17]
          · rw [if_neg t16]
            exact fun _ => s2.trans (ls_yv_bad (p := p + 2) hT (by omega) (fun _ => by rw [d3, if_neg t16, if_neg (by omega)]) (fun _ => ls_yv_0 (by decide)))
      · rw [if_neg tn]
        refine fun _ => s1.trans (ls_yv_bad (p := p + 1) hT (by omega) (fun _ => ?_) (fun _ => ls_yv_0 (by decide)))
        rw [d1]
        unfold ls_ydec
        by_cases nm : ls_nam (T (p + 1))
        · rw [if_pos nm]
          show (if T (p + 1) ∈ (ls_m54 L).take ((ls_m54 L).length - 0) ∨ (ls_m54 L).length = 8 then none else _) = none
          rw [if_pos]
          refine Or.inl ?_
          rw [Nat.sub_zero, List.take_length, ls_mem54 nm.1]
          exact Decidable.byContradiction fun h => tn ⟨nm, h⟩
        · rw [if_neg nm]
    · rw [if_neg t6]
      rw [if_neg t6] at g0
      exact fun _ => ls_yv_bad (p := p) hT hp (fun _ => g0) (fun _ => ls_yv_0 nd0)
set_option maxHeartbeats 200000 in
theorem ls_ag2 (hT : ls_txt T n) (hI : ls_Inv T n (2, pos, es, pe, fr, L, k)) (h : ls_al T n (2, pos, es, pe, fr, L, k) y) : ls_ag T n (2, pos, es, pe, fr, L, k) y (ls_r2 T pos es pe fr L k) := by
  obtain ⟨C, fl, ct, fu, rfl, hm, h2, h3, hs⟩ := ls_al_s (Or.inr (Or.inr rfl)) h
  obtain ⟨i1, i2, i3, i4, i5, i6, i7⟩ := hI
  rw [if_neg (by omega)] at i7
  obtain ⟨a1, a2, a3, a4, a5⟩ := i7
  obtain ⟨t6, a6⟩ := a5 rfl
  subst a3
  have pn := ls_txt_lt hT (p := pos) (by omega)
  have fk3 : ls_fk fr < 3 := by
    cases fr with
    | nil => exact (by decide : (0 : Nat) < 3)
    | cons f r => have := a6 f rfl; show f.1 < 3; omega
  have G : ls_yg (if 3 ≤ ls_fk fr then 1 else 0, C, [], fl, ct, fu, ls_m54 L) (T pos) = some (8, C, [], fl, ct, fu, ls_m54 L) := by
    rw [ls_yg_s h2 h3 (ls_fok_1le a4), decide_eq_true fk3]
    unfold ls_ybeg
    rw [if_neg (by omega), if_pos t6, if_pos rfl]
  have s1 := ls_yv_step pn G
  have d1 : ∀ t, ls_yg (8, C, [], fl, ct, fu, ls_m54 L) t = ls_ydec 9 t C [] fl ct fu (ls_m54 L) := fun t => rfl
  have d9 : ∀ (t : Nat) (N : List Nat), ls_yg (9, C, [], fl, ct, fu, N) t = if t = 15 ∧ C = [] then some (10, [(3, N.length)], [], fl, 0, 20, N) else if t = 20 then some (0, C, [], fl, 0, 20, N) else if t = 21 then some (3, C, [], fl, 0, 20, N) else none := fun t N => rfl
  unfold ls_r2
  by_cases tn : ls_nam (T (pos + 1))
  · rw [if_pos tn]
    have t54 := tn.1
    have t70 := tn.2
    have p1 := ls_txt_lt hT (p := pos + 1) (by omega)
    cases fr with
    | nil =>
      have hC : C = [] := h3
      subst hC
      have hL : L = [] := i4
      subst hL
      have d2 : ls_yg (8, [], [], fl, ct, fu, ls_m54 []) (T (pos + 1)) = some (9, [], [], fl, ct, fu, ls_m54 []) := by
        rw [d1]; unfold ls_ydec; rw [if_pos tn]; rfl
      have s2 := s1.trans (ls_yv_step p1 d2)
      by_cases t15 : T (pos + 2) = 15
      · rw [if_pos (show ([] : List LsF) = [] ∧ T (pos + 2) = 15 from ⟨rfl, t15⟩)]
        have p2 := ls_txt_lt hT (p := pos + 2) (by omega)
        have s3 := s2.trans (ls_yv_step p2 (show ls_yg _ (T (pos + 2)) = some (10, [(3, 0)], [], fl, 0, 20, ls_m54 []) by
          rw [d9, if_pos ⟨t15, rfl⟩]; rfl))
        have AL : ∀ (p : Nat) (L1 : List Nat) (k1 : LsK) (r : LsF) (hr : r.1 = 2), ls_al T n (0, p, es, [], [(1, L1.length, p, L1), r], L1, k1) (0, [(1, L1.length), (3, 0)], [], fl, 0, 20, ls_m54 L1) := by
          intro p L1 k1 r hr
          refine ls_al_mk (st := 0) (fr := [(1, L1.length, p, L1), r]) (Or.inl rfl) ⟨fun _ => rfl, fun h => absurd h (by decide), trivial⟩ (by show (1 : Nat) ≠ 2; decide) ?_ (fun h => by omega)
          refine ls_rc_mk (f := (1, L1.length, p, L1)) (by show ¬ ((1 : Nat) = 6 ∨ 9 ≤ 1); decide) (fun _ => rfl) (fun h => absurd h (by show (1 : Nat) ≠ 2; decide)) ?_
          have := ls_rc_mk (f := r) (r := []) (D := []) (a := 0) (by omega) (fun h => by omega) (fun _ => rfl) rfl
          rw [hr] at this
          exact this
        unfold ls_head
        by_cases t16 : T (pos + 3) = 16
        · rw [if_pos t16]
          have p3 := ls_txt_lt hT (p := pos + 3) (by omega)
          have s4 := s3.trans (ls_yv_step p3 (show ls_yg _ (T (pos + 3)) = some (14, [(3, 0)], [], fl, 0, 20, ls_m54 []) by
            rw [t16]; rfl))
          by_cases t17 : T (pos + 4) = 17
          · rw [if_pos t17]
            have p4 := ls_txt_lt hT (p := pos + 4) (by omega)
            refine Or.inl ⟨_, AL (pos + 5) [] _ _ rfl, (s4.trans (ls_yv_step p4 ?_)).symm⟩
            rw [t17]; rfl
          · rw [if_neg t17]
            refine s4.trans (ls_yv_bad (p := pos + 4) hT (by omega) (fun _ => ?_) (fun _ => ls_yv_0 (by decide)))
            show (if T (pos + 4) = 17 then _ else none) = none
            rw [if_neg t17]
        · rw [if_neg t16]
          have P := ls_ag_par hT (fl := fl) 3 0 (pos + 3) [] (T (pos + 1) - 54) 10 rfl rfl (by omega) (Or.inl ⟨rfl, t16⟩)
          revert P
          cases ls_par T 3 0 (pos + 3) [] (T (pos + 1) - 54) with
          | error e => exact fun P => s3.trans (P (by decide))
          | ok r =>
            obtain ⟨q, L1, sg⟩ := r
            exact fun P => Or.inl ⟨_, AL q L1 _ _ rfl, (s3.trans P.2).symm⟩
      · rw [if_neg (show ¬ (([] : List LsF) = [] ∧ T (pos + 2) = 15) from fun h => t15 h.2)]
        unfold ls_var
        dsimp only
        by_cases t21 : T (pos + 2) = 21
        · rw [if_pos t21]
          have p2 := ls_txt_lt hT (p := pos + 2) (by omega)
          refine Or.inl ⟨(3, [], [], fl, 0, 20, ls_m54 []), ls_al_4 trivial (by decide) ((ls_rc_skip (f := (11, k.1, pos, [])) (Or.inr (by show 9 ≤ 11; decide))).mpr rfl) ⟨fl, ls_yg_w (Or.inl rfl)⟩ (fun _ => ls_yv_0 (by decide)), (s2.trans (ls_yv_step p2 ?_)).symm⟩
          rw [d9, if_neg (fun h => t15 h.1), if_neg (show ¬ T (pos + 2) = 20 by omega), if_pos t21]
        · rw [if_neg t21]
          by_cases t20 : T (pos + 2) = 20
          · rw [if_pos t20]
            have p2 := ls_txt_lt hT (p := pos + 2) (by omega)
            refine Or.inl ⟨(0, [], [], fl, 0, 20, ls_m54 []), ls_al_mk (st := 0) (fr := []) (Or.inl rfl) trivial (by decide) rfl (fun h => by omega), (s2.trans (ls_yv_step p2 ?_)).symm⟩
            rw [d9, if_neg (fun h => t15 h.1), if_pos t20]
          · rw [if_neg t20]
            refine s2.trans (ls_yv_bad (p := pos + 2) hT (by omega) (fun _ => ?_) (fun _ => ls_yv_0 (by decide)))
            rw [d9, if_neg (fun h => t15 h.1), if_neg t20, if_neg t21]
    | cons f r =>
      obtain ⟨fk, mo, sp, l⟩ := f
      have f1 : fk = 1 := a6 _ rfl
      subst f1
      rw [if_neg (show ¬ ((1, mo, sp, l) :: r = [] ∧ T (pos + 2) = 15) from fun h => List.cons_ne_nil _ _ h.1)]
      obtain ⟨a, D, hD, ha, _, hr⟩ := ls_rc_cons (f := (1, mo, sp, l)) (by show ¬ ((1 : Nat) = 6 ∨ 9 ≤ 1); decide) h3
      have ha := ha rfl
      dsimp only at ha hD
      subst ha hD
      have cne : ∀ t, ¬ (t = 15 ∧ (ls_kk 1, a) :: D = []) := fun t h => List.cons_ne_nil _ _ h.2
      have d2 : ls_yg (8, (ls_kk 1, a) :: D, [], fl, ct, fu, ls_m54 L) (T (pos + 1)) = if T (pos + 1) ∈ (ls_m54 L).take ((ls_m54 L).length - a) ∨ (ls_m54 L).length = 8 then none else some (9, (ls_kk 1, a) :: D, [], fl, ct, fu, T (pos + 1) :: ls_m54 L) := by
        rw [d1]; unfold ls_ydec; rw [if_pos tn]; rfl
      unfold ls_var
      dsimp only
      by_cases hl : L.length < 8 ∧ ¬ (T (pos + 1) - 54) ∈ L.take (L.length - a)
      · rw [if_pos hl]
        rw [if_neg, ls_cons54 t54] at d2
        rotate_left
        · intro h
          rcases h with h | h
          · rw [ls_m54_len, ls_take54, ls_mem54 t54] at h
            exact hl.2 h
          · rw [ls_m54_len] at h
            omega
        have s2 := s1.trans (ls_yv_step p1 d2)
        by_cases t21 : T (pos + 2) = 21
        · rw [if_pos t21]
          have p2 := ls_txt_lt hT (p := pos + 2) (by omega)
          refine Or.inl ⟨(3, (ls_kk 1, a) :: D, [], fl, 0, 20, ls_m54 ((T (pos + 1) - 54) :: L)), ls_al_4 hm h2 ((ls_rc_skip (f := (11, k.1, pos, [])) (Or.inr (by show 9 ≤ 11; decide))).mpr h3) ⟨fl, ls_yg_w (Or.inl rfl)⟩ (fun _ => ls_yv_0 (by decide)), (s2.trans (ls_yv_step p2 ?_)).symm⟩
          rw [d9, if_neg (cne _), if_neg (show ¬ T (pos + 2) = 20 by omega), if_pos t21]
        · rw [if_neg t21]
          by_cases t20 : T (pos + 2) = 20
          · rw [if_pos t20]
            have p2 := ls_txt_lt hT (p := pos + 2) (by omega)
            refine Or.inl ⟨(0, (ls_kk 1, a) :: D, [], fl, 0, 20, ls_m54 ((T (pos + 1) - 54) :: L)), ls_al_mk (st := 0) (fr := (1, a, sp, l) :: r) (Or.inl rfl) hm h2 h3 (fun h => by omega), (s2.trans (ls_yv_step p2 ?_)).symm⟩
            rw [d9, if_neg (cne _), if_pos t20]
          · rw [if_neg t20]
            refine s2.trans (ls_yv_bad (p := pos + 2) hT (by omega) (fun _ => ?_) (fun _ => ls_yv_0 (by decide)))
            rw [d9, if_neg (cne _), if_neg t20, if_neg t21]
      · rw [if_neg hl]
        refine s1.trans (ls_yv_bad (p := pos + 1) hT (by omega) (fun _ => ?_) (fun _ => ls_yv_0 (by decide)))
        rw [d2, if_pos]
        rw [ls_m54_len, ls_take54, ls_mem54 t54]
        by_cases l8 : L.length < 8
        · exact Or.inl (Decidable.byContradiction fun h => hl ⟨l8, h⟩)
        · exact Or.inr (by omega)
  · rw [if_neg tn]
    refine s1.trans (ls_yv_bad (p := pos + 1) hT (by omega) (fun _ => ?_) (fun _ => ls_yv_0 (by decide)))
    rw [d1]; unfold ls_ydec; rw [if_neg tn]
end
