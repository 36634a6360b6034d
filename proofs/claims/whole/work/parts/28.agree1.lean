section
variable {T : Nat → Nat} {V : Nat → Int32} {n : Nat} {pos es : Nat} {pe : List LsP} {fr : List LsF} {L : List Nat} {k : LsK} {y : LsY}
set_option maxHeartbeats 200000 in
theorem ls_ypos : pos < n → n - pos = (n - (pos + 1)) + 1 := fun h => by omega
set_option maxHeartbeats 200000 in
/-- an expression begins, the reference stands ready for it -/
theorem ls_al_4 {C : List (Nat × Nat)} {p : Nat} {f : LsF} {y' : LsY} (hm : ls_mb fr) (h2 : ls_fk fr ≠ 2) (h3 : ls_rc (f :: fr) C) (hy : ∃ fl', ls_yg y' (T p) = ls_ywith 3 (T p) C [] fl' 0 (ls_fu f.1) (ls_m54 L)) (h72 : T p = 72 → ls_yv T n 0 n y' = some n) : ls_al T n (4, p, p, [], f :: fr, L, k) y' := by
  obtain ⟨nd, C0, O, fl, ct, fu, N⟩ := y'
  unfold ls_al
  dsimp only
  rw [if_pos (Or.inl rfl), if_neg (by decide)]
  refine ⟨ls_mb_c hm h2, by omega, by simp, C, h3, fun h => absurd h (by show (3 : Nat) ≠ 15; decide), fun h => absurd h (by show (3 : Nat) ≠ 17; decide), ?_, h72⟩
  rw [Nat.sub_self]
  exact hy
set_option maxHeartbeats 200000 in
theorem ls_ag_hdr {fl ct : Nat} {fk : Nat} {k1 : LsK} {cs : Nat} (hT : ls_txt T n) (hm : ls_mb fr) (h2 : ls_fk fr ≠ 2) (hfk : fk = 7 ∨ fk = 8 ∨ fk = 9) (hn : pos < n) (C' : List (Nat × Nat)) (hrc : ls_rc ((fk, cs, pos, []) :: fr) C') (hy : ls_yg y (T pos) = some (2, C', [], fl, ct, ls_fu fk, ls_m54 L)) : ls_ag T n (1, pos, es, pe, fr, L, k) y (ls_hdr T pos fk [] fr L cs k1) := by
  unfold ls_hdr
  by_cases t15 : T (pos + 1) = 15
  · rw [if_pos t15]
    have p1 := ls_txt_lt hT (p := pos + 1) (by omega)
    refine Or.inl ⟨(3, C', [], fl, 0, ls_fu fk, ls_m54 L), ls_al_4 hm h2 hrc ⟨fl, ls_yg_w (Or.inl rfl)⟩ (fun _ => ls_yv_0 (by decide)), ?_⟩
    refine ((ls_yv_step hn hy).trans (ls_yv_step p1 ?_)).symm
    rw [t15]; rfl
  · rw [if_neg t15]
    refine (ls_yv_step hn hy).trans (ls_yv_bad hT (by omega) (fun _ => ?_) (fun _ => ls_yv_0 (by decide)))
    show (if T (pos + 1) = 15 then _ else _) = none
    rw [if_neg t15]
set_option maxHeartbeats 200000 in
theorem ls_ag1 (hT : ls_txt T n) (hI : ls_Inv T n (1, pos, es, pe, fr, L, k)) (h : ls_al T n (1, pos, es, pe, fr, L, k) y) : ls_ag T n (1, pos, es, pe, fr, L, k) y (ls_r1 T pos es pe fr L k) := by
  obtain ⟨C, fl, ct, fu, rfl, hm, h2, h3, hs⟩ := ls_al_s (Or.inr (Or.inl rfl)) h
  obtain ⟨i1, i2, i3, i4, i5, i6, i7⟩ := hI
  rw [if_neg (by omega)] at i7
  obtain ⟨a1, a2, a3, a4, a5⟩ := i7
  subst a3
  have G := fun t => ls_yg_s (t := t) (fl := fl) (ct := ct) (fu := fu) (N := ls_m54 L) h2 h3 (ls_fok_1le a4)
  unfold ls_r1
  dsimp only
  by_cases t20 : T pos = 20
  · rw [if_pos t20]
    refine Or.inl ⟨_, ls_al_3 (fl := fl) (ct := ct) (fu := fu) hm h2 h3, (ls_yv_step (ls_txt_lt hT (p := pos) (by omega)) ?_).symm⟩
    rw [G, t20]; rfl
  rw [if_neg t20]
  by_cases t17 : T pos = 17
  · rw [if_pos t17]
    refine Or.inl ⟨(0, (1, L.length) :: C, [], fl, ct, fu, ls_m54 L), ls_al_mk (st := 0) (fr := (1, L.length, pos, L) :: fr) (Or.inl rfl) (ls_mb_c hm h2) (by show (1 : Nat) ≠ 2; decide) (ls_rc_mk (f := (1, L.length, pos, L)) (by show ¬ ((1 : Nat) = 6 ∨ 9 ≤ 1); decide) (fun _ => rfl) (fun h => absurd h (by show (1 : Nat) ≠ 2; decide)) h3) (fun h => by omega), (ls_yv_step (ls_txt_lt hT (p := pos) (by omega)) ?_).symm⟩
    rw [G, t17]
    show some (0, (1, (ls_m54 L).length) :: C, [], fl, ct, fu, ls_m54 L) = _
    rw [ls_m54_len]
  rw [if_neg t17]
  by_cases t6 : T pos = 6
  · rw [if_pos t6]
    refine ls_ag_hdr (fl := fl) (ct := ct) hT hm h2 (Or.inl rfl) (ls_txt_lt hT (by omega)) ((4, (ls_m54 L).length) :: C) (ls_rc_mk (f := (7, k.1, pos, [])) (by show ¬ ((7 : Nat) = 6 ∨ 9 ≤ 7); decide) (fun h => absurd h (by show (7 : Nat) ≠ 1; decide)) (fun h => absurd h (by show (7 : Nat) ≠ 2; decide)) h3) ?_
    rw [G, t6]; rfl
  rw [if_neg t6]
  by_cases t8 : T pos = 8
  · rw [if_pos t8]
    refine ls_ag_hdr (fl := fl) (ct := ct) hT hm h2 (Or.inr (Or.inl rfl)) (ls_txt_lt hT (by omega)) ((2, (ls_m54 L).length) :: C) (ls_rc_mk (f := (8, k.1, pos, [])) (by show ¬ ((8 : Nat) = 6 ∨ 9 ≤ 8); decide) (fun h => absurd h (by show (8 : Nat) ≠ 1; decide)) (fun h => absurd h (by show (8 : Nat) ≠ 2; decide)) h3) ?_
    rw [G, t8]; rfl
  rw [if_neg t8]
  by_cases t12 : T pos = 12
  · rw [if_pos t12]
    refine ls_ag_hdr (fl := fl) (ct := ct) hT hm h2 (Or.inr (Or.inr rfl)) (ls_txt_lt hT (by omega)) C ((ls_rc_skip (f := (9, k.1, pos, [])) (Or.inr (by show 9 ≤ 9; decide))).mpr h3) ?_
    rw [G, t12]; rfl
  rw [if_neg t12]
  -- break and continue
  have LJ : ∀ t, (t = 9 ∨ t = 10) → T pos = t → ∀ k2 : LsK, (ls_loop fr = none → ls_yc T n (1, pos, es, [], fr, L, k) (if 3 ≤ ls_fk fr then 1 else 0, C, [], fl, ct, fu, ls_m54 L) = some pos) ∧ (ls_loop fr ≠ none → ls_ag T n (1, pos, es, [], fr, L, k) (if 3 ≤ ls_fk fr then 1 else 0, C, [], fl, ct, fu, ls_m54 L) (if T (pos + 1) = 20 then .ok (3, pos + 2, es, [], fr, L, k2) else .error (pos + 1))) := by
    intro t ht htp k2
    have pn := ls_txt_lt hT (p := pos) (by omega)
    have E : ls_yg (if 3 ≤ ls_fk fr then 1 else 0, C, [], fl, ct, fu, ls_m54 L) (T pos) = if ls_yins C then some (6, C, [], fl, ct, t, ls_m54 L) else none := by
      rw [G, htp]
      rcases ht with rfl | rfl <;> rfl
    refine ⟨fun hl => ?_, fun hl => ?_⟩
    · refine ls_yv_bad (p := pos) hT i1 (fun _ => ?_) (fun h => by omega)
      rw [E, (ls_rc_loop h3 a4).mp hl]; rfl
    · have yi : ls_yins C = true := by
        cases hc : ls_yins C with
        | true => rfl
        | false => exact absurd ((ls_rc_loop h3 a4).mpr hc) hl
      rw [yi, if_pos rfl] at E
      by_cases s : T (pos + 1) = 20
      · rw [if_pos s]
        have p1 := ls_txt_lt hT (p := pos + 1) (by omega)
        refine Or.inl ⟨_, ls_al_3 (fl := fl) (ct := ct) (fu := t) hm h2 h3, ((ls_yv_step pn E).trans (ls_yv_step p1 ?_)).symm⟩
        rw [s]; rfl
      · rw [if_neg s]
        refine (ls_yv_step pn E).trans (ls_yv_bad hT (by omega) (fun _ => ?_) (fun _ => ls_yv_0 (by decide)))
        show (if T (pos + 1) = 20 then _ else _) = none
        rw [if_neg s]
  by_cases t9 : T pos = 9
  · rw [if_pos t9]
    obtain ⟨l1, l2⟩ := LJ 9 (Or.inl rfl) t9 (ls_em (ls_em k 1 0 0 (nI pos)) 14 0 0 (nI pos))
    cases hl : ls_loop fr with
    | none => exact l1 hl
    | some m => exact l2 (by rw [hl]; simp)
  rw [if_neg t9]
  by_cases t10 : T pos = 10
  · rw [if_pos t10]
    cases hl : ls_loop fr with
    | none => exact (LJ 10 (Or.inr rfl) t10 k).1 hl
    | some m => exact (LJ 10 (Or.inr rfl) t10 _).2 (by rw [hl]; simp)
  rw [if_neg t10]
  by_cases t11 : T pos = 11
  · rw [if_pos t11]
    have pn := ls_txt_lt hT (p := pos) (by omega)
    have E : ls_yg (if 3 ≤ ls_fk fr then 1 else 0, C, [], fl, ct, fu, ls_m54 L) (T pos) = if ls_ybot C then some (7, C, [], fl, ct, 11, ls_m54 L) else none := by
      rw [G, t11]; rfl
    cases hl : ls_mkd fr with
    | none =>
      refine ls_yv_bad (p := pos) hT i1 (fun _ => ?_) (fun h => by omega)
      rw [E, (ls_rc_bot h3 a4).mp hl]; rfl
    | some m =>
      dsimp only
      have yi : ls_ybot C = true := by
        cases hc : ls_ybot C with
        | true => rfl
        | false => rw [(ls_rc_bot h3 a4).mpr hc] at hl; cases hl
      rw [yi, if_pos rfl] at E
      by_cases s : T (pos + 1) = 20
      · rw [if_pos s]
        have p1 := ls_txt_lt hT (p := pos + 1) (by omega)
        refine Or.inl ⟨_, ls_al_3 (fl := fl) (ct := ct) (fu := 11) hm h2 h3, ((ls_yv_step pn E).trans (ls_yv_step p1 ?_)).symm⟩
        rw [s]; rfl
      · rw [if_neg s]
        refine Or.inl ⟨(7, C, [], fl, ct, 11, ls_m54 L), ls_al_4 hm h2 ((ls_rc_skip (f := (10, k.1, pos, [])) (Or.inr (by show 9 ≤ 10; decide))).mpr h3) ⟨fl, ?_⟩ (fun _ => ls_yv_0 (by decide)), (ls_yv_step pn E).symm⟩
        show (if (7 : Nat) = 7 ∧ T (pos + 1) ≠ 20 then _ else _) = _
        rw [if_pos ⟨rfl, s⟩]; rfl
  rw [if_neg t11]
  -- an expression
  refine Or.inl ⟨_, ls_al_4 (C := C) hm h2 ((ls_rc_skip (f := (6, k.1, pos, [])) (Or.inl rfl)).mpr h3) ⟨fl, ?_⟩ (fun h72 => ?_), rfl⟩
  · rw [G]
    unfold ls_ybeg
    rw [if_neg t20]
    by_cases u6 : T pos < 6
    · have f3 : ¬ ls_fk fr < 3 := fun h => by have := (hs rfl h).1; omega
      rw [if_pos u6, decide_eq_false f3, if_neg (by decide)]
      show none = ls_ywith 3 (T pos) C [] fl 0 20 (ls_m54 L)
      unfold ls_ywith ls_yopd
      rw [if_neg (by omega), if_neg (by omega), if_neg (by omega), if_neg (by omega), if_neg (by omega), if_neg (by omega), if_neg (by omega), if_neg (by omega), if_neg (by omega)]
    · rw [if_neg u6, if_neg t17]
      by_cases t18 : T pos = 18
      · rw [if_pos t18]
        have e2 : ls_ywith 3 (T pos) C [] fl 0 20 (ls_m54 L) = none := by
          rw [t18]; rfl
        show _ = ls_ywith 3 (T pos) C [] fl 0 20 (ls_m54 L)
        rw [e2]
        by_cases f3 : ls_fk fr < 3
        · rw [decide_eq_true f3, if_pos rfl]
          have fr0 : fr = [] := by
            cases fr with
            | nil => rfl
            | cons f r => exact absurd t18 ((hs rfl f3).2.1 (List.cons_ne_nil _ _))
          subst fr0
          have hC : C = [] := h3
          subst hC
          rfl
        · rw [decide_eq_false f3]; rfl
      · rw [if_neg t18, if_neg t6, if_neg t8, if_neg t12, if_neg (by omega), if_neg t11]
        rfl
  · by_cases f3 : ls_fk fr < 3
    · rw [if_neg (by omega)]
      have fr0 : fr ≠ [] := fun h => (hs rfl f3).2.2 h h72
      show (if (0 : Nat) = 0 ∧ (ls_yfin 99 C).2 = [] then _ else _) = _
      rw [ls_yfin_n (ls_rc_top h3 f3 h2 (ls_fok_1le a4)), if_neg]
      intro ⟨_, hc⟩
      cases fr with
      | nil => exact fr0 rfl
      | cons f r =>
        have f15 := a4.1
        obtain ⟨a, D, hD, _⟩ := ls_rc_cons (f := f) (by omega) h3
        rw [hD] at hc
        cases hc
    · rw [if_pos (by omega)]
      exact ls_yv_0 (by decide)
end
