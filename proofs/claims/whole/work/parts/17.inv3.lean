section
variable {T : Nat → Nat} {V : Nat → Int32} {n : Nat} {pos es : Nat} {pe : List LsP} {fr : List LsF} {L : List Nat} {k : LsK} {c' : LsC}
set_option maxHeartbeats 200000 in
theorem ls_sco_m {f : LsF} (hf : f.1 ≠ 1) : ls_sco (f :: fr) L → f.1 ≠ 2 → ls_sco fr L := fun h h2 => ls_sco_p h hf h2
set_option maxHeartbeats 200000 in
theorem ls_inv_r3 (hT : ls_txt T n) (h : ls_Inv T n (3, pos, es, pe, fr, L, k)) (hr : ls_r3 T pos es pe fr L k = .ok c') : ls_Inv T n c' ∧ ls_mu n c' < ls_mu n (3, pos, es, pe, fr, L, k) := by
  obtain ⟨h1, h2, h3, h4, h5, h6, h7⟩ := h
  rw [if_neg (by omega)] at h7
  obtain ⟨a1, a2, a3, a4, a5⟩ := h7
  subst a3
  unfold ls_r3 at hr
  split at hr
  · injection hr with hr; subst hr
    exact ⟨⟨h1, h2, h3, h4, h5, h6, by rw [if_neg (by omega)]; exact ⟨a1, a2, rfl, a4, fun h => by omega⟩⟩, by simp only [ls_mu_def, ls_sw_0, ls_sw_1, ls_sw_2, ls_sw_3, ls_sw_4, ls_sw_5, ls_sw_6, ls_fw_0, ls_fw_1, ls_fw_2, ls_fw_3, ls_fw_4, ls_fw_5, ls_fw_6, ls_fw_7, ls_fw_8, ls_fw_9, ls_fw_10, ls_fw_11, List.length_nil, List.length_cons]; omega⟩
  · next fk mo sp l r =>
    obtain ⟨⟨f1, f5⟩, f2, f3, f4⟩ := a4
    dsimp only at f1 f5 f2 f3
    have a2' : r.length + 1 ≤ pos := a2
    have a1' : k.1 + ((if fk = 5 ∨ fk = 8 ∨ fk = 2 then 1 else 0) + ls_dfr r) ≤ 480 + 2 * pos := a1
    split at hr
    · next q3 =>
      subst q3
      rw [if_neg (by decide)] at a1'
      have sc := ls_sco_p h4 (by show (3 : Nat) ≠ 1; decide) (by show (3 : Nat) ≠ 2; decide)
      split at hr
      · next t7 =>
        injection hr with hr; subst hr
        have p1 := ls_txt_lt hT (p := pos) (by omega)
        refine ⟨⟨by omega, h2, h3, ls_sco_x sc (by show (4 : Nat) ≠ 1; decide) (by show (4 : Nat) ≠ 2; decide), by show 480 ≤ k.1 + 1; omega, ls_peok_nil, ?_⟩, ?_⟩
        · rw [if_neg (by omega)]
          refine ⟨by show k.1 + 1 + (0 + ls_dfr r) ≤ _; omega, by show r.length + 1 ≤ _; omega, rfl, ls_fok_j (by decide) ⟨h5, Nat.lt_succ_self _⟩ (ls_fok_ext (ls_ext_t (ls_ext_em ..) (ls_ext_aim ..)) f4), fun h => by omega⟩
        · simp only [ls_mu_def, ls_sw_0, ls_sw_1, ls_sw_2, ls_sw_3, ls_sw_4, ls_sw_5, ls_sw_6, ls_fw_0, ls_fw_1, ls_fw_2, ls_fw_3, ls_fw_4, ls_fw_5, ls_fw_6, ls_fw_7, ls_fw_8, ls_fw_9, ls_fw_10, ls_fw_11, List.length_nil, List.length_cons]; omega
      · injection hr with hr; subst hr
        refine ⟨⟨h1, h2, h3, sc, h5, ls_peok_nil, ?_⟩, ?_⟩
        · rw [if_neg (by omega)]
          exact ⟨by show k.1 + ls_dfr r ≤ _; omega, by omega, rfl, ls_fok_ext (ls_ext_aim ..) f4, fun h => by omega⟩
        · simp only [ls_mu_def, ls_sw_0, ls_sw_1, ls_sw_2, ls_sw_3, ls_sw_4, ls_sw_5, ls_sw_6, ls_fw_0, ls_fw_1, ls_fw_2, ls_fw_3, ls_fw_4, ls_fw_5, ls_fw_6, ls_fw_7, ls_fw_8, ls_fw_9, ls_fw_10, ls_fw_11, List.length_nil, List.length_cons]; omega
    split at hr
    · next q4 =>
      subst q4
      rw [if_neg (by decide)] at a1'
      injection hr with hr; subst hr
      refine ⟨⟨h1, h2, h3, ls_sco_p h4 (by show (4 : Nat) ≠ 1; decide) (by show (4 : Nat) ≠ 2; decide), h5, ls_peok_nil, ?_⟩, ?_⟩
      · rw [if_neg (by omega)]
        exact ⟨by show k.1 + ls_dfr r ≤ _; omega, by omega, rfl, ls_fok_ext (ls_ext_aim ..) f4, fun h => by omega⟩
      · simp only [ls_mu_def, ls_sw_0, ls_sw_1, ls_sw_2, ls_sw_3, ls_sw_4, ls_sw_5, ls_sw_6, ls_fw_0, ls_fw_1, ls_fw_2, ls_fw_3, ls_fw_4, ls_fw_5, ls_fw_6, ls_fw_7, ls_fw_8, ls_fw_9, ls_fw_10, ls_fw_11, List.length_nil, List.length_cons]; omega
    split at hr
    · next q5 =>
      subst q5
      rw [if_pos (by decide)] at a1'
      injection hr with hr; subst hr
      refine ⟨⟨h1, h2, h3, ls_sco_p h4 (by show (5 : Nat) ≠ 1; decide) (by show (5 : Nat) ≠ 2; decide), by show 480 ≤ k.1 + 1; omega, ls_peok_nil, ?_⟩, ?_⟩
      · rw [if_neg (by omega)]
        exact ⟨by show k.1 + 1 + ls_dfr r ≤ _; omega, by omega, rfl, ls_fok_ext (ls_ext_t (ls_ext_em ..) (ls_ext_ex ..)) f4, fun h => by omega⟩
      · simp only [ls_mu_def, ls_sw_0, ls_sw_1, ls_sw_2, ls_sw_3, ls_sw_4, ls_sw_5, ls_sw_6, ls_fw_0, ls_fw_1, ls_fw_2, ls_fw_3, ls_fw_4, ls_fw_5, ls_fw_6, ls_fw_7, ls_fw_8, ls_fw_9, ls_fw_10, ls_fw_11, List.length_nil, List.length_cons]; omega
    split at hr
    · next q2 =>
      subst q2
      rw [if_pos (by decide)] at a1'
      injection hr with hr; subst hr
      obtain ⟨r0, _, _⟩ := f3 rfl
      subst r0
      refine ⟨⟨h1, by simp, by simp, rfl, by show 480 ≤ k.1 + 1; omega, ls_peok_nil, ?_⟩, ?_⟩
      · rw [if_neg (by omega)]
        exact ⟨by show k.1 + 1 + ls_dfr [] ≤ _; omega, by show 0 ≤ _; omega, rfl, trivial, fun h => by omega⟩
      · simp only [ls_mu_def, ls_sw_0, ls_sw_1, ls_sw_2, ls_sw_3, ls_sw_4, ls_sw_5, ls_sw_6, ls_fw_0, ls_fw_1, ls_fw_2, ls_fw_3, ls_fw_4, ls_fw_5, ls_fw_6, ls_fw_7, ls_fw_8, ls_fw_9, ls_fw_10, ls_fw_11, List.length_nil, List.length_cons]; omega
    · injection hr with hr; subst hr
      exact ⟨⟨h1, h2, h3, h4, h5, h6, by rw [if_neg (by omega)]; exact ⟨a1, a2, rfl, ⟨⟨f1, f5⟩, f2, f3, f4⟩, fun h => by omega⟩⟩, by simp only [ls_mu_def, ls_sw_0, ls_sw_1, ls_sw_2, ls_sw_3, ls_sw_4, ls_sw_5, ls_sw_6, ls_fw_0, ls_fw_1, ls_fw_2, ls_fw_3, ls_fw_4, ls_fw_5, ls_fw_6, ls_fw_7, ls_fw_8, ls_fw_9, ls_fw_10, ls_fw_11, List.length_nil, List.length_cons]; omega⟩
set_option maxHeartbeats 200000 in
theorem ls_inv_r4 (hT : ls_txt T n) (h : ls_Inv T n (4, pos, es, pe, fr, L, k)) (hr : ls_r4 T V pos es pe fr L k = .ok c') : ls_Inv T n c' ∧ ls_mu n c' < ls_mu n (4, pos, es, pe, fr, L, k) := by
  obtain ⟨h1, h2, h3, h4, h5, h6, h7⟩ := h
  rw [if_pos (Or.inl rfl), if_pos rfl] at h7
  obtain ⟨a1, a2, a3, a4, f, r, a5, a6, a7⟩ := h7
  have n140 := hT.1
  -- an operand
  have opd : ∀ (j : Nat) (o a d p : Int32), 1 ≤ j → pos + j ≤ n → ls_Inv T n (5, pos + j, es, pe, fr, L, ls_em k o a d p) ∧ ls_mu n (5, pos + j, es, pe, fr, L, ls_em k o a d p) < ls_mu n (4, pos, es, pe, fr, L, k) := by
    intro j o a d p j1 jn
    refine ⟨⟨jn, h2, h3, h4, by show 480 ≤ k.1 + 1; omega, ls_peok_ext (Nat.le_succ _) (by omega) h6, ?_⟩, by simp only [ls_mu_def, ls_sw_0, ls_sw_1, ls_sw_2, ls_sw_3, ls_sw_4, ls_sw_5, ls_sw_6, ls_fw_0, ls_fw_1, ls_fw_2, ls_fw_3, ls_fw_4, ls_fw_5, ls_fw_6, ls_fw_7, ls_fw_8, ls_fw_9, ls_fw_10, ls_fw_11, List.length_nil, List.length_cons]; omega⟩
    rw [if_pos (Or.inr rfl), if_neg (by decide)]
    exact ⟨by show k.1 + 1 + _ + _ ≤ _; omega, by omega, by omega, by omega, f, r, a5, ls_xf_ext (ls_ext_em ..) (by omega) a6, ls_fok_ext (ls_ext_em ..) a7⟩
  -- a pending part
  have pen : ∀ (j : Nat) (e : LsP) (k' : LsK), 1 ≤ j → pos + j ≤ n → ls_ext k k' → (k'.1 + ls_dpe T [e] ≤ k.1 + 2 * j) → (e.1 < 14 ∧ e.2.1 < pos + j ∧ e.2.2 < 761 ∧ (e.1 = 0 → ls_nam (T e.2.1) ∧ e.2.2 ≤ 3) ∧ (e.1 = 2 → ls_asg (T e.2.1)) ∧ (e.1 = 13 → T e.2.1 = 15 ∨ (22 ≤ T e.2.1 ∧ T e.2.1 ≤ 25)) ∧ (2 < e.1 → e.1 ≠ 13 → ls_lv (T e.2.1) = e.1) ∧ (e.1 ≠ 13 → e.1 ≠ 2 → (T e.2.1 = 41 ∨ T e.2.1 = 42) → 480 ≤ e.2.2 ∧ e.2.2 < k'.1)) → ls_Inv T n (4, pos + j, es, e :: pe, fr, L, k') ∧ ls_mu n (4, pos + j, es, e :: pe, fr, L, k') < ls_mu n (4, pos, es, pe, fr, L, k) := by
    intro j e k' j1 jn hx hd he
    refine ⟨⟨jn, h2, h3, h4, Nat.le_trans h5 hx.1, ls_peok_cons (ls_peok_ext hx.1 (by omega) h6) he, ?_⟩, by simp only [ls_mu_def, ls_sw_0, ls_sw_1, ls_sw_2, ls_sw_3, ls_sw_4, ls_sw_5, ls_sw_6, ls_fw_0, ls_fw_1, ls_fw_2, ls_fw_3, ls_fw_4, ls_fw_5, ls_fw_6, ls_fw_7, ls_fw_8, ls_fw_9, ls_fw_10, ls_fw_11, List.length_nil, List.length_cons]; omega⟩
    rw [if_pos (Or.inl rfl), if_pos rfl]
    have hd' : k'.1 + (ls_dpe T [e]) ≤ k.1 + 2 * j := hd
    have e1 : ls_dpe T (e :: pe) = ls_dpe T [e] + ls_dpe T pe := by simp [ls_dpe]
    exact ⟨by rw [e1]; omega, by omega, by show pe.length + 1 + es ≤ _; omega, by omega, f, r, a5, ls_xf_ext hx (by omega) a6, ls_fok_ext hx a7⟩
  unfold ls_r4 at hr
  split at hr
  · next tn =>
    have tn1 := tn.1
    have tn2 := tn.2
    have p0 := ls_txt_lt hT (p := pos) (by omega)
    have hnm : T pos - 54 < 16 := by omega
    have ha := ls_addr_lt (L := L) hnm h2
    dsimp only at hr
    split at hr
    · next t15 =>
      have p1 := ls_txt_lt hT (p := pos + 1) (by omega)
      split at hr
      · next t16 =>
        injection hr with hr; subst hr
        exact opd 3 _ _ _ _ (by omega) (ls_txt_lt hT (p := pos + 2) (by omega))
      · injection hr with hr; subst hr
        exact pen 2 _ k (by omega) (by omega) (ls_ext_r k) (by simp [ls_dpe]) ⟨by show 0 < 14; omega, by show pos < _; omega, by show 1 < 761; omega, fun _ => ⟨tn, by show 1 ≤ 3; omega⟩, fun h => absurd h (by show (0 : Nat) ≠ 2; decide), fun h => absurd h (by show (0 : Nat) ≠ 13; decide), fun h => absurd h (by show ¬ 2 < 0; decide), fun _ _ h => by dsimp only at h; omega⟩
    · split at hr
      · next st =>
        obtain ⟨_, ta⟩ := st
        have p1 := ls_txt_lt hT (p := pos + 1) (by unfold ls_asg at ta; omega)
        split at hr
        · next t21 =>
          injection hr with hr; subst hr
          exact pen 2 _ k (by omega) (by omega) (ls_ext_r k) (by simp [ls_dpe, t21]) ⟨by show 2 < 14; omega, by show pos + 1 < _; omega, by show ls_addr L (T pos - 54) < 761; omega, fun h => absurd h (by show (2 : Nat) ≠ 0; decide), fun _ => ta, fun h => absurd h (by show (2 : Nat) ≠ 13; decide), fun h => absurd h (by show ¬ 2 < 2; decide), fun _ h => absurd rfl h⟩
        · next t21 =>
          injection hr with hr; subst hr
          exact pen 2 _ _ (by omega) (by omega) (ls_ext_em ..) (by simp [ls_dpe, t21, ls_em]) ⟨by show 2 < 14; omega, by show pos + 1 < _; omega, by show ls_addr L (T pos - 54) < 761; omega, fun h => absurd h (by show (2 : Nat) ≠ 0; decide), fun _ => ta, fun h => absurd h (by show (2 : Nat) ≠ 13; decide), fun h => absurd h (by show ¬ 2 < 2; decide), fun _ h => absurd rfl h⟩
      · injection hr with hr; subst hr
        exact opd 1 _ _ _ _ (by omega) (by omega)
  split at hr
  · next t =>
    injection hr with hr; subst hr
    exact opd 1 _ _ _ _ (by omega) (ls_txt_lt hT (p := pos) (by omega))
  split at hr
  · next t =>
    injection hr with hr; subst hr
    exact opd 1 _ _ _ _ (by omega) (ls_txt_lt hT (p := pos) (by omega))
  split at hr
  · next t =>
    injection hr with hr; subst hr
    exact opd 1 _ _ _ _ (by omega) (ls_txt_lt hT (p := pos) (by omega))
  split at hr
  · next t =>
    injection hr with hr; subst hr
    exact opd 1 _ _ _ _ (by omega) (ls_txt_lt hT (p := pos) (by omega))
  split at hr
  · next t15 =>
    have p0 := ls_txt_lt hT (p := pos) (by omega)
    split at hr
    · next k5 =>
      split at hr
      · next t16 =>
        injection hr with hr; subst hr
        have p2 := ls_txt_lt hT (p := pos + 2) (by omega)
        exact pen 3 _ k (by omega) (by omega) (ls_ext_r k) (by simp [ls_dpe]) ⟨by show 13 < 14; omega, by show pos < _; omega, by show T (pos + 1) < 761; omega, fun h => absurd h (by show (13 : Nat) ≠ 0; decide), fun h => absurd h (by show (13 : Nat) ≠ 2; decide), fun _ => Or.inl t15, fun _ h => absurd rfl h, fun h => absurd rfl h⟩
      · cases hr
    · split at hr
      · cases hr
      · injection hr with hr; subst hr
        exact pen 1 _ k (by omega) (by omega) (ls_ext_r k) (by simp [ls_dpe]) ⟨by show 1 < 14; omega, by show pos < _; omega, by show 0 < 761; omega, fun h => absurd h (by show (1 : Nat) ≠ 0; decide), fun h => absurd h (by show (1 : Nat) ≠ 2; decide), fun h => absurd h (by show (1 : Nat) ≠ 13; decide), fun h => absurd h (by show ¬ 2 < 1; decide), fun _ _ h => by dsimp only at h; omega⟩
  split at hr
  · next tu =>
    injection hr with hr; subst hr
    have p0 := ls_txt_lt hT (p := pos) (by omega)
    exact pen 1 _ k (by omega) (by omega) (ls_ext_r k) (by simp [ls_dpe]) ⟨by show 13 < 14; omega, by show pos < _; omega, by show 0 < 761; omega, fun h => absurd h (by show (13 : Nat) ≠ 0; decide), fun h => absurd h (by show (13 : Nat) ≠ 2; decide), fun _ => Or.inr tu, fun _ h => absurd rfl h, fun h => absurd rfl h⟩
  · cases hr
set_option maxHeartbeats 200000 in
theorem ls_red_ext {lv pl mo : Nat} : ls_ext k (ls_red T pos lv pl mo k) := by
  unfold ls_red
  repeat' split
  · exact ls_ext_em ..
  · exact ls_ext_t (ls_ext_em ..) (ls_ext_em ..)
  · exact ls_ext_em ..
  · exact ls_ext_em ..
  · exact ls_ext_t (ls_ext_em ..) (ls_ext_aim ..)
  · exact ls_ext_em ..
set_option maxHeartbeats 200000 in
theorem ls_red_cs {lv pl mo : Nat} : (ls_red T pos lv pl mo k).1 = k.1 + (if lv = 2 then (if T pl = 21 then 1 else 2) else 1) := by
  unfold ls_red
  by_cases h2 : lv = 2
  · rw [if_pos h2, if_pos h2]
    split <;> rfl
  · rw [if_neg h2, if_neg h2]
    repeat' split
    all_goals rfl
set_option maxHeartbeats 200000 in
theorem ls_inv_end (hT : ls_txt T n) (h : ls_Inv T n (5, pos, es, [], fr, L, k)) (hr : ls_end T pos es fr L k = .ok c') : ls_Inv T n c' ∧ ls_mu n c' < ls_mu n (5, pos, es, [], fr, L, k) := by
  obtain ⟨h1, h2, h3, h4, h5, h6, h7⟩ := h
  rw [if_pos (Or.inr rfl), if_neg (by decide)] at h7
  obtain ⟨a1, a2, a3, a4, f, r, a5, a6, a7⟩ := h7
  subst a5
  obtain ⟨fk, mo, sp, l⟩ := f
  obtain ⟨g1, g2, g3, g4, g5, g6, g7, g8⟩ := a6
  dsimp only at g1 g2 g3 g4 g5 g6 g7 g8
  have sc := ls_sco_p h4 (by show fk ≠ 1; omega) (by show fk ≠ 2; omega)
  have a4' : r.length + 1 ≤ pos + 1 := a4
  have a1' : k.1 + 0 + ((if fk = 5 ∨ fk = 8 ∨ fk = 2 then 1 else 0) + ls_dfr r) ≤ 480 + 2 * pos + 0 := a1
  unfold ls_end at hr
  split at hr
  · cases hr
  dsimp only at hr
  have cnd : ∀ fk' mo', (fk' = 3 ∧ mo' = k.1 ∨ fk' = 5 ∧ mo' = mo ∧ fk = 8) → pos < n → ls_Inv T n (0, pos + 1, es, [], (fk', mo', sp, []) :: r, L, ls_em k 15 0 0 (nI sp)) ∧ ls_mu n (0, pos + 1, es, [], (fk', mo', sp, []) :: r, L, ls_em k 15 0 0 (nI sp)) < ls_mu n (5, pos, es, [], (fk, mo, sp, l) :: r, L, k) := by
    intro fk' mo' hf pn
    refine ⟨⟨by omega, h2, h3, ls_sco_x sc (by show fk' ≠ 1; omega) (by show fk' ≠ 2; omega), by show 480 ≤ k.1 + 1; omega, ls_peok_nil, ?_⟩, ?_⟩
    · rw [if_neg (by omega)]
      refine ⟨?_, by show r.length + 1 ≤ _; omega, rfl, ⟨⟨by show 1 ≤ fk'; omega, by show fk' ≤ 5; omega⟩, fun _ => ⟨by show 480 ≤ mo'; omega, by show mo' < k.1 + 1; omega⟩, fun h => by have : fk' = 2 := h; omega, ls_fok_ext (ls_ext_em ..) a7⟩, fun h => by omega⟩
      show k.1 + 1 + ((if fk' = 5 ∨ fk' = 8 ∨ fk' = 2 then 1 else 0) + ls_dfr r) ≤ _
      split <;> omega
    · simp only [ls_mu_def, ls_sw_0, ls_sw_1, ls_sw_2, ls_sw_3, ls_sw_4, ls_sw_5, ls_sw_6, ls_fw_0, ls_fw_1, ls_fw_2, ls_fw_3, ls_fw_4, ls_fw_5, ls_fw_6, ls_fw_7, ls_fw_8, ls_fw_9, ls_fw_10, ls_fw_11, List.length_nil, List.length_cons]; rw [ls_fw_x (show fk' ≠ 1 by omega), ls_fw_x (show fk ≠ 1 by omega)]; omega
  have fin : ∀ (j : Nat) (o a d p : Int32), 1 ≤ j → pos + j ≤ n → ls_Inv T n (3, pos + j, es, [], r, L, ls_em k o a d p) ∧ ls_mu n (3, pos + j, es, [], r, L, ls_em k o a d p) < ls_mu n (5, pos, es, [], (fk, mo, sp, l) :: r, L, k) := by
    intro j o a d p j1 jn
    refine ⟨⟨jn, h2, h3, sc, by show 480 ≤ k.1 + 1; omega, ls_peok_nil, ?_⟩, ?_⟩
    · rw [if_neg (by omega)]
      exact ⟨by show k.1 + 1 + ls_dfr r ≤ _; omega, by omega, rfl, ls_fok_ext (ls_ext_em ..) a7, fun h => by omega⟩
    · simp only [ls_mu_def, ls_sw_0, ls_sw_1, ls_sw_2, ls_sw_3, ls_sw_4, ls_sw_5, ls_sw_6, ls_fw_0, ls_fw_1, ls_fw_2, ls_fw_3, ls_fw_4, ls_fw_5, ls_fw_6, ls_fw_7, ls_fw_8, ls_fw_9, ls_fw_10, ls_fw_11, List.length_nil, List.length_cons]; rw [ls_fw_x (show fk ≠ 1 by omega)]; omega
  split at hr
  · split at hr
    · next q t =>
      injection hr with hr; subst hr
      exact cnd 3 k.1 (Or.inl ⟨rfl, rfl⟩) (ls_txt_lt hT (p := pos) (by omega))
    · cases hr
  split at hr
  · next q =>
    split at hr
    · next t =>
      injection hr with hr; subst hr
      exact cnd 5 mo (Or.inr ⟨rfl, rfl, q⟩) (ls_txt_lt hT (p := pos) (by omega))
    · cases hr
  split at hr
  · split at hr
    · split at hr
      · next t =>
        injection hr with hr; subst hr
        exact fin 2 _ _ _ _ (by omega) (ls_txt_lt hT (p := pos + 1) (by omega))
      · cases hr
    · cases hr
  split at hr
  · next t =>
    have pn := ls_txt_lt hT (p := pos) (by omega)
    repeat' split at hr
    all_goals (injection hr with hr; subst hr; exact fin 1 _ _ _ _ (by omega) (by omega))
  · cases hr
set_option maxHeartbeats 200000 in
theorem ls_inv_r5 (hT : ls_txt T n) (h : ls_Inv T n (5, pos, es, pe, fr, L, k)) (hr : ls_r5 T pos es pe fr L k = .ok c') : ls_Inv T n c' ∧ ls_mu n c' < ls_mu n (5, pos, es, pe, fr, L, k) := by
  have h' := h
  obtain ⟨h1, h2, h3, h4, h5, h6, h7⟩ := h
  rw [if_pos (Or.inr rfl), if_neg (by decide)] at h7
  obtain ⟨a1, a2, a3, a4, f, r, a5, a6, a7⟩ := h7
  have n140 := hT.1
  have bin : 2 < ls_lv (T pos) → ls_Inv T n (4, pos + 1, es, (ls_lv (T pos), pos, k.1) :: pe, fr, L, if T pos = 41 ∨ T pos = 42 then ls_em k 7 0 (nI (T pos - 41)) (nI pos) else k) ∧ ls_mu n (4, pos + 1, es, (ls_lv (T pos), pos, k.1) :: pe, fr, L, if T pos = 41 ∨ T pos = 42 then ls_em k 7 0 (nI (T pos - 41)) (nI pos) else k) < ls_mu n (5, pos, es, pe, fr, L, k) := by
    intro hl
    have tin := ls_lv_in hl
    have pn := ls_txt_lt hT (p := pos) (by omega)
    have l13 : ls_lv (T pos) < 13 := by have := ls_lv_c (T pos); omega
    have hx : ls_ext k (if T pos = 41 ∨ T pos = 42 then ls_em k 7 0 (nI (T pos - 41)) (nI pos) else k) := by
      split
      · exact ls_ext_em ..
      · exact ls_ext_r k
    have hc : (if T pos = 41 ∨ T pos = 42 then ls_em k 7 0 (nI (T pos - 41)) (nI pos) else k).1 ≤ k.1 + 1 := by
      split
      · exact Nat.le_refl _
      · omega
    have hc2 : (T pos = 41 ∨ T pos = 42) → (if T pos = 41 ∨ T pos = 42 then ls_em k 7 0 (nI (T pos - 41)) (nI pos) else k).1 = k.1 + 1 := fun h => by rw [if_pos h]; rfl
    refine ⟨⟨by omega, h2, h3, h4, Nat.le_trans h5 hx.1, ls_peok_cons (ls_peok_ext hx.1 (by omega) h6) ⟨by show ls_lv (T pos) < 14; omega, by show pos < pos + 1; omega, by show k.1 < 761; omega, fun h => by have : ls_lv (T pos) = 0 := h; omega, fun h => by have : ls_lv (T pos) = 2 := h; omega, fun h => by have : ls_lv (T pos) = 13 := h; omega, fun _ _ => rfl, fun _ _ h => ⟨h5, by have := hc2 h; show k.1 < _; omega⟩⟩, ?_⟩, ?_⟩
    · rw [if_pos (Or.inl rfl), if_pos rfl]
      have e1 : ls_dpe T ((ls_lv (T pos), pos, k.1) :: pe) = 1 + ls_dpe T pe := by
        show (if ls_lv (T pos) = 2 then _ else if ls_lv (T pos) = 1 then 0 else 1) + _ = _
        rw [if_neg (by omega), if_neg (by omega)]
      exact ⟨by rw [e1]; omega, by omega, by show pe.length + 1 + es ≤ _; omega, by omega, f, r, a5, ls_xf_ext hx (by omega) a6, ls_fok_ext hx a7⟩
    · simp only [ls_mu_def, ls_sw_0, ls_sw_1, ls_sw_2, ls_sw_3, ls_sw_4, ls_sw_5, ls_sw_6, ls_fw_0, ls_fw_1, ls_fw_2, ls_fw_3, ls_fw_4, ls_fw_5, ls_fw_6, ls_fw_7, ls_fw_8, ls_fw_9, ls_fw_10, ls_fw_11, List.length_nil, List.length_cons]; omega
  unfold ls_r5 at hr
  dsimp only at hr
  split at hr
  · split at hr
    · next hl =>
      injection hr with hr; subst hr
      exact bin hl
    · exact ls_inv_end hT h' hr
  · next lv pl mo r2 =>
    obtain ⟨p1, p2, p3, p4, p5, p6, p7, p8⟩ := h6 _ (List.mem_cons_self ..)
    dsimp only at p1 p2 p3 p4 p5 p6 p7 p8
    have a3' : r2.length + 1 + es ≤ pos := a3
    have d0 : ls_dpe T ((lv, pl, mo) :: r2) = (if lv = 2 then (if T pl = 21 then 1 else 2) else if lv = 1 then 0 else 1) + ls_dpe T r2 := rfl
    rw [d0] at a1
    split at hr
    · next hle =>
      injection hr with hr; subst hr
      have l2 : 2 ≤ ls_lv (T pos) := by have := ls_lv_c (T pos); omega
      refine ⟨⟨h1, h2, h3, h4, Nat.le_trans h5 ls_red_ext.1, ls_peok_ext ls_red_ext.1 (Nat.le_refl _) (ls_peok_tl h6), ?_⟩, ?_⟩
      · rw [if_pos (Or.inr rfl), if_neg (by decide)]
        refine ⟨?_, a2, by omega, a4, f, r, a5, ls_xf_ext ls_red_ext (Nat.le_refl _) a6, ls_fok_ext ls_red_ext a7⟩
        rw [ls_red_cs]
        rw [if_neg (show ¬ lv = 1 by omega)] at a1
        omega
      · simp only [ls_mu_def, ls_sw_0, ls_sw_1, ls_sw_2, ls_sw_3, ls_sw_4, ls_sw_5, ls_sw_6, ls_fw_0, ls_fw_1, ls_fw_2, ls_fw_3, ls_fw_4, ls_fw_5, ls_fw_6, ls_fw_7, ls_fw_8, ls_fw_9, ls_fw_10, ls_fw_11, List.length_nil, List.length_cons]; omega
    split at hr
    · next hl =>
      injection hr with hr; subst hr
      exact bin hl
    split at hr
    · next t16 =>
      have pn := ls_txt_lt hT (p := pos) (by omega)
      split at hr
      · next q0 =>
        subst q0
        injection hr with hr; subst hr
        simp at a1
        refine ⟨⟨by omega, h2, h3, h4, by show 480 ≤ k.1 + 1; omega, ls_peok_ext (Nat.le_succ _) (by omega) (ls_peok_tl h6), ?_⟩, by simp only [ls_mu_def, ls_sw_0, ls_sw_1, ls_sw_2, ls_sw_3, ls_sw_4, ls_sw_5, ls_sw_6, ls_fw_0, ls_fw_1, ls_fw_2, ls_fw_3, ls_fw_4, ls_fw_5, ls_fw_6, ls_fw_7, ls_fw_8, ls_fw_9, ls_fw_10, ls_fw_11, List.length_nil, List.length_cons]; omega⟩
        rw [if_pos (Or.inr rfl), if_neg (by decide)]
        exact ⟨by show k.1 + 1 + _ + _ ≤ _; omega, by omega, by omega, by omega, f, r, a5, ls_xf_ext (ls_ext_em ..) (by omega) a6, ls_fok_ext (ls_ext_em ..) a7⟩
      · injection hr with hr; subst hr
        refine ⟨⟨by omega, h2, h3, h4, h5, ls_peok_ext (Nat.le_refl _) (by omega) (ls_peok_tl h6), ?_⟩, by simp only [ls_mu_def, ls_sw_0, ls_sw_1, ls_sw_2, ls_sw_3, ls_sw_4, ls_sw_5, ls_sw_6, ls_fw_0, ls_fw_1, ls_fw_2, ls_fw_3, ls_fw_4, ls_fw_5, ls_fw_6, ls_fw_7, ls_fw_8, ls_fw_9, ls_fw_10, ls_fw_11, List.length_nil, List.length_cons]; omega⟩
        rw [if_pos (Or.inr rfl), if_neg (by decide)]
        exact ⟨by omega, by omega, by omega, by omega, f, r, a5, ls_xf_ext (ls_ext_r _) (by omega) a6, a7⟩
    split at hr
    · next t19 =>
      obtain ⟨t19, q0⟩ := t19
      subst q0
      have pn := ls_txt_lt hT (p := pos) (by omega)
      split at hr
      · next m3 =>
        injection hr with hr; subst hr
        refine ⟨⟨by omega, h2, h3, h4, h5, ls_peok_cons (ls_peok_ext (Nat.le_refl _) (by omega) (ls_peok_tl h6)) ⟨p1, by show pl < pos + 1; omega, by show mo + 1 < 761; omega, fun _ => ⟨(p4 rfl).1, by show mo + 1 ≤ 3; omega⟩, fun h => absurd h (by show (0 : Nat) ≠ 2; decide), fun h => absurd h (by show (0 : Nat) ≠ 13; decide), fun h => absurd h (by show ¬ 2 < 0; decide), fun _ _ h => by have := (p4 rfl).1.1; dsimp only at h; omega⟩, ?_⟩, by simp only [ls_mu_def, ls_sw_0, ls_sw_1, ls_sw_2, ls_sw_3, ls_sw_4, ls_sw_5, ls_sw_6, ls_fw_0, ls_fw_1, ls_fw_2, ls_fw_3, ls_fw_4, ls_fw_5, ls_fw_6, ls_fw_7, ls_fw_8, ls_fw_9, ls_fw_10, ls_fw_11, List.length_nil, List.length_cons]; omega⟩
        rw [if_pos (Or.inl rfl), if_pos rfl]
        have e1 : ls_dpe T ((0, pl, mo + 1) :: r2) = 1 + ls_dpe T r2 := rfl
        simp at a1
        exact ⟨by rw [e1]; omega, by omega, by show r2.length + 1 + es ≤ _; omega, by omega, f, r, a5, ls_xf_ext (ls_ext_r _) (by omega) a6, a7⟩
      · cases hr
    · cases hr
end
