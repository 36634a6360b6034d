section
variable {T : Nat → Nat} {V : Nat → Int32} {n : Nat} {pos es : Nat} {pe : List LsP} {fr : List LsF} {L : List Nat} {k : LsK} {c' : LsC}
set_option maxHeartbeats 200000 in
theorem ls_sco_x {f : LsF} (h : ls_sco fr L) (hf : f.1 ≠ 1) (hf2 : f.1 ≠ 2) : ls_sco (f :: fr) L := by
  show (if f.1 = 1 then _ else if f.1 = 2 then _ else _)
  rw [if_neg hf, if_neg hf2]; exact h
set_option maxHeartbeats 200000 in
theorem ls_sco_p {f : LsF} (h : ls_sco (f :: fr) L) (hf : f.1 ≠ 1) (hf2 : f.1 ≠ 2) : ls_sco fr L := by
  have h' : (if f.1 = 1 then _ else if f.1 = 2 then _ else _) := h
  rw [if_neg hf, if_neg hf2] at h'; exact h'
set_option maxHeartbeats 200000 in
/-- into an expression -/
theorem ls_inv_x {p q : Nat} {f : LsF} (hpn : p ≤ n) (h2 : L.length ≤ 8) (h3 : ∀ x ∈ L, x < 16) (h4 : ls_sco fr L) (h5 : 480 ≤ k.1) (hk : k.1 + ls_dfr (f :: fr) ≤ 480 + 2 * p + 1) (hlen : fr.length ≤ p) (hf : ls_xf T k p f fr) (ho : ls_fok k fr) : ls_Inv T n (4, p, p, [], f :: fr, L, k) := by
  refine ⟨hpn, h2, h3, ls_sco_x h4 (by have := hf.1; omega) (by have := hf.1; omega), h5, ls_peok_nil, ?_⟩
  rw [if_pos (Or.inl rfl), if_pos rfl]
  exact ⟨hk, Nat.le_refl _, by show 0 + p ≤ p; omega, by show fr.length + 1 ≤ p + 1; omega, f, fr, rfl, hf, ho⟩
set_option maxHeartbeats 200000 in
theorem ls_xf_tick {o a d : Int32} {p0 p fk : Nat} {r : List LsF} (h5 : 480 ≤ k.1) (h6 : 6 ≤ fk) (h12 : fk < 11) (hp : p0 ≤ p) (h10 : fk = 10 → ls_mkd r ≠ none) : ls_xf T (ls_em k o a d (nI p0)) p (fk, k.1, p0, []) r :=
  ⟨h6, by show fk < 12; omega, h5, Nat.lt_succ_self _, pk_us, hp, fun h => by have : fk = 11 := h; omega, h10⟩
set_option maxHeartbeats 200000 in
theorem ls_inv_hdr {fk : Nat} (hT : ls_txt T n) (hf : 7 ≤ fk ∧ fk ≤ 9) (h : ls_Inv T n (1, pos, es, pe, fr, L, k)) (t : T pos ≠ 72) (hr : ls_hdr T pos fk pe fr L k.1 (ls_em k 1 0 0 (nI pos)) = .ok c') : ls_Inv T n c' ∧ ls_mu n c' < ls_mu n (1, pos, es, pe, fr, L, k) := by
  obtain ⟨h1, h2, h3, h4, h5, h6, h7⟩ := h
  rw [if_neg (by omega)] at h7
  obtain ⟨a1, a2, a3, a4, a5⟩ := h7
  subst a3
  unfold ls_hdr at hr
  split at hr
  · next t15 =>
    injection hr with hr; subst hr
    have p1 := ls_txt_lt hT (p := pos + 1) (by omega)
    refine ⟨ls_inv_x (q := 0) (by omega) h2 h3 h4 (by show 480 ≤ k.1 + 1; omega) ?_ (by omega) (ls_xf_tick h5 (by omega) (by omega) (by omega) (fun h => by omega)) (ls_fok_ext (ls_ext_em ..) a4), ?_⟩
    · show k.1 + 1 + ((if _ then 1 else 0) + ls_dfr fr) ≤ _
      split <;> omega
    · simp only [ls_mu_def, ls_sw_0, ls_sw_1, ls_sw_2, ls_sw_3, ls_sw_4, ls_sw_5, ls_sw_6, ls_fw_0, ls_fw_1, ls_fw_2, ls_fw_3, ls_fw_4, ls_fw_5, ls_fw_6, ls_fw_7, ls_fw_8, ls_fw_9, ls_fw_10, ls_fw_11, List.length_nil, List.length_cons]; rw [ls_fw_x (show fk ≠ 1 by omega)]; omega
  · cases hr
set_option maxHeartbeats 200000 in
theorem ls_inv_r1 (hT : ls_txt T n) (h : ls_Inv T n (1, pos, es, pe, fr, L, k)) (hr : ls_r1 T pos es pe fr L k = .ok c') : ls_Inv T n c' ∧ ls_mu n c' < ls_mu n (1, pos, es, pe, fr, L, k) := by
  have h' := h
  obtain ⟨h1, h2, h3, h4, h5, h6, h7⟩ := h
  rw [if_neg (by omega)] at h7
  obtain ⟨a1, a2, a3, a4, a5⟩ := h7
  subst a3
  -- to state 3, with some code more
  have fin : ∀ (j : Nat) (k' : LsK), 1 ≤ j → pos + j ≤ n → ls_ext k k' → k'.1 ≤ k.1 + 2 * j → ls_Inv T n (3, pos + j, es, [], fr, L, k') ∧ ls_mu n (3, pos + j, es, [], fr, L, k') < ls_mu n (1, pos, es, [], fr, L, k) := by
    intro j k' j1 jn hx hc
    refine ⟨⟨jn, h2, h3, h4, Nat.le_trans h5 hx.1, ls_peok_nil, ?_⟩, ?_⟩
    · rw [if_neg (by omega)]
      exact ⟨by omega, by omega, rfl, ls_fok_ext hx a4, fun h => by omega⟩
    · simp only [ls_mu_def, ls_sw_0, ls_sw_1, ls_sw_2, ls_sw_3, ls_sw_4, ls_sw_5, ls_sw_6, ls_fw_0, ls_fw_1, ls_fw_2, ls_fw_3, ls_fw_4, ls_fw_5, ls_fw_6, ls_fw_7, ls_fw_8, ls_fw_9, ls_fw_10, ls_fw_11, List.length_nil, List.length_cons]; omega
  unfold ls_r1 at hr
  dsimp only at hr
  split at hr
  · next t =>
    injection hr with hr; subst hr
    exact fin 1 _ (by omega) (ls_txt_lt hT (p := pos) (by omega)) (ls_ext_em ..) (by show k.1 + 1 ≤ _; omega)
  split at hr
  · next t =>
    injection hr with hr; subst hr
    have p1 := ls_txt_lt hT (p := pos) (by omega)
    refine ⟨⟨by omega, h2, h3, ?_, by show 480 ≤ k.1 + 1; omega, ls_peok_nil, ?_⟩, ?_⟩
    · show (if (1 : Nat) = 1 then _ else _)
      rw [if_pos rfl]; exact ⟨rfl, ⟨0, rfl⟩, h4⟩
    · rw [if_neg (by omega)]
      refine ⟨by show k.1 + 1 + (0 + ls_dfr fr) ≤ _; omega, by show fr.length + 1 ≤ _; omega, rfl, ls_fok_1 (ls_fok_ext (ls_ext_em ..) a4), fun h => by omega⟩
    · simp only [ls_mu_def, ls_sw_0, ls_sw_1, ls_sw_2, ls_sw_3, ls_sw_4, ls_sw_5, ls_sw_6, ls_fw_0, ls_fw_1, ls_fw_2, ls_fw_3, ls_fw_4, ls_fw_5, ls_fw_6, ls_fw_7, ls_fw_8, ls_fw_9, ls_fw_10, ls_fw_11, List.length_nil, List.length_cons]; omega
  split at hr
  · next t => exact ls_inv_hdr hT ⟨by omega, by omega⟩ h' (by omega) hr
  split at hr
  · next t => exact ls_inv_hdr hT ⟨by omega, by omega⟩ h' (by omega) hr
  split at hr
  · next t => exact ls_inv_hdr hT ⟨by omega, by omega⟩ h' (by omega) hr
  split at hr
  · split at hr
    · cases hr
    · split at hr
      · next t =>
        injection hr with hr; subst hr
        exact fin 2 _ (by omega) (ls_txt_lt hT (p := pos + 1) (by omega)) (ls_ext_t (ls_ext_em ..) (ls_ext_em ..)) (by show k.1 + 1 + 1 ≤ _; omega)
      · cases hr
  split at hr
  · split at hr
    · cases hr
    · split at hr
      · next t =>
        injection hr with hr; subst hr
        exact fin 2 _ (by omega) (ls_txt_lt hT (p := pos + 1) (by omega)) (ls_ext_t (ls_ext_em ..) (ls_ext_em ..)) (by show k.1 + 1 + 1 ≤ _; omega)
      · cases hr
  split at hr
  · next t11 =>
    split at hr
    · cases hr
    · next mq hmk =>
      split at hr
      · next t =>
        injection hr with hr; subst hr
        exact fin 2 _ (by omega) (ls_txt_lt hT (p := pos + 1) (by omega)) (ls_ext_t (ls_ext_em ..) (ls_ext_em ..)) (by show k.1 + 1 + 1 ≤ _; omega)
      · injection hr with hr; subst hr
        have p1 := ls_txt_lt hT (p := pos) (by omega)
        refine ⟨ls_inv_x (q := 0) (by omega) h2 h3 h4 (by show 480 ≤ k.1 + 1; omega) (by show k.1 + 1 + (0 + ls_dfr fr) ≤ _; omega) (by omega) (ls_xf_tick h5 (by omega) (by omega) (by omega) (fun _ => by rw [hmk]; simp)) (ls_fok_ext (ls_ext_em ..) a4), ?_⟩
        simp only [ls_mu_def, ls_sw_0, ls_sw_1, ls_sw_2, ls_sw_3, ls_sw_4, ls_sw_5, ls_sw_6, ls_fw_0, ls_fw_1, ls_fw_2, ls_fw_3, ls_fw_4, ls_fw_5, ls_fw_6, ls_fw_7, ls_fw_8, ls_fw_9, ls_fw_10, ls_fw_11, List.length_nil, List.length_cons]; omega
  · injection hr with hr; subst hr
    refine ⟨ls_inv_x (q := 0) (by omega) h2 h3 h4 (by show 480 ≤ k.1 + 1; omega) (by show k.1 + 1 + (0 + ls_dfr fr) ≤ _; omega) (by omega) (ls_xf_tick h5 (by omega) (by omega) (by omega) (fun h => by omega)) (ls_fok_ext (ls_ext_em ..) a4), ?_⟩
    simp only [ls_mu_def, ls_sw_0, ls_sw_1, ls_sw_2, ls_sw_3, ls_sw_4, ls_sw_5, ls_sw_6, ls_fw_0, ls_fw_1, ls_fw_2, ls_fw_3, ls_fw_4, ls_fw_5, ls_fw_6, ls_fw_7, ls_fw_8, ls_fw_9, ls_fw_10, ls_fw_11, List.length_nil, List.length_cons]; omega
set_option maxHeartbeats 200000 in
theorem ls_par_ok (hT : ls_txt T n) : ∀ f i p L sg q L' sg', ls_par T f i p L sg = .ok (q, L', sg') → L.length = i → i + f ≤ 3 → (∀ x ∈ L, x < 16) → p + 4 ≤ q ∧ q ≤ n ∧ L'.length ≤ 3 ∧ (∀ x ∈ L', x < 16) := by
  intro f
  induction f with
  | zero => intro i p L sg q L' sg' h; cases h
  | succ f ih =>
    intro i p L sg q L' sg' h hL hi hx
    unfold ls_par at h
    split at h
    · split at h
      · next tn =>
        have L1 : ∀ x ∈ (T (p + 1) - 54) :: L, x < 16 := by
          intro x hx'
          rcases List.mem_cons.mp hx' with rfl | hx'
          · have := tn.1.1; have := tn.1.2; omega
          · exact hx x hx'
        split at h
        · split at h
          · obtain ⟨r1, r2, r3, r4⟩ := ih _ _ _ _ _ _ _ h (by show L.length + 1 = _; omega) (by omega) L1
            exact ⟨by omega, r2, r3, r4⟩
          · cases h
        · split at h
          · split at h
            · next t17 =>
              injection h with h
              injection h with e1 e2
              injection e2 with e2 e3
              subst e1 e2
              have p1 := ls_txt_lt hT (p := p + 3) (by omega)
              exact ⟨by omega, by omega, by show L.length + 1 ≤ 3; omega, L1⟩
            · cases h
          · cases h
      · cases h
    · cases h
set_option maxHeartbeats 200000 in
theorem ls_head_ok (hT : ls_txt T n) {q sg : Nat} {L' : List Nat} (h : ls_head T pos = .ok (q, L', sg)) : pos + 5 ≤ q ∧ q ≤ n ∧ L'.length ≤ 3 ∧ (∀ x ∈ L', x < 16) := by
  unfold ls_head at h
  split at h
  · split at h
    · next t17 =>
      injection h with h
      injection h with e1 e2
      injection e2 with e2 e3
      subst e1 e2
      have p1 := ls_txt_lt hT (p := pos + 4) (by omega)
      exact ⟨by omega, by omega, by simp, by simp⟩
    · cases h
  · obtain ⟨r1, r2, r3, r4⟩ := ls_par_ok hT _ _ _ _ _ _ _ _ h rfl (by omega) (by simp)
    exact ⟨by omega, r2, r3, r4⟩
set_option maxHeartbeats 200000 in
theorem ls_k7 : ∀ t : Fin 8, ∀ s : Nat, s < 2 ^ 20 → nI (s * 8 + t.1) &&& 7 = nI t.1 := by
  intro t s hs
  rw [pk_andN (by omega) 3 (by decide)]
  congr 1
  have := t.2
  omega
set_option maxHeartbeats 200000 in
theorem ls_sg_lt : ∀ f i p L sg q L' sg', ls_par T f i p L sg = .ok (q, L', sg') → i + f ≤ 3 → sg' ≤ sg + f * 20496 := by
  intro f
  induction f with
  | zero => intro i p L sg q L' sg' h; cases h
  | succ f ih =>
    intro i p L sg q L' sg' h hi
    have pw : 2 ^ (6 + 3 * i) ≤ 2 ^ 12 := Nat.pow_le_pow_right (by decide) (by omega)
    have mul : ∀ t, t < 6 → t * 2 ^ (6 + 3 * i) ≤ 20480 := fun t ht => by
      have h5 : t ≤ 5 := by omega
      exact Nat.mul_le_mul h5 pw
    unfold ls_par at h
    split at h
    · next t6 =>
      have m := mul _ t6
      split at h
      · split at h
        · split at h
          · have := ih _ _ _ _ _ _ _ h (by omega)
            omega
          · cases h
        · split at h
          · split at h
            · injection h with h
              injection h with e1 e2
              injection e2 with e2 e3
              subst e3
              omega
            · cases h
          · cases h
      · cases h
    · cases h
set_option maxHeartbeats 200000 in
theorem ls_head_sg (tn : ls_nam (T (pos + 1))) {q sg : Nat} {L' : List Nat} (h : ls_head T pos = .ok (q, L', sg)) : sg < 2 ^ 20 := by
  have := tn.2
  unfold ls_head at h
  split at h
  · split at h
    · injection h with h
      injection h with e1 e2
      injection e2 with e2 e3
      subst e3
      omega
    · cases h
  · have := ls_sg_lt _ _ _ _ _ _ _ _ h (by omega)
    omega
set_option maxHeartbeats 200000 in
theorem ls_inv_r2 (hT : ls_txt T n) (h : ls_Inv T n (2, pos, es, pe, fr, L, k)) (hr : ls_r2 T pos es pe fr L k = .ok c') : ls_Inv T n c' ∧ ls_mu n c' < ls_mu n (2, pos, es, pe, fr, L, k) := by
  obtain ⟨h1, h2, h3, h4, h5, h6, h7⟩ := h
  rw [if_neg (by omega)] at h7
  obtain ⟨a1, a2, a3, a4, a5⟩ := h7
  obtain ⟨t6, a6⟩ := a5 rfl
  subst a3
  unfold ls_r2 at hr
  split at hr
  · next tn =>
    have hnm : T (pos + 1) - 54 < 16 := by have := tn.2; omega
    have p1 := ls_txt_lt hT (p := pos + 1) (by have := tn.2; omega)
    split at hr
    · next q =>
      obtain ⟨q1, t15⟩ := q
      subst q1
      split at hr
      · cases hr
      · next p L1 sg hh =>
        injection hr with hr; subst hr
        obtain ⟨r1, r2, r3, r4⟩ := ls_head_ok hT hh
        have sgl := ls_head_sg tn hh
        refine ⟨⟨r2, by omega, r4, ?_, by show 480 ≤ k.1 + 1 + 1; omega, ls_peok_nil, ?_⟩, ?_⟩
        · show (if (1 : Nat) = 1 then _ else _)
          rw [if_pos rfl]
          refine ⟨rfl, ⟨0, rfl⟩, ?_⟩
          show (if (2 : Nat) = 1 then _ else if (2 : Nat) = 2 then True else _)
          rw [if_neg (by decide), if_pos rfl]; trivial
        · rw [if_neg (by omega)]
          have a1' : k.1 + 0 ≤ 480 + 2 * pos := a1
          refine ⟨by show k.1 + 1 + 1 + (0 + (1 + 0)) ≤ _; omega, by show 2 ≤ p; omega, rfl, ls_fok_1 (ls_fok_2 ⟨by show 480 ≤ k.1 + 1; omega, by show k.1 + 1 < k.1 + 1 + 1; omega⟩ ?_ (by show T pos < 8; omega)), fun h => by omega⟩
          show upd _ (k.1 + 1) (nI (sg * 8 + T pos)) (k.1 + 1) &&& 7 = nI (T pos)
          rw [pk_us]
          exact ls_k7 ⟨T pos, by omega⟩ sg sgl
        · simp only [ls_mu_def, ls_sw_0, ls_sw_1, ls_sw_2, ls_sw_3, ls_sw_4, ls_sw_5, ls_sw_6, ls_fw_0, ls_fw_1, ls_fw_2, ls_fw_3, ls_fw_4, ls_fw_5, ls_fw_6, ls_fw_7, ls_fw_8, ls_fw_9, ls_fw_10, ls_fw_11, List.length_nil, List.length_cons]; omega
    · unfold ls_var at hr
      split at hr
      · dsimp only at hr
        split at hr
        · next t21 =>
          injection hr with hr; subst hr
          have p2 := ls_txt_lt hT (p := pos + 2) (by omega)
          have a1' : k.1 + 0 ≤ 480 + 2 * pos := a1
          refine ⟨ls_inv_x (q := 0) (by omega) h2 h3 h4 (by show 480 ≤ k.1 + 1; omega) (by show k.1 + 1 + (0 + 0) ≤ _; omega) (by show 0 ≤ _; omega) ?_ trivial, ?_⟩
          · exact ⟨by show 6 ≤ 11; decide, by show 11 < 12; decide, h5, Nat.lt_succ_self _, pk_us, by show pos ≤ pos + 3; omega, fun _ => ⟨t6, tn, Nat.le_refl _⟩, fun h => absurd h (by show ¬ (11 : Nat) = 10; decide)⟩
          · simp only [ls_mu_def, ls_sw_0, ls_sw_1, ls_sw_2, ls_sw_3, ls_sw_4, ls_sw_5, ls_sw_6, ls_fw_0, ls_fw_1, ls_fw_2, ls_fw_3, ls_fw_4, ls_fw_5, ls_fw_6, ls_fw_7, ls_fw_8, ls_fw_9, ls_fw_10, ls_fw_11, List.length_nil, List.length_cons]; omega
        · split at hr
          · next t20 =>
            injection hr with hr; subst hr
            have p2 := ls_txt_lt hT (p := pos + 2) (by omega)
            have a1' : k.1 + 0 ≤ 480 + 2 * pos := a1
            refine ⟨⟨by omega, h2, h3, h4, by show 480 ≤ k.1 + 1 + 1; omega, ls_peok_nil, ?_⟩, ?_⟩
            · rw [if_neg (by omega)]
              exact ⟨by show k.1 + 1 + 1 + 0 ≤ _; omega, by show 0 ≤ _; omega, rfl, trivial, fun h => by omega⟩
            · simp only [ls_mu_def, ls_sw_0, ls_sw_1, ls_sw_2, ls_sw_3, ls_sw_4, ls_sw_5, ls_sw_6, ls_fw_0, ls_fw_1, ls_fw_2, ls_fw_3, ls_fw_4, ls_fw_5, ls_fw_6, ls_fw_7, ls_fw_8, ls_fw_9, ls_fw_10, ls_fw_11, List.length_nil, List.length_cons]; omega
          · cases hr
      · next fk mo sp l r hno =>
        split at hr
        · next hL =>
          have f1 : fk = 1 := a6 _ rfl
          subst f1
          have L1 : ∀ x ∈ (T (pos + 1) - 54) :: L, x < 16 := by
            intro x hx
            rcases List.mem_cons.mp hx with rfl | hx
            · exact hnm
            · exact h3 x hx
          obtain ⟨s1, ⟨m, s2⟩, s3⟩ := (show mo = l.length ∧ (∃ m, l = L.drop m) ∧ ls_sco r l from h4)
          have sc : ls_sco ((1, mo, sp, l) :: r) ((T (pos + 1) - 54) :: L) := by
            show (if (1 : Nat) = 1 then _ else _)
            rw [if_pos rfl]
            exact ⟨s1, ⟨m + 1, s2⟩, s3⟩
          have a2' : r.length + 1 ≤ pos := a2
          dsimp only at hr
          split at hr
          · next t21 =>
            injection hr with hr; subst hr
            have p2 := ls_txt_lt hT (p := pos + 2) (by omega)
            refine ⟨ls_inv_x (q := 0) (by omega) (by show L.length + 1 ≤ 8; omega) L1 sc (by show 480 ≤ k.1 + 1; omega) (by show k.1 + 1 + (0 + ls_dfr _) ≤ _; omega) (by show r.length + 1 ≤ _; omega) ?_ (ls_fok_ext (ls_ext_em ..) a4), ?_⟩
            · exact ⟨by show 6 ≤ 11; decide, by show 11 < 12; decide, h5, Nat.lt_succ_self _, pk_us, by show pos ≤ pos + 3; omega, fun _ => ⟨t6, tn, Nat.le_refl _⟩, fun h => absurd h (by show ¬ (11 : Nat) = 10; decide)⟩
            · simp only [ls_mu_def, ls_sw_0, ls_sw_1, ls_sw_2, ls_sw_3, ls_sw_4, ls_sw_5, ls_sw_6, ls_fw_0, ls_fw_1, ls_fw_2, ls_fw_3, ls_fw_4, ls_fw_5, ls_fw_6, ls_fw_7, ls_fw_8, ls_fw_9, ls_fw_10, ls_fw_11, List.length_nil, List.length_cons]; omega
          · split at hr
            · next t20 =>
              injection hr with hr; subst hr
              have p2 := ls_txt_lt hT (p := pos + 2) (by omega)
              refine ⟨⟨by omega, by show L.length + 1 ≤ 8; omega, L1, sc, by show 480 ≤ k.1 + 1; omega, ls_peok_nil, ?_⟩, ?_⟩
              · rw [if_neg (by omega)]
                exact ⟨by show k.1 + 1 + ls_dfr _ ≤ _; omega, by show r.length + 1 ≤ _; omega, rfl, ls_fok_ext (ls_ext_em ..) a4, fun h => by omega⟩
              · simp only [ls_mu_def, ls_sw_0, ls_sw_1, ls_sw_2, ls_sw_3, ls_sw_4, ls_sw_5, ls_sw_6, ls_fw_0, ls_fw_1, ls_fw_2, ls_fw_3, ls_fw_4, ls_fw_5, ls_fw_6, ls_fw_7, ls_fw_8, ls_fw_9, ls_fw_10, ls_fw_11, List.length_nil, List.length_cons]; omega
            · cases hr
        · cases hr
  · cases hr
end
