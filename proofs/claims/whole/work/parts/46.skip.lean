/-! What the reference's skip answers, and the reading's way there -/
def ls_f20 (T : Nat → Nat) : Nat → Nat → Nat → Prop
  | 0, p, q => T p = 20 ∧ q = p + 1
  | j + 1, p, q => T p ≠ 20 ∧ ls_f20 T j (p + 1) q
/-- behind the bracket that is opened at p -/
def ls_bhd (T : Nat → Nat) (p q : Nat) : Prop := (T p = 15 ∨ T p = 17) ∧ ∃ j, q = p + 1 + j ∧ ls_br T 0 j (p + 1) 1 0
def ls_dr (e : Prop) [Decidable e] : List Nat → Option (List Nat)
  | [] => none
  | x :: r => if x = 6 ∧ e then some r else ls_dr e r
def ls_one (T : Nat → Nat) (p q : Nat) : Prop := if T p = 17 then ls_bhd T p q else ∃ i, ls_f20 T i p q
def ls_sk (T : Nat → Nat) : Nat → Nat → List Nat → Nat → Prop
  | 0, _, _, _ => False
  | j + 1, p, S, q => ((T p = 6 ∨ T p = 8) ∧ ∃ p2, ls_bhd T (p + 1) p2 ∧ ls_sk T j p2 (T p :: S) q) ∨ (T p ≠ 6 ∧ T p ≠ 8 ∧ ∃ p1, ls_one T p p1 ∧ (match ls_dr (T p1 = 7) S with
    | none => q = p1
    | some S' => ls_sk T j (p1 + 1) (7 :: S') q))
def ls_k6 (f : LsF) : Nat := f.1 + 3
section
variable {T : Nat → Nat} {V : Nat → Int32} {n : Nat} {C : Nat → LsC} {N : Nat} {kF : LsK} {t pos es : Nat} {L : List Nat} {k : LsK} {s j p d q : Nat}
set_option maxHeartbeats 200000 in
theorem ls_sp_f20 : ∀ {j p d}, ls_sp T s j p d q → T q = 20 → ls_f20 T j p (q + 1)
  | 0, p, d, h, g => by
    obtain ⟨h1, h2⟩ := h
    subst h1
    exact ⟨g, rfl⟩
  | j + 1, p, d, h, g => ⟨h.1.2.2, ls_sp_f20 h.2.2 g⟩
set_option maxHeartbeats 200000 in
theorem ls_sp_f20b : ∀ {j p d}, ls_sp T s j p d q → T q = 16 → T (q + 1) = 20 → ls_f20 T (j + 1) p (q + 2)
  | 0, p, d, h, g, g' => by
    obtain ⟨h1, h2⟩ := h
    subst h1
    exact ⟨by omega, g', rfl⟩
  | j + 1, p, d, h, g, g' => ⟨h.1.2.2, ls_sp_f20b h.2.2 g g'⟩
set_option maxHeartbeats 200000 in
theorem ls_sp_br : ∀ {j p d}, ls_sp T s j p d q → ls_br T 0 j p (d + 1) 1 ∧ q = p + j
  | 0, p, d, h => by
    obtain ⟨h1, h2⟩ := h
    exact ⟨by rw [h2]; rfl, by omega⟩
  | j + 1, p, d, h => by
    obtain ⟨h1, h2, h3⟩ := h
    obtain ⟨i1, i2⟩ := ls_sp_br h3
    refine ⟨⟨by omega, ?_⟩, by omega⟩
    have : ls_bd (T p) (d + 1) = (if T p = 15 then d + 1 else if T p = 16 then d - 1 else d) + 1 := by
      unfold ls_bd
      by_cases q15 : T p = 15
      · rw [if_pos (Or.inl q15), if_pos q15]
      · rw [if_neg (by omega), if_neg q15]
        by_cases q16 : T p = 16
        · rw [if_pos (Or.inl q16), if_pos q16]
          have : d ≠ 0 := fun q => (h2 q).1 q16
          omega
        · rw [if_neg (by omega), if_neg q16]
    rw [this]; exact i1
set_option maxHeartbeats 200000 in
theorem ls_br_sh {b e : Nat} : ∀ {m p d}, ls_br T b m p (d + b) (e + b) → ls_br T 0 m p d e
  | 0, p, d, h => by
    have h' : d + b = e + b := h
    show d = e
    omega
  | m + 1, p, d, h => by
    obtain ⟨h1, h2⟩ := h
    refine ⟨by omega, ls_br_sh (b := b) ?_⟩
    have : ls_bd (T p) (d + b) = ls_bd (T p) d + b := by
      unfold ls_bd
      split
      · omega
      · split <;> omega
    rw [← this]; exact h2
set_option maxHeartbeats 200000 in
theorem ls_expr (h : ls_tl T V n C N kF) {f : LsF} {G : List LsF} (ht : t ≤ N) (e : C t = (4, p, es, [], f :: G, L, k)) :
    ∃ t1 q k1 j, t ≤ t1 ∧ t1 < N ∧ C t1 = (5, q, es, [], f :: G, L, k1) ∧ ls_sp T 2 j p 0 q ∧ p ≤ q ∧ ls_end T q es (f :: G) L k1 = .ok (C (t1 + 1)) ∧ ∀ u, t ≤ u → u ≤ t1 → (C u).2.2.2.2.1 = f :: G := by
  obtain ⟨t', q, k', j, a1, a2, a3, a4, a5, a6, a7⟩ := ls_pex h (s := 2) (P := []) (Or.inl ⟨rfl, rfl⟩) (N - t) t 4 p [] k (Nat.le_refl _) ht (Or.inl rfl) e
  obtain ⟨_, s⟩ := ls_tl5 h (Nat.le_of_lt a2) a3
  unfold ls_r5 at s
  dsimp only at s
  rw [if_neg (by omega)] at s
  exact ⟨t', q, k', j, a1, a2, a3, a6, a5, s, fun u u1 u2 => (a7 u u1 u2).1⟩
set_option maxHeartbeats 200000 in
theorem ls_end_9 {mo sp : Nat} {l : List Nat} {G : List LsF} {c' : LsC} (s : ls_end T q es ((9, mo, sp, l) :: G) L k = .ok c') : T q = 16 ∧ T (q + 1) = 20 ∧ c' = (3, q + 2, es, [], G, L, ls_em k 16 0 0 (nI sp)) := by
  unfold ls_end at s
  dsimp only at s
  split at s
  · cases s
  rw [if_neg (by decide), if_neg (by decide), if_pos rfl] at s
  split at s
  · next t1 =>
    split at s
    · next t2 => injection s with s; exact ⟨t1, t2, s.symm⟩
    · cases s
  · cases s
set_option maxHeartbeats 200000 in
theorem ls_end_o {fk mo sp : Nat} {l : List Nat} {G : List LsF} {c' : LsC} (hk : fk = 6 ∨ fk = 10 ∨ fk = 11) (s : ls_end T q es ((fk, mo, sp, l) :: G) L k = .ok c') : T q = 20 ∧ ∃ k', c' = (3, q + 1, es, [], G, L, k') := by
  unfold ls_end at s
  dsimp only at s
  rw [if_neg (show ¬ fk = 7 by omega), if_neg (show ¬ fk = 8 by omega), if_neg (show ¬ fk = 9 by omega)] at s
  split at s
  · cases s
  split at s
  · next t20 =>
    split at s
    · injection s with s; exact ⟨t20, _, s.symm⟩
    split at s
    · injection s with s; exact ⟨t20, _, s.symm⟩
    · injection s with s; exact ⟨t20, _, s.symm⟩
  · cases s
set_option maxHeartbeats 200000 in
theorem ls_end_h {fk mo sp : Nat} {l : List Nat} {G : List LsF} {c' : LsC} (hk : fk = 7 ∨ fk = 8) (s : ls_end T q es ((fk, mo, sp, l) :: G) L k = .ok c') : T q = 16 ∧ c' = (0, q + 1, es, [], (if fk = 7 then (3, k.1, sp, []) else (5, mo, sp, [])) :: G, L, ls_em k 15 0 0 (nI sp)) := by
  unfold ls_end at s
  dsimp only at s
  split at s
  · cases s
  rcases hk with rfl | rfl
  · rw [if_pos rfl] at s
    split at s
    · next t16 => injection s with s; exact ⟨t16, by rw [if_pos rfl]; exact s.symm⟩
    · cases s
  · rw [if_neg (by decide), if_pos rfl] at s
    split at s
    · next t16 => injection s with s; exact ⟨t16, by rw [if_neg (by decide)]; exact s.symm⟩
    · cases s
set_option maxHeartbeats 200000 in
/-- a statement other than if and while, from its first token to its end -/
theorem ls_simple (h : ls_tl T V n C N kF) {G : List LsF} (ht : t ≤ N) (e : C t = (1, p, es, [], G, L, k)) (n6 : T p ≠ 6) (n8 : T p ≠ 8) :
    ∃ t' q es' k', t < t' ∧ t' ≤ N ∧ C t' = (3, q, es', [], G, L, k') ∧ p < q ∧ ls_one T p q ∧ ∀ u, t ≤ u → u ≤ t' → G.length ≤ ((C u).2.2.2.2.1).length := by
  obtain ⟨lt, s⟩ := ls_tl1 h ht e
  have NOW : G.length ≤ ((C t).2.2.2.2.1).length := by rw [e]; exact Nat.le_refl _
  have ONE : T p ≠ 17 → ∀ q' es' k' i, C (t + 1) = (3, q', es', [], G, L, k') → p < q' → ls_f20 T i p q' → ∃ t' q es' k', t < t' ∧ t' ≤ N ∧ C t' = (3, q, es', [], G, L, k') ∧ p < q ∧ ls_one T p q ∧ ∀ u, t ≤ u → u ≤ t' → G.length ≤ ((C u).2.2.2.2.1).length := by
    intro n17 q' es' k' i e' hq hf
    refine ⟨t + 1, q', es', k', by omega, by omega, e', hq, by unfold ls_one; rw [if_neg n17]; exact ⟨i, hf⟩, fun u u1 u2 => ?_⟩
    rcases (show u = t ∨ u = t + 1 by omega) with rfl | rfl
    · exact NOW
    · rw [e']; exact Nat.le_refl _
  have EXP : T p ≠ 17 → ∀ p' es0 f k0, C (t + 1) = (4, p', es0, [], f :: G, L, k0) → p ≤ p' → (f.1 = 6 ∨ f.1 = 9 ∨ f.1 = 10) → (∀ j q, p' ≤ q → ls_f20 T j p' q → ∃ j', ls_f20 T j' p q) → ∃ t' q es' k', t < t' ∧ t' ≤ N ∧ C t' = (3, q, es', [], G, L, k') ∧ p < q ∧ ls_one T p q ∧ ∀ u, t ≤ u → u ≤ t' → G.length ≤ ((C u).2.2.2.2.1).length := by
    intro n17 p' es0 f k0 e' hp hf hg
    obtain ⟨t1, q, k1, j, a1, a2, a3, a4, a5, a6, a7⟩ := ls_expr h (by omega) e'
    have LEN : ∀ q' k', C (t1 + 1) = (3, q', es0, [], G, L, k') → ∀ u, t ≤ u → u ≤ t1 + 1 → G.length ≤ ((C u).2.2.2.2.1).length := by
      intro q' k' e2 u u1 u2
      by_cases ue : u = t
      · subst ue; exact NOW
      · by_cases ue2 : u = t1 + 1
        · subst ue2; rw [e2]; exact Nat.le_refl _
        · rw [a7 u (by omega) (by omega), List.length_cons]; omega
    obtain ⟨fk, mo, sp, l⟩ := f
    dsimp only at hf
    by_cases f9 : fk = 9
    · subst f9
      obtain ⟨x1, x2, x3⟩ := ls_end_9 a6
      obtain ⟨j', g⟩ := hg _ (q + 2) (by omega) (ls_sp_f20b a4 x1 x2)
      exact ⟨t1 + 1, q + 2, es0, _, by omega, by omega, x3, by omega, by unfold ls_one; rw [if_neg n17]; exact ⟨j', g⟩, LEN _ _ x3⟩
    · obtain ⟨x1, k', x3⟩ := ls_end_o (by omega) a6
      obtain ⟨j', g⟩ := hg _ (q + 1) (by omega) (ls_sp_f20 a4 x1)
      exact ⟨t1 + 1, q + 1, es0, _, by omega, by omega, x3, by omega, by unfold ls_one; rw [if_neg n17]; exact ⟨j', g⟩, LEN _ _ x3⟩
  unfold ls_r1 ls_hdr at s
  dsimp only at s
  split at s
  · next t20 =>
    injection s with s
    exact ONE (by omega) _ _ _ 0 s.symm (by omega) ⟨t20, rfl⟩
  split at s
  · next t17 =>
    injection s with s
    obtain ⟨t', q, es', k', j, b1, b2, b3, b4, b5, b6⟩ := ls_pb h (B := (1, L.length, p, L)) (F := G) rfl (N - (t + 1)) (t + 1) [] (Nat.le_refl _) (by omega) (by rw [← s]; rfl)
    have e1 : (C (t + 1)).2.1 = p + 1 := by rw [← s]
    have e2 : ls_D (C (t + 1)) = 1 + ls_dF G := by rw [← s, ls_D_mk, ls_df1 (Or.inl rfl)]; show ls_dF G + 1 + 0 = _; omega
    rw [e1] at b4 b5
    rw [e2] at b5
    refine ⟨t', q, es', k', by omega, b2, b3, by omega, ?_, fun u u1 u2 => ?_⟩
    · unfold ls_one
      rw [if_pos t17]
      exact ⟨Or.inr t17, j, b4.symm, ls_br_sh (b := ls_dF G) (by rw [Nat.zero_add]; exact b5)⟩
    · by_cases ue : u = t
      · subst ue; exact NOW
      · by_cases ue2 : u = t'
        · subst ue2; rw [b3]; exact Nat.le_refl _
        · exact Nat.le_of_lt (b6 u (by omega) (by omega))
  split at s
  · next t12 =>
    split at s
    · next t15 =>
      injection s with s
      exact EXP (by omega) _ _ _ _ s.symm (by omega) (Or.inr (Or.inl rfl)) (fun j q _ g => ⟨j + 2, by omega, by omega, g⟩)
    · cases s
  split at s
  · split at s
    · cases s
    · split at s
      · next t20 => injection s with s; exact ONE (by omega) _ _ _ 1 s.symm (by omega) ⟨by omega, t20, rfl⟩
      · cases s
  split at s
  · split at s
    · cases s
    · split at s
      · next t20 => injection s with s; exact ONE (by omega) _ _ _ 1 s.symm (by omega) ⟨by omega, t20, rfl⟩
      · cases s
  split at s
  · split at s
    · cases s
    · split at s
      · next t20 => injection s with s; exact ONE (by omega) _ _ _ 1 s.symm (by omega) ⟨by omega, t20, rfl⟩
      · injection s with s
        exact EXP (by omega) _ _ _ _ s.symm (by omega) (Or.inr (Or.inr rfl)) (fun j q _ g => ⟨j + 1, by omega, g⟩)
  · injection s with s
    exact EXP (by omega) _ _ _ _ s.symm (by omega) (Or.inl rfl) (fun j q _ g => ⟨j, g⟩)
set_option maxHeartbeats 200000 in
/-- the head of an if or while -/
theorem ls_headp (h : ls_tl T V n C N kF) {G : List LsF} (ht : t ≤ N) (e : C t = (1, p, es, [], G, L, k)) (h68 : T p = 6 ∨ T p = 8) :
    ∃ t' q es' k' f, t < t' ∧ t' ≤ N ∧ C t' = (0, q, es', [], f :: G, L, k') ∧ p < q ∧ f.1 + 3 = T p ∧ ls_bhd T (p + 1) q ∧ (f.1 = 3 ∨ f.1 = 5) ∧ ∀ u, t ≤ u → u ≤ t' → G.length ≤ ((C u).2.2.2.2.1).length := by
  obtain ⟨lt, s⟩ := ls_tl1 h ht e
  have NOW : G.length ≤ ((C t).2.2.2.2.1).length := by rw [e]; exact Nat.le_refl _
  have EXP : ∀ fk k0, C (t + 1) = (4, p + 2, p + 2, [], (fk, k.1, p, []) :: G, L, k0) → T (p + 1) = 15 → (fk = 7 ∧ T p = 6 ∨ fk = 8 ∧ T p = 8) → ∃ t' q es' k' f, t < t' ∧ t' ≤ N ∧ C t' = (0, q, es', [], f :: G, L, k') ∧ p < q ∧ f.1 + 3 = T p ∧ ls_bhd T (p + 1) q ∧ (f.1 = 3 ∨ f.1 = 5) ∧ ∀ u, t ≤ u → u ≤ t' → G.length ≤ ((C u).2.2.2.2.1).length := by
    intro fk k0 e' t15 hf
    obtain ⟨t1, q, k1, j, a1, a2, a3, a4, a5, a6, a7⟩ := ls_expr h (by omega) e'
    obtain ⟨x1, x2⟩ := ls_end_h (by omega) a6
    obtain ⟨b1, b2⟩ := ls_sp_br a4
    refine ⟨t1 + 1, q + 1, _, _, _, by omega, by omega, x2, by omega, ?_, ⟨Or.inl t15, j + 1, by omega, ls_br_app b1 (e := 1) (f := 0) (q := 1) ?_⟩, ?_, fun u u1 u2 => ?_⟩
    · rcases hf with ⟨rfl, g⟩ | ⟨rfl, g⟩
      · rw [if_pos rfl]; exact g.symm
      · rw [if_neg (by decide)]; exact g.symm
    · refine ⟨by decide, ?_⟩
      show ls_bd (T (p + 1 + 1 + j)) 1 = 0
      rw [show p + 1 + 1 + j = q by omega, ls_bd_c (d := 0) (Or.inl x1)]
    · rcases hf with ⟨rfl, g⟩ | ⟨rfl, g⟩
      · rw [if_pos rfl]; exact Or.inl rfl
      · rw [if_neg (by decide)]; exact Or.inr rfl
    · by_cases ue : u = t
      · subst ue; exact NOW
      · by_cases ue2 : u = t1 + 1
        · subst ue2; rw [x2, List.length_cons]; omega
        · rw [a7 u (by omega) (by omega), List.length_cons]; omega
  unfold ls_r1 ls_hdr at s
  dsimp only at s
  rw [if_neg (by omega), if_neg (by omega)] at s
  split at s
  · next t6 =>
    split at s
    · next t15 => injection s with s; exact EXP 7 _ s.symm t15 (Or.inl ⟨rfl, t6⟩)
    · cases s
  · rw [if_pos (by omega)] at s
    split at s
    · next t15 => injection s with s; exact EXP 8 _ s.symm t15 (Or.inr ⟨rfl, by omega⟩)
    · cases s
set_option maxHeartbeats 200000 in
/-- a statement from its start to its end, past the frames S above F -/
theorem ls_ps (h : ls_tl T V n C N kF) {F : List LsF} (hF : 3 ≤ ls_fk F ∧ ls_fk F ≤ 5) : ∀ (m t p es : Nat) (S : List LsF) (k : LsK), N - t ≤ m → t ≤ N → C t = (0, p, es, [], S ++ F, L, k) → (∀ f ∈ S, 3 ≤ f.1 ∧ f.1 ≤ 5) →
    ∃ t' q es' k' j, t < t' ∧ t' < N ∧ C t' = (3, q, es', [], F, L, k') ∧ p < q ∧ ls_sk T j p (S.map ls_k6) q ∧ ∀ u, t ≤ u → u ≤ t' → F.length ≤ ((C u).2.2.2.2.1).length := by
  intro m
  induction m with
  | zero =>
    intro t p es S k hm ht e hS
    have := ls_tl_lt h ht e (by decide)
    omega
  | succ m ih =>
    intro t p es S k hm ht e hS
    obtain ⟨lt, s⟩ := ls_tl0 h ht e
    have NOW : F.length ≤ ((C t).2.2.2.2.1).length := by rw [e]; show F.length ≤ (S ++ F).length; rw [List.length_append]; omega
    -- one step: a statement is due
    have e1 : C (t + 1) = (1, p, es, [], S ++ F, L, k) := by
      unfold ls_r0 at s
      obtain ⟨f, r, hfr, hk⟩ : ∃ f r, S ++ F = f :: r ∧ (3 ≤ f.1 ∧ f.1 ≤ 5) := by
        cases S with
        | nil => cases F with
          | nil => exact absurd hF.1 (by decide)
          | cons f r => exact ⟨f, r, rfl, hF⟩
        | cons f S => exact ⟨f, S ++ F, rfl, hS f (List.mem_cons_self ..)⟩
      rw [hfr] at s ⊢
      rw [if_neg (fun q => by cases q.2)] at s
      obtain ⟨fk, mo, sp, l⟩ := f
      dsimp only at s hk
      rw [if_neg (by omega)] at s
      injection s with s
      exact s.symm
    by_cases h68 : T p = 6 ∨ T p = 8
    · obtain ⟨t', q, es', k', f, a1, a2, a3, a4, a5, a6, a7, a8⟩ := ls_headp h (by omega) e1 h68
      obtain ⟨t2, q2, es2, k2, j, b1, b2, b3, b4, b5, b6⟩ := ih t' q es' (f :: S) k' (by omega) a2 a3 (fun x hx => by
        rcases List.mem_cons.mp hx with rfl | hx
        · omega
        · exact hS x hx)
      refine ⟨t2, q2, es2, k2, j + 1, by omega, b2, b3, by omega, Or.inl ⟨h68, q, a6, ?_⟩, fun u u1 u2 => ?_⟩
      · have : ls_k6 f = T p := a5
        rw [← this]; exact b5
      · by_cases ue : u = t
        · subst ue; exact NOW
        · by_cases ue2 : u ≤ t'
          · have := a8 u (by omega) ue2
            rw [List.length_append] at this
            omega
          · exact b6 u (by omega) u2
    · obtain ⟨t', q, es', k', a1, a2, a3, a4, a5, a6⟩ := ls_simple h (by omega) e1 (by omega) (by omega)
      -- the frames that end here
      have FIN : ∀ (S1 : List LsF) (t1 : Nat) (k1 : LsK), t' ≤ t1 → t1 ≤ N → C t1 = (3, q, es', [], S1 ++ F, L, k1) → (∀ f ∈ S1, 3 ≤ f.1 ∧ f.1 ≤ 5) → (∀ u, t ≤ u → u ≤ t1 → F.length ≤ ((C u).2.2.2.2.1).length) →
          ∃ t2 q2 es2 k2 j, t < t2 ∧ t2 < N ∧ C t2 = (3, q2, es2, [], F, L, k2) ∧ p < q2 ∧ (match ls_dr (T q = 7) (S1.map ls_k6) with
            | none => q2 = q
            | some S' => ls_sk T j (q + 1) (7 :: S') q2) ∧ ∀ u, t ≤ u → u ≤ t2 → F.length ≤ ((C u).2.2.2.2.1).length := by
        intro S1
        induction S1 with
        | nil =>
          intro t1 k1 c1 c2 c3 c4 c5
          exact ⟨t1, q, es', k1, 0, by omega, ls_tl_lt h c2 c3 (by decide), c3, a4, rfl, c5⟩
        | cons f S1 ihS =>
          intro t1 k1 c1 c2 c3 c4 c5
          obtain ⟨lt1, s1⟩ := ls_tl3 h c2 c3
          obtain ⟨fk, mo, sp, l⟩ := f
          have hf := c4 _ (List.mem_cons_self ..)
          dsimp only at hf
          have c4' : ∀ f ∈ S1, 3 ≤ f.1 ∧ f.1 ≤ 5 := fun f hf => c4 f (List.mem_cons_of_mem _ hf)
          have POP : ∀ k2, C (t1 + 1) = (3, q, es', [], S1 ++ F, L, k2) → ¬ (fk + 3 = 6 ∧ T q = 7) → ∃ t2 q2 es2 k2 j, t < t2 ∧ t2 < N ∧ C t2 = (3, q2, es2, [], F, L, k2) ∧ p < q2 ∧ (match ls_dr (T q = 7) (((fk, mo, sp, l) :: S1).map ls_k6) with
              | none => q2 = q
              | some S' => ls_sk T j (q + 1) (7 :: S') q2) ∧ ∀ u, t ≤ u → u ≤ t2 → F.length ≤ ((C u).2.2.2.2.1).length := by
            intro k2 e2 hne
            have : ls_dr (T q = 7) (((fk, mo, sp, l) :: S1).map ls_k6) = ls_dr (T q = 7) (S1.map ls_k6) := by
              show (if fk + 3 = 6 ∧ T q = 7 then _ else _) = _
              rw [if_neg hne]
            rw [this]
            refine ihS (t1 + 1) k2 (by omega) (by omega) e2 c4' (fun u u1 u2 => ?_)
            by_cases ue : u = t1 + 1
            · subst ue; rw [e2]; show F.length ≤ (S1 ++ F).length; rw [List.length_append]; omega
            · exact c5 u u1 (by omega)
          unfold ls_r3 at s1
          dsimp only [List.cons_append] at s1
          split at s1
          · next f3 =>
            split at s1
            · next t7 =>
              injection s1 with s1
              obtain ⟨t2, q2, es2, k2, j, b1, b2, b3, b4, b5, b6⟩ := ih (t1 + 1) (q + 1) es' ((4, k1.1, sp, []) :: S1) _ (by omega) (by omega) s1.symm (fun x hx => by
                rcases List.mem_cons.mp hx with rfl | hx
                · exact ⟨by show 3 ≤ 4; decide, by show 4 ≤ 5; decide⟩
                · exact c4' x hx)
              refine ⟨t2, q2, es2, k2, j, by omega, b2, b3, by omega, ?_, fun u u1 u2 => ?_⟩
              · have : ls_dr (T q = 7) (((fk, mo, sp, l) :: S1).map ls_k6) = some (S1.map ls_k6) := by
                  show (if fk + 3 = 6 ∧ T q = 7 then _ else _) = _
                  rw [if_pos ⟨by omega, t7⟩]
                rw [this]; exact b5
              · by_cases ue : u ≤ t1
                · exact c5 u u1 ue
                · exact b6 u (by omega) u2
            · next t7 => injection s1 with s1; exact POP _ s1.symm (fun q => t7 q.2)
          split at s1
          · injection s1 with s1; exact POP _ s1.symm (fun q => by omega)
          split at s1
          · injection s1 with s1; exact POP _ s1.symm (fun q => by omega)
          · omega
      obtain ⟨t2, q2, es2, k2, j, b1, b2, b3, b4, b5, b6⟩ := FIN S t' k' (Nat.le_refl _) a2 a3 hS (fun u u1 u2 => by
        by_cases ue : u = t
        · subst ue; exact NOW
        · have := a6 u (by omega) u2
          rw [List.length_append] at this
          omega)
      exact ⟨t2, q2, es2, k2, j + 1, b1, b2, b3, b4, Or.inr ⟨by omega, by omega, q, a5, b5⟩, b6⟩
end
