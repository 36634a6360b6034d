section
variable {T : Nat → Nat} {V : Nat → Int32} {n : Nat} {pos es : Nat} {pe pe' : List LsP} {fr fr' : List LsF} {L L' : List Nat} {k k' : LsK} {c c' : LsC} {i : Nat}
set_option maxHeartbeats 200000 in
theorem ls_js2 (hJ : ls_J (2, pos, es, pe, fr, L, k)) (hr : ls_r2 T pos es pe fr L k = .ok c') : ls_js (2, pos, es, pe, fr, L, k) c' := by
  obtain ⟨jp, jf⟩ := hJ
  have E2 : ∀ o a d q o2 a2 d2 q2, ls_ext k (ls_em (ls_em k o a d q) o2 a2 d2 q2) := fun o a d q o2 a2 d2 q2 => ls_ext_t (ls_ext_em ..) (ls_ext_em ..)
  have P1 : ∀ o a d q, ls_pd (ls_em k o a d q) (ls_em k o a d q).1 pe := fun o a d q => ls_pd_ext (ls_ext_em ..) (Nat.le_refl _) (Nat.le_succ _) jp
  have F1 : ∀ o a d q, ls_fd (ls_em k o a d q) (ls_em k o a d q).1 fr := fun o a d q => ls_fd_ext (ls_ext_em ..) (Nat.le_refl _) (Nat.le_succ _) jf
  have JX : ∀ (L1 : List Nat) p e' o a d q, ls_js (2, pos, es, pe, fr, L, k) (4, p, e', pe, (11, k.1, pos, []) :: fr, L1, ls_em k o a d q) := fun L1 p e' o a d q =>
    ls_js_mk (P1 ..) (ls_fd_push jf (by decide)) (fun i hs => ls_mv_em (ls_set_lt hs)) (fun e he _ => Or.inl he) (fun f hf hq => by
      rcases List.mem_cons.mp hf with rfl | hf
      · dsimp only at hq; omega
      · exact Or.inl hf)
  unfold ls_r2 at hr
  split at hr
  · split at hr
    · next q =>
      split at hr
      · cases hr
      · injection hr with hr; subst hr
        refine ls_js_mk (ls_pd_ext (E2 ..) (Nat.le_refl _) (by show k.1 ≤ k.1 + 1 + 1; omega) jp) ?_ (fun i hs => ls_mv_em2 (ls_set_lt hs)) (fun e he _ => Or.inl he) (fun f hf hq => ?_)
        · show (if (1 : Nat) = 1 then _ else _)
          rw [if_pos rfl]
          show (if (2 : Nat) = 1 then _ else _)
          rw [if_neg (by decide)]
          exact ⟨by show k.1 + 1 < k.1 + 1 + 1; omega, fun h => absurd h (by show (2 : Nat) ≠ 3; decide), fun h => absurd h (by show (2 : Nat) ≠ 4; decide), fun _ => pk_us, fun h => absurd h (by show (2 : Nat) ≠ 5; decide), trivial⟩
        · right
          rcases List.mem_cons.mp hf with rfl | hf
          · dsimp only at hq; omega
          · rw [List.mem_singleton] at hf
            subst hf
            show k.1 ≤ k.1 + 1
            omega
    · unfold ls_var at hr
      split at hr
      · dsimp only at hr
        split at hr
        · injection hr with hr; subst hr; exact JX ..
        · split at hr
          · injection hr with hr; subst hr
            exact ls_js_mk (ls_pd_ext (E2 ..) (Nat.le_refl _) (by show k.1 ≤ k.1 + 1 + 1; omega) jp) trivial (fun i hs => ls_mv_em2 (ls_set_lt hs)) (fun e he _ => Or.inl he) (fun f hf hq => Or.inl hf)
          · cases hr
      · split at hr
        · dsimp only at hr
          split at hr
          · injection hr with hr; subst hr; exact JX ..
          · split at hr
            · injection hr with hr; subst hr
              exact ls_js_mk (P1 ..) (F1 ..) (fun i hs => ls_mv_em (ls_set_lt hs)) (fun e he _ => Or.inl he) (fun f hf _ => Or.inl hf)
            · cases hr
        · cases hr
  · cases hr
set_option maxHeartbeats 200000 in
theorem ls_fd_hd {f : LsF} {b : Nat} (hf : f.1 ≠ 1) (h : ls_fd k b (f :: fr)) : f.2.1 < b ∧ (f.1 = 3 → k.2.1 f.2.1 = 15) ∧ (f.1 = 4 → k.2.1 f.2.1 = 14) ∧ (f.1 = 2 → k.2.1 f.2.1 = 21) ∧ (f.1 = 5 → f.2.1 + 2 ≤ k.1) ∧ ls_fd k f.2.1 fr := by
  have h' : (if f.1 = 1 then ls_fd k b fr else f.2.1 < b ∧ (f.1 = 3 → k.2.1 f.2.1 = 15) ∧ (f.1 = 4 → k.2.1 f.2.1 = 14) ∧ (f.1 = 2 → k.2.1 f.2.1 = 21) ∧ (f.1 = 5 → f.2.1 + 2 ≤ k.1) ∧ ls_fd k f.2.1 fr) := h
  rw [if_neg hf] at h'
  exact h'
set_option maxHeartbeats 200000 in
theorem ls_js3 (hI : ls_Inv T n (3, pos, es, pe, fr, L, k)) (hJ : ls_J (3, pos, es, pe, fr, L, k)) (hr : ls_r3 T pos es pe fr L k = .ok c') : ls_js (3, pos, es, pe, fr, L, k) c' := by
  obtain ⟨jp, jf⟩ := hJ
  unfold ls_r3 at hr
  split at hr
  · injection hr with hr; subst hr
    exact ls_js_mk jp jf (fun _ _ => ls_mv_r) (fun e he _ => Or.inl he) (fun f hf _ => Or.inl hf)
  · next fk mo sp l r =>
    have tl : ls_fd k k.1 r := ls_fd_tl (Nat.le_refl _) jf
    -- an aim at the top frame's instruction
    have NE : (fk = 2 ∨ fk = 3 ∨ fk = 4) → ∀ i, ls_set (3, pos, es, pe, (fk, mo, sp, l) :: r, L, k) i → i ≠ mo := fun h i hs e => hs.2.2.1 (fk, mo, sp, l) (List.mem_cons_self ..) h e.symm
    have AIM : (fk = 3 ∨ fk = 4) → ls_js (3, pos, es, pe, (fk, mo, sp, l) :: r, L, k) (3, pos, es, pe, r, L, ls_aim k mo) := fun h =>
      ls_js_mk (ls_pd_ext (ls_ext_aim ..) (Nat.le_refl _) (Nat.le_refl _) jp) (ls_fd_ext (ls_ext_aim ..) (Nat.le_refl _) (Nat.le_refl _) tl) (fun i hs => ls_mv_aim (NE (by omega) i hs)) (fun e he _ => Or.inl he) (fun f hf _ => Or.inl (List.mem_cons_of_mem _ hf))
    split at hr
    · next q3 =>
      obtain ⟨g1, _, _, _, _, g6⟩ := ls_fd_hd (f := (fk, mo, sp, l)) (by show fk ≠ 1; omega) jf
      dsimp only at g1 g6
      split at hr
      · injection hr with hr; subst hr
        have X : ls_ext k (ls_aim (ls_em k 14 0 0 (nI pos)) mo) := ls_ext_t (ls_ext_em ..) (ls_ext_aim ..)
        refine ls_js_mk (ls_pd_ext X (Nat.le_refl _) (Nat.le_succ _) jp) ?_ (fun i hs => ls_mv_t (ls_mv_em (ls_set_lt hs)) (ls_mv_aim (NE (by omega) i hs))) (fun e he _ => Or.inl he) (fun f hf hq => ?_)
        · show (if (4 : Nat) = 1 then _ else _)
          rw [if_neg (by decide)]
          exact ⟨Nat.lt_succ_self _, fun h => absurd h (by show (4 : Nat) ≠ 3; decide), fun _ => pk_us, fun h => absurd h (by show (4 : Nat) ≠ 2; decide), fun h => absurd h (by show (4 : Nat) ≠ 5; decide), ls_fd_ext X (by omega) (by show mo ≤ k.1; omega) g6⟩
        · rcases List.mem_cons.mp hf with rfl | hf
          · exact Or.inr (Nat.le_refl _)
          · exact Or.inl (List.mem_cons_of_mem _ hf)
      · injection hr with hr; subst hr; exact AIM (Or.inl q3)
    split at hr
    · next q4 => injection hr with hr; subst hr; exact AIM (Or.inr q4)
    split at hr
    · next q5 =>
      injection hr with hr; subst hr
      have X : ls_ext k (ls_exits (ls_em k 14 (nI (mo + 1) - nI k.1) 0 (nI pos)) mo) := ls_ext_t (ls_ext_em ..) (ls_ext_ex ..)
      refine ls_js_mk (ls_pd_ext X (Nat.le_refl _) (Nat.le_succ _) jp) (ls_fd_ext X (Nat.le_refl _) (Nat.le_succ _) tl) (fun i hs => ls_mv_t (ls_mv_em (ls_set_lt hs)) (ls_mv_ex (fun h => ?_))) (fun e he _ => Or.inl he) (fun f hf _ => Or.inl (List.mem_cons_of_mem _ hf))
      have m := ls_mv_em (o := 14) (a := nI (mo + 1) - nI k.1) (d := 0) (p := nI pos) (ls_set_lt hs)
      rw [m.2.1] at h
      rw [m.2.2]
      exact hs.2.2.2 h
    split at hr
    · next q2 =>
      injection hr with hr; subst hr
      have X : ls_ext k (ls_aim (ls_em k 18 0 (nI (l.headD 0)) (nI (pos - 1))) mo) := ls_ext_t (ls_ext_em ..) (ls_ext_aim ..)
      exact ls_js_mk (ls_pd_ext X (Nat.le_refl _) (Nat.le_succ _) jp) (ls_fd_ext X (Nat.le_refl _) (Nat.le_succ _) tl) (fun i hs => ls_mv_t (ls_mv_em (ls_set_lt hs)) (ls_mv_aim (NE (by omega) i hs))) (fun e he _ => Or.inl he) (fun f hf _ => Or.inl (List.mem_cons_of_mem _ hf))
    · injection hr with hr; subst hr
      exact ls_js_mk jp jf (fun _ _ => ls_mv_r) (fun e he _ => Or.inl he) (fun f hf _ => Or.inl hf)
set_option maxHeartbeats 200000 in
theorem ls_pd_n {e : LsP} {b : Nat} (h : ¬ ls_lg e) (g : ls_pd k b pe) : ls_pd k b (e :: pe) := by
  show (if ls_lg e then _ else _)
  rw [if_neg h]; exact g
set_option maxHeartbeats 200000 in
theorem ls_pd_tl {e : LsP} {b : Nat} (hb : b ≤ k.1) (g : ls_pd k b (e :: pe)) : ls_pd k k.1 pe := by
  have g' : (if ls_lg e then e.2.2 < b ∧ k.2.1 e.2.2 = 7 ∧ ls_pd k e.2.2 pe else ls_pd k b pe) := g
  split at g'
  · exact ls_pd_ext (ls_ext_r _) (by omega) (by omega) g'.2.2
  · exact ls_pd_ext (ls_ext_r _) hb hb g'
set_option maxHeartbeats 200000 in
theorem ls_js4 (hJ : ls_J (4, pos, es, pe, fr, L, k)) (hr : ls_r4 T V pos es pe fr L k = .ok c') : ls_js (4, pos, es, pe, fr, L, k) c' := by
  obtain ⟨jp, jf⟩ := hJ
  have F1 : ∀ o a d q, ls_fd (ls_em k o a d q) (ls_em k o a d q).1 fr := fun o a d q => ls_fd_ext (ls_ext_em ..) (Nat.le_refl _) (Nat.le_succ _) jf
  have P1 : ∀ o a d q, ls_pd (ls_em k o a d q) (ls_em k o a d q).1 pe := fun o a d q => ls_pd_ext (ls_ext_em ..) (Nat.le_refl _) (Nat.le_succ _) jp
  have OPD : ∀ p o a d q, ls_js (4, pos, es, pe, fr, L, k) (5, p, es, pe, fr, L, ls_em k o a d q) := fun p o a d q =>
    ls_js_mk (P1 ..) (F1 ..) (fun i hs => ls_mv_em (ls_set_lt hs)) (fun e he _ => Or.inl he) (fun f hf _ => Or.inl hf)
  have PEN : ∀ p e, ¬ ls_lg e → ls_js (4, pos, es, pe, fr, L, k) (4, p, es, e :: pe, fr, L, k) := fun p e he =>
    ls_js_mk (ls_pd_n he jp) jf (fun _ _ => ls_mv_r) (fun x hx hl => by
      rcases List.mem_cons.mp hx with rfl | hx
      · exact absurd hl he
      · exact Or.inl hx) (fun f hf _ => Or.inl hf)
  have PEN2 : ∀ p e o a d q, ¬ ls_lg e → ls_js (4, pos, es, pe, fr, L, k) (4, p, es, e :: pe, fr, L, ls_em k o a d q) := fun p e o a d q he =>
    ls_js_mk (ls_pd_n he (P1 ..)) (F1 ..) (fun i hs => ls_mv_em (ls_set_lt hs)) (fun x hx hl => by
      rcases List.mem_cons.mp hx with rfl | hx
      · exact absurd hl he
      · exact Or.inl hx) (fun f hf _ => Or.inl hf)
  unfold ls_r4 at hr
  split at hr
  · dsimp only at hr
    split at hr
    · split at hr
      · injection hr with hr; subst hr; exact OPD ..
      · injection hr with hr; subst hr; exact PEN _ _ (by show ¬ ((0 : Nat) = 3 ∨ (0 : Nat) = 4); decide)
    · split at hr
      · split at hr
        · injection hr with hr; subst hr; exact PEN _ _ (by show ¬ ((2 : Nat) = 3 ∨ (2 : Nat) = 4); decide)
        · injection hr with hr; subst hr; exact PEN2 _ _ _ _ _ _ (by show ¬ ((2 : Nat) = 3 ∨ (2 : Nat) = 4); decide)
      · injection hr with hr; subst hr; exact OPD ..
  split at hr
  · injection hr with hr; subst hr; exact OPD ..
  split at hr
  · injection hr with hr; subst hr; exact OPD ..
  split at hr
  · injection hr with hr; subst hr; exact OPD ..
  split at hr
  · injection hr with hr; subst hr; exact OPD ..
  split at hr
  · split at hr
    · split at hr
      · injection hr with hr; subst hr; exact PEN _ _ (by show ¬ ((13 : Nat) = 3 ∨ (13 : Nat) = 4); decide)
      · cases hr
    · split at hr
      · cases hr
      · injection hr with hr; subst hr; exact PEN _ _ (by show ¬ ((1 : Nat) = 3 ∨ (1 : Nat) = 4); decide)
  split at hr
  · injection hr with hr; subst hr; exact PEN _ _ (by show ¬ ((13 : Nat) = 3 ∨ (13 : Nat) = 4); decide)
  · cases hr
set_option maxHeartbeats 200000 in
theorem ls_lv34 : ∀ t : Fin 73, (ls_lv t.1 = 3 ↔ t.1 = 42) ∧ (ls_lv t.1 = 4 ↔ t.1 = 41) := by decide
set_option maxHeartbeats 200000 in
theorem ls_js5 (hT : ls_txt T n) (hI : ls_Inv T n (5, pos, es, pe, fr, L, k)) (hJ : ls_J (5, pos, es, pe, fr, L, k)) (hr : ls_r5 T pos es pe fr L k = .ok c') : ls_js (5, pos, es, pe, fr, L, k) c' := by
  obtain ⟨jp, jf⟩ := hJ
  obtain ⟨i1, i2, i3, i4, i5, i6, i7⟩ := hI
  rw [if_pos (Or.inr rfl), if_neg (by decide)] at i7
  obtain ⟨a1, a2, a3, a4, f, r, a5, a6, a7⟩ := i7
  have T72 : ∀ p, T p < 73 := fun p => by
    by_cases q : p < n
    · have := hT.2.1 p q; omega
    · have := hT.2.2 p (by omega); omega
  have BIN : ∀ kk : LsK, kk = (if T pos = 41 ∨ T pos = 42 then ls_em k 7 0 (nI (T pos - 41)) (nI pos) else k) → ls_js (5, pos, es, pe, fr, L, k) (4, pos + 1, es, (ls_lv (T pos), pos, k.1) :: pe, fr, L, kk) := by
    intro kk hkk
    have lv := ls_lv34 ⟨T pos, T72 pos⟩
    dsimp only at lv
    by_cases lg : T pos = 41 ∨ T pos = 42
    · rw [if_pos lg] at hkk
      subst hkk
      have lgl : ls_lg (ls_lv (T pos), pos, k.1) := by show ls_lv (T pos) = 3 ∨ ls_lv (T pos) = 4; omega
      refine ls_js_mk ?_ (ls_fd_ext (ls_ext_em ..) (Nat.le_refl _) (Nat.le_succ _) jf) (fun i hs => ls_mv_em (ls_set_lt hs)) (fun x hx hl => ?_) (fun f hf _ => Or.inl hf)
      · show (if ls_lg (ls_lv (T pos), pos, k.1) then _ else _)
        rw [if_pos lgl]
        exact ⟨Nat.lt_succ_self _, pk_us, ls_pd_ext (ls_ext_em ..) (Nat.le_refl _) (Nat.le_refl _) jp⟩
      · rcases List.mem_cons.mp hx with rfl | hx
        · exact Or.inr (Nat.le_refl _)
        · exact Or.inl hx
    · rw [if_neg lg] at hkk
      subst hkk
      have nlg : ¬ ls_lg (ls_lv (T pos), pos, kk.1) := by show ¬ (ls_lv (T pos) = 3 ∨ ls_lv (T pos) = 4); omega
      refine ls_js_mk (ls_pd_n nlg jp) jf (fun _ _ => ls_mv_r) (fun x hx hl => ?_) (fun f hf _ => Or.inl hf)
      rcases List.mem_cons.mp hx with rfl | hx
      · exact absurd hl nlg
      · exact Or.inl hx
  unfold ls_r5 at hr
  dsimp only at hr
  split at hr
  · split at hr
    · injection hr with hr; subst hr; exact BIN _ rfl
    · -- the end of the expression
      subst a5
      obtain ⟨fk, mo, sp, l⟩ := f
      obtain ⟨x1, x2, x3, x4, x5, x6, x7, x8⟩ := a6
      dsimp only at x1 x2 x4
      obtain ⟨g1, _, _, _, _, g6⟩ := ls_fd_hd (f := (fk, mo, sp, l)) (by show fk ≠ 1; omega) jf
      dsimp only at g1 g6
      have FIN : ∀ p o a d q, ls_js (5, pos, es, [], (fk, mo, sp, l) :: r, L, k) (3, p, es, [], r, L, ls_em k o a d q) := fun p o a d q =>
        ls_js_mk trivial (ls_fd_ext (ls_ext_em ..) (by omega) (by show mo ≤ k.1 + 1; omega) g6) (fun i hs => ls_mv_em (ls_set_lt hs)) (fun e he _ => absurd he (by simp)) (fun f hf _ => Or.inl (List.mem_cons_of_mem _ hf))
      unfold ls_end at hr
      split at hr
      · cases hr
      dsimp only at hr
      split at hr
      · split at hr
        · injection hr with hr; subst hr
          refine ls_js_mk trivial ?_ (fun i hs => ls_mv_em (ls_set_lt hs)) (fun e he _ => absurd he (by simp)) (fun f hf hq => ?_)
          · show (if (3 : Nat) = 1 then _ else _)
            rw [if_neg (by decide)]
            exact ⟨Nat.lt_succ_self _, fun _ => pk_us, fun h => absurd h (by show (3 : Nat) ≠ 4; decide), fun h => absurd h (by show (3 : Nat) ≠ 2; decide), fun h => absurd h (by show (3 : Nat) ≠ 5; decide), ls_fd_ext (ls_ext_em ..) (by show mo ≤ k.1; omega) (by show mo ≤ k.1; omega) g6⟩
          · rcases List.mem_cons.mp hf with rfl | hf
            · exact Or.inr (Nat.le_refl _)
            · exact Or.inl (List.mem_cons_of_mem _ hf)
        · cases hr
      split at hr
      · split at hr
        · injection hr with hr; subst hr
          refine ls_js_mk trivial ?_ (fun i hs => ls_mv_em (ls_set_lt hs)) (fun e he _ => absurd he (by simp)) (fun f hf hq => ?_)
          · show (if (5 : Nat) = 1 then _ else _)
            rw [if_neg (by decide)]
            exact ⟨by show mo < k.1 + 1; omega, fun h => absurd h (by show (5 : Nat) ≠ 3; decide), fun h => absurd h (by show (5 : Nat) ≠ 4; decide), fun h => absurd h (by show (5 : Nat) ≠ 2; decide), fun _ => by show mo + 2 ≤ k.1 + 1; omega, ls_fd_ext (ls_ext_em ..) (by show mo ≤ k.1; omega) (Nat.le_refl _) g6⟩
          · rcases List.mem_cons.mp hf with rfl | hf
            · dsimp only at hq; omega
            · exact Or.inl (List.mem_cons_of_mem _ hf)
        · cases hr
      split at hr
      · split at hr
        · split at hr
          · injection hr with hr; subst hr; exact FIN ..
          · cases hr
        · cases hr
      split at hr
      · split at hr
        · injection hr with hr; subst hr; exact FIN ..
        split at hr
        · injection hr with hr; subst hr; exact FIN ..
        · injection hr with hr; subst hr; exact FIN ..
      · cases hr
  · next lv pl mo r2 =>
    have tl : ls_pd k k.1 r2 := ls_pd_tl (Nat.le_refl _) jp
    have sub : ∀ e ∈ r2, ls_lg e → e ∈ (lv, pl, mo) :: r2 ∨ k.1 ≤ e.2.2 := fun e he _ => Or.inl (List.mem_cons_of_mem _ he)
    split at hr
    · injection hr with hr; subst hr
      obtain ⟨p1, p2, p3, p4, p5, p6, p7, p8⟩ := i6 _ (List.mem_cons_self ..)
      dsimp only at p1 p2 p3 p4 p5 p6 p7 p8
      refine ls_js_mk (ls_pd_ext ls_red_ext (Nat.le_refl _) ls_red_ext.1 tl) (ls_fd_ext ls_red_ext (Nat.le_refl _) ls_red_ext.1 jf) (fun i hs => ?_) sub (fun f hf _ => Or.inl hf)
      have il := ls_set_lt hs
      unfold ls_red
      split
      · split
        · exact ls_mv_em il
        · exact ls_mv_em2 il
      · split
        · split
          · exact ls_mv_em il
          · exact ls_mv_em il
        · split
          · next n2 n13 lg =>
            have lvt := ls_lv34 ⟨T pl, T72 pl⟩
            dsimp only at lvt
            have l2 := ls_lv_c (T pl)
            have e7 := p7
            refine ls_mv_t (ls_mv_em il) (ls_mv_aim (fun e => hs.2.1 (lv, pl, mo) (List.mem_cons_self ..) ?_ e.symm))
            show lv = 3 ∨ lv = 4
            have hle : ls_lv (T pos) ≤ lv := by assumption
            have l2' := ls_lv_c (T pos)
            have := p7 (by omega) n13
            omega
          · exact ls_mv_em il
    split at hr
    · injection hr with hr; subst hr; exact BIN _ rfl
    split at hr
    · split at hr
      · injection hr with hr; subst hr
        exact ls_js_mk (ls_pd_ext (ls_ext_em ..) (Nat.le_refl _) (Nat.le_succ _) tl) (ls_fd_ext (ls_ext_em ..) (Nat.le_refl _) (Nat.le_succ _) jf) (fun i hs => ls_mv_em (ls_set_lt hs)) sub (fun f hf _ => Or.inl hf)
      · injection hr with hr; subst hr
        exact ls_js_mk tl jf (fun _ _ => ls_mv_r) sub (fun f hf _ => Or.inl hf)
    split at hr
    · next t19 =>
      obtain ⟨_, q0⟩ := t19
      subst q0
      split at hr
      · injection hr with hr; subst hr
        have nlg : ¬ ls_lg (0, pl, mo + 1) := by show ¬ ((0 : Nat) = 3 ∨ (0 : Nat) = 4); decide
        refine ls_js_mk (ls_pd_n nlg tl) jf (fun _ _ => ls_mv_r) (fun x hx hl => ?_) (fun f hf _ => Or.inl hf)
        rcases List.mem_cons.mp hx with rfl | hx
        · exact absurd hl nlg
        · exact sub x hx hl
      · cases hr
    · cases hr
set_option maxHeartbeats 200000 in
theorem ls_js_rs (hT : ls_txt T n) (h6 : c.1 < 6) (hI : ls_Inv T n c) (hJ : ls_J c) (hr : ls_rs T V c = .ok c') : ls_js c c' := by
  obtain ⟨st, pos, es, pe, fr, L, k⟩ := c
  unfold ls_rs at hr
  dsimp only at hr h6
  split at hr
  · next q => subst q; exact ls_js0 hJ hr
  split at hr
  · next q => subst q; exact ls_js1 hI hJ hr
  split at hr
  · next q => subst q; exact ls_js2 hJ hr
  split at hr
  · next q => subst q; exact ls_js3 hI hJ hr
  split at hr
  · next q => subst q; exact ls_js4 hJ hr
  · have q : st = 5 := by omega
    subst q; exact ls_js5 hT hI hJ hr
set_option maxHeartbeats 200000 in
/-- a settled argument is the final one -/
theorem ls_set_fin {kF : LsK} (hT : ls_txt T n) (hI : ls_Inv T n c) (h6 : c.1 ≤ 6) (hJ : ls_J c) (h : ls_fin T V c kF) (hs : ls_set c i) : kF.2.2.1 i = (ls_kk7 c).2.2.1 i := by
  obtain ⟨m, d, h1, h2, h3⟩ := h
  have key : ∀ m c, ls_Inv T n c → c.1 ≤ 6 → ls_J c → ls_run T V m c = .ok d → ls_set c i → (ls_kk7 d).2.2.1 i = (ls_kk7 c).2.2.1 i ∧ i < (ls_kk7 d).1 := by
    intro m
    induction m with
    | zero =>
      intro c _ _ _ h hs
      have h' : Except.ok c = Except.ok (ε := Nat) d := h
      injection h' with h'
      rw [← h']; exact ⟨rfl, hs.1⟩
    | succ m ih =>
      intro c hI h6 hJ h hs
      unfold ls_run at h
      split at h
      · injection h with h
        rw [← h]; exact ⟨rfl, hs.1⟩
      · next ne =>
        split at h
        · cases h
        · next c' hr =>
          have lt : c.1 < 6 := by omega
          obtain ⟨j1, j2⟩ := ls_js_rs hT lt hI hJ hr
          obtain ⟨s1, s2⟩ := j2 i hs
          have := ih c' (ls_inv_rs hT lt hI hr).1 (ls_st6 hr) j1 h s1
          exact ⟨this.1.trans s2, this.2⟩
  obtain ⟨e1, e2⟩ := key m c hI h6 hJ h1 hs
  rw [h3, ← e1]
  exact pk_un (by omega)
end
