/-! The reference's reading as a whole -/
def ls_yv (T : Nat → Nat) (n : Nat) : Nat → Nat → LsY → Option Nat
  | 0, _, y => if y.1 = 0 ∧ (ls_yfin 99 y.2.1).2 = [] then none else some n
  | f + 1, i, y => match ls_yg y (T i) with
    | none => some i
    | some y' => ls_yv T n f (i + 1) y'
/-- the names outside fall towards the bottom; a method stands at the bottom alone -/
def ls_ymo : List (Nat × Nat) → Prop
  | [] => True
  | e :: r => (∀ x ∈ r, x.2 ≤ e.2) ∧ (e.1 = 3 → r = []) ∧ ls_ymo r
def ls_yok (i : Nat) (y : LsY) : Prop := match y with
  | (nd, C, O, fl, ct, fu, N) => nd < 18 ∧ C.length ≤ i ∧ O.length ≤ i ∧ N.length ≤ 8 ∧ (nd = 5 → fl < 3) ∧ ((nd = 3 ∨ nd = 4 ∨ nd = 5 ∨ 15 ≤ nd) → ct ≤ i) ∧ ((nd = 2 ∨ nd = 3 ∨ nd = 4 ∨ nd = 5 ∨ nd = 7 ∨ 15 ≤ nd) → fu < 100) ∧ (∀ e ∈ C, 1 ≤ e.1 ∧ e.1 ≤ 5 ∧ e.2 ≤ N.length) ∧ (∀ x ∈ N, x < 100) ∧ (∀ x ∈ O, x ≤ 3) ∧ (nd = 15 ∨ nd = 17 → O ≠ []) ∧ ls_ymo C
set_option maxHeartbeats 200000 in
theorem ls_yok_b {i : Nat} {y : LsY} (h : ls_yok i y) (hi : i < 190) : ls_yb y := by
  obtain ⟨nd, C, O, fl, ct, fu, N⟩ := y
  obtain ⟨h1, h2, h3, h4, h5, h6, h7, h8, h9, h10, h11, h12⟩ := h
  exact ⟨h1, by omega, by omega, h4, h5, fun h => by have := h6 h; omega, h7, fun e he => by have := h8 e he; omega, h9, h10⟩
section
variable {t i nd ct fu fl nm : Nat} {C : List (Nat × Nat)} {O N : List Nat} {y' : LsY}
set_option maxHeartbeats 200000 in
theorem ls_yok_opd (h2 : C.length ≤ i + 1) (h3 : O.length ≤ i) (h4 : N.length ≤ 8) (hn : nm < 3) (h6 : ct ≤ i + 1) (h7 : fu < 100) (h8 : ∀ e ∈ C, 1 ≤ e.1 ∧ e.1 ≤ 5 ∧ e.2 ≤ N.length) (h9 : ∀ x ∈ N, x < 100) (h10 : ∀ x ∈ O, x ≤ 3) (hm : ls_ymo C) (h : ls_yopd t nm C O ct fu N = some y') : ls_yok (i + 1) y' := by
  unfold ls_yopd at h
  split at h
  · injection h with h; subst h
    exact ⟨by decide, h2, by omega, h4, (fun _ => by decide), (fun _ => h6), (fun _ => h7), h8, h9, h10, fun h => by omega, hm⟩
  split at h
  · injection h with h; subst h
    exact ⟨by decide, h2, by show O.length + 1 ≤ _; omega, h4, (fun _ => by decide), (fun _ => h6), (fun _ => h7), h8, h9, fun x hx => by rcases List.mem_cons.mp hx with rfl | hx; decide; exact h10 x hx, fun _ => List.cons_ne_nil _ _, hm⟩
  split at h
  · injection h with h; subst h
    exact ⟨by decide, h2, by omega, h4, (fun _ => by split <;> omega), (fun _ => h6), (fun _ => h7), h8, h9, h10, fun h => by omega, hm⟩
  · cases h
set_option maxHeartbeats 200000 in
theorem ls_yok_aft (h2 : C.length ≤ i + 1) (h3 : O.length ≤ i) (h4 : N.length ≤ 8) (h6 : ct ≤ i + 1) (h7 : fu < 100) (h8 : ∀ e ∈ C, 1 ≤ e.1 ∧ e.1 ≤ 5 ∧ e.2 ≤ N.length) (h9 : ∀ x ∈ N, x < 100) (h10 : ∀ x ∈ O, x ≤ 3) (hm : ls_ymo C) (h : ls_yaft t fl C O ct fu N = some y') : ls_yok (i + 1) y' := by
  unfold ls_yaft at h
  split at h
  · injection h with h; subst h
    exact ⟨by decide, h2, by omega, h4, (fun _ => by decide), (fun _ => h6), (fun _ => h7), h8, h9, h10, fun h => by omega, hm⟩
  split at h
  · split at h
    · injection h with h; subst h
      exact ⟨by decide, h2, by omega, h4, (fun _ => by decide), (fun _ => h6), (fun _ => h7), h8, h9, h10, fun h => by omega, hm⟩
    · cases h
  split at h
  · split at h
    · injection h with h; subst h
      exact ⟨by decide, h2, by show O.length + 1 ≤ _; omega, h4, (fun _ => by decide), (fun _ => h6), (fun _ => h7), h8, h9, fun x hx => by rcases List.mem_cons.mp hx with rfl | hx; decide; exact h10 x hx, fun _ => List.cons_ne_nil _ _, hm⟩
    · cases h
  split at h
  · cases h
  · next o r =>
    have h3' : r.length + 1 ≤ i := h3
    split at h
    · injection h with h; subst h
      exact ⟨by decide, h2, by omega, h4, (fun _ => by decide), (fun _ => h6), (fun _ => h7), h8, h9, fun x hx => h10 x (List.mem_cons_of_mem _ hx), fun h => by omega, hm⟩
    split at h
    · next q =>
      injection h with h; subst h
      exact ⟨by decide, h2, by show r.length + 1 ≤ _; omega, h4, (fun _ => by decide), (fun _ => h6), (fun _ => h7), h8, h9, fun x hx => by rcases List.mem_cons.mp hx with rfl | hx; omega; exact h10 x (List.mem_cons_of_mem _ hx), fun h => by omega, hm⟩
    · cases h
set_option maxHeartbeats 200000 in
theorem ls_yok_with (h2 : C.length ≤ i + 1) (h3 : O.length ≤ i) (h4 : N.length ≤ 8) (h6 : ct ≤ i) (h7 : fu < 100) (h8 : ∀ e ∈ C, 1 ≤ e.1 ∧ e.1 ≤ 5 ∧ e.2 ≤ N.length) (h9 : ∀ x ∈ N, x < 100) (h10 : ∀ x ∈ O, x ≤ 3) (hm : ls_ymo C) (h : ls_ywith nd t C O fl ct fu N = some y') : ls_yok (i + 1) y' := by
  have htl : O.tail.length ≤ i ∧ ∀ x ∈ O.tail, x ≤ 3 := by
    cases O with
    | nil => exact ⟨by simp, by simp⟩
    | cons o r => exact ⟨by have : r.length + 1 ≤ i := h3; show r.length ≤ i; omega, fun x hx => h10 x (List.mem_cons_of_mem _ hx)⟩
  unfold ls_ywith at h
  split at h
  · injection h with h; subst h
    exact ⟨by (repeat' split) <;> decide, h2, by omega, h4, (fun _ => by decide), (fun _ => by omega), (fun _ => h7), h8, h9, h10, fun h => by revert h; (repeat' split) <;> omega, hm⟩
  split at h
  · cases h
  split at h
  · exact ls_yok_aft h2 h3 h4 (by omega) h7 h8 h9 h10 hm h
  split at h
  · split at h
    · injection h with h; subst h
      exact ⟨by decide, h2, by omega, h4, (fun _ => by decide), (fun _ => by omega), (fun _ => h7), h8, h9, h10, fun h => by omega, hm⟩
    · cases h
  split at h
  · injection h with h; subst h
    exact ⟨by decide, h2, by omega, h4, (fun _ => by decide), (fun _ => by omega), (fun _ => h7), h8, h9, htl.2, fun h => by omega, hm⟩
  split at h
  · injection h with h; subst h
    exact ⟨by decide, h2, by omega, h4, (fun _ => by decide), (fun _ => by omega), (fun _ => h7), h8, h9, htl.2, fun h => by omega, hm⟩
  · exact ls_yok_opd h2 h3 h4 (by split <;> omega) (by omega) h7 h8 h9 h10 hm h
set_option maxHeartbeats 200000 in
theorem ls_yok_beg {list : Bool} (h2 : C.length ≤ i) (h3 : O.length ≤ i) (h4 : N.length ≤ 8) (h8 : ∀ e ∈ C, 1 ≤ e.1 ∧ e.1 ≤ 5 ∧ e.2 ≤ N.length) (h9 : ∀ x ∈ N, x < 100) (h10 : ∀ x ∈ O, x ≤ 3) (hm : ls_ymo C) (ht : t < 100) (h : ls_ybeg list t C O fl ct fu N = some y') : ls_yok (i + 1) y' := by
  have op : ∀ k fu', (1 ≤ k ∧ k ≤ 5) ∧ k ≠ 3 → ∀ nd, (nd = 2 → fu' < 100) → (nd = 0 ∨ nd = 2) → ls_yok (i + 1) (nd, (k, N.length) :: C, O, fl, ct, fu', N) := fun k fu' hk nd hfu hnd =>
    ⟨by omega, by show C.length + 1 ≤ _; omega, by omega, h4, (fun h => by omega), (fun h => by omega), (fun h => hfu (by omega)), fun e he => by rcases List.mem_cons.mp he with rfl | he; exact ⟨hk.1.1, hk.1.2, Nat.le_refl _⟩; exact h8 e he, h9, h10, fun h => by omega, ⟨fun x hx => (h8 x hx).2.2, fun h => absurd h hk.2, hm⟩⟩
  have st : ∀ fu' nd, (nd = 2 ∨ nd = 7 → fu' < 100) → (nd = 0 ∨ nd = 8 ∨ nd = 2 ∨ nd = 6 ∨ nd = 7) → ls_yok (i + 1) (nd, C, O, fl, ct, fu', N) := fun fu' nd hfu hnd =>
    ⟨by omega, by omega, by omega, h4, (fun h => by omega), (fun h => by omega), (fun h => hfu (by omega)), h8, h9, h10, fun h => by omega, hm⟩
  unfold ls_ybeg at h
  split at h
  · injection h with h; subst h; exact st fu 0 (fun h => by omega) (by decide)
  split at h
  · split at h
    · injection h with h; subst h; exact st fu 8 (fun h => by omega) (by decide)
    · cases h
  split at h
  · injection h with h; subst h; exact op 1 fu (by decide) 0 (fun h => by omega) (by decide)
  split at h
  · split at h
    · unfold ls_ycl at h
      split at h
      · cases h
      · next e r =>
        have dl : ∀ a, (N.drop (N.length - a)).length ≤ 8 ∧ ∀ x ∈ N.drop (N.length - a), x < 100 := fun a => ⟨by rw [List.length_drop]; omega, fun x hx => h9 x (List.mem_of_mem_drop hx)⟩
        have h2' : r.length + 1 ≤ i := h2
        split at h
        · injection h with h; subst h
          exact ⟨by decide, by simp, by omega, (dl _).1, (fun h => by omega), (fun h => by omega), (fun h => by omega), by simp, (dl _).2, h10, fun h => by omega, trivial⟩
        · next g r2 =>
          have h2'' : r2.length + 1 + 1 ≤ i := h2'
          obtain ⟨mo1, mo2, mo3, mo4, mo5⟩ := hm
          split at h
          · next q3 =>
            injection h with h; subst h
            have r20 := mo4 q3
            subst r20
            exact ⟨by decide, by simp, by omega, (dl _).1, (fun h => by omega), (fun h => by omega), (fun h => by omega), by simp, (dl _).2, h10, fun h => by omega, trivial⟩
          · injection h with h; subst h
            refine ⟨by decide, by show r2.length + 1 ≤ _; omega, by omega, (dl _).1, (fun h => by omega), (fun h => by omega), (fun h => by omega), fun x hx => ?_, (dl _).2, h10, fun h => by omega, mo3, mo4, mo5⟩
            have a := h8 x (List.mem_cons_of_mem _ hx)
            have b := mo1 x hx
            have c := (h8 e (List.mem_cons_self ..)).2.2
            rw [List.length_drop]; omega
    · cases h
  split at h
  · injection h with h; subst h; exact op 4 6 (by decide) 2 (fun _ => by decide) (by decide)
  split at h
  · injection h with h; subst h; exact op 2 8 (by decide) 2 (fun _ => by decide) (by decide)
  split at h
  · injection h with h; subst h; exact st 12 2 (fun _ => by decide) (by decide)
  split at h
  · split at h
    · injection h with h; subst h; exact st t 6 (fun h => by omega) (by decide)
    · cases h
  split at h
  · split at h
    · injection h with h; subst h; exact st 11 7 (fun _ => by decide) (by decide)
    · cases h
  · exact ls_yok_with (by omega) h3 h4 (by omega) (by decide) h8 h9 h10 hm h
set_option maxHeartbeats 200000 in
theorem ls_yfin_mo : ∀ {C D : List (Nat × Nat)} {b : Bool}, ls_yfin t C = (b, D) → ls_ymo C → ls_ymo D ∧ D.length ≤ C.length
  | [], D, b, h, hm => by
    have h' : (false, ([] : List (Nat × Nat))) = (b, D) := h
    injection h' with h1 h2
    subst h1 h2
    exact ⟨hm, Nat.le_refl _⟩
  | e :: r, D, b, h, hm => by
    have h' : (if e.1 = 2 ∨ 3 < e.1 then (if e.1 = 4 ∧ t = 7 then (true, e :: r) else ls_yfin t r) else (false, e :: r)) = (b, D) := h
    split at h'
    · split at h'
      · injection h' with h1 h2
        subst h1 h2
        exact ⟨hm, Nat.le_refl _⟩
      · obtain ⟨i1, i2⟩ := ls_yfin_mo h' hm.2.2
        exact ⟨i1, by show D.length ≤ r.length + 1; omega⟩
    · injection h' with h1 h2
      subst h1 h2
      exact ⟨hm, Nat.le_refl _⟩
set_option maxHeartbeats 200000 in
theorem ls_yok_dec (h2 : C.length ≤ i) (h3 : O.length ≤ i) (h4 : N.length ≤ 8) (h8 : ∀ e ∈ C, 1 ≤ e.1 ∧ e.1 ≤ 5 ∧ e.2 ≤ N.length) (h9 : ∀ x ∈ N, x < 100) (h10 : ∀ x ∈ O, x ≤ 3) (hm : ls_ymo C) (hnd : nd = 9 ∨ nd = 13) (h : ls_ydec nd t C O fl ct fu N = some y') : ls_yok (i + 1) y' := by
  unfold ls_ydec at h
  split at h
  · next tn =>
    split at h
    · injection h with h; subst h
      exact ⟨by omega, by omega, by omega, h4, (fun h => by omega), (fun h => by omega), (fun h => by omega), h8, h9, h10, fun h => by omega, hm⟩
    · split at h
      · cases h
      · next hno =>
        injection h with h; subst h
        have n8 : N.length ≠ 8 := fun e => hno (Or.inr e)
        refine ⟨by omega, by omega, by omega, by show N.length + 1 ≤ 8; omega, (fun h => by omega), (fun h => by omega), (fun h => by omega), fun e he => ?_, fun x hx => ?_, h10, fun h => by omega, hm⟩
        · have := h8 e he
          exact ⟨this.1, this.2.1, by show e.2 ≤ N.length + 1; omega⟩
        · rcases List.mem_cons.mp hx with rfl | hx
          · have := tn.2; omega
          · exact h9 x hx
  · cases h
set_option maxHeartbeats 200000 in
theorem ls_yok_yg {y : LsY} (hy : ls_yok i y) (ht : t < 90) (h : ls_yg y t = some y') : ls_yok (i + 1) y' := by
  obtain ⟨nd, C, O, fl, ct, fu, N⟩ := y
  obtain ⟨h1, h2, h3, h4, h5, h6, h7, h8, h9, h10, h11, h12⟩ := hy
  unfold ls_yg at h
  dsimp only at h
  split at h
  · split at h
    · next C1 hf =>
      injection h with h; subst h
      obtain ⟨s1, s2⟩ := ls_yfin_sub hf
      obtain ⟨m1, m2⟩ := ls_yfin_mo hf h12
      cases C1 with
      | nil => exact absurd rfl (s2 rfl)
      | cons e r =>
        have m2' : r.length + 1 ≤ C.length := m2
        refine ⟨by decide, by show r.length + 1 ≤ _; omega, by omega, h4, (fun h => by omega), (fun h => by omega), (fun h => by omega), fun x hx => ?_, h9, h10, fun h => by omega, ⟨m1.1, fun h => absurd h (by show (5 : Nat) ≠ 3; decide), m1.2.2⟩⟩
        rcases List.mem_cons.mp hx with rfl | hx
        · exact ⟨by show 1 ≤ 5; decide, by show 5 ≤ 5; decide, (h8 e (s1 e (List.mem_cons_self ..))).2.2⟩
        · exact h8 x (s1 x (List.mem_cons_of_mem _ hx))
    · next C1 hf =>
      obtain ⟨s1, s2⟩ := ls_yfin_sub hf
      obtain ⟨m1, m2⟩ := ls_yfin_mo hf h12
      exact ls_yok_beg (by omega) h3 h4 (fun e he => h8 e (s1 e he)) h9 h10 m1 (by omega) h
  split at h
  · exact ls_yok_beg h2 h3 h4 h8 h9 h10 h12 (by omega) h
  split at h
  · next q => exact ls_yok_with (by omega) h3 h4 (by omega) (h7 (by omega)) h8 h9 h10 h12 h
  split at h
  · next q => exact ls_yok_with (by omega) h3 h4 (h6 q) (h7 (by omega)) h8 h9 h10 h12 h
  split at h
  · next q =>
    split at h
    · injection h with h; subst h
      exact ⟨by decide, by omega, by omega, h4, (fun h => by omega), (fun h => by omega), (fun _ => h7 (by omega)), h8, h9, h10, fun h => by omega, h12⟩
    · cases h
  split at h
  · split at h
    · injection h with h; subst h
      exact ⟨by decide, by omega, by omega, h4, (fun h => by omega), (fun h => by omega), (fun h => by omega), h8, h9, h10, fun h => by omega, h12⟩
    · cases h
  have st : ∀ nd' ct' fu', (nd' = 3 → ct' ≤ i ∧ fu' < 100) → (nd' = 0 ∨ nd' = 3 ∨ 8 ≤ nd' ∧ nd' < 15) → ls_yok (i + 1) (nd', C, O, fl, ct', fu', N) := fun nd' ct' fu' hf hn =>
    ⟨by omega, by omega, by omega, h4, (fun h => by omega), (fun h => by have := hf (by omega); omega), (fun h => (hf (by omega)).2), h8, h9, h10, fun h => by omega, h12⟩
  unfold ls_yhd at h
  split at h
  · exact ls_yok_dec h2 h3 h4 h8 h9 h10 h12 (by decide) h
  split at h
  · split at h
    · next q =>
      injection h with h; subst h
      exact ⟨by decide, by show 1 ≤ _; omega, by simp, h4, (fun h => by omega), (fun h => by omega), (fun h => by omega), fun e he => by rw [List.mem_singleton] at he; subst he; exact ⟨by show 1 ≤ 3; decide, by show 3 ≤ 5; decide, Nat.le_refl _⟩, h9, by simp, fun h => by omega, ⟨by simp, fun _ => rfl, trivial⟩⟩
    split at h
    · injection h with h; subst h; exact st 0 0 20 (fun h => by omega) (by decide)
    split at h
    · injection h with h; subst h; exact st 3 0 20 (fun _ => ⟨by omega, by decide⟩) (by decide)
    · cases h
  split at h
  · injection h with h; subst h; exact st 14 ct fu (fun h => by omega) (by decide)
  split at h
  · split at h
    · injection h with h; subst h; exact st 12 ct fu (fun h => by omega) (by decide)
    · cases h
  split at h
  · exact ls_yok_dec h2 h3 h4 h8 h9 h10 h12 (by decide) h
  split at h
  · split at h
    · injection h with h; subst h; exact st 11 ct fu (fun h => by omega) (by decide)
    · cases h
  split at h
  · injection h with h; subst h
    exact ⟨by decide, by show C.length + 1 ≤ _; omega, by omega, h4, (fun h => by omega), (fun h => by omega), (fun h => by omega), fun e he => by rcases List.mem_cons.mp he with rfl | he; exact ⟨by show 1 ≤ 1; decide, by show 1 ≤ 5; decide, Nat.le_refl _⟩; exact h8 e he, h9, h10, fun h => by omega, ⟨fun x hx => (h8 x hx).2.2, fun h => absurd h (by show (1 : Nat) ≠ 3; decide), h12⟩⟩
  · cases h
end
/-- what the reference's reading answers -/
def ls_yfo (v0 : SY) (n : Nat) (r : Option Nat) (post : Int32 → SY → Prop) : Prop := match r with
  | none => ∀ v', ls_ykept v' = ls_ykept v0 → post (-1) v'
  | some e => ∀ v', ls_ykept v' = ls_ykept v0 → post (nI e) v'
section
variable {f_most f_n f_stored f_nm f_nEnv f_base f_ns f_no f_nc f_pc f_mode f_err f_errAt f_ticks f_calls f_outs f_resK f_part f_cnt f_full f_flag f_need : Int32}
variable {f_resV : Int64}
variable {a_tk a_tp a_mName a_mKind a_mCount a_mPar a_mAt a_vName a_vDecl a_vKind a_sk a_oKind a_oAt a_oArgs a_cKind a_cA a_cB a_outK : Nat → Int32}
variable {a_tv a_vVal a_sv a_outV : Nat → Int64}
variable {v0 : SY} {post : Int32 → SY → Prop} {T : Nat → Nat} {n : Nat}
set_option maxHeartbeats 200000 in
theorem hy_end {y : LsY} {v : SY} (h : ls_YR v0 y v) (hy : ls_yok n y) (hn : n ≤ 140) (etk : ∀ v' : SY, ls_ykept v' = ls_ykept v0 → match v' with | (f_most, f_n, f_stored, f_nm, f_nEnv, f_base, f_ns, f_no, f_nc, f_pc, f_mode, f_err, f_errAt, f_ticks, f_calls, f_outs, f_resK, f_part, f_resV, f_cnt, f_full, f_flag, f_need, a_tk, a_tv, a_tp, a_mName, a_mKind, a_mCount, a_mPar, a_mAt, a_vName, a_vDecl, a_vKind, a_vVal, a_sk, a_sv, a_oKind, a_oAt, a_oArgs, a_cKind, a_cA, a_cB, a_outK, a_outV) => f_n = nI n) (hp : ls_yfo v0 n (ls_yv T n 0 n y) post) : match v with | (f_most, f_n, f_stored, f_nm, f_nEnv, f_base, f_ns, f_no, f_nc, f_pc, f_mode, f_err, f_errAt, f_ticks, f_calls, f_outs, f_resK, f_part, f_resV, f_cnt, f_full, f_flag, f_need, a_tk, a_tv, a_tp, a_mName, a_mKind, a_mCount, a_mPar, a_mAt, a_vName, a_vDecl, a_vKind, a_vVal, a_sk, a_sv, a_oKind, a_oAt, a_oArgs, a_cKind, a_cA, a_cB, a_outK, a_outV) => ((f_need = 0 → wpY_finished (fun r_5 u => match u with | (f_most, f_n, f_stored, f_nm, f_nEnv, f_base, f_ns, f_no, f_nc, f_pc, f_mode, f_err, f_errAt, f_ticks, f_calls, f_outs, f_resK, f_part, f_resV, f_cnt, f_full, f_flag, f_need, a_tk, a_tv, a_tp, a_mName, a_mKind, a_mCount, a_mPar, a_mAt, a_vName, a_vDecl, a_vKind, a_vVal, a_sk, a_sv, a_oKind, a_oAt, a_oArgs, a_cKind, a_cA, a_cB, a_outK, a_outV) => wY_faulty_86 post f_most f_n f_stored f_nm f_nEnv f_base f_ns f_no f_nc f_pc f_mode f_err f_errAt f_ticks f_calls f_outs f_resK f_part f_resV f_cnt f_full f_flag f_need a_tk a_tv a_tp a_mName a_mKind a_mCount a_mPar a_mAt a_vName a_vDecl a_vKind a_vVal a_sk a_sv a_oKind a_oAt a_oArgs a_cKind a_cA a_cB a_outK a_outV) (f_most, f_n, f_stored, f_nm, f_nEnv, f_base, f_ns, f_no, f_nc, f_pc, f_mode, f_err, f_errAt, f_ticks, f_calls, f_outs, f_resK, f_part, f_resV, f_cnt, f_full, f_flag, f_need, a_tk, a_tv, a_tp, a_mName, a_mKind, a_mCount, a_mPar, a_mAt, a_vName, a_vDecl, a_vKind, a_vVal, a_sk, a_sv, a_oKind, a_oAt, a_oArgs, a_cKind, a_cA, a_cB, a_outK, a_outV) (-1)) ∧ (¬ f_need = 0 → wY_faulty_86 post f_most f_n f_stored f_nm f_nEnv f_base f_ns f_no f_nc f_pc f_mode f_err f_errAt f_ticks f_calls f_outs f_resK f_part f_resV f_cnt f_full f_flag f_need a_tk a_tv a_tp a_mName a_mKind a_mCount a_mPar a_mAt a_vName a_vDecl a_vKind a_vVal a_sk a_sv a_oKind a_oAt a_oArgs a_cKind a_cA a_cB a_outK a_outV)) := by
  obtain ⟨nd, C, O, fl, ct, fu, N⟩ := y
  have hb := ls_yok_b hy (by omega)
  have e1 := etk v h.1
  obtain ⟨f_most, f_n, f_stored, f_nm, f_nEnv, f_base, f_ns, f_no, f_nc, f_pc, f_mode, f_err, f_errAt, f_ticks, f_calls, f_outs, f_resK, f_part, f_resV, f_cnt, f_full, f_flag, f_need, a_tk, a_tv, a_tp, a_mName, a_mKind, a_mCount, a_mPar, a_mAt, a_vName, a_vDecl, a_vKind, a_vVal, a_sk, a_sv, a_oKind, a_oAt, a_oArgs, a_cKind, a_cA, a_cB, a_outK, a_outV⟩ := v
  dsimp only at e1
  subst e1
  obtain ⟨hk, rfl, rfl, rfl, rfl, rfl, rfl, rfl, hC, hO, hN⟩ := h
  obtain ⟨b1, bC, bO, bN, bfl, bct, bfu, hc, hx, ho⟩ := hb
  unfold ls_yv at hp
  dsimp only at hp ⊢
  by_cases q0 : nd = 0
  · subst q0
    refine br_t rfl ?_
    have K : ∀ D : List (Nat × Nat), (ls_yfin 99 C).2 = D → D.length ≤ C.length → wY_faulty_86 post f_most (nI n) f_stored f_nm (nI N.length) f_base f_ns (nI O.length) (nI D.length) f_pc f_mode f_err f_errAt f_ticks f_calls f_outs f_resK f_part f_resV (nI ct) (nI fu) (nI fl) (nI 0) a_tk a_tv a_tp a_mName a_mKind a_mCount a_mPar a_mAt a_vName a_vDecl a_vKind a_vVal a_sk a_sv a_oKind a_oAt a_oArgs a_cKind a_cA a_cB a_outK a_outV := by
      intro D hD hl
      refine br_t rfl ?_
      rw [hD] at hp
      cases D with
      | nil =>
        rw [if_pos ⟨rfl, rfl⟩] at hp
        exact br_t rfl (hp _ hk)
      | cons e r =>
        rw [if_neg (fun h => List.cons_ne_nil _ _ h.2)] at hp
        have hl' : r.length + 1 ≤ C.length := hl
        exact br_f (nI_ne0 (n := r.length + 1) (by omega) (by omega)) (hp _ hk)
    exact hy_finished hc hC bC (by decide) (Or.inr ⟨rfl, rfl⟩) (fun D hD hS hl => K D (by rw [hD]) hl) (fun D hD hS hl => K D (by rw [hD]) hl)
  · rw [if_neg (fun h => q0 h.1)] at hp
    have q : ¬ nI nd = 0 := mt (ls_yn (w := 0) (by omega) (by decide)).mp q0
    exact br_f q (br_f q (hp _ hk))
set_option maxHeartbeats 200000 in
theorem hy_loop (hn : n ≤ 140) (hT : ∀ p, p < n → T p < 72) (etk : ∀ v' : SY, ls_ykept v' = ls_ykept v0 → match v' with | (f_most, f_n, f_stored, f_nm, f_nEnv, f_base, f_ns, f_no, f_nc, f_pc, f_mode, f_err, f_errAt, f_ticks, f_calls, f_outs, f_resK, f_part, f_resV, f_cnt, f_full, f_flag, f_need, a_tk, a_tv, a_tp, a_mName, a_mKind, a_mCount, a_mPar, a_mAt, a_vName, a_vDecl, a_vKind, a_vVal, a_sk, a_sv, a_oKind, a_oAt, a_oArgs, a_cKind, a_cA, a_cB, a_outK, a_outV) => f_n = nI n ∧ ∀ p, p < n → a_tk p = nI (T p)) : ∀ f i y v, i + f = n → ls_YR v0 y v → ls_yok i y → ls_yfo v0 n (ls_yv T n f i y) post → match v with | (f_most, f_n, f_stored, f_nm, f_nEnv, f_base, f_ns, f_no, f_nc, f_pc, f_mode, f_err, f_errAt, f_ticks, f_calls, f_outs, f_resK, f_part, f_resV, f_cnt, f_full, f_flag, f_need, a_tk, a_tv, a_tp, a_mName, a_mKind, a_mCount, a_mPar, a_mAt, a_vName, a_vDecl, a_vKind, a_vVal, a_sk, a_sv, a_oKind, a_oAt, a_oArgs, a_cKind, a_cA, a_cB, a_outK, a_outV) => wY_faulty_22 post (f + 1) (nI i) f_most f_n f_stored f_nm f_nEnv f_base f_ns f_no f_nc f_pc f_mode f_err f_errAt f_ticks f_calls f_outs f_resK f_part f_resV f_cnt f_full f_flag f_need a_tk a_tv a_tp a_mName a_mKind a_mCount a_mPar a_mAt a_vName a_vDecl a_vKind a_vVal a_sk a_sv a_oKind a_oAt a_oArgs a_cKind a_cA a_cB a_outK a_outV := by
  intro f
  induction f with
  | zero =>
    intro i y v hi h hy hp
    have e : i = n := by omega
    subst e
    have K := hy_end h hy hn (fun v' h' => by have := etk v' h'; obtain ⟨f_most, f_n, f_stored, f_nm, f_nEnv, f_base, f_ns, f_no, f_nc, f_pc, f_mode, f_err, f_errAt, f_ticks, f_calls, f_outs, f_resK, f_part, f_resV, f_cnt, f_full, f_flag, f_need, a_tk, a_tv, a_tp, a_mName, a_mKind, a_mCount, a_mPar, a_mAt, a_vName, a_vDecl, a_vKind, a_vVal, a_sk, a_sv, a_oKind, a_oAt, a_oArgs, a_cKind, a_cA, a_cB, a_outK, a_outV⟩ := v'; exact this.1) hp
    have e1 := etk v h.1
    obtain ⟨f_most, f_n, f_stored, f_nm, f_nEnv, f_base, f_ns, f_no, f_nc, f_pc, f_mode, f_err, f_errAt, f_ticks, f_calls, f_outs, f_resK, f_part, f_resV, f_cnt, f_full, f_flag, f_need, a_tk, a_tv, a_tp, a_mName, a_mKind, a_mCount, a_mPar, a_mAt, a_vName, a_vDecl, a_vKind, a_vVal, a_sk, a_sv, a_oKind, a_oAt, a_oArgs, a_cKind, a_cA, a_cB, a_outK, a_outV⟩ := v
    dsimp only at e1 K ⊢
    obtain ⟨rfl, e2⟩ := e1
    exact br_t (nI_le (by omega) (by omega)) K
  | succ f ih =>
    intro i y v hi h hy hp
    obtain ⟨nd, C, O, fl, ct, fu, N⟩ := y
    have hb := ls_yok_b hy (by omega)
    have Ti := hT i (by omega)
    have hO1 := hy.2.2.2.2.2.2.2.2.2.2.1
    have hcN : ∀ e ∈ C, e.2 ≤ N.length := fun e he => (hy.2.2.2.2.2.2.2.1 e he).2.2
    have OUT : ls_yout v0 (ls_yg (nd, C, O, fl, ct, fu, N) (T i)) (fun r_53 u => match u with | (f_most, f_n, f_stored, f_nm, f_nEnv, f_base, f_ns, f_no, f_nc, f_pc, f_mode, f_err, f_errAt, f_ticks, f_calls, f_outs, f_resK, f_part, f_resV, f_cnt, f_full, f_flag, f_need, a_tk, a_tv, a_tp, a_mName, a_mKind, a_mCount, a_mPar, a_mAt, a_vName, a_vDecl, a_vKind, a_vVal, a_sk, a_sv, a_oKind, a_oAt, a_oArgs, a_cKind, a_cA, a_cB, a_outK, a_outV) => ((r_53 = 0 → post (nI i) (f_most, f_n, f_stored, f_nm, f_nEnv, f_base, f_ns, f_no, f_nc, f_pc, f_mode, f_err, f_errAt, f_ticks, f_calls, f_outs, f_resK, f_part, f_resV, f_cnt, f_full, f_flag, f_need, a_tk, a_tv, a_tp, a_mName, a_mKind, a_mCount, a_mPar, a_mAt, a_vName, a_vDecl, a_vKind, a_vVal, a_sk, a_sv, a_oKind, a_oAt, a_oArgs, a_cKind, a_cA, a_cB, a_outK, a_outV)) ∧ (¬ r_53 = 0 → ∀ x, x = nI i + 1 → wY_faulty_22 post (f + 1) x f_most f_n f_stored f_nm f_nEnv f_base f_ns f_no f_nc f_pc f_mode f_err f_errAt f_ticks f_calls f_outs f_resK f_part f_resV f_cnt f_full f_flag f_need a_tk a_tv a_tp a_mName a_mKind a_mCount a_mPar a_mAt a_vName a_vDecl a_vKind a_vVal a_sk a_sv a_oKind a_oAt a_oArgs a_cKind a_cA a_cB a_outK a_outV))) := by
      unfold ls_yv at hp
      unfold ls_yout
      split
      · next y' hy' =>
        intro v' hv'
        rw [hy'] at hp
        have G := ih (i + 1) y' v' (by omega) hv' (ls_yok_yg hy (by omega) hy') hp
        obtain ⟨f_most, f_n, f_stored, f_nm, f_nEnv, f_base, f_ns, f_no, f_nc, f_pc, f_mode, f_err, f_errAt, f_ticks, f_calls, f_outs, f_resK, f_part, f_resV, f_cnt, f_full, f_flag, f_need, a_tk, a_tv, a_tp, a_mName, a_mKind, a_mCount, a_mPar, a_mAt, a_vName, a_vDecl, a_vKind, a_vVal, a_sk, a_sv, a_oKind, a_oAt, a_oArgs, a_cKind, a_cA, a_cB, a_outK, a_outV⟩ := v'
        exact br_f (by decide) (nm_r (nI_1 i) G)
      · next hy' =>
        intro v' hv'
        rw [hy'] at hp
        have G := hp v' hv'
        obtain ⟨f_most, f_n, f_stored, f_nm, f_nEnv, f_base, f_ns, f_no, f_nc, f_pc, f_mode, f_err, f_errAt, f_ticks, f_calls, f_outs, f_resK, f_part, f_resV, f_cnt, f_full, f_flag, f_need, a_tk, a_tv, a_tp, a_mName, a_mKind, a_mCount, a_mPar, a_mAt, a_vName, a_vDecl, a_vKind, a_vVal, a_sk, a_sv, a_oKind, a_oAt, a_oArgs, a_cKind, a_cA, a_cB, a_outK, a_outV⟩ := v'
        exact br_t rfl G
    have GO := fun nx => hy_goesOn (nx := nx) h hb hcN hO1 (by omega) OUT
    have e1 := etk v h.1
    obtain ⟨f_most, f_n, f_stored, f_nm, f_nEnv, f_base, f_ns, f_no, f_nc, f_pc, f_mode, f_err, f_errAt, f_ticks, f_calls, f_outs, f_resK, f_part, f_resV, f_cnt, f_full, f_flag, f_need, a_tk, a_tv, a_tp, a_mName, a_mKind, a_mCount, a_mPar, a_mAt, a_vName, a_vDecl, a_vKind, a_vVal, a_sk, a_sv, a_oKind, a_oAt, a_oArgs, a_cKind, a_cA, a_cB, a_outK, a_outV⟩ := v
    dsimp only at e1 ⊢
    obtain ⟨rfl, e2⟩ := e1
    refine br_f (nI_ge (by omega) (by omega)) ⟨vp_in_nI (by omega) (by decide), ?_⟩
    rw [nI_clamp (by omega), e2 i (by omega), nI_1]
    refine br_c (fun _ => ?_) (fun h => ⟨?_, ?_⟩)
    · exact GO _
    · have : i + 1 < n := by
        apply Decidable.byContradiction
        intro hh
        exact h (nI_le (by omega) (by omega))
      exact vp_in_nI (by omega) (by decide)
    · exact GO _
set_option maxHeartbeats 200000 in
theorem ls_i32 (x : Int32) : ∃ j : Nat, x = nI j := ⟨x.toBitVec.toNat, by
  apply Int32.toBitVec_inj.mp
  show x.toBitVec = BitVec.ofNat 32 x.toBitVec.toNat
  rw [BitVec.ofNat_toNat]; simp⟩
set_option maxHeartbeats 200000 in
theorem hy_faulty (hn : n ≤ 140) (hT : ∀ p, p < n → T p < 72) (etk : ∀ p, p < n → a_tk p = nI (T p))
    (hp : ∀ fl ct fu, ls_yfo (f_most, nI n, f_stored, f_nm, f_nEnv, f_base, f_ns, f_no, f_nc, f_pc, f_mode, f_err, f_errAt, f_ticks, f_calls, f_outs, f_resK, f_part, f_resV, f_cnt, f_full, f_flag, f_need, a_tk, a_tv, a_tp, a_mName, a_mKind, a_mCount, a_mPar, a_mAt, a_vName, a_vDecl, a_vKind, a_vVal, a_sk, a_sv, a_oKind, a_oAt, a_oArgs, a_cKind, a_cA, a_cB, a_outK, a_outV) n (ls_yv T n n 0 (0, [], [], fl, ct, fu, [])) post) : wpY_faulty post (f_most, nI n, f_stored, f_nm, f_nEnv, f_base, f_ns, f_no, f_nc, f_pc, f_mode, f_err, f_errAt, f_ticks, f_calls, f_outs, f_resK, f_part, f_resV, f_cnt, f_full, f_flag, f_need, a_tk, a_tv, a_tp, a_mName, a_mKind, a_mCount, a_mPar, a_mAt, a_vName, a_vDecl, a_vKind, a_vVal, a_sk, a_sv, a_oKind, a_oAt, a_oArgs, a_cKind, a_cA, a_cB, a_outK, a_outV) := by
  obtain ⟨fl, hfl⟩ := ls_i32 f_flag
  obtain ⟨ct, hct⟩ := ls_i32 f_cnt
  obtain ⟨fu, hfu⟩ := ls_i32 f_full
  unfold wpY_faulty
  dsimp only
  refine ⟨n + 1, ?_⟩
  have K := hy_loop (v0 := (f_most, nI n, f_stored, f_nm, f_nEnv, f_base, f_ns, f_no, f_nc, f_pc, f_mode, f_err, f_errAt, f_ticks, f_calls, f_outs, f_resK, f_part, f_resV, f_cnt, f_full, f_flag, f_need, a_tk, a_tv, a_tp, a_mName, a_mKind, a_mCount, a_mPar, a_mAt, a_vName, a_vDecl, a_vKind, a_vVal, a_sk, a_sv, a_oKind, a_oAt, a_oArgs, a_cKind, a_cA, a_cB, a_outK, a_outV)) (post := post) (T := T) (n := n) hn hT (fun v' hv' => ?_) n 0 (0, [], [], fl, ct, fu, []) (f_most, nI n, f_stored, f_nm, 0, f_base, f_ns, 0, 0, f_pc, f_mode, f_err, f_errAt, f_ticks, f_calls, f_outs, f_resK, f_part, f_resV, f_cnt, f_full, f_flag, 0, a_tk, a_tv, a_tp, a_mName, a_mKind, a_mCount, a_mPar, a_mAt, a_vName, a_vDecl, a_vKind, a_vVal, a_sk, a_sv, a_oKind, a_oAt, a_oArgs, a_cKind, a_cA, a_cB, a_outK, a_outV) (by omega) ⟨rfl, rfl, rfl, rfl, hfl, hct, hfu, rfl, trivial, trivial, trivial⟩ ⟨by decide, by simp, by simp, by simp, fun h => by omega, fun h => by omega, fun h => by omega, by simp, by simp, by simp, fun h => by omega, trivial⟩ (hp fl ct fu)
  · exact K
  · obtain ⟨f_most, f_n, f_stored, f_nm, f_nEnv, f_base, f_ns, f_no, f_nc, f_pc, f_mode, f_err, f_errAt, f_ticks, f_calls, f_outs, f_resK, f_part, f_resV, f_cnt, f_full, f_flag, f_need, a_tk, a_tv, a_tp, a_mName, a_mKind, a_mCount, a_mPar, a_mAt, a_vName, a_vDecl, a_vKind, a_vVal, a_sk, a_sv, a_oKind, a_oAt, a_oArgs, a_cKind, a_cA, a_cB, a_outK, a_outV⟩ := v'
    injection hv' with h1 h2
    injection h2 with h2 h3
    injection h1 with _ h1
    injection h1 with h1 _
    injection h2 with h2 _
    exact ⟨h1, fun p hp => by rw [h2]; exact etk p hp⟩
end
