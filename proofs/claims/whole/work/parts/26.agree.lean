/-! Both readings agree: a relation between the component's configuration and the reference's state -/
def ls_kk (k : Nat) : Nat := if k = 1 then 1 else if k = 2 then 3 else if k = 3 ∨ k = 7 then 4 else if k = 4 then 5 else 2
def ls_rc : List LsF → List (Nat × Nat) → Prop
  | [], C => C = []
  | f :: r, C => if f.1 = 6 ∨ 9 ≤ f.1 then ls_rc r C else ∃ a D, C = (ls_kk f.1, a) :: D ∧ (f.1 = 1 → a = f.2.1) ∧ (f.1 = 2 → a = 0) ∧ ls_rc r D
def ls_os : List LsP → List Nat
  | [] => []
  | e :: r => if e.1 = 0 then e.2.2 :: ls_os r else if e.1 = 1 then 0 :: ls_os r else ls_os r
def ls_fu (fk : Nat) : Nat := if fk = 7 then 6 else if fk = 8 then 8 else if fk = 9 then 12 else if fk = 10 then 11 else 20
def ls_nd4 (pe : List LsP) : Nat := match pe with
  | [] => 3
  | e :: _ => if e.1 = 0 then (if e.2.2 = 1 then 17 else 3) else if e.1 = 1 then 15 else if e.1 = 2 then 3 else 4
def ls_m54 (L : List Nat) : List Nat := L.map (· + 54)
/-- a method stands below a block alone -/
def ls_mb : List LsF → Prop
  | [] => True
  | f :: r => (ls_fk r = 2 → f.1 = 1) ∧ ls_mb r
def ls_al (T : Nat → Nat) (n : Nat) (c : LsC) (y : LsY) : Prop := match c with
  | (st, pos, es, pe, fr, L, _) => ls_mb fr ∧ match y with
    | (nd, C, O, fl, ct, fu, N) =>
      if st = 4 ∨ st = 5 then
        pos ≤ es + 32 ∧ (∀ e ∈ pe, e.1 = 0 → 1 ≤ e.2.2) ∧
        (if st = 5 then y = (5, C, ls_os pe, fl, pos - es, ls_fu (ls_fk fr), ls_m54 L) ∧ ls_rc fr C ∧ (0 < fl → T pos ≠ 15) ∧ (fl = 2 → ¬ ls_asg (T pos))
         else ∃ C', ls_rc fr C' ∧ (ls_nd4 pe = 15 → 6 ≤ T pos) ∧ (ls_nd4 pe = 17 → T pos ≠ 16) ∧ (∃ fl', ls_yg y (T pos) = ls_ywith (ls_nd4 pe) (T pos) C' (ls_os pe) fl' (pos - es) (ls_fu (ls_fk fr)) (ls_m54 L)) ∧ (T pos = 72 → ls_yv T n 0 n y = some n))
      else if st = 6 then ls_yv T n (n - pos) pos y = none
      else O = [] ∧ (if st = 3 then nd = 0 ∧ (if ls_fk fr = 2 then C = [] ∧ N = [] else ls_rc fr C ∧ N = ls_m54 L)
        else nd = (if 3 ≤ ls_fk fr then 1 else 0) ∧ ls_fk fr ≠ 2 ∧ ls_rc fr C ∧ N = ls_m54 L ∧ (st = 1 → ls_fk fr < 3 → 6 ≤ T pos ∧ (fr ≠ [] → T pos ≠ 18) ∧ (fr = [] → T pos ≠ 72)))
/-- the reference's answer from here on -/
def ls_yc (T : Nat → Nat) (n : Nat) (c : LsC) (y : LsY) : Option Nat := ls_yv T n (n - c.2.1) c.2.1 y
/-- an expression that is already too long -/
def ls_doom (c : LsC) : Prop := (c.1 = 4 ∨ c.1 = 5) ∧ c.2.2.1 + 32 < c.2.1
/-- what one step of the reading owes -/
def ls_ag (T : Nat → Nat) (n : Nat) (c : LsC) (y : LsY) (r : Except Nat LsC) : Prop := match r with
  | .error e => ls_yc T n c y = some e
  | .ok c' => (∃ y', ls_al T n c' y' ∧ ls_yc T n c' y' = ls_yc T n c y) ∨ (ls_doom c' ∧ ls_yc T n c y = some (c'.2.2.1 + 32))
section
variable {T : Nat → Nat} {n : Nat} {p : Nat} {y y' : LsY}
set_option maxHeartbeats 200000 in
theorem ls_yv_step (hp : p < n) (h : ls_yg y (T p) = some y') : ls_yv T n (n - p) p y = ls_yv T n (n - (p + 1)) (p + 1) y' := by
  rw [show n - p = (n - (p + 1)) + 1 by omega]
  show (match ls_yg y (T p) with | none => some p | some y' => _) = _
  rw [h]
set_option maxHeartbeats 200000 in
theorem ls_yv_bad (hT : ls_txt T n) (hp : p ≤ n) (h : T p ≠ 72 → ls_yg y (T p) = none) (h0 : T p = 72 → ls_yv T n 0 n y = some n) : ls_yv T n (n - p) p y = some p := by
  by_cases q : T p = 72
  · have : p = n := by
      apply Decidable.byContradiction
      intro hh
      have := hT.2.1 p (by omega)
      omega
    subst this
    rw [Nat.sub_self]
    exact h0 q
  · have pn := ls_txt_lt hT q
    rw [show n - p = (n - (p + 1)) + 1 by omega]
    show (match ls_yg y (T p) with | none => some p | some y' => _) = _
    rw [h q]
set_option maxHeartbeats 200000 in
theorem ls_yv_0 {nd : Nat} {C : List (Nat × Nat)} {O : List Nat} {fl ct fu : Nat} {N : List Nat} (h : nd ≠ 0) : ls_yv T n 0 n (nd, C, O, fl, ct, fu, N) = some n := by
  show (if nd = 0 ∧ _ then _ else _) = _
  rw [if_neg (fun q => h q.1)]
set_option maxHeartbeats 200000 in
theorem ls_yg_w {nd t : Nat} {C : List (Nat × Nat)} {O : List Nat} {fl ct fu : Nat} {N : List Nat} (h : nd = 3 ∨ nd = 4 ∨ nd = 5 ∨ 15 ≤ nd) : ls_yg (nd, C, O, fl, ct, fu, N) t = ls_ywith nd t C O fl ct fu N := by
  show (if nd = 0 then _ else if nd = 1 then _ else if nd = 7 ∧ t ≠ 20 then _ else if nd = 3 ∨ nd = 4 ∨ nd = 5 ∨ 15 ≤ nd then _ else _) = _
  rw [if_neg (by omega), if_neg (by omega), if_neg (by omega), if_pos h]
set_option maxHeartbeats 200000 in
theorem ls_m54_len (L : List Nat) : (ls_m54 L).length = L.length := by simp [ls_m54]
set_option maxHeartbeats 200000 in
theorem ls_fk_nil : ls_fk [] = 0 := rfl
set_option maxHeartbeats 200000 in
theorem ls_yfin_n {t : Nat} {C : List (Nat × Nat)} (h : ∀ e r, C = e :: r → e.1 = 1 ∨ e.1 = 3) : ls_yfin t C = (false, C) := by
  cases C with
  | nil => rfl
  | cons e r =>
    show (if e.1 = 2 ∨ 3 < e.1 then _ else _) = _
    have := h e r rfl
    rw [if_neg (by omega)]
set_option maxHeartbeats 200000 in
/-- the top of what is open, where a list of statements goes on -/
theorem ls_rc_top {fr : List LsF} {C : List (Nat × Nat)} (h : ls_rc fr C) (hf : ls_fk fr < 3) (h2 : ls_fk fr ≠ 2) (h0 : ∀ f ∈ fr, 1 ≤ f.1) : ∀ e r, C = e :: r → e.1 = 1 ∨ e.1 = 3 := by
  intro e r hC
  cases fr with
  | nil =>
    have h' : C = [] := h
    rw [h'] at hC; cases hC
  | cons f r2 =>
    have f1 : 1 ≤ f.1 := h0 f (List.mem_cons_self ..)
    have hf' : f.1 < 3 := hf
    have h2' : f.1 ≠ 2 := h2
    have e1 : f.1 = 1 := by omega
    have h' : (if f.1 = 6 ∨ 9 ≤ f.1 then ls_rc r2 C else ∃ a D, C = (ls_kk f.1, a) :: D ∧ (f.1 = 1 → a = f.2.1) ∧ (f.1 = 2 → a = 0) ∧ ls_rc r2 D) := h
    rw [if_neg (by omega)] at h'
    obtain ⟨a, D, hD, _⟩ := h'
    rw [hD] at hC
    injection hC with hC _
    rw [← hC, e1]
    exact Or.inl rfl
set_option maxHeartbeats 200000 in
theorem ls_rc_cons {f : LsF} {r : List LsF} {C : List (Nat × Nat)} (hf : ¬ (f.1 = 6 ∨ 9 ≤ f.1)) (h : ls_rc (f :: r) C) : ∃ a D, C = (ls_kk f.1, a) :: D ∧ (f.1 = 1 → a = f.2.1) ∧ (f.1 = 2 → a = 0) ∧ ls_rc r D := by
  have h' : (if f.1 = 6 ∨ 9 ≤ f.1 then ls_rc r C else ∃ a D, C = (ls_kk f.1, a) :: D ∧ (f.1 = 1 → a = f.2.1) ∧ (f.1 = 2 → a = 0) ∧ ls_rc r D) := h
  rw [if_neg hf] at h'
  exact h'
set_option maxHeartbeats 200000 in
theorem ls_rc_mk {f : LsF} {r : List LsF} {D : List (Nat × Nat)} {a : Nat} (hf : ¬ (f.1 = 6 ∨ 9 ≤ f.1)) (h1 : f.1 = 1 → a = f.2.1) (h2 : f.1 = 2 → a = 0) (h : ls_rc r D) : ls_rc (f :: r) ((ls_kk f.1, a) :: D) := by
  show (if f.1 = 6 ∨ 9 ≤ f.1 then _ else _)
  rw [if_neg hf]
  exact ⟨a, D, rfl, h1, h2, h⟩
set_option maxHeartbeats 200000 in
theorem ls_rc_skip {f : LsF} {r : List LsF} {C : List (Nat × Nat)} (hf : f.1 = 6 ∨ 9 ≤ f.1) : ls_rc (f :: r) C ↔ ls_rc r C := by
  show (if f.1 = 6 ∨ 9 ≤ f.1 then _ else _) ↔ _
  rw [if_pos hf]
set_option maxHeartbeats 200000 in
/-- a loop is open in both or in none -/
theorem ls_rc_loop {k : LsK} : ∀ {fr : List LsF} {C : List (Nat × Nat)}, ls_rc fr C → ls_fok k fr → (ls_loop fr = none ↔ ls_yins C = false)
  | [], C, h, _ => by
    have h' : C = [] := h
    subst h'
    exact ⟨fun _ => rfl, fun _ => rfl⟩
  | f :: r, C, h, ⟨⟨f1, f5⟩, f2, f3, f4⟩ => by
    obtain ⟨a, D, hD, _, _, hr⟩ := ls_rc_cons (by omega) h
    subst hD
    have ih := ls_rc_loop hr f4
    show (if f.1 = 5 then some f.2.1 else ls_loop r) = none ↔ (if ls_kk f.1 = 3 then false else if ls_kk f.1 = 2 then true else ls_yins D) = false
    by_cases q5 : f.1 = 5
    · rw [if_pos q5, q5]
      exact ⟨fun h => (by cases h), fun h => (by cases h)⟩
    · rw [if_neg q5]
      by_cases q2 : f.1 = 2
      · rw [q2]
        obtain ⟨r0, _⟩ := f3 q2
        subst r0
        exact ⟨fun _ => rfl, fun _ => rfl⟩
      · have e3 : ls_kk f.1 ≠ 3 := by unfold ls_kk; (repeat' split) <;> omega
        have e2 : ls_kk f.1 ≠ 2 := by unfold ls_kk; (repeat' split) <;> omega
        rw [if_neg e3, if_neg e2]
        exact ih
set_option maxHeartbeats 200000 in
theorem ls_rc_bot {k : LsK} : ∀ {fr : List LsF} {C : List (Nat × Nat)}, ls_rc fr C → ls_fok k fr → (ls_mkd fr = none ↔ ls_ybot C = false)
  | [], C, h, _ => by
    have h' : C = [] := h
    subst h'
    exact ⟨fun _ => rfl, fun _ => rfl⟩
  | [f], C, h, ⟨⟨f1, f5⟩, f2, f3, f4⟩ => by
    obtain ⟨a, D, hD, _, _, hr⟩ := ls_rc_cons (by omega) h
    have hD2 : D = [] := hr
    subst hD2 hD
    show (if f.1 = 2 then some (f.2.2.2.headD 0) else none) = none ↔ decide (ls_kk f.1 = 3) = false
    by_cases q2 : f.1 = 2
    · rw [if_pos q2, q2]
      exact ⟨fun h => (by cases h), fun h => (by cases h)⟩
    · have e3 : ls_kk f.1 ≠ 3 := by unfold ls_kk; (repeat' split) <;> omega
      rw [if_neg q2]
      exact ⟨fun _ => decide_eq_false e3, fun _ => rfl⟩
  | f :: g :: r, C, h, ⟨⟨f1, f5⟩, f2, f3, f4⟩ => by
    obtain ⟨a, D, hD, _, _, hr⟩ := ls_rc_cons (by omega) h
    have ih := ls_rc_bot hr f4
    obtain ⟨⟨g1, g5⟩, _⟩ := f4
    obtain ⟨b, E, hE, _⟩ := ls_rc_cons (f := g) (by omega) hr
    subst hD hE
    exact ih
end
