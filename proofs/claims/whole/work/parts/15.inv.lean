/-! What holds of every configuration of the reading -/
def ls_txt (T : Nat → Nat) (n : Nat) : Prop := n ≤ 140 ∧ (∀ p, p < n → T p < 72) ∧ ∀ p, n ≤ p → T p = 72
set_option maxHeartbeats 200000 in
theorem ls_txt_lt {T n} (h : ls_txt T n) {p : Nat} (hp : T p ≠ 72) : p < n := by
  apply Decidable.byContradiction
  intro hn
  exact hp (h.2.2 p (by omega))
/-- the instructions that pending operators still owe -/
def ls_dpe (T : Nat → Nat) : List LsP → Nat
  | [] => 0
  | e :: r => (if e.1 = 2 then (if T e.2.1 = 21 then 1 else 2) else if e.1 = 1 then 0 else 1) + ls_dpe T r
def ls_dfr : List LsF → Nat
  | [] => 0
  | f :: r => (if f.1 = 5 ∨ f.1 = 8 ∨ f.1 = 2 then 1 else 0) + ls_dfr r
def ls_fok (k : LsK) : List LsF → Prop
  | [] => True
  | f :: r => (1 ≤ f.1 ∧ f.1 ≤ 5) ∧ (2 ≤ f.1 → 480 ≤ f.2.1 ∧ f.2.1 < k.1) ∧ (f.1 = 2 → r = [] ∧ k.2.2.2.1 f.2.1 &&& 7 = nI (f.2.2.2.headD 0) ∧ f.2.2.2.headD 0 < 8) ∧ ls_fok k r
/-- the scopes: each block keeps the names outside of it -/
def ls_sco : List LsF → List Nat → Prop
  | [], L => L = []
  | f :: r, L => if f.1 = 1 then f.2.1 = f.2.2.2.length ∧ (∃ m, f.2.2.2 = L.drop m) ∧ ls_sco r f.2.2.2 else if f.1 = 2 then True else ls_sco r L
/-- the frame of an open expression -/
def ls_xf (T : Nat → Nat) (k : LsK) (pos : Nat) (f : LsF) (r : List LsF) : Prop := 6 ≤ f.1 ∧ f.1 < 12 ∧ 480 ≤ f.2.1 ∧ f.2.1 < k.1 ∧ k.2.2.2.2 f.2.1 = nI f.2.2.1 ∧ f.2.2.1 ≤ pos ∧ (f.1 = 11 → T f.2.2.1 < 6 ∧ ls_nam (T (f.2.2.1 + 1)) ∧ f.2.2.1 + 3 ≤ pos) ∧ (f.1 = 10 → ls_mkd r ≠ none)
def ls_Inv (T : Nat → Nat) (n : Nat) (c : LsC) : Prop := match c with
  | (st, pos, es, pe, fr, L, k) => pos ≤ n ∧ L.length ≤ 8 ∧ (∀ x ∈ L, x < 16) ∧ ls_sco fr L ∧ 480 ≤ k.1 ∧ ls_peok T k pos pe ∧
    (if st = 4 ∨ st = 5 then k.1 + ls_dpe T pe + ls_dfr fr ≤ 480 + 2 * pos + (if st = 4 then 1 else 0) ∧ es ≤ pos ∧ pe.length + es ≤ pos ∧ fr.length ≤ pos + 1 ∧ ∃ f r, fr = f :: r ∧ ls_xf T k pos f r ∧ ls_fok k r
    else k.1 + ls_dfr fr ≤ 480 + 2 * pos ∧ fr.length ≤ pos ∧ pe = [] ∧ ls_fok k fr ∧ (st = 2 → T pos < 6 ∧ ∀ f, fr.head? = some f → f.1 = 1))
def ls_sw (st : Nat) : Nat := if st = 0 then 3 else if st = 1 then 2 else if st = 2 then 2 else if st = 3 then 4 else 0
def ls_fw : List LsF → Nat
  | [] => 0
  | f :: r => (if f.1 = 1 then 0 else 1) + ls_fw r
def ls_mu (n : Nat) (c : LsC) : Nat := match c with
  | (st, pos, _, pe, fr, _, _) => 7 * (n - pos) + pe.length + ls_fw fr + ls_sw st
set_option maxHeartbeats 200000 in
theorem ls_mu_def {n st pos es : Nat} {pe : List LsP} {fr : List LsF} {L : List Nat} {k : LsK} : ls_mu n (st, pos, es, pe, fr, L, k) = 7 * (n - pos) + pe.length + ls_fw fr + ls_sw st := rfl
set_option maxHeartbeats 200000 in
theorem ls_sw_0 : ls_sw 0 = 3 := rfl
set_option maxHeartbeats 200000 in
theorem ls_sw_1 : ls_sw 1 = 2 := rfl
set_option maxHeartbeats 200000 in
theorem ls_sw_2 : ls_sw 2 = 2 := rfl
set_option maxHeartbeats 200000 in
theorem ls_sw_3 : ls_sw 3 = 4 := rfl
set_option maxHeartbeats 200000 in
theorem ls_sw_4 : ls_sw 4 = 0 := rfl
set_option maxHeartbeats 200000 in
theorem ls_sw_5 : ls_sw 5 = 0 := rfl
set_option maxHeartbeats 200000 in
theorem ls_sw_6 : ls_sw 6 = 0 := rfl
set_option maxHeartbeats 200000 in
theorem ls_fw_0 : ls_fw [] = 0 := rfl
set_option maxHeartbeats 200000 in
theorem ls_fw_1 {a b : Nat} {l : List Nat} {r : List LsF} : ls_fw ((1, a, b, l) :: r) = 0 + ls_fw r := rfl
set_option maxHeartbeats 200000 in
theorem ls_fw_2 {a b : Nat} {l : List Nat} {r : List LsF} : ls_fw ((2, a, b, l) :: r) = 1 + ls_fw r := rfl
set_option maxHeartbeats 200000 in
theorem ls_fw_3 {a b : Nat} {l : List Nat} {r : List LsF} : ls_fw ((3, a, b, l) :: r) = 1 + ls_fw r := rfl
set_option maxHeartbeats 200000 in
theorem ls_fw_4 {a b : Nat} {l : List Nat} {r : List LsF} : ls_fw ((4, a, b, l) :: r) = 1 + ls_fw r := rfl
set_option maxHeartbeats 200000 in
theorem ls_fw_5 {a b : Nat} {l : List Nat} {r : List LsF} : ls_fw ((5, a, b, l) :: r) = 1 + ls_fw r := rfl
set_option maxHeartbeats 200000 in
theorem ls_fw_6 {a b : Nat} {l : List Nat} {r : List LsF} : ls_fw ((6, a, b, l) :: r) = 1 + ls_fw r := rfl
set_option maxHeartbeats 200000 in
theorem ls_fw_7 {a b : Nat} {l : List Nat} {r : List LsF} : ls_fw ((7, a, b, l) :: r) = 1 + ls_fw r := rfl
set_option maxHeartbeats 200000 in
theorem ls_fw_8 {a b : Nat} {l : List Nat} {r : List LsF} : ls_fw ((8, a, b, l) :: r) = 1 + ls_fw r := rfl
set_option maxHeartbeats 200000 in
theorem ls_fw_9 {a b : Nat} {l : List Nat} {r : List LsF} : ls_fw ((9, a, b, l) :: r) = 1 + ls_fw r := rfl
set_option maxHeartbeats 200000 in
theorem ls_fw_10 {a b : Nat} {l : List Nat} {r : List LsF} : ls_fw ((10, a, b, l) :: r) = 1 + ls_fw r := rfl
set_option maxHeartbeats 200000 in
theorem ls_fw_11 {a b : Nat} {l : List Nat} {r : List LsF} : ls_fw ((11, a, b, l) :: r) = 1 + ls_fw r := rfl
set_option maxHeartbeats 200000 in
theorem ls_fw_x {i a b : Nat} {l : List Nat} {r : List LsF} (h : i ≠ 1) : ls_fw ((i, a, b, l) :: r) = 1 + ls_fw r := by
  show (if i = 1 then 0 else 1) + _ = _
  rw [if_neg h]
/-- the code only grows: sizes, kinds and places below the size stay -/
def ls_ext (k k' : LsK) : Prop := k.1 ≤ k'.1 ∧ ∀ i, i < k.1 → k'.2.2.2.1 i = k.2.2.2.1 i ∧ k'.2.2.2.2 i = k.2.2.2.2 i ∧ k'.2.1 i = k.2.1 i
set_option maxHeartbeats 200000 in
theorem ls_ext_r (k : LsK) : ls_ext k k := ⟨Nat.le_refl _, fun _ _ => ⟨rfl, rfl, rfl⟩⟩
set_option maxHeartbeats 200000 in
theorem ls_ext_t {a b c : LsK} (h : ls_ext a b) (g : ls_ext b c) : ls_ext a c :=
  ⟨Nat.le_trans h.1 g.1, fun i hi => by
    obtain ⟨h1, h2, h3⟩ := h.2 i hi
    obtain ⟨g1, g2, g3⟩ := g.2 i (Nat.lt_of_lt_of_le hi h.1)
    exact ⟨g1.trans h1, g2.trans h2, g3.trans h3⟩⟩
set_option maxHeartbeats 200000 in
theorem ls_ext_em (k : LsK) (o a d p : Int32) : ls_ext k (ls_em k o a d p) :=
  ⟨Nat.le_succ _, fun i hi => ⟨pk_un (by omega), pk_un (by omega), pk_un (by omega)⟩⟩
set_option maxHeartbeats 200000 in
theorem ls_ext_aim (k : LsK) (j : Nat) : ls_ext k (ls_aim k j) := ⟨Nat.le_refl _, fun _ _ => ⟨rfl, rfl, rfl⟩⟩
set_option maxHeartbeats 200000 in
theorem ls_ext_ex (k : LsK) (j : Nat) : ls_ext k (ls_exits k j) := ⟨Nat.le_refl _, fun _ _ => ⟨rfl, rfl, rfl⟩⟩
set_option maxHeartbeats 200000 in
theorem ls_fok_ext {k k' : LsK} (h : ls_ext k k') : ∀ {fr : List LsF}, ls_fok k fr → ls_fok k' fr
  | [], _ => trivial
  | f :: r, ⟨h1, h2, h3, h4⟩ => ⟨h1, fun g => ⟨(h2 g).1, Nat.lt_of_lt_of_le (h2 g).2 h.1⟩, fun g => ⟨(h3 g).1, by rw [(h.2 f.2.1 (h2 (by omega)).2).1]; exact (h3 g).2.1, (h3 g).2.2⟩, ls_fok_ext h h4⟩
set_option maxHeartbeats 200000 in
theorem ls_fok_1 {k : LsK} {a b : Nat} {l : List Nat} {r : List LsF} (h : ls_fok k r) : ls_fok k ((1, a, b, l) :: r) :=
  ⟨⟨by show 1 ≤ 1; decide, by show 1 ≤ 5; decide⟩, fun h => absurd h (by show ¬ 2 ≤ 1; decide), fun h => absurd h (by show ¬ (1 : Nat) = 2; decide), h⟩
set_option maxHeartbeats 200000 in
theorem ls_fok_j {k : LsK} {j a b : Nat} {l : List Nat} {r : List LsF} (hj : 3 ≤ j ∧ j ≤ 5) (ha : 480 ≤ a ∧ a < k.1) (h : ls_fok k r) : ls_fok k ((j, a, b, l) :: r) :=
  ⟨⟨by show 1 ≤ j; omega, by show j ≤ 5; omega⟩, fun _ => ha, fun h => by have : j = 2 := h; omega, h⟩
set_option maxHeartbeats 200000 in
theorem ls_fok_2 {k : LsK} {a b : Nat} {l : List Nat} (ha : 480 ≤ a ∧ a < k.1) (h : k.2.2.2.1 a &&& 7 = nI (l.headD 0)) (h8 : l.headD 0 < 8) : ls_fok k [(2, a, b, l)] :=
  ⟨⟨by show 1 ≤ 2; decide, by show 2 ≤ 5; decide⟩, fun _ => ha, fun _ => ⟨rfl, h, h8⟩, trivial⟩
set_option maxHeartbeats 200000 in
theorem ls_xf_ext {T : Nat → Nat} {k k' : LsK} {pos pos' : Nat} {f : LsF} {r : List LsF} (h : ls_ext k k') (hp : pos ≤ pos') (g : ls_xf T k pos f r) : ls_xf T k' pos' f r := by
  obtain ⟨g1, g2, g3, g4, g5, g6, g7, g8⟩ := g
  exact ⟨g1, g2, g3, Nat.lt_of_lt_of_le g4 h.1, (h.2 _ g4).2.1.trans g5, by omega, fun q => ⟨(g7 q).1, (g7 q).2.1, by have := (g7 q).2.2; omega⟩, g8⟩
set_option maxHeartbeats 200000 in
theorem ls_peok_ext {T : Nat → Nat} {k k' : LsK} {pos pos' : Nat} {pe : List LsP} (h : k.1 ≤ k'.1) (hp : pos ≤ pos') (g : ls_peok T k pos pe) : ls_peok T k' pos' pe := by
  intro e he
  obtain ⟨g1, g2, g3, g4, g5, g6, g7, g8⟩ := g e he
  exact ⟨g1, by omega, g3, g4, g5, g6, g7, fun a b c => ⟨(g8 a b c).1, by have := (g8 a b c).2; omega⟩⟩
set_option maxHeartbeats 200000 in
theorem ls_peok_nil {T : Nat → Nat} {k : LsK} {pos : Nat} : ls_peok T k pos [] := fun _ h => absurd h (by simp)
set_option maxHeartbeats 200000 in
theorem ls_peok_cons {T : Nat → Nat} {k : LsK} {pos : Nat} {e : LsP} {pe : List LsP} (g : ls_peok T k pos pe) (h : e.1 < 14 ∧ e.2.1 < pos ∧ e.2.2 < 761 ∧ (e.1 = 0 → ls_nam (T e.2.1) ∧ e.2.2 ≤ 3) ∧ (e.1 = 2 → ls_asg (T e.2.1)) ∧ (e.1 = 13 → T e.2.1 = 15 ∨ (22 ≤ T e.2.1 ∧ T e.2.1 ≤ 25)) ∧ (2 < e.1 → e.1 ≠ 13 → ls_lv (T e.2.1) = e.1) ∧ (e.1 ≠ 13 → e.1 ≠ 2 → (T e.2.1 = 41 ∨ T e.2.1 = 42) → 480 ≤ e.2.2 ∧ e.2.2 < k.1)) : ls_peok T k pos (e :: pe) := by
  intro x hx
  rcases List.mem_cons.mp hx with rfl | hx
  · exact h
  · exact g x hx
set_option maxHeartbeats 200000 in
theorem ls_peok_tl {T : Nat → Nat} {k : LsK} {pos : Nat} {e : LsP} {pe : List LsP} (g : ls_peok T k pos (e :: pe)) : ls_peok T k pos pe :=
  fun x hx => g x (List.mem_cons_of_mem _ hx)
set_option maxHeartbeats 200000 in
theorem ls_addr_lt {L : List Nat} {nm : Nat} (h : nm < 16) (hl : L.length ≤ 8) : ls_addr L nm < 24 := by
  induction L with
  | nil => show nm < 24; omega
  | cons x r ih =>
    have hl' : r.length + 1 ≤ 8 := hl
    show (if x = nm then 16 + r.length else ls_addr r nm) < 24
    split
    · omega
    · exact ih (by omega)
set_option maxHeartbeats 200000 in
theorem ls_dfr_le : ∀ fr : List LsF, ls_dfr fr ≤ fr.length
  | [] => Nat.le_refl _
  | f :: r => by
    show (if _ then 1 else 0) + ls_dfr r ≤ r.length + 1
    have := ls_dfr_le r
    split <;> omega
section
variable {T : Nat → Nat} {V : Nat → Int32} {n : Nat} {pos es : Nat} {pe : List LsP} {fr : List LsF} {L : List Nat} {k : LsK} {c' : LsC}
set_option maxHeartbeats 200000 in
theorem ls_inv_r0 (hT : ls_txt T n) (h : ls_Inv T n (0, pos, es, pe, fr, L, k)) (hr : ls_r0 T pos es pe fr L k = .ok c') : ls_Inv T n c' ∧ ls_mu n c' < ls_mu n (0, pos, es, pe, fr, L, k) := by
  obtain ⟨h1, h2, h3, h4, h5, h6, h7⟩ := h
  rw [if_neg (by omega)] at h7
  obtain ⟨a1, a2, a3, a4, a5⟩ := h7
  unfold ls_r0 at hr
  split at hr
  · injection hr with hr; subst hr
    exact ⟨⟨h1, h2, h3, h4, h5, h6, by rw [if_neg (by omega)]; exact ⟨a1, a2, a3, a4, fun h => by omega⟩⟩, by simp only [ls_mu_def, ls_sw_0, ls_sw_1, ls_sw_2, ls_sw_3, ls_sw_4, ls_sw_5, ls_sw_6, ls_fw_0, ls_fw_1, ls_fw_2, ls_fw_3, ls_fw_4, ls_fw_5, ls_fw_6, ls_fw_7, ls_fw_8, ls_fw_9, ls_fw_10, ls_fw_11, List.length_nil, List.length_cons]; omega⟩
  · split at hr
    · split at hr
      · next t6 =>
        injection hr with hr; subst hr
        exact ⟨⟨h1, h2, h3, h4, h5, h6, by rw [if_neg (by omega)]; exact ⟨a1, a2, a3, a4, fun _ => ⟨t6, fun f hf => by simp at hf⟩⟩⟩, by simp only [ls_mu_def, ls_sw_0, ls_sw_1, ls_sw_2, ls_sw_3, ls_sw_4, ls_sw_5, ls_sw_6, ls_fw_0, ls_fw_1, ls_fw_2, ls_fw_3, ls_fw_4, ls_fw_5, ls_fw_6, ls_fw_7, ls_fw_8, ls_fw_9, ls_fw_10, ls_fw_11, List.length_nil, List.length_cons]; omega⟩
      · injection hr with hr; subst hr
        exact ⟨⟨h1, h2, h3, h4, h5, h6, by rw [if_neg (by omega)]; exact ⟨a1, a2, a3, a4, fun h => by omega⟩⟩, by simp only [ls_mu_def, ls_sw_0, ls_sw_1, ls_sw_2, ls_sw_3, ls_sw_4, ls_sw_5, ls_sw_6, ls_fw_0, ls_fw_1, ls_fw_2, ls_fw_3, ls_fw_4, ls_fw_5, ls_fw_6, ls_fw_7, ls_fw_8, ls_fw_9, ls_fw_10, ls_fw_11, List.length_nil, List.length_cons]; omega⟩
    · next fk mo sp l r _ =>
      have same : ls_Inv T n (1, pos, es, pe, (fk, mo, sp, l) :: r, L, k) ∧ ls_mu n (1, pos, es, pe, (fk, mo, sp, l) :: r, L, k) < ls_mu n (0, pos, es, pe, (fk, mo, sp, l) :: r, L, k) :=
        ⟨⟨h1, h2, h3, h4, h5, h6, by rw [if_neg (by omega)]; exact ⟨a1, a2, a3, a4, fun h => by omega⟩⟩, by simp only [ls_mu_def, ls_sw_0, ls_sw_1, ls_sw_2, ls_sw_3, ls_sw_4, ls_sw_5, ls_sw_6, ls_fw_0, ls_fw_1, ls_fw_2, ls_fw_3, ls_fw_4, ls_fw_5, ls_fw_6, ls_fw_7, ls_fw_8, ls_fw_9, ls_fw_10, ls_fw_11, List.length_nil, List.length_cons]; omega⟩
      split at hr
      · next q =>
        subst q
        split at hr
        · next t18 =>
          injection hr with hr; subst hr
          have pn := ls_txt_lt hT (p := pos) (by omega)
          obtain ⟨s1, ⟨m, s2⟩, s3⟩ := (show l.length = l.length ∧ _ from ⟨rfl, (show mo = l.length ∧ (∃ m, l = L.drop m) ∧ ls_sco r l from h4).2⟩)
          have a2' : r.length + 1 ≤ pos := a2
          have a1' : k.1 + (0 + ls_dfr r) ≤ 480 + 2 * pos := a1
          refine ⟨⟨by omega, ?_, ?_, s3, h5, ls_peok_ext (Nat.le_refl _) (by omega) h6, ?_⟩, ?_⟩
          · rw [s2, List.length_drop]; omega
          · intro x hx; rw [s2] at hx; exact h3 x (List.mem_of_mem_drop hx)
          · rw [if_neg (by omega)]; exact ⟨by omega, by omega, a3, a4.2.2.2, fun h => by omega⟩
          · simp only [ls_mu_def, ls_sw_0, ls_sw_1, ls_sw_2, ls_sw_3, ls_sw_4, ls_sw_5, ls_sw_6, ls_fw_0, ls_fw_1, ls_fw_2, ls_fw_3, ls_fw_4, ls_fw_5, ls_fw_6, ls_fw_7, ls_fw_8, ls_fw_9, ls_fw_10, ls_fw_11, List.length_nil, List.length_cons]; omega
        · split at hr
          · next t6 =>
            injection hr with hr; subst hr
            exact ⟨⟨h1, h2, h3, h4, h5, h6, by rw [if_neg (by omega)]; exact ⟨a1, a2, a3, a4, fun _ => ⟨t6, fun f hf => by injection hf with hf; rw [← hf]⟩⟩⟩, by simp only [ls_mu_def, ls_sw_0, ls_sw_1, ls_sw_2, ls_sw_3, ls_sw_4, ls_sw_5, ls_sw_6, ls_fw_0, ls_fw_1, ls_fw_2, ls_fw_3, ls_fw_4, ls_fw_5, ls_fw_6, ls_fw_7, ls_fw_8, ls_fw_9, ls_fw_10, ls_fw_11, List.length_nil, List.length_cons]; omega⟩
          · injection hr with hr; subst hr; exact same
      · injection hr with hr; subst hr; exact same
end
