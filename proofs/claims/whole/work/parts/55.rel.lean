/-! What stands on the stacks while both run -/
abbrev LsV := Nat × Int64
/-- operands in arrays from o on, the top first -/
def ls_stk (a : Nat → Int32) (b : Nat → Int64) (o : Nat) : List LsV → Prop
  | [] => True
  | x :: r => a (o + r.length) = nI x.1 ∧ b (o + r.length) = x.2 ∧ ls_wf x.1 x.2 ∧ ls_stk a b o r
/-- operands that pending operators keep: the component's, the reference's, and what is below -/
def ls_ro (T : Nat → Nat) (D : Nat → Int32) (ac : Nat) : List LsP → List LsV → List LsV → List LsV → List LsV → Prop
  | [], xs, ys, x0, y0 => xs = x0 ∧ ys = y0
  | e :: r, xs, ys, x0, y0 => ∃ w xs' ys', w.length = ls_wt T e ∧ ys = w ++ ys' ∧ xs = (if e.1 = 3 ∨ e.1 = 4 then xs' else w ++ xs') ∧ (e.1 = 3 ∨ e.1 = 4 → ∀ v ∈ w, v.1 = 0) ∧ (e.1 = 2 → ∀ v ∈ w, ∃ d, D (ls_cell e.2.2 ac) = nI d ∧ d ≤ 5 ∧ (d = 5 ∨ (d = 0 ↔ v.1 = 0))) ∧ ls_ro T D ac r xs' ys' x0 y0
/-- a pending operator as the reference keeps it -/
def ls_oe (T : Nat → Nat) (e0 : Nat) (e : LsP) : LsP := if e.1 = 0 then (3, e.2.1 + e0, e.2.2) else if e.1 = 1 then (2, e.2.1 + e0, 0) else if e.1 = 2 then (4, e.2.1 - 1 + e0, 0) else if e.1 = 13 then (if T e.2.1 = 15 then 6 else 5, e.2.1 + e0, 0) else (7, e.2.1 + e0, 0)
/-- frames as the reference keeps them -/
def ls_ct (b e0 : Nat) (Q : LsF → List LsF → List Nat → Nat → Prop) (c0 : List LsP) : List LsF → List Nat → List LsP → Prop
  | [], _, cs => cs = c0
  | f :: r, L, cs => if f.1 = 1 then ∃ cs', cs = (1, b + f.2.2.2.length, 0) :: cs' ∧ ls_ct b e0 Q c0 r f.2.2.2 cs' else if f.1 = 5 then ∃ q cs', cs = (2, f.2.2.1 + e0, q + e0) :: cs' ∧ Q f r L q ∧ ls_ct b e0 Q c0 r L cs' else ls_ct b e0 Q c0 r L cs
/-- the span of a loop in the reading -/
def ls_lp (C : Nat → LsC) (ta tz t : Nat) (f : LsF) (r : List LsF) (L : List Nat) (q : Nat) : Prop :=
  ∃ s t2 k0 es2 k2, ta ≤ s ∧ s < t ∧ t ≤ t2 ∧ t2 < tz ∧ (f.1 = 5 ∧ f.2.2.2 = []) ∧ (C s).2.2.2.2.1 = r ∧ C (s + 1) = (4, f.2.2.1 + 2, f.2.2.1 + 2, [], (8, f.2.1, f.2.2.1, []) :: r, L, k0) ∧ k0.1 = f.2.1 + 1 ∧ C t2 = (3, q, es2, [], f :: r, L, k2) ∧ ∀ u, s < u → u ≤ t2 → r.length < ((C u).2.2.2.2.1).length
/-- a variable of both: cell c of the component, place p of the reference -/
def ls_sm (dc ck : Nat → Int32) (cv : Nat → Int64) (vd vk : Nat → Int32) (vv : Nat → Int64) (c p : Nat) : Prop :=
  ∃ d k : Nat, d ≤ 5 ∧ k ≤ 4 ∧ dc c = nI d ∧ ck c = nI k ∧ vd p = nI d ∧ vk p = nI k ∧ vv p = cv c ∧ ls_wf k (cv c) ∧ (d = 5 ∨ k = d)
def ls_gl (dc ck : Nat → Int32) (cv : Nat → Int64) (vd vk : Nat → Int32) (vv : Nat → Int64) : Prop :=
  ∀ i, i < 16 → ls_sm dc ck cv vd vk vv i (80 + i) ∨ (dc i = -1 ∧ vd (80 + i) = -1)
section
variable {a : Nat → Int32} {b : Nat → Int64} {o j : Nat} {x : Int32} {y : Int64} {xs ys x0 y0 w : List LsV}
set_option maxHeartbeats 200000 in
theorem ls_stk_up : ∀ {xs : List LsV}, (j < o ∨ o + xs.length ≤ j) → ls_stk a b o xs → ls_stk (upd a j x) (vp_updL b j y) o xs
  | [], _, _ => trivial
  | z :: r, h, ⟨h1, h2, h3, h4⟩ => by
    rw [List.length_cons] at h
    exact ⟨(pk_un (by omega)).trans h1, (pk_uLn (by omega)).trans h2, h3, ls_stk_up (by omega) h4⟩
set_option maxHeartbeats 200000 in
theorem ls_stk_uk : ∀ {xs : List LsV}, (j < o ∨ o + xs.length ≤ j) → ls_stk a b o xs → ls_stk (upd a j x) b o xs
  | [], _, _ => trivial
  | z :: r, h, ⟨h1, h2, h3, h4⟩ => by
    rw [List.length_cons] at h
    exact ⟨(pk_un (by omega)).trans h1, h2, h3, ls_stk_uk (by omega) h4⟩
set_option maxHeartbeats 200000 in
theorem ls_stk_uv : ∀ {xs : List LsV}, (j < o ∨ o + xs.length ≤ j) → ls_stk a b o xs → ls_stk a (vp_updL b j y) o xs
  | [], _, _ => trivial
  | z :: r, h, ⟨h1, h2, h3, h4⟩ => by
    rw [List.length_cons] at h
    exact ⟨h1, (pk_uLn (by omega)).trans h2, h3, ls_stk_uv (by omega) h4⟩
set_option maxHeartbeats 200000 in
theorem ls_stk_push {k : Nat} (hw : ls_wf k y) (h : ls_stk a b o xs) : ls_stk (upd a (o + xs.length) (nI k)) (vp_updL b (o + xs.length) y) o ((k, y) :: xs) :=
  ⟨pk_us, pk_uLs, hw, ls_stk_up (by omega) h⟩
set_option maxHeartbeats 200000 in
theorem ls_stk_app : ∀ {w : List LsV}, ls_stk a b o (w ++ xs) → ls_stk a b o xs
  | [], h => h
  | _ :: r, h => ls_stk_app (w := r) h.2.2.2
set_option maxHeartbeats 200000 in
theorem ls_stk_get : ∀ {w : List LsV} {xs : List LsV} {i : Nat}, ls_stk a b o (w ++ xs) → i < w.length → ∃ z, w.reverse[i]? = some z ∧ a (o + xs.length + i) = nI z.1 ∧ b (o + xs.length + i) = z.2 ∧ ls_wf z.1 z.2
  | [], xs, i, _, hi => absurd hi (by simp)
  | z :: r, xs, i, h, hi => by
    obtain ⟨h1, h2, h3, h4⟩ := h
    rw [List.length_cons] at hi
    rcases Nat.lt_or_ge i r.length with q | q
    · obtain ⟨z', e1, e2⟩ := ls_stk_get h4 q
      refine ⟨z', ?_, e2⟩
      rw [List.reverse_cons, List.getElem?_append_left (by rw [List.length_reverse]; exact q)]
      exact e1
    · have : i = r.length := by omega
      subst this
      have h1' : a (o + (r ++ xs).length) = nI z.1 := h1
      have h2' : b (o + (r ++ xs).length) = z.2 := h2
      rw [List.length_append] at h1' h2'
      refine ⟨z, ?_, ?_, ?_, h3⟩
      · rw [List.reverse_cons, List.getElem?_append_right (by rw [List.length_reverse]; exact Nat.le_refl _), List.length_reverse, Nat.sub_self]
        rfl
      · rw [show o + xs.length + r.length = o + (r.length + xs.length) by omega]; exact h1'
      · rw [show o + xs.length + r.length = o + (r.length + xs.length) by omega]; exact h2'
end
section
variable {T : Nat → Nat} {D D' : Nat → Int32} {ac : Nat} {xs ys x0 y0 : List LsV}
set_option maxHeartbeats 200000 in
theorem ls_ro_len : ∀ {pe : List LsP} {xs ys : List LsV}, ls_ro T D ac pe xs ys x0 y0 → ys.length = y0.length + ls_ow T pe ∧ xs.length ≤ x0.length + ls_ow T pe ∧ x0.length ≤ xs.length
  | [], xs, ys, ⟨h1, h2⟩ => by subst h1 h2; exact ⟨rfl, Nat.le_refl _, Nat.le_refl _⟩
  | e :: r, xs, ys, ⟨w, xs', ys', h1, h2, h3, _, _, h6⟩ => by
    have := ls_ro_len h6
    subst h2
    have W : ls_ow T (e :: r) = ls_wt T e + ls_ow T r := rfl
    rw [W, List.length_append]
    split at h3
    · subst h3; omega
    · subst h3; rw [List.length_append]; omega
set_option maxHeartbeats 200000 in
theorem ls_ro_dc (h : ∀ c, c < 24 + 8 * ac → D c ≠ -1 → D' c = D c) : ∀ {pe : List LsP} {xs ys : List LsV}, (∀ e ∈ pe, e.1 = 2 → e.2.2 < 24) → ls_ro T D ac pe xs ys x0 y0 → ls_ro T D' ac pe xs ys x0 y0
  | [], xs, ys, _, g => g
  | e :: r, xs, ys, hp, ⟨w, xs', ys', h1, h2, h3, h4, h5, h6⟩ => by
    refine ⟨w, xs', ys', h1, h2, h3, h4, fun q v hv => ?_, ls_ro_dc h (fun x hx => hp x (List.mem_cons_of_mem _ hx)) h6⟩
    obtain ⟨d, d1, d2, d3⟩ := h5 q v hv
    have lt := hp e (List.mem_cons_self ..) q
    refine ⟨d, ?_, d2, d3⟩
    rw [h, d1]
    · unfold ls_cell; split <;> omega
    · rw [d1]; exact ls_nm1 (by omega)
end
section
variable {b e0 : Nat} {Q Q' : LsF → List LsF → List Nat → Nat → Prop} {c0 : List LsP}
set_option maxHeartbeats 200000 in
theorem ls_ct_mv : ∀ {fr : List LsF} {L : List Nat} {cs : List LsP}, (∀ f r L q, r.length < fr.length → Q f r L q → Q' f r L q) → ls_ct b e0 Q c0 fr L cs → ls_ct b e0 Q' c0 fr L cs
  | [], L, cs, _, h => h
  | f :: r, L, cs, hq, h => by
    have hq' : ∀ f r' L q, r'.length < r.length → Q f r' L q → Q' f r' L q := fun f r' L q g => hq f r' L q (by rw [List.length_cons]; omega)
    unfold ls_ct at h ⊢
    split
    · next f1 =>
      rw [if_pos f1] at h
      obtain ⟨cs', h1, h2⟩ := h
      exact ⟨cs', h1, ls_ct_mv hq' h2⟩
    · next f1 =>
      rw [if_neg f1] at h
      split
      · next f5 =>
        rw [if_pos f5] at h
        obtain ⟨q, cs', h1, h2, h3⟩ := h
        exact ⟨q, cs', h1, hq f r L q (by rw [List.length_cons]; omega) h2, ls_ct_mv hq' h3⟩
      · next f5 =>
        rw [if_neg f5] at h
        exact ls_ct_mv hq' h
set_option maxHeartbeats 200000 in
theorem ls_ct_len : ∀ {fr : List LsF} {L : List Nat} {cs : List LsP}, ls_ct b e0 Q c0 fr L cs → cs.length ≤ c0.length + ls_n1 fr + ls_n5 fr
  | [], L, cs, h => by
    have h' : cs = c0 := h
    subst h'
    show _ ≤ cs.length + 0 + 0
    omega
  | f :: r, L, cs, h => by
    have E1 : ls_n1 (f :: r) = (if f.1 = 1 then 1 else 0) + ls_n1 r := rfl
    have E5 : ls_n5 (f :: r) = (if f.1 = 5 ∨ f.1 = 8 then 1 else 0) + ls_n5 r := rfl
    unfold ls_ct at h
    rw [E1, E5]
    split at h
    · next f1 =>
      obtain ⟨cs', h1, h2⟩ := h
      have := ls_ct_len h2
      rw [if_pos f1]
      subst h1
      rw [List.length_cons]
      omega
    · split at h
      · next f5 =>
        obtain ⟨q, cs', h1, h2, h3⟩ := h
        have := ls_ct_len h3
        rw [if_pos (Or.inl f5)]
        subst h1
        rw [List.length_cons]
        omega
      · have := ls_ct_len h
        omega
set_option maxHeartbeats 200000 in
theorem ls_ct_x {f : LsF} {r : List LsF} {L : List Nat} {cs : List LsP} (h1 : f.1 ≠ 1) (h5 : f.1 ≠ 5) : ls_ct b e0 Q c0 (f :: r) L cs ↔ ls_ct b e0 Q c0 r L cs := by
  show (if f.1 = 1 then _ else if f.1 = 5 then _ else _) ↔ _
  rw [if_neg h1, if_neg h5]
set_option maxHeartbeats 200000 in
theorem ls_ct_1 {a sp : Nat} {l : List Nat} {r : List LsF} {L : List Nat} {cs : List LsP} : ls_ct b e0 Q c0 ((1, a, sp, l) :: r) L cs ↔ ∃ cs', cs = (1, b + l.length, 0) :: cs' ∧ ls_ct b e0 Q c0 r l cs' := by
  show (if (1 : Nat) = 1 then _ else _) ↔ _
  rw [if_pos rfl]
set_option maxHeartbeats 200000 in
theorem ls_ct_5 {a sp : Nat} {l : List Nat} {r : List LsF} {L : List Nat} {cs : List LsP} : ls_ct b e0 Q c0 ((5, a, sp, l) :: r) L cs ↔ ∃ q cs', cs = (2, sp + e0, q + e0) :: cs' ∧ Q (5, a, sp, l) r L q ∧ ls_ct b e0 Q c0 r L cs' := by
  show (if (5 : Nat) = 1 then _ else if (5 : Nat) = 5 then _ else _) ↔ _
  rw [if_neg (by decide), if_pos rfl]
end
section
variable {dc ck : Nat → Int32} {cv : Nat → Int64} {vd vk : Nat → Int32} {vv : Nat → Int64} {c p c' p' : Nat} {i : Nat} {z : Int32} {v : Int64}
set_option maxHeartbeats 200000 in
theorem ls_sm_x {a : Int32} {j : Nat} (h : c' ≠ j) (g : ls_sm dc ck cv vd vk vv c' p') : ls_sm dc (upd ck j a) (vp_updL cv j v) vd vk vv c' p' := by
  obtain ⟨d, k, h1, h2, h3, h4, h5, h6, h7, h8, h9⟩ := g
  have e : vp_updL cv j v c' = cv c' := pk_uLn h
  exact ⟨d, k, h1, h2, h3, (pk_un h).trans h4, h5, h6, h7.trans e.symm, by rw [e]; exact h8, h9⟩
set_option maxHeartbeats 200000 in
theorem ls_sm_n {a b e : Int32} (h : c' ≠ c) (h' : p' ≠ p) (g : ls_sm dc ck cv vd vk vv c' p') : ls_sm (upd dc c a) (upd ck c b) (vp_updL cv c v) (upd vd p a) (upd vk p e) (vp_updL vv p v) c' p' := by
  obtain ⟨d, k, h1, h2, h3, h4, h5, h6, h7, h8, h9⟩ := g
  have e1 : vp_updL cv c v c' = cv c' := pk_uLn h
  have e2 : vp_updL vv p v p' = vv p' := pk_uLn h'
  exact ⟨d, k, h1, h2, (pk_un h).trans h3, (pk_un h).trans h4, (pk_un h').trans h5, (pk_un h').trans h6, by rw [e1, e2]; exact h7, by rw [e1]; exact h8, h9⟩
set_option maxHeartbeats 200000 in
theorem ls_sm_s {d k : Nat} (h1 : d ≤ 5) (h2 : k ≤ 4) (hw : ls_wf k v) (h9 : d = 5 ∨ k = d) : ls_sm (upd dc c (nI d)) (upd ck c (nI k)) (vp_updL cv c v) (upd vd p (nI d)) (upd vk p (nI k)) (vp_updL vv p v) c p := by
  have e1 : vp_updL cv c v c = v := pk_uLs
  have e2 : vp_updL vv p v p = v := pk_uLs
  exact ⟨d, k, h1, h2, pk_us, pk_us, pk_us, pk_us, by rw [e1, e2], by rw [e1]; exact hw, h9⟩
end
