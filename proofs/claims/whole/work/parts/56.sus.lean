/-! Calls that wait -/
/-- a text or a method that runs: tokens, values, reading, code, sizes, how far it is moved in both, its span -/
abbrev LsU := (Nat → Nat) × (Nat → Int32) × (Nat → LsC) × LsK × Nat × Nat × Nat × Nat × Nat × Nat
abbrev LsA := LsU × Nat
/-- it stands in the arrays -/
def ls_UA (co ca ck cp tk : Nat → Int32) (tv : Nat → Int64) (tp : Nat → Int32) (U : LsU) : Prop := match U with
  | (T, V, C, kF, n, N, d, e, ta, tz) => ls_tl T V n C N kF ∧ ((C 0).2.2.2.2.1 = [] ∧ (C ta).1 = 0) ∧ (ta ≤ tz ∧ tz ≤ N) ∧
    (∀ i, (ls_kk7 (C ta)).1 ≤ i → i ≤ (ls_kk7 (C tz)).1 → d ≤ i ∧ i - d < 761 ∧ co (i - d) = kF.2.1 i ∧ ca (i - d) = kF.2.2.1 i ∧ ck (i - d) = kF.2.2.2.1 i ∧ cp (i - d) = kF.2.2.2.2 i) ∧
    ls_tks T e (C ta).2.1 (C tz).2.1 tk ∧ ∀ p, (C ta).2.1 ≤ p → p < (C tz).2.1 → (70 ≤ T p → tv (p + e) = (V p).toInt64) ∧ ls_pl tp (p + e) = nI p
/-- the text, or a method of kind q -/
def ls_UK (U : LsU) (as : List LsA) (yn : Nat) (kd : Option Nat) : Prop := match U with
  | (_, _, C, _, n, N, d, e, ta, tz) => (as = [] → (d = 0 ∧ e = 0 ∧ ta = 0 ∧ tz = N ∧ yn = n) ∧ kd = none) ∧ (as ≠ [] → ∃ q mo pb es L k, kd = some q ∧ q ≤ 5 ∧ 140 ≤ (C ta).2.1 + e ∧ 2 ≤ ta ∧ C tz = (3, (C tz).2.1, es, [], [(2, mo, pb, [q])], L, k) ∧ ∀ u, ta ≤ u → u < tz → ∃ f S, (C u).2.2.2.2.1 = f :: S ++ [(2, mo, pb, [q])])
/-- whether the statement was the part of another -/
def ls_in (T : Nat → Nat) (D : Nat → Int32) (ac : Nat) (L : List Nat) (f : LsF) (r : List LsF) (ins : Nat) : Prop := ins ≤ 1 ∧ (f.1 = 6 → (ins = 1 ↔ (ls_fk r = 3 ∨ ls_fk r = 4))) ∧ (f.1 = 11 → r ≠ [] → D (15 + 8 * ac + L.length) = nI (T f.2.2.1))
def ls_sl : List (List Nat) → Nat
  | [] => 0
  | L :: r => L.length + ls_sl r
/-- the variables of all levels, the innermost first -/
def ls_lev (F : Nat → Nat → Prop) (vn : Nat → Int32) : List (List Nat) → Prop
  | [] => True
  | L :: r => ls_LN vn (ls_sl r) L ∧ (∀ i, i < L.length → F (16 + 8 * r.length + i) (ls_sl r + i)) ∧ ls_lev F vn r
/-- callers, the innermost first -/
def ls_sus (yn : Nat) (cr mk D : Nat → Int32) (A : LsU → Prop) : List LsA → Option Nat → List (List Nat) → List LsV → List LsV → List LsP → List LsP → Prop
  | [], kd, Ls, xs, ys, os, cs => kd = none ∧ Ls = [] ∧ xs = [] ∧ ys = [] ∧ os = [] ∧ cs = []
  | (U, t) :: as, kd, Ls, xs, ys, os, cs => A U ∧ match U with
    | (T, V, C, kF, n, N, d, e, ta, tz) => ∃ pos es pe f r L k q m ins Ls' xs' ys' os' c1 cs', ls_UK U as yn (ls_mkd (f :: r)) ∧ (ta ≤ t ∧ t ≤ tz) ∧ C t = (5, pos, es, pe, f :: r, L, k) ∧ kd = some q ∧ m < 8 ∧ mk m = nI q ∧ cr as.length = nI (k.1 - d) ∧ Ls = L :: Ls' ∧ Ls'.length = as.length ∧
      ls_ro T D as.length pe xs ys xs' ys' ∧ os = pe.map (ls_oe T e) ++ (1, f.2.2.1 + e, ins) :: os' ∧ ls_in T D as.length L f r ins ∧ cs = (3, pos + e, m * 128 + ls_sl Ls') :: c1 ∧ ls_ct (ls_sl Ls') e (ls_lp C ta tz t) cs' (f :: r) L c1 ∧ ls_sus yn cr mk D A as (ls_mkd (f :: r)) Ls' xs' ys' os' cs'
/-- loops that are begun -/
def ls_l5 : List LsF → Nat
  | [] => 0
  | f :: r => (if f.1 = 5 then 1 else 0) + ls_l5 r
def ls_a5 : List LsA → Nat
  | [] => 0
  | ((_, _, C, _, _, _, _, _, _, _), t) :: as => ls_l5 (C t).2.2.2.2.1 + ls_a5 as
section
variable {yn : Nat} {cr mk D D' cr' : Nat → Int32} {A A' : LsU → Prop}
set_option maxHeartbeats 200000 in
theorem ls_mkd_c {f : LsF} {r : List LsF} (h : f.1 ≠ 2) : ls_mkd (f :: r) = ls_mkd r := by
  cases r with
  | nil =>
    show (if f.1 = 2 then _ else none) = none
    rw [if_neg h]
  | cons g r => rfl
set_option maxHeartbeats 200000 in
theorem ls_ch_24 {T : Nat → Nat} {L : List Nat} (hL : L.length ≤ 8) (hx : ∀ x ∈ L, x < 16) : ∀ {pe : List LsP}, ls_ch T L pe → ∀ e ∈ pe, e.1 = 2 → e.2.2 < 24
  | [], _, e, he, _ => absurd he (by simp)
  | x :: r, h, e, he, e2 => by
    rcases List.mem_cons.mp he with rfl | he
    · obtain ⟨_, h2, h3⟩ := h.2.1.2.2.1 e2
      rw [h3]
      have : ∀ (M : List Nat) (nm : Nat), nm < 16 → ls_addr M nm < 16 + M.length ∨ ls_addr M nm < 16 := by
        intro M
        induction M with
        | nil => intro nm hn; right; exact hn
        | cons y r ih =>
          intro nm hn
          show (if y = nm then _ else _) < _ ∨ (if y = nm then _ else _) < _
          rw [List.length_cons]
          split
          · left; omega
          · rcases ih nm hn with g | g
            · left; omega
            · right; exact g
      have := this L (T (e.2.1 - 1) - 54) (by have := h2.2; omega)
      omega
    · exact ls_ch_24 hL hx h.2.2 e he e2
set_option maxHeartbeats 200000 in
theorem ls_tl_ch {T : Nat → Nat} {V : Nat → Int32} {n : Nat} {C : Nat → LsC} {N : Nat} {kF : LsK} {t st pos es : Nat} {pe : List LsP} {fr : List LsF} {L : List Nat} {k : LsK} (h : ls_tl T V n C N kF) (ht : t ≤ N) (e : C t = (st, pos, es, pe, fr, L, k)) (hs : st = 4 ∨ st = 5) : ls_ch T L pe ∧ (∀ e ∈ pe, e.1 = 2 → e.2.2 < 24) ∧ ls_ow T pe + (if st = 5 then 1 else 0) ≤ 32 ∧ pe.length ≤ 32 ∧ L.length ≤ 8 ∧ (∀ x ∈ L, x < 16) ∧ es ≤ pos ∧ pos ≤ es + 32 ∧ pos ≤ n := by
  obtain ⟨_, hI, _, hH, y, ha⟩ := h.2.2.2.2 t ht
  rw [e] at hI hH ha
  obtain ⟨i1, i2, i3, _, _, _, i7⟩ := hI
  rw [if_pos hs] at i7
  obtain ⟨h1, h2⟩ := hH hs
  have P : pos ≤ es + 32 := by
    obtain ⟨nd, c, o, fl, ct, fu, nn⟩ := y
    obtain ⟨_, ha⟩ := ha
    dsimp only at ha
    rw [if_pos hs] at ha
    exact ha.1
  obtain ⟨_, i8, i9, _⟩ := i7
  exact ⟨h1, ls_ch_24 i2 i3 h1, by omega, by omega, i2, i3, i8, P, i1⟩
set_option maxHeartbeats 200000 in
theorem ls_in_dc {T : Nat → Nat} {ac ins : Nat} {L : List Nat} {f : LsF} {r : List LsF} (hd : ∀ c, c < 24 + 8 * ac → D c ≠ -1 → D' c = D c) (hL : L.length ≤ 8) (hT : ∀ p, T p ≤ 72) (h : ls_in T D ac L f r ins) : ls_in T D' ac L f r ins := by
  obtain ⟨h1, h2, h3⟩ := h
  refine ⟨h1, h2, fun a b => ?_⟩
  have q := h3 a b
  rw [hd _ (by omega) (by rw [q]; exact ls_nm1 (by have := hT f.2.2.1; omega)), q]
set_option maxHeartbeats 200000 in
theorem ls_tl_72 {T : Nat → Nat} {V : Nat → Int32} {n : Nat} {C : Nat → LsC} {N : Nat} {kF : LsK} (h : ls_tl T V n C N kF) (p : Nat) : T p ≤ 72 := by
  rcases Nat.lt_or_ge p n with q | q
  · have := h.1.2.1 p q; omega
  · rw [h.1.2.2 p q]; exact Nat.le_refl _
set_option maxHeartbeats 200000 in
theorem ls_sus_dc : ∀ {as : List LsA} {kd Ls xs ys os cs}, (∀ c, c < 16 + 8 * as.length → D c ≠ -1 → D' c = D c) → (∀ U, A U → ∃ co ca ck cp tk tv tp, ls_UA co ca ck cp tk tv tp U) → ls_sus yn cr mk D A as kd Ls xs ys os cs → ls_sus yn cr mk D' A as kd Ls xs ys os cs
  | [], kd, Ls, xs, ys, os, cs, _, _, h => h
  | (U, t) :: as, kd, Ls, xs, ys, os, cs, hd, hA, h => by
    obtain ⟨T, V, C, kF, n, N, d, e, ta, tz⟩ := U
    rw [List.length_cons] at hd
    obtain ⟨ha, pos, es, pe, f, r, L, k, q, m, ins, Ls', xs', ys', os', c1, cs', h1, h2, h3, h4, h5, h6, h7, h8, h9, h10, h11, h12, h13, h14, h15⟩ := h
    refine ⟨ha, pos, es, pe, f, r, L, k, q, m, ins, Ls', xs', ys', os', c1, cs', h1, h2, h3, h4, h5, h6, h7, h8, h9, ?_, h11, ?_, h13, h14, ls_sus_dc (fun c hc => hd c (by omega)) hA h15⟩
    all_goals obtain ⟨co, ca, ck, cp, tk, tv, tp, g1, _, g3, _⟩ := hA _ ha
    all_goals have X := ls_tl_ch g1 (by omega) h3 (Or.inr rfl)
    · exact ls_ro_dc (fun c hc => hd c (by omega)) X.2.1 h10
    · exact ls_in_dc (fun c hc => hd c (by omega)) X.2.2.2.2.1 (ls_tl_72 g1) h12
set_option maxHeartbeats 200000 in
theorem ls_sus_len : ∀ {as : List LsA} {kd Ls xs ys os cs}, (∀ U, A U → ∃ co ca ck cp tk tv tp, ls_UA co ca ck cp tk tv tp U) → ls_sus yn cr mk D A as kd Ls xs ys os cs → xs.length ≤ 32 * as.length ∧ ys.length ≤ 32 * as.length ∧ os.length ≤ 33 * as.length ∧ cs.length ≤ 71 * as.length ∧ ls_sl Ls ≤ 8 * as.length ∧ Ls.length = as.length
  | [], kd, Ls, xs, ys, os, cs, _, h => by
    obtain ⟨_, h1, h2, h3, h4, h5⟩ := h
    subst h1 h2 h3 h4 h5
    exact ⟨Nat.le_refl _, Nat.le_refl _, Nat.le_refl _, Nat.le_refl _, Nat.le_refl _, rfl⟩
  | (U, t) :: as, kd, Ls, xs, ys, os, cs, hA, h => by
    obtain ⟨T, V, C, kF, n, N, d, e, ta, tz⟩ := U
    obtain ⟨ha, pos, es, pe, f, r, L, k, q, m, ins, Ls', xs', ys', os', c1, cs', h1, h2, h3, h4, h5, h6, h7, h8, h9, h10, h11, h12, h13, h14, h15⟩ := h
    obtain ⟨co, ca, ck, cp, tk, tv, tp, g1, g2, g3, _⟩ := hA _ ha
    have X := ls_tl_ch g1 (by omega) h3 (Or.inr rfl)
    obtain ⟨r1, r2, r3⟩ := ls_ro_len h10
    obtain ⟨s1, s2, s3, s4, s5, s6⟩ := ls_sus_len hA h15
    have X3 := X.2.2.1
    rw [if_pos rfl] at X3
    have X4 := X.2.2.2.1
    have X5 := X.2.2.2.2.1
    have c := ls_ct_len h14
    have n15 := ls_n15 g1 g2.1 (show t ≤ N by omega)
    rw [h3] at n15
    dsimp only at n15
    subst h8 h11 h13
    have SL : ls_sl (L :: Ls') = L.length + ls_sl Ls' := rfl
    rw [SL]
    simp only [List.length_cons, List.length_append, List.length_map]
    omega
set_option maxHeartbeats 200000 in
theorem ls_lev_mono {F F' : Nat → Nat → Prop} {vn vn' : Nat → Int32} : ∀ {Ls : List (List Nat)}, (∀ c p, c < 16 + 8 * Ls.length + 0 → 16 ≤ c → p < ls_sl Ls → F c p → F' c p) → (∀ L ∈ Ls, L.length ≤ 8) → (∀ p, p < ls_sl Ls → vn' p = vn p) → ls_lev F vn Ls → ls_lev F' vn' Ls
  | [], _, _, _, _ => trivial
  | L :: r, hF, h8, hv, ⟨h1, h2, h3⟩ => by
    have l8 := h8 L (List.mem_cons_self ..)
    have SL : ls_sl (L :: r) = L.length + ls_sl r := rfl
    rw [SL] at hF hv
    rw [List.length_cons] at hF
    refine ⟨?_, fun i hi => hF _ _ (by omega) (by omega) (by omega) (h2 i hi), ls_lev_mono (fun c p hc h16 hp => hF c p (by omega) h16 (by omega)) (fun M hM => h8 M (List.mem_cons_of_mem _ hM)) (fun p hp => hv p (by omega)) h3⟩
    have : ∀ (M : List Nat) (b : Nat), (∀ p, p < b + M.length → vn' p = vn p) → ls_LN vn b M → ls_LN vn' b M := by
      intro M
      induction M with
      | nil => intro b _ _; trivial
      | cons x M ih =>
        intro b hb hm
        rw [List.length_cons] at hb
        exact ⟨(hb _ (by omega)).trans hm.1, ih b (fun p hp => hb p (by omega)) hm.2⟩
    exact this L _ (fun p hp => hv p (by omega)) h1
end
