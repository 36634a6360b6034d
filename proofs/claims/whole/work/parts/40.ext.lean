/-! The code at the end of the reading: what a step emits stays -/
section
variable {T : Nat → Nat} {V : Nat → Int32} {n : Nat} {pos es : Nat} {pe : List LsP} {fr : List LsF} {L : List Nat} {k : LsK} {c c' : LsC}
def ls_kk7 (c : LsC) : LsK := c.2.2.2.2.2.2
set_option maxHeartbeats 200000 in
theorem ls_ext_r0 (hr : ls_r0 T pos es pe fr L k = .ok c') : ls_kk7 c' = k := by
  unfold ls_r0 at hr
  repeat' split at hr
  all_goals (injection hr with hr; subst hr; rfl)
set_option maxHeartbeats 200000 in
theorem ls_ext_r1 (hr : ls_r1 T pos es pe fr L k = .ok c') : ls_ext k (ls_kk7 c') := by
  unfold ls_r1 ls_hdr at hr
  dsimp only at hr
  repeat' split at hr
  all_goals first | cases hr; done | (injection hr with hr; subst hr; first | exact ls_ext_em .. | exact ls_ext_t (ls_ext_em ..) (ls_ext_em ..))
set_option maxHeartbeats 200000 in
theorem ls_ext_r2 (hr : ls_r2 T pos es pe fr L k = .ok c') : ls_ext k (ls_kk7 c') := by
  unfold ls_r2 ls_var at hr
  dsimp only at hr
  repeat' split at hr
  all_goals first | cases hr; done | (injection hr with hr; subst hr; first | exact ls_ext_em .. | exact ls_ext_t (ls_ext_em ..) (ls_ext_em ..))
set_option maxHeartbeats 200000 in
theorem ls_ext_r3 (hr : ls_r3 T pos es pe fr L k = .ok c') : ls_ext k (ls_kk7 c') := by
  unfold ls_r3 at hr
  repeat' split at hr
  all_goals (injection hr with hr; subst hr; first | exact ls_ext_r _ | exact ls_ext_aim .. | exact ls_ext_t (ls_ext_em ..) (ls_ext_aim ..) | exact ls_ext_t (ls_ext_em ..) (ls_ext_ex ..))
set_option maxHeartbeats 200000 in
theorem ls_ext_r4 (hr : ls_r4 T V pos es pe fr L k = .ok c') : ls_ext k (ls_kk7 c') := by
  unfold ls_r4 ls_flt at hr
  dsimp only at hr
  split at hr
  · repeat' split at hr
    all_goals (injection hr with hr; subst hr; first | exact ls_ext_r _ | exact ls_ext_em ..)
  split at hr
  · injection hr with hr; subst hr; exact ls_ext_em ..
  split at hr
  · injection hr with hr; subst hr; exact ls_ext_em ..
  split at hr
  · injection hr with hr; subst hr; exact ls_ext_em ..
  split at hr
  · injection hr with hr; subst hr; exact ls_ext_em ..
  split at hr
  · repeat' split at hr
    all_goals first | cases hr; done | (injection hr with hr; subst hr; exact ls_ext_r _)
  split at hr
  · injection hr with hr; subst hr; exact ls_ext_r _
  · cases hr
set_option maxHeartbeats 200000 in
theorem ls_ext_e (hr : ls_end T pos es fr L k = .ok c') : ls_ext k (ls_kk7 c') := by
  unfold ls_end at hr
  repeat' split at hr
  all_goals first | cases hr; done | (injection hr with hr; subst hr; exact ls_ext_em ..)
set_option maxHeartbeats 200000 in
theorem ls_ext_r5 (hr : ls_r5 T pos es pe fr L k = .ok c') : ls_ext k (ls_kk7 c') := by
  unfold ls_r5 at hr
  dsimp only at hr
  have B : ls_ext k (if T pos = 41 ∨ T pos = 42 then ls_em k 7 0 (nI (T pos - 41)) (nI pos) else k) := by
    split
    · exact ls_ext_em ..
    · exact ls_ext_r k
  split at hr
  · split at hr
    · injection hr with hr; subst hr; exact B
    · exact ls_ext_e hr
  split at hr
  · injection hr with hr; subst hr; exact ls_red_ext
  split at hr
  · injection hr with hr; subst hr; exact B
  split at hr
  · split at hr
    · injection hr with hr; subst hr; exact ls_ext_em ..
    · injection hr with hr; subst hr; exact ls_ext_r _
  unfold ls_flt at hr
  repeat' split at hr
  all_goals first | cases hr; done | (injection hr with hr; subst hr; exact ls_ext_r _)
set_option maxHeartbeats 200000 in
theorem ls_ext_rs (hr : ls_rs T V c = .ok c') : ls_ext (ls_kk7 c) (ls_kk7 c') := by
  obtain ⟨st, pos, es, pe, fr, L, k⟩ := c
  unfold ls_rs at hr
  dsimp only at hr
  split at hr
  · rw [ls_ext_r0 hr]; exact ls_ext_r _
  split at hr
  · exact ls_ext_r1 hr
  split at hr
  · exact ls_ext_r2 hr
  split at hr
  · exact ls_ext_r3 hr
  split at hr
  · exact ls_ext_r4 hr
  · exact ls_ext_r5 hr
/-- the reading from c ends well, with the code kF -/
def ls_fin (T : Nat → Nat) (V : Nat → Int32) (c : LsC) (kF : LsK) : Prop := ∃ m d, ls_run T V m c = .ok d ∧ d.1 = 6 ∧ kF = ls_em (ls_kk7 d) 0 0 0 (nI d.2.1)
set_option maxHeartbeats 200000 in
theorem ls_fin_step {kF : LsK} (h : ls_fin T V c kF) (h6 : c.1 ≠ 6) : ∃ c', ls_rs T V c = .ok c' ∧ ls_fin T V c' kF := by
  obtain ⟨m, d, h1, h2, h3⟩ := h
  cases m with
  | zero =>
    have h1' : Except.ok c = Except.ok (ε := Nat) d := h1
    injection h1' with h1'
    rw [h1'] at h6
    exact absurd h2 h6
  | succ m =>
    unfold ls_run at h1
    rw [if_neg h6] at h1
    cases hr : ls_rs T V c with
    | error e => rw [hr] at h1; cases h1
    | ok c' =>
      rw [hr] at h1
      exact ⟨c', rfl, m, d, h1, h2, h3⟩
set_option maxHeartbeats 200000 in
theorem ls_fin_ext {kF : LsK} (h : ls_fin T V c kF) : ls_ext (ls_kk7 c) kF ∧ (ls_kk7 c).1 < kF.1 := by
  obtain ⟨m, d, h1, h2, h3⟩ := h
  have key : ∀ m c, ls_run T V m c = .ok d → ls_ext (ls_kk7 c) (ls_kk7 d) := by
    intro m
    induction m with
    | zero =>
      intro c h
      have h' : Except.ok c = Except.ok (ε := Nat) d := h
      injection h' with h'
      rw [h']; exact ls_ext_r _
    | succ m ih =>
      intro c h
      unfold ls_run at h
      split at h
      · injection h with h
        rw [h]; exact ls_ext_r _
      · split at h
        · cases h
        · next c' hr => exact ls_ext_t (ls_ext_rs hr) (ih c' h)
  have e := key m c h1
  rw [h3]
  refine ⟨ls_ext_t e (ls_ext_em ..), ?_⟩
  show (ls_kk7 c).1 < (ls_kk7 d).1 + 1
  have := e.1
  omega
end
/-! jumps: which indices wait for their aim -/
abbrev ls_lg (e : LsP) : Prop := e.1 = 3 ∨ e.1 = 4
def ls_pd (k : LsK) : Nat → List LsP → Prop
  | _, [] => True
  | b, e :: r => if ls_lg e then e.2.2 < b ∧ k.2.1 e.2.2 = 7 ∧ ls_pd k e.2.2 r else ls_pd k b r
def ls_fd (k : LsK) : Nat → List LsF → Prop
  | _, [] => True
  | b, f :: r => if f.1 = 1 then ls_fd k b r else f.2.1 < b ∧ (f.1 = 3 → k.2.1 f.2.1 = 15) ∧ (f.1 = 4 → k.2.1 f.2.1 = 14) ∧ (f.1 = 2 → k.2.1 f.2.1 = 21) ∧ (f.1 = 5 → f.2.1 + 2 ≤ k.1) ∧ ls_fd k f.2.1 r
def ls_J (c : LsC) : Prop := match c with
  | (_, _, _, pe, fr, _, k) => ls_pd k k.1 pe ∧ ls_fd k k.1 fr
/-- the argument of instruction i will not change any more -/
def ls_set (c : LsC) (i : Nat) : Prop := match c with
  | (_, _, _, pe, fr, _, k) => i < k.1 ∧ (∀ e ∈ pe, ls_lg e → e.2.2 ≠ i) ∧ (∀ f ∈ fr, f.1 = 2 ∨ f.1 = 3 ∨ f.1 = 4 → f.2.1 ≠ i) ∧ (k.2.1 i = 14 ∨ k.2.1 i = 15 → k.2.2.1 i ≠ 0)
set_option maxHeartbeats 200000 in
theorem ls_pd_ext {k k' : LsK} (h : ls_ext k k') : ∀ {b b' : Nat} {pe : List LsP}, b ≤ k.1 → b ≤ b' → ls_pd k b pe → ls_pd k' b' pe
  | _, _, [], _, _, _ => trivial
  | b, b', e :: r, hb, hbb, g => by
    have g' : (if ls_lg e then e.2.2 < b ∧ k.2.1 e.2.2 = 7 ∧ ls_pd k e.2.2 r else ls_pd k b r) := g
    show (if ls_lg e then e.2.2 < b' ∧ k'.2.1 e.2.2 = 7 ∧ ls_pd k' e.2.2 r else ls_pd k' b' r)
    split at g'
    · next q =>
      rw [if_pos q]
      exact ⟨by omega, by rw [(h.2 e.2.2 (by omega)).2.2]; exact g'.2.1, ls_pd_ext h (by omega) (Nat.le_refl _) g'.2.2⟩
    · next q =>
      rw [if_neg q]
      exact ls_pd_ext h hb hbb g'
set_option maxHeartbeats 200000 in
theorem ls_fd_ext {k k' : LsK} (h : ls_ext k k') : ∀ {b b' : Nat} {fr : List LsF}, b ≤ k.1 → b ≤ b' → ls_fd k b fr → ls_fd k' b' fr
  | _, _, [], _, _, _ => trivial
  | b, b', f :: r, hb, hbb, g => by
    have g' : (if f.1 = 1 then ls_fd k b r else f.2.1 < b ∧ (f.1 = 3 → k.2.1 f.2.1 = 15) ∧ (f.1 = 4 → k.2.1 f.2.1 = 14) ∧ (f.1 = 2 → k.2.1 f.2.1 = 21) ∧ (f.1 = 5 → f.2.1 + 2 ≤ k.1) ∧ ls_fd k f.2.1 r) := g
    show (if f.1 = 1 then ls_fd k' b' r else f.2.1 < b' ∧ (f.1 = 3 → k'.2.1 f.2.1 = 15) ∧ (f.1 = 4 → k'.2.1 f.2.1 = 14) ∧ (f.1 = 2 → k'.2.1 f.2.1 = 21) ∧ (f.1 = 5 → f.2.1 + 2 ≤ k'.1) ∧ ls_fd k' f.2.1 r)
    split at g'
    · next q =>
      rw [if_pos q]
      exact ls_fd_ext h hb hbb g'
    · next q =>
      rw [if_neg q]
      obtain ⟨g1, g2, g3, g4, g5, g6⟩ := g'
      have e := (h.2 f.2.1 (by omega)).2.2
      exact ⟨by omega, fun q => by rw [e]; exact g2 q, fun q => by rw [e]; exact g3 q, fun q => by rw [e]; exact g4 q, fun q => by have := g5 q; have := h.1; omega, ls_fd_ext h (by omega) (Nat.le_refl _) g6⟩
