section
variable {T : Nat → Nat} {V : Nat → Int32} {n : Nat} {pos es : Nat} {pe pe' : List LsP} {fr fr' : List LsF} {L L' : List Nat} {k k' : LsK} {c c' : LsC} {i : Nat}
def ls_mv (k k' : LsK) (i : Nat) : Prop := k.1 ≤ k'.1 ∧ k'.2.1 i = k.2.1 i ∧ k'.2.2.1 i = k.2.2.1 i
set_option maxHeartbeats 200000 in
theorem ls_mv_r : ls_mv k k i := ⟨Nat.le_refl _, rfl, rfl⟩
set_option maxHeartbeats 200000 in
theorem ls_mv_t {k2 : LsK} (h : ls_mv k k' i) (g : ls_mv k' k2 i) : ls_mv k k2 i := ⟨Nat.le_trans h.1 g.1, g.2.1.trans h.2.1, g.2.2.trans h.2.2⟩
set_option maxHeartbeats 200000 in
theorem ls_mv_em {o a d p : Int32} (h : i < k.1) : ls_mv k (ls_em k o a d p) i := ⟨Nat.le_succ _, pk_un (by omega), pk_un (by omega)⟩
set_option maxHeartbeats 200000 in
theorem ls_mv_em2 {o a d p o2 a2 d2 p2 : Int32} (h : i < k.1) : ls_mv k (ls_em (ls_em k o a d p) o2 a2 d2 p2) i := ls_mv_t (ls_mv_em h) (ls_mv_em (Nat.lt_succ_of_lt h))
set_option maxHeartbeats 200000 in
theorem ls_mv_aim {j : Nat} (h : i ≠ j) : ls_mv k (ls_aim k j) i := ⟨Nat.le_refl _, rfl, pk_un h⟩
set_option maxHeartbeats 200000 in
theorem ls_mv_ex {j : Nat} (h : k.2.1 i = 14 ∨ k.2.1 i = 15 → k.2.2.1 i ≠ 0) : ls_mv k (ls_exits k j) i := by
  refine ⟨Nat.le_refl _, rfl, ?_⟩
  show (if j ≤ i ∧ _ then _ else _) = _
  rw [if_neg]
  intro hh
  exact h hh.2.2.1 hh.2.2.2
/-- what a step owes of the jumps -/
def ls_js (c c' : LsC) : Prop := ls_J c' ∧ ∀ i, ls_set c i → ls_set c' i ∧ (ls_kk7 c').2.2.1 i = (ls_kk7 c).2.2.1 i
set_option maxHeartbeats 200000 in
theorem ls_js_mk {st st' pos' es' : Nat} (hp : ls_pd k' k'.1 pe') (hf : ls_fd k' k'.1 fr') (hm : ∀ i, ls_set (st, pos, es, pe, fr, L, k) i → ls_mv k k' i) (h1 : ∀ e ∈ pe', ls_lg e → e ∈ pe ∨ k.1 ≤ e.2.2) (h2 : ∀ f ∈ fr', f.1 = 2 ∨ f.1 = 3 ∨ f.1 = 4 → f ∈ fr ∨ k.1 ≤ f.2.1) : ls_js (st, pos, es, pe, fr, L, k) (st', pos', es', pe', fr', L', k') := by
  refine ⟨⟨hp, hf⟩, fun i hs => ?_⟩
  have m := hm i hs
  obtain ⟨s1, s2, s3, s4⟩ := hs
  obtain ⟨m1, m2, m3⟩ := m
  refine ⟨⟨by omega, fun e he hl => ?_, fun f hf hk => ?_, fun h => ?_⟩, m3⟩
  · rcases h1 e he hl with g | g
    · exact s2 e g hl
    · omega
  · rcases h2 f hf hk with g | g
    · exact s3 f g hk
    · omega
  · rw [m2] at h
    rw [m3]
    exact s4 h
set_option maxHeartbeats 200000 in
theorem ls_set_lt {st : Nat} (h : ls_set (st, pos, es, pe, fr, L, k) i) : i < k.1 := h.1
set_option maxHeartbeats 200000 in
theorem ls_fd_push {o a d p : Int32} {fk sp : Nat} {l : List Nat} (h : ls_fd k k.1 fr) (hk : 6 ≤ fk) : ls_fd (ls_em k o a d p) (ls_em k o a d p).1 ((fk, k.1, sp, l) :: fr) := by
  show (if fk = 1 then _ else _)
  rw [if_neg (by omega)]
  exact ⟨Nat.lt_succ_self _, fun q => by have : fk = 3 := q; omega, fun q => by have : fk = 4 := q; omega, fun q => by have : fk = 2 := q; omega, fun q => by have : fk = 5 := q; omega, ls_fd_ext (ls_ext_em ..) (Nat.le_refl _) (Nat.le_refl _) h⟩
set_option maxHeartbeats 200000 in
theorem ls_fd_tl {f : LsF} {b : Nat} (hb : b ≤ k.1) (h : ls_fd k b (f :: fr)) : ls_fd k k.1 fr := by
  have h' : (if f.1 = 1 then ls_fd k b fr else f.2.1 < b ∧ (f.1 = 3 → k.2.1 f.2.1 = 15) ∧ (f.1 = 4 → k.2.1 f.2.1 = 14) ∧ (f.1 = 2 → k.2.1 f.2.1 = 21) ∧ (f.1 = 5 → f.2.1 + 2 ≤ k.1) ∧ ls_fd k f.2.1 fr) := h
  split at h'
  · exact ls_fd_ext (ls_ext_r _) hb hb h'
  · exact ls_fd_ext (ls_ext_r _) (by omega) (by omega) h'.2.2.2.2.2
set_option maxHeartbeats 200000 in
theorem ls_js0 (hJ : ls_J (0, pos, es, pe, fr, L, k)) (hr : ls_r0 T pos es pe fr L k = .ok c') : ls_js (0, pos, es, pe, fr, L, k) c' := by
  obtain ⟨jp, jf⟩ := hJ
  have same : ∀ st, ls_js (0, pos, es, pe, fr, L, k) (st, pos, es, pe, fr, L, k) := fun st => ls_js_mk jp jf (fun _ _ => ls_mv_r) (fun e he _ => Or.inl he) (fun f hf _ => Or.inl hf)
  unfold ls_r0 at hr
  split at hr
  · injection hr with hr; subst hr; exact same 6
  split at hr
  · split at hr
    · injection hr with hr; subst hr; exact same 2
    · injection hr with hr; subst hr; exact same 1
  · split at hr
    · split at hr
      · injection hr with hr; subst hr
        exact ls_js_mk jp (ls_fd_tl (Nat.le_refl _) jf) (fun _ _ => ls_mv_r) (fun e he _ => Or.inl he) (fun f hf _ => Or.inl (List.mem_cons_of_mem _ hf))
      split at hr
      · injection hr with hr; subst hr; exact same 2
      · injection hr with hr; subst hr; exact same 1
    · injection hr with hr; subst hr; exact same 1
set_option maxHeartbeats 200000 in
theorem ls_js1 (hI : ls_Inv T n (1, pos, es, pe, fr, L, k)) (hJ : ls_J (1, pos, es, pe, fr, L, k)) (hr : ls_r1 T pos es pe fr L k = .ok c') : ls_js (1, pos, es, pe, fr, L, k) c' := by
  obtain ⟨jp, jf⟩ := hJ
  have J1 : ∀ st p e' o a d q, ls_js (1, pos, es, pe, fr, L, k) (st, p, e', pe, fr, L, ls_em k o a d q) := fun st p e' o a d q =>
    ls_js_mk (ls_pd_ext (ls_ext_em ..) (Nat.le_refl _) (Nat.le_succ _) jp) (ls_fd_ext (ls_ext_em ..) (Nat.le_refl _) (Nat.le_succ _) jf) (fun i hs => ls_mv_em (ls_set_lt hs)) (fun e he _ => Or.inl he) (fun f hf _ => Or.inl hf)
  have E2 : ∀ o a d q o2 a2 d2 q2, ls_ext k (ls_em (ls_em k o a d q) o2 a2 d2 q2) := fun o a d q o2 a2 d2 q2 => ls_ext_t (ls_ext_em ..) (ls_ext_em ..)
  have J2 : ∀ st p e' o a d q o2 a2 d2 q2, ls_js (1, pos, es, pe, fr, L, k) (st, p, e', pe, fr, L, ls_em (ls_em k o a d q) o2 a2 d2 q2) := fun st p e' o a d q o2 a2 d2 q2 =>
    ls_js_mk (ls_pd_ext (E2 ..) (Nat.le_refl _) (by show k.1 ≤ k.1 + 1 + 1; omega) jp) (ls_fd_ext (E2 ..) (Nat.le_refl _) (by show k.1 ≤ k.1 + 1 + 1; omega) jf) (fun i hs => ls_mv_em2 (ls_set_lt hs)) (fun e he _ => Or.inl he) (fun f hf _ => Or.inl hf)
  have JX : ∀ fk p e' o a d q, 6 ≤ fk → ls_js (1, pos, es, pe, fr, L, k) (4, p, e', pe, (fk, k.1, pos, []) :: fr, L, ls_em k o a d q) := fun fk p e' o a d q hk =>
    ls_js_mk (ls_pd_ext (ls_ext_em ..) (Nat.le_refl _) (Nat.le_succ _) jp) (ls_fd_push jf hk) (fun i hs => ls_mv_em (ls_set_lt hs)) (fun e he _ => Or.inl he) (fun f hf hq => by
      rcases List.mem_cons.mp hf with rfl | hf
      · dsimp only at hq; omega
      · exact Or.inl hf)
  unfold ls_r1 ls_hdr at hr
  dsimp only at hr
  split at hr
  · injection hr with hr; subst hr; exact J1 ..
  split at hr
  · injection hr with hr; subst hr
    refine ls_js_mk (ls_pd_ext (ls_ext_em ..) (Nat.le_refl _) (Nat.le_succ _) jp) (ls_fd_ext (ls_ext_em ..) (Nat.le_refl _) (Nat.le_succ _) jf) (fun i hs => ls_mv_em (ls_set_lt hs)) (fun e he _ => Or.inl he) (fun f hf hq => ?_)
    rcases List.mem_cons.mp hf with rfl | hf
    · dsimp only at hq; omega
    · exact Or.inl hf
  split at hr
  · split at hr
    · injection hr with hr; subst hr; exact JX _ _ _ _ _ _ _ (by decide)
    · cases hr
  split at hr
  · split at hr
    · injection hr with hr; subst hr; exact JX _ _ _ _ _ _ _ (by decide)
    · cases hr
  split at hr
  · split at hr
    · injection hr with hr; subst hr; exact JX _ _ _ _ _ _ _ (by decide)
    · cases hr
  split at hr
  · split at hr
    · cases hr
    · split at hr
      · injection hr with hr; subst hr; exact J2 ..
      · cases hr
  split at hr
  · split at hr
    · cases hr
    · split at hr
      · injection hr with hr; subst hr; exact J2 ..
      · cases hr
  split at hr
  · split at hr
    · cases hr
    · split at hr
      · injection hr with hr; subst hr; exact J2 ..
      · injection hr with hr; subst hr; exact JX _ _ _ _ _ _ _ (by decide)
  · injection hr with hr; subst hr; exact JX _ _ _ _ _ _ _ (by decide)
end
