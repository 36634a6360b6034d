/-! The final code: what stands at an index in the end -/
section
variable {T : Nat → Nat} {V : Nat → Int32} {n : Nat} {C : Nat → LsC} {N : Nat} {kF : LsK} {t pos es st : Nat} {pe : List LsP} {fr : List LsF} {L : List Nat} {k : LsK} {s j p d q i : Nat}
set_option maxHeartbeats 200000 in
theorem ls_fd_lt {f : LsF} : ∀ {fr : List LsF} {b : Nat}, ls_fd k b fr → f ∈ fr → f.1 ≠ 1 → f.2.1 < b ∧ (f.1 = 3 → k.2.1 f.2.1 = 15) ∧ (f.1 = 4 → k.2.1 f.2.1 = 14) ∧ (f.1 = 2 → k.2.1 f.2.1 = 21)
  | [], _, _, h, _ => absurd h (by simp)
  | g :: r, b, hd, h, h1 => by
    have hd' : (if g.1 = 1 then ls_fd k b r else g.2.1 < b ∧ (g.1 = 3 → k.2.1 g.2.1 = 15) ∧ (g.1 = 4 → k.2.1 g.2.1 = 14) ∧ (g.1 = 2 → k.2.1 g.2.1 = 21) ∧ (g.1 = 5 → g.2.1 + 2 ≤ k.1) ∧ ls_fd k g.2.1 r) := hd
    split at hd'
    · next g1 =>
      rcases List.mem_cons.mp h with rfl | h
      · exact absurd g1 h1
      · exact ls_fd_lt hd' h h1
    · obtain ⟨a1, a2, a3, a4, a5, a6⟩ := hd'
      rcases List.mem_cons.mp h with rfl | h
      · exact ⟨a1, a2, a3, a4⟩
      · have := ls_fd_lt a6 h h1
        exact ⟨by omega, this.2⟩
set_option maxHeartbeats 200000 in
theorem ls_pd_lt {e : LsP} : ∀ {pe : List LsP} {b : Nat}, ls_pd k b pe → e ∈ pe → ls_lg e → e.2.2 < b ∧ k.2.1 e.2.2 = 7
  | [], _, _, h, _ => absurd h (by simp)
  | g :: r, b, hd, h, h1 => by
    have hd' : (if ls_lg g then g.2.2 < b ∧ k.2.1 g.2.2 = 7 ∧ ls_pd k g.2.2 r else ls_pd k b r) := hd
    split at hd'
    · obtain ⟨a1, a2, a3⟩ := hd'
      rcases List.mem_cons.mp h with rfl | h
      · exact ⟨a1, a2⟩
      · have := ls_pd_lt a3 h h1
        exact ⟨by omega, this.2⟩
    · next g1 =>
      rcases List.mem_cons.mp h with rfl | h
      · exact absurd h1 g1
      · exact ls_pd_lt hd' h h1
set_option maxHeartbeats 200000 in
/-- an instruction that is no jump is settled at once -/
theorem ls_set_op (hJ : ls_J (st, pos, es, pe, fr, L, k)) (hi : i < k.1) (h7 : k.2.1 i ≠ 7) (h14 : k.2.1 i ≠ 14) (h15 : k.2.1 i ≠ 15) (h21 : k.2.1 i ≠ 21) : ls_set (st, pos, es, pe, fr, L, k) i := by
  obtain ⟨jp, jf⟩ := hJ
  refine ⟨hi, fun e he hl q => h7 ?_, fun f hf hk q => ?_, fun q => ?_⟩
  · rw [← q]; exact (ls_pd_lt jp he hl).2
  · have := ls_fd_lt jf hf (by omega)
    rcases hk with g | g | g
    · exact h21 (by rw [← q]; exact this.2.2.2 g)
    · exact h15 (by rw [← q]; exact this.2.1 g)
    · exact h14 (by rw [← q]; exact this.2.2.1 g)
  · rcases q with q | q
    · exact absurd q h14
    · exact absurd q h15
set_option maxHeartbeats 200000 in
theorem ls_fat (h : ls_tl T V n C N kF) (ht : t ≤ N) (e : C t = (st, pos, es, pe, fr, L, k)) (hi : i < k.1) : kF.2.1 i = k.2.1 i ∧ kF.2.2.2.1 i = k.2.2.2.1 i ∧ kF.2.2.2.2 i = k.2.2.2.2 i ∧ k.1 < kF.1 := by
  obtain ⟨f1, _⟩ := h.2.2.2.2 t ht
  rw [e] at f1
  obtain ⟨a, b⟩ := ls_fin_ext f1
  obtain ⟨a1, a2, a3⟩ := a.2 i hi
  exact ⟨a3, a1, a2, b⟩
set_option maxHeartbeats 200000 in
theorem ls_farg (h : ls_tl T V n C N kF) (ht : t ≤ N) (e : C t = (st, pos, es, pe, fr, L, k)) (hs : ls_set (st, pos, es, pe, fr, L, k) i) : kF.2.2.1 i = k.2.2.1 i := by
  obtain ⟨f1, f2, f3, _⟩ := h.2.2.2.2 t ht
  rw [e] at f1 f2 f3
  have st6 : st ≤ 6 := by
    by_cases q : t < N
    · have := (h.2.1 t q).1
      rw [e] at this
      have this' : st < 6 := this
      omega
    · have : t = N := by omega
      subst this
      have := h.2.2.1.1
      rw [e] at this
      have this' : st = 6 := this
      omega
  exact ls_set_fin h.1 f2 st6 f3 f1 hs
set_option maxHeartbeats 200000 in
/-- what a step has emitted at i, if it is no jump -/
theorem ls_femit (h : ls_tl T V n C N kF) (ht : t ≤ N) (e : C t = (st, pos, es, pe, fr, L, k)) (hi : i < k.1) (h7 : k.2.1 i ≠ 7) (h14 : k.2.1 i ≠ 14) (h15 : k.2.1 i ≠ 15) (h21 : k.2.1 i ≠ 21) : kF.2.1 i = k.2.1 i ∧ kF.2.2.1 i = k.2.2.1 i ∧ kF.2.2.2.1 i = k.2.2.2.1 i ∧ kF.2.2.2.2 i = k.2.2.2.2 i := by
  obtain ⟨_, _, f3, _⟩ := h.2.2.2.2 t ht
  rw [e] at f3
  obtain ⟨a1, a2, a3, _⟩ := ls_fat h ht e hi
  exact ⟨a1, ls_farg h ht e (ls_set_op f3 hi h7 h14 h15 h21), a2, a3⟩
set_option maxHeartbeats 200000 in
/-- the instruction that a step from k to ls_em k emits -/
theorem ls_fem (h : ls_tl T V n C N kF) {o a dd pp : Int32} (ht : t ≤ N) (e : C t = (st, pos, es, pe, fr, L, ls_em k o a dd pp)) (h7 : o ≠ 7) (h14 : o ≠ 14) (h15 : o ≠ 15) (h21 : o ≠ 21) : kF.2.1 k.1 = o ∧ kF.2.2.1 k.1 = a ∧ kF.2.2.2.1 k.1 = dd ∧ kF.2.2.2.2 k.1 = pp := by
  have eo : (ls_em k o a dd pp).2.1 k.1 = o := pk_us
  obtain ⟨a1, a2, a3, a4⟩ := ls_femit h ht e (i := k.1) (Nat.lt_succ_self _) (by rw [eo]; exact h7) (by rw [eo]; exact h14) (by rw [eo]; exact h15) (by rw [eo]; exact h21)
  exact ⟨a1.trans pk_us, a2.trans pk_us, a3.trans pk_us, a4.trans pk_us⟩
set_option maxHeartbeats 200000 in
/-- two of them -/
theorem ls_fem2 (h : ls_tl T V n C N kF) {o a dd pp o2 a2 dd2 pp2 : Int32} (ht : t ≤ N) (e : C t = (st, pos, es, pe, fr, L, ls_em (ls_em k o a dd pp) o2 a2 dd2 pp2)) (h7 : o ≠ 7) (h14 : o ≠ 14) (h15 : o ≠ 15) (h21 : o ≠ 21) : kF.2.1 k.1 = o ∧ kF.2.2.1 k.1 = a ∧ kF.2.2.2.1 k.1 = dd ∧ kF.2.2.2.2 k.1 = pp := by
  have ne : k.1 ≠ (ls_em k o a dd pp).1 := by show k.1 ≠ k.1 + 1; omega
  have eo : (ls_em (ls_em k o a dd pp) o2 a2 dd2 pp2).2.1 k.1 = o := (pk_un ne).trans pk_us
  obtain ⟨b1, b2, b3, b4⟩ := ls_femit h ht e (i := k.1) (by show k.1 < k.1 + 1 + 1; omega) (by rw [eo]; exact h7) (by rw [eo]; exact h14) (by rw [eo]; exact h15) (by rw [eo]; exact h21)
  exact ⟨b1.trans eo, b2.trans ((pk_un ne).trans pk_us), b3.trans ((pk_un ne).trans pk_us), b4.trans ((pk_un ne).trans pk_us)⟩
set_option maxHeartbeats 200000 in
theorem ls_nsub {a b : Nat} (h : b < a) (ha : a < 1000) : nI a - nI b ≠ 0 := by
  rw [pk_sub (by omega)]
  intro q
  have := (nI_eq (a := a - b) (b := 0) (by omega) (by decide)).mp q
  omega
set_option maxHeartbeats 200000 in
/-- the size of the code is bounded -/
theorem ls_ks (h : ls_tl T V n C N kF) (ht : t ≤ N) (e : C t = (st, pos, es, pe, fr, L, k)) : 480 ≤ k.1 ∧ k.1 ≤ 761 ∧ pos ≤ n := by
  obtain ⟨_, f2, _⟩ := h.2.2.2.2 t ht
  rw [e] at f2
  obtain ⟨i1, i2, i3, i4, i5, i6, i7⟩ := f2
  have := h.1.1
  refine ⟨i5, ?_, i1⟩
  split at i7
  · have i8 := i7.1
    split at i8 <;> omega
  · have := i7.1; omega
end
