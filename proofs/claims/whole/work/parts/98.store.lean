/-! Definitions: what is stored -/
section
variable {T : Nat → Nat} {V : Nat → Int32} {C : Nat → LsC} {kF : LsK} {n N d e ta tz : Nat} {co ca ck cp tk : Nat → Int32} {tv : Nat → Int64} {tp : Nat → Int32} {co' ca' ck' cp' tk' : Nat → Int32} {tv' : Nat → Int64} {tp' : Nat → Int32}
set_option maxHeartbeats 200000 in
theorem ls_UA_mv (h : ls_UA co ca ck cp tk tv tp (T, V, C, kF, n, N, d, e, ta, tz)) (h1 : ∀ i, (ls_kk7 (C ta)).1 ≤ i → i ≤ (ls_kk7 (C tz)).1 → co' (i - d) = co (i - d) ∧ ca' (i - d) = ca (i - d) ∧ ck' (i - d) = ck (i - d) ∧ cp' (i - d) = cp (i - d)) (h2 : ∀ p, (C ta).2.1 ≤ p → p < (C tz).2.1 → tk' (p + e) = tk (p + e) ∧ tp' (p + e) = tp (p + e) ∧ tv' (p + e) = tv (p + e)) : ls_UA co' ca' ck' cp' tk' tv' tp' (T, V, C, kF, n, N, d, e, ta, tz) := by
  obtain ⟨g1, g2, g3, g4, ⟨g5, g6⟩, g7⟩ := h
  refine ⟨g1, g2, g3, fun i i1 i2 => ?_, ⟨g5, fun p p1 p2 => ?_⟩, fun p p1 p2 => ?_⟩
  · obtain ⟨a1, a2, a3, a4, a5, a6⟩ := g4 i i1 i2
    obtain ⟨b1, b2, b3, b4⟩ := h1 i i1 i2
    exact ⟨a1, a2, b1.trans a3, b2.trans a4, b3.trans a5, b4.trans a6⟩
  · obtain ⟨a1, a2⟩ := g6 p p1 p2
    exact ⟨(h2 p p1 p2).1.trans a1, a2⟩
  · obtain ⟨a1, a2⟩ := g7 p p1 p2
    refine ⟨fun q => (h2 p p1 p2).2.2.trans (a1 q), ?_⟩
    unfold ls_pl at a2 ⊢
    split
    · next q => rw [if_pos q] at a2; exact a2
    · next q => rw [if_neg q] at a2; exact (h2 p p1 p2).2.1.trans a2
set_option maxHeartbeats 200000 in
theorem ls_ME_mv {mu mu' pb q nm c m : Nat} {P : Nat → Nat} {L1 : List Nat} {ms mt nN nK nC nA : Int32} {mP mP' : Nat → Int32} {U : LsU} (h : ls_ME (ls_UA co ca ck cp tk tv tp) mu U pb q nm c P L1 tk ms mt nN nK nC nA mP m) (hmu : mu ≤ mu') (h1 : ∀ j, j < 2 * mu → co' j = co j ∧ ca' j = ca j ∧ ck' j = ck j ∧ cp' j = cp j) (h2 : ∀ j, j < 140 + mu → tk' j = tk j ∧ tp' j = tp j ∧ tv' j = tv j) (h3 : ∀ i, i < c → mP' (3 * m + i) = mP (3 * m + i)) : ls_ME (ls_UA co' ca' ck' cp' tk' tv' tp') mu' U pb q nm c P L1 tk' ms mt nN nK nC nA mP' m := by
  obtain ⟨T, V, C, kF, n, N, d, e, ta, tz⟩ := U
  obtain ⟨hA, p, mo, es, k, es2, L2, k2, g1, g2, g3, g4, g5, g6, g7, g8, g9, g10, g11, g12, g13, g14, g15, g16, g17, g18, g19, g20, g21, g22⟩ := h
  have lo := ls_pos_le hA.1 hA.2.2.1.1 hA.2.2.1.2
  rw [g1] at lo
  dsimp only at lo
  refine ⟨ls_UA_mv hA (fun i i1 i2 => h1 _ ?_) (fun p p1 p2 => h2 _ (by omega)), p, mo, es, k, es2, L2, k2, g1, g2, g3, g4, g5, g6, g7, g8, g9, fun i hi => ?_, g11, by omega, g13, g14, by omega, g16, g17, g18, g19, g20, fun i hi => (h3 i hi).trans (g21 i hi), g22⟩
  · rw [g13] at i2
    have i2' : i ≤ k2.1 := i2
    omega
  · obtain ⟨a1, a2, a3⟩ := g10 i hi
    refine ⟨a1, a2, ((h2 _ ?_).1).trans a3⟩
    split at g7 <;> omega
set_option maxHeartbeats 2000000 in
/-- a method more, or one in another's place -/
theorem ls_MT_def {mc mu m t pos p es q nm c t2 q2 es2 : Nat} {P : Nat → Nat} {L1 : List Nat} {k k1 k2 : LsK} {sg st mN mK mC mP mA : Nat → Int32} {nf cf : Nat → Nat} {pf : Nat → Nat → Nat}
    (hM : ls_MT (ls_UA co ca ck cp tk tv tp) mc mu tk sg st mN mK mC mP mA) (hf : ∀ m, m < mc → ∃ U pb q L1, ls_ME (ls_UA co ca ck cp tk tv tp) mu U pb q (nf m) (cf m) (pf m) L1 tk (sg m) (st m) (mN m) (mK m) (mC m) (mA m) mP m)
    (hU : ls_UA co ca ck cp tk tv tp (T, V, C, kF, n, N, 0, 0, 0, N)) (h1 : 1 ≤ t) (ec : C (t + 1) = (0, p, es, [], [(1, c, p, L1), (2, k.1 + 1, pos, [q])], L1, k1)) (hk1 : k1.1 = k.1 + 2) (k480 : 480 ≤ k.1) (L1c : L1.length = c) (c3 : c ≤ 3) (q5 : q ≤ 5) (nm16 : nm < 16) (hp : p = pos + (if c = 0 then 5 else 4 + 3 * c)) (P5 : ∀ i, P i ≤ 5) (P0 : ∀ i, c ≤ i → P i = 0) (hL : ∀ i, i < c → L1[c - 1 - i]? = some (T (pos + 4 + 3 * i) - 54) ∧ ls_nam (T (pos + 4 + 3 * i)))
    (lt1 : t + 1 < t2) (lt2 : t2 < N) (ec2 : C t2 = (3, q2, es2, [], [(2, k.1 + 1, pos, [q])], L1, k2)) (bot : ∀ u, t + 1 ≤ u → u < t2 → ∃ f S, (C u).2.2.2.2.1 = f :: S ++ [(2, k.1 + 1, pos, [q])]) (hsz : k2.1 + 2 * p ≤ k1.1 + 2 * q2) (k12 : k1.1 ≤ k2.1) (hpq : p < q2) (htk : ∀ i, pos ≤ i → i < q2 → tk i = nI (T i) ∧ T i < 100 ∧ (70 ≤ T i → tv i = (V i).toInt64)) (hfit : mu + (q2 - pos) ≤ 240)
    (hm : (m < mc ∧ ls_sg (nf m) (cf m) (pf m) = ls_sg nm c P) ∨ (m = mc ∧ ∀ i, i < mc → ls_sg (nf i) (cf i) (pf i) ≠ ls_sg nm c P)) (m8 : m < 8) :
    ls_MT (ls_UA (ls_blk co (2 * mu) (k2.1 + 1 - (k.1 + 1 + 1)) (fun i => co (k.1 + 1 + 1 + i))) (ls_blk ca (2 * mu) (k2.1 + 1 - (k.1 + 1 + 1)) (fun i => ca (k.1 + 1 + 1 + i))) (ls_blk ck (2 * mu) (k2.1 + 1 - (k.1 + 1 + 1)) (fun i => ck (k.1 + 1 + 1 + i))) (ls_blk cp (2 * mu) (k2.1 + 1 - (k.1 + 1 + 1)) (fun i => cp (k.1 + 1 + 1 + i))) (ls_blk tk (140 + mu) (q2 - pos) (fun i => tk (pos + i))) (ls_blk tv (140 + mu) (q2 - pos) (fun i => tv (pos + i))) (ls_blk tp (140 + mu) (q2 - pos) (fun i => nI (pos + i)))) (if m = mc then mc + 1 else mc) (mu + (q2 - pos)) (ls_blk tk (140 + mu) (q2 - pos) (fun i => tk (pos + i))) (upd sg m (nI (ls_sg nm c P))) (upd st m (nI (2 * mu))) (upd mN m (nI (nm + 54))) (upd mK m (nI q)) (upd mC m (nI c)) (ls_blk mP (3 * m) c (fun i => nI (P i))) (upd mA m (nI (140 + mu))) ∧
    ls_UA (ls_blk co (2 * mu) (k2.1 + 1 - (k.1 + 1 + 1)) (fun i => co (k.1 + 1 + 1 + i))) (ls_blk ca (2 * mu) (k2.1 + 1 - (k.1 + 1 + 1)) (fun i => ca (k.1 + 1 + 1 + i))) (ls_blk ck (2 * mu) (k2.1 + 1 - (k.1 + 1 + 1)) (fun i => ck (k.1 + 1 + 1 + i))) (ls_blk cp (2 * mu) (k2.1 + 1 - (k.1 + 1 + 1)) (fun i => cp (k.1 + 1 + 1 + i))) (ls_blk tk (140 + mu) (q2 - pos) (fun i => tk (pos + i))) (ls_blk tv (140 + mu) (q2 - pos) (fun i => tv (pos + i))) (ls_blk tp (140 + mu) (q2 - pos) (fun i => nI (pos + i))) (T, V, C, kF, n, N, 0, 0, 0, N) := by
  have ppos : pos + 5 ≤ p := by split at hp <;> omega
  have pos0 := ls_pos_le hU.1 (show t2 ≤ N by omega) (Nat.le_refl _)
  rw [ec2] at pos0
  dsimp only at pos0
  have n140 := hU.1.1.1
  have posN : (C N).2.1 ≤ n := by
    have := (hU.1.2.2.2.2 N (Nat.le_refl _)).2.1
    generalize C N = c at *
    obtain ⟨st, pos, es, pe, fr, L, k⟩ := c
    exact this.1
  have kkt2 : (ls_kk7 (C t2)).1 = k2.1 := by rw [ec2]; rfl
  have kk1 : (ls_kk7 (C (t + 1))).1 = k1.1 := by rw [ec]; rfl
  have k0N := ls_kmono hU.1 (Nat.zero_le (t + 1)) (show t + 1 ≤ N by omega)
  have kzN := ls_kmono hU.1 (show t2 ≤ N by omega) (Nat.le_refl N)
  have K480 : 480 ≤ (ls_kk7 (C 0)).1 := by
    obtain ⟨st, pos, es, pe, fr, L, k, e⟩ : ∃ st pos es pe fr L k, C 0 = (st, pos, es, pe, fr, L, k) := ⟨_, _, _, _, _, _, _, rfl⟩
    have := ls_ks hU.1 (Nat.zero_le N) e
    rw [e]
    exact this.1
  have szle : k2.1 + 1 - (k.1 + 1 + 1) + 4 ≤ 2 * (q2 - pos) := by omega
  have TXT : ls_UA (ls_blk co (2 * mu) (k2.1 + 1 - (k.1 + 1 + 1)) (fun i => co (k.1 + 1 + 1 + i))) (ls_blk ca (2 * mu) (k2.1 + 1 - (k.1 + 1 + 1)) (fun i => ca (k.1 + 1 + 1 + i))) (ls_blk ck (2 * mu) (k2.1 + 1 - (k.1 + 1 + 1)) (fun i => ck (k.1 + 1 + 1 + i))) (ls_blk cp (2 * mu) (k2.1 + 1 - (k.1 + 1 + 1)) (fun i => cp (k.1 + 1 + 1 + i))) (ls_blk tk (140 + mu) (q2 - pos) (fun i => tk (pos + i))) (ls_blk tv (140 + mu) (q2 - pos) (fun i => tv (pos + i))) (ls_blk tp (140 + mu) (q2 - pos) (fun i => nI (pos + i))) (T, V, C, kF, n, N, 0, 0, 0, N) :=
    ls_UA_mv hU (fun i i1 i2 => ⟨ls_blk_n (by omega), ls_blk_n (by omega), ls_blk_n (by omega), ls_blk_n (by omega)⟩) (fun p p1 p2 => ⟨ls_blk_n (by omega), ls_blk_n (by omega), ls_blk_n (by omega)⟩)
  refine ⟨⟨?_, hfit, fun i hi => ?_, fun i j hij hj => ?_⟩, TXT⟩
  · have := hM.1
    split <;> omega
  · by_cases im : i = m
    · subst im
      rw [pk_us, pk_us, pk_us, pk_us, pk_us, pk_us]
      refine ⟨(T, V, C, kF, n, N, k.1 + 2 - 2 * mu, 140 + mu - pos, t + 1, t2), pos, q, nm, c, P, L1, ⟨hU.1, ⟨hU.2.1.1, by rw [ec]⟩, ⟨by omega, by omega⟩, fun j j1 j2 => ?_, ⟨?_, fun x x1 x2 => ?_⟩, fun x x1 x2 => ⟨fun g => ?_, ?_⟩⟩, p, k.1 + 1, es, k1, es2, L1, k2, ec, by omega, L1c, c3, q5, nm16, hp, P5, P0, fun x hx => ?_, by omega, by rw [ec2]; dsimp only; omega, by rw [ec2], bot, by omega, rfl, ?_, rfl, rfl, rfl, fun x hx => ls_blk_s hx, ?_⟩
      · rw [kk1] at j1
        rw [kkt2] at j2
        obtain ⟨a1, a2, a3, a4, a5, a6⟩ := hU.2.2.2.1 j (by omega) (by omega)
        rw [Nat.sub_zero] at a2 a3 a4 a5 a6
        have E : j - (k.1 + 2 - 2 * mu) = 2 * mu + (j - (k.1 + 1 + 1)) := by omega
        have E2 : k.1 + 1 + 1 + (j - (k.1 + 1 + 1)) = j := by omega
        refine ⟨by omega, by omega, ?_, ?_, ?_, ?_⟩
        all_goals rw [E, ls_blk_s (by omega), E2]
        · exact a3
        · exact a4
        · exact a5
        · exact a6
      · rw [ec2]; dsimp only; omega
      · rw [ec] at x1
        rw [ec2] at x2
        dsimp only at x1 x2
        obtain ⟨a1, a2, _⟩ := htk x (by omega) x2
        refine ⟨?_, a2⟩
        rw [show x + (140 + mu - pos) = 140 + mu + (x - pos) by omega, ls_blk_s (by omega), show pos + (x - pos) = x by omega]
        exact a1
      · rw [ec] at x1
        rw [ec2] at x2
        dsimp only at x1 x2
        obtain ⟨_, _, a3⟩ := htk x (by omega) x2
        rw [show x + (140 + mu - pos) = 140 + mu + (x - pos) by omega, ls_blk_s (by omega), show pos + (x - pos) = x by omega]
        exact a3 g
      · rw [ec] at x1
        rw [ec2] at x2
        dsimp only at x1 x2
        unfold ls_pl
        rw [if_neg (by omega), show x + (140 + mu - pos) = 140 + mu + (x - pos) by omega, ls_blk_s (by omega), show pos + (x - pos) = x by omega]
      · obtain ⟨a1, a2⟩ := hL x hx
        refine ⟨a1, a2, ?_⟩
        have xb : pos + 4 + 3 * x < q2 := by split at hp <;> omega
        rw [show pos + 4 + 3 * x + (140 + mu - pos) = 140 + mu + (pos + 4 + 3 * x - pos) by omega, ls_blk_s (by omega), show pos + (pos + 4 + 3 * x - pos) = pos + 4 + 3 * x by omega]
        exact (htk _ (by omega) xb).1
      · rw [hk1, show k.1 + 2 - (k.1 + 2 - 2 * mu) = 2 * mu by omega]
      · rw [show pos + (140 + mu - pos) = 140 + mu by omega]
    · have imc : i < mc := by
        split at hi
        · omega
        · exact hi
      rw [pk_un im, pk_un im, pk_un im, pk_un im, pk_un im, pk_un im]
      obtain ⟨U, pb, q', L1', hME⟩ := hf i imc
      refine ⟨U, pb, q', nf i, cf i, pf i, L1', ls_ME_mv hME (by omega) (fun j hj => ⟨ls_blk_n (by omega), ls_blk_n (by omega), ls_blk_n (by omega), ls_blk_n (by omega)⟩) (fun j hj => ⟨ls_blk_n (by omega), ls_blk_n (by omega), ls_blk_n (by omega)⟩) (fun x hx => ?_)⟩
      have cf3 : cf i ≤ 3 := by
        obtain ⟨T', V', C', kF', n', N', d', e', ta', tz'⟩ := U
        obtain ⟨_, _, _, _, _, _, _, _, _, _, _, g4, _⟩ := hME
        exact g4
      exact ls_blk_n (by omega)
  · have SG := (ls_MT_sgs hM hf).1
    have sfl : ∀ x, x < mc → sg x = nI (ls_sg (nf x) (cf x) (pf x)) ∧ ls_sg (nf x) (cf x) (pf x) < 30000 := fun x hx => by
      obtain ⟨s1, s2, s3, s4, _⟩ := SG.2 x hx
      exact ⟨s1, ls_sg_lt' s2 s3 s4⟩
    have snl := ls_sg_lt' (P := P) nm16 c3 P5
    have key : ∀ x, x < (if m = mc then mc + 1 else mc) → x ≠ m → sg x ≠ nI (ls_sg nm c P) := by
      intro x hx xm E
      have xmc : x < mc := by
        split at hx <;> omega
      obtain ⟨s1, s2⟩ := sfl x xmc
      rw [s1] at E
      have E' := (nI_eq (by omega) (by omega)).mp E
      rcases hm with ⟨m1, m2⟩ | ⟨m1, m2⟩
      · obtain ⟨r1, r2⟩ := sfl m m1
        have EE : sg x = sg m := by rw [s1, r1, E', m2]
        rcases Nat.lt_or_ge x m with g | g
        · exact hM.2.2.2 x m g m1 EE
        · exact hM.2.2.2 m x (by omega) xmc EE.symm
      · exact m2 x xmc E'
    by_cases im : i = m
    · subst im
      rw [pk_us, pk_un (by omega)]
      exact fun E => key j hj (by omega) E.symm
    · by_cases jm : j = m
      · subst jm
        rw [pk_us, pk_un im]
        exact key i (by omega) im
      · rw [pk_un im, pk_un jm]
        have jmc : j < mc := by
          split at hj <;> omega
        exact hM.2.2.2 i j hij jmc
end
