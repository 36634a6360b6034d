section
/-! pure rows to paste: stores, nI and lN arithmetic, masks, shifts, narrowing, branches by naturals (pk_le, pk_lt, pk_eq), loops (lp1 .. lp16: the measure of the state; rp1 ..: recursion), negatives. Take what you need -/
set_option maxHeartbeats 200000 in
theorem pk_us {f : Nat → Int32} {k : Nat} {x : Int32} : upd f k x k = x := if_pos rfl
set_option maxHeartbeats 200000 in
theorem pk_un {f : Nat → Int32} {k j : Nat} {x : Int32} (h : j ≠ k) : upd f k x j = f j := if_neg h
set_option maxHeartbeats 200000 in
theorem pk_uLs {f : Nat → Int64} {k : Nat} {x : Int64} : vp_updL f k x k = x := if_pos rfl
set_option maxHeartbeats 200000 in
theorem pk_uLn {f : Nat → Int64} {k j : Nat} {x : Int64} (h : j ≠ k) : vp_updL f k x j = f j := if_neg h
set_option maxHeartbeats 200000 in
theorem pk_sub {a b : Nat} (h : b ≤ a) : nI a - nI b = nI (a - b) := by
  obtain ⟨c, rfl⟩ : ∃ c, a = c + b := ⟨a - b, by omega⟩
  rw [← nI_add, Int32.add_sub_cancel, Nat.add_sub_cancel]
set_option maxHeartbeats 200000 in
theorem pk_m1 (n : Nat) : nI (n + 1) + (-1) = nI n := by
  rw [← nI_1, Int32.add_assoc, show (1 : Int32) + (-1) = 0 from rfl, Int32.add_zero]
set_option maxHeartbeats 200000 in
theorem pk_mul (a b : Nat) : nI a * nI b = nI (a * b) := (Int32.ofNat_mul a b).symm
set_option maxHeartbeats 200000 in
theorem pk_div {a d : Nat} (ha : a < 2 ^ 31) (h0 : 0 < d) (hd : d < 2 ^ 31) : nI a / nI d = nI (a / d) := by
  apply Int32.toInt_inj.mp
  rw [lg_idiv_nonneg (by rw [nI_toInt ha]; omega) (by rw [nI_toInt hd]; omega), nI_toInt ha, nI_toInt hd, nI_toInt (Nat.lt_of_le_of_lt (Nat.div_le_self a d) ha)]
  first | rfl | exact (Int.natCast_ediv _ _).symm
set_option maxHeartbeats 200000 in
theorem pk_rem {a d : Nat} (ha : a < 2 ^ 31) (h0 : 0 < d) (hd : d < 2 ^ 31) : nI a - nI a / nI d * nI d = nI (a % d) := by
  rw [pk_div ha h0 hd, pk_mul, pk_sub (Nat.div_mul_le_self a d)]
  exact congrArg nI (by have := Nat.div_add_mod' a d; omega)
set_option maxHeartbeats 200000 in
theorem pk_sub_toInt {a b : Nat} (ha : a < 2 ^ 30) (hb : b < 2 ^ 30) : (nI a - nI b).toInt = (a : Int) - b := by
  rw [Int32.toInt_sub, nI_toInt (by omega), nI_toInt (by omega)]
  exact Int.bmod_eq_of_le (by omega) (by omega)
set_option maxHeartbeats 200000 in
theorem pk_sneg {a b : Nat} (hb : b < 2 ^ 30) (h : a < b) : nI a - nI b < 0 := by
  rw [Int32.lt_iff_toInt_lt, pk_sub_toInt (by omega) hb, show (0 : Int32).toInt = 0 from by decide]
  omega
set_option maxHeartbeats 200000 in
theorem pk_ix (x : Int32) {n : Nat} (hn : n < 2 ^ 31) : x < 0 ∨ nI n ≤ x ∨ ∃ j : Nat, j < n ∧ x = nI j := by
  by_cases h : x < 0
  · exact Or.inl h
  · obtain ⟨j, hj, rfl⟩ := nI_of h
    by_cases h2 : j < n
    · exact Or.inr (Or.inr ⟨j, h2, rfl⟩)
    · exact Or.inr (Or.inl (nI_le (by omega) hj))
set_option maxHeartbeats 200000 in
theorem pk_le {x y : Int32} {A B : Prop} (a b : Nat) (f : a ≤ b → A) (g : b < a → B) (hx : x = nI a := by rfl) (hy : y = nI b := by rfl) (ha : a < 2 ^ 31 := by omega) (hb : b < 2 ^ 31 := by omega) : (x ≤ y → A) ∧ (¬ x ≤ y → B) := by
  subst hx hy
  rw [nI_leI ha hb]
  exact ⟨f, fun z => g (by omega)⟩
set_option maxHeartbeats 200000 in
theorem pk_lt {x y : Int32} {A B : Prop} (a b : Nat) (f : a < b → A) (g : b ≤ a → B) (hx : x = nI a := by rfl) (hy : y = nI b := by rfl) (ha : a < 2 ^ 31 := by omega) (hb : b < 2 ^ 31 := by omega) : (x < y → A) ∧ (¬ x < y → B) := by
  subst hx hy
  rw [nI_ltI ha hb]
  exact ⟨f, fun z => g (by omega)⟩
set_option maxHeartbeats 200000 in
theorem pk_eq {x y : Int32} {A B : Prop} (a b : Nat) (f : a = b → A) (g : a ≠ b → B) (hx : x = nI a := by rfl) (hy : y = nI b := by rfl) (ha : a < 2 ^ 31 := by omega) (hb : b < 2 ^ 31 := by omega) : (x = y → A) ∧ (¬ x = y → B) := by
  subst hx hy
  rw [nI_eq ha hb]
  exact ⟨f, g⟩
set_option maxHeartbeats 200000 in
theorem pk_in {x : Int32} (n N : Nat) (h : n < N) (hx : x = nI n := by rfl) (hN : N < 2 ^ 31 := by omega) : vp_in x N := by
  subst hx
  exact vp_in_nI h hN
set_option maxHeartbeats 200000 in
theorem pk_cl {x : Int32} (n : Nat) (hx : x = nI n := by rfl) (h : n < 2 ^ 31 := by omega) : x.toNatClampNeg = n := by
  subst hx
  exact nI_clamp h
set_option maxHeartbeats 200000 in
theorem pk_tn {n : Nat} (h : n < 2 ^ 32) : (nI n).toBitVec.toNat = n := Nat.mod_eq_of_lt h
set_option maxHeartbeats 200000 in
theorem pk_and (x : Int32) {m : Int32} (k : Nat) (hm : m.toBitVec.toNat = 2 ^ k - 1) : x &&& m = nI (x.toBitVec.toNat % 2 ^ k) := by
  apply Int32.toBitVec_inj.mp
  apply BitVec.eq_of_toNat_eq
  rw [Int32.toBitVec_and, BitVec.toNat_and, hm, Nat.and_two_pow_sub_one_eq_mod]
  show _ = (BitVec.ofNat 32 _).toNat
  rw [BitVec.toNat_ofNat]
  exact (Nat.mod_eq_of_lt (Nat.lt_of_le_of_lt (Nat.mod_le _ _) x.toBitVec.isLt)).symm
set_option maxHeartbeats 200000 in
theorem pk_andN {n : Nat} (h : n < 2 ^ 32) {m : Int32} (k : Nat) (hm : m.toBitVec.toNat = 2 ^ k - 1) : nI n &&& m = nI (n % 2 ^ k) := by
  rw [pk_and _ k hm, pk_tn h]
set_option maxHeartbeats 200000 in
theorem pk_andE (x : Int32) {m : Int32} (k : Nat) (hm : m.toBitVec.toNat = 2 ^ k - 1) : ∃ j : Nat, j < 2 ^ k ∧ x &&& m = nI j := ⟨_, Nat.mod_lt _ (Nat.two_pow_pos k), pk_and x k hm⟩
set_option maxHeartbeats 200000 in
theorem pk_andIn (x : Int32) {m : Int32} (k : Nat) (hm : m.toBitVec.toNat = 2 ^ k - 1) (hk : k ≤ 30) : vp_in (x &&& m) (2 ^ k) := by
  obtain ⟨j, hj, e⟩ := pk_andE x k hm
  rw [e]
  exact vp_in_nI hj (Nat.lt_of_le_of_lt (Nat.pow_le_pow_right (by decide) hk) (by decide))
set_option maxHeartbeats 200000 in
theorem pk_shl (a s : Int32) (k : Nat) (hs : (s.toBitVec.smod 32).toNat = k) : (a <<< s).toBitVec.toNat = a.toBitVec.toNat * 2 ^ k % 2 ^ 32 := by
  show (a.toBitVec <<< (s.toBitVec.smod 32).toNat).toNat = _
  rw [hs, BitVec.toNat_shiftLeft, Nat.shiftLeft_eq]
set_option maxHeartbeats 200000 in
theorem pk_shlN {n : Nat} (s : Int32) (k : Nat) (hs : (s.toBitVec.smod 32).toNat = k) (h : n * 2 ^ k < 2 ^ 32) : nI n <<< s = nI (n * 2 ^ k) := by
  apply Int32.toBitVec_inj.mp
  apply BitVec.eq_of_toNat_eq
  have hn : n < 2 ^ 32 := Nat.lt_of_le_of_lt (Nat.le_mul_of_pos_right n (Nat.two_pow_pos k)) h
  rw [pk_shl _ _ k hs, pk_tn hn, pk_tn h, Nat.mod_eq_of_lt h]
set_option maxHeartbeats 200000 in
theorem pk_shr (a s : Int32) (k : Nat) (hs : (s.toBitVec.smod 32).toNat = k) : (a >>> s).toInt = a.toInt >>> k := by
  show (a.toBitVec.sshiftRight (s.toBitVec.smod 32).toNat).toInt = _
  rw [hs, BitVec.toInt_sshiftRight]
  rfl
set_option maxHeartbeats 200000 in
theorem pk_shrN {n : Nat} (h : n < 2 ^ 31) (s : Int32) (k : Nat) (hs : (s.toBitVec.smod 32).toNat = k) : nI n >>> s = nI (n / 2 ^ k) := by
  apply Int32.toInt_inj.mp
  have h2 : n / 2 ^ k ≤ n := Nat.div_le_self _ _
  rw [pk_shr _ _ k hs, nI_toInt h, nI_toInt (by omega), Int.shiftRight_eq_div_pow]
  rfl
set_option maxHeartbeats 200000 in
theorem pk_ushr (x s : Int32) (k : Nat) (hs : ((s.toUInt32 &&& Int32.toUInt32 31).toBitVec % 32).toNat = k) : (x.toUInt32 >>> (s.toUInt32 &&& Int32.toUInt32 31)).toInt32.toBitVec.toNat = x.toBitVec.toNat / 2 ^ k := by
  have e : (x.toUInt32 >>> (s.toUInt32 &&& Int32.toUInt32 31)).toInt32.toBitVec = x.toBitVec >>> k := by
    rw [← hs]
    exact UInt32.toBitVec_shiftRight _ _
  rw [e, BitVec.toNat_ushiftRight, Nat.shiftRight_eq_div_pow]
set_option maxHeartbeats 200000 in
theorem pk_ushrN {n : Nat} (hn : n < 2 ^ 32) (s : Int32) (k : Nat) (hs : ((s.toUInt32 &&& Int32.toUInt32 31).toBitVec % 32).toNat = k) : ((nI n).toUInt32 >>> (s.toUInt32 &&& Int32.toUInt32 31)).toInt32 = nI (n / 2 ^ k) := by
  apply Int32.toBitVec_inj.mp
  apply BitVec.eq_of_toNat_eq
  rw [pk_ushr _ s k hs, pk_tn hn, pk_tn (Nat.lt_of_le_of_lt (Nat.div_le_self _ _) hn)]
set_option maxHeartbeats 200000 in
theorem pk_nb (z : Int32) : narrow .byte (.int z.toInt8.toInt32) = .int z.toInt8.toInt32 := congrArg Value.int (by simp)
set_option maxHeartbeats 200000 in
theorem pk_ns (z : Int32) : narrow .short (.int z.toInt16.toInt32) = .int z.toInt16.toInt32 := congrArg Value.int (by simp)
set_option maxHeartbeats 200000 in
theorem pk_fb (r : Int32) : fits .byte (.int r.toInt8.toInt32) = true := by
  have ⟨a, b⟩ := lg_i2b_range r
  have h1 : (-128 : Int32).toInt = -128 := by decide
  have h2 : (127 : Int32).toInt = 127 := by decide
  simp only [fits, Bool.and_eq_true, decide_eq_true_eq, Int32.le_iff_toInt_le, h1, h2]
  omega
set_option maxHeartbeats 200000 in
theorem pk_fs (r : Int32) : fits .short (.int r.toInt16.toInt32) = true := by
  have ⟨a, b⟩ := lg_i2s_range r
  have h1 : (-32768 : Int32).toInt = -32768 := by decide
  have h2 : (32767 : Int32).toInt = 32767 := by decide
  simp only [fits, Bool.and_eq_true, decide_eq_true_eq, Int32.le_iff_toInt_le, h1, h2]
  omega
set_option maxHeartbeats 200000 in
theorem pk_charN {q : Nat} (hq : q < 65536) : narrow .char (.int (nI q)) = .int (nI q) ∧ fits .char (.int (nI q)) = true := by
  constructor
  · have e : (nI q).toUInt32.toUInt16.toUInt32.toInt32 = nI q := by
      apply Int32.toBitVec_inj.mp
      apply BitVec.eq_of_toNat_eq
      show (nI q).toUInt32.toUInt16.toUInt32.toNat = q % 2 ^ 32
      rw [UInt16.toNat_toUInt32, UInt32.toNat_toUInt16, show (nI q).toUInt32.toNat = q % 2 ^ 32 from rfl]
      omega
    exact congrArg Value.int e
  · have a : (0 : Int32) ≤ nI q := nI_pos' (by omega)
    have b : nI q ≤ 65535 := nI_le (b := 65535) (by omega) (by decide)
    show (decide ((0 : Int32) ≤ nI q) && decide (nI q ≤ 65535)) = true
    rw [decide_eq_true a, decide_eq_true b]
    rfl
set_option maxHeartbeats 200000 in
theorem pk_char (x : Int32) : (x.toUInt32 % 65536).toInt32 = nI (x.toBitVec.toNat % 65536) := by
  apply Int32.toBitVec_inj.mp
  apply BitVec.eq_of_toNat_eq
  rw [pk_tn (by omega)]
  show (x.toUInt32 % 65536).toNat = _
  rw [UInt32.toNat_mod]
  rfl
set_option maxHeartbeats 200000 in
theorem pk_nc (x : Int32) : narrow .char (.int (x.toUInt32 % 65536).toInt32) = .int (x.toUInt32 % 65536).toInt32 := by
  rw [pk_char]
  exact (pk_charN (Nat.mod_lt _ (by decide))).1
set_option maxHeartbeats 200000 in
theorem pk_fc (x : Int32) : fits .char (.int (x.toUInt32 % 65536).toInt32) = true := by
  rw [pk_char]
  exact (pk_charN (Nat.mod_lt _ (by decide))).2
set_option maxHeartbeats 200000 in
theorem pk_vb (z : Int32) : vp_nar .byte z.toInt8.toInt32 = z.toInt8.toInt32 := by rw [vp_nar_byte]; simp
set_option maxHeartbeats 200000 in
theorem pk_vs (z : Int32) : vp_nar .short z.toInt16.toInt32 = z.toInt16.toInt32 := by rw [vp_nar_short]; simp
set_option maxHeartbeats 200000 in
theorem pk_vc (z : Int32) : vp_nar .char (z.toUInt32 % 65536).toInt32 = (z.toUInt32 % 65536).toInt32 := Value.int.inj (pk_nc z)
set_option maxHeartbeats 200000 in
theorem pk_lT {n : Nat} (h : n < 2 ^ 63) : (lN n).toInt = (n : Int) := lg_ofNat_toInt h
set_option maxHeartbeats 200000 in
theorem pk_lLT {a b : Nat} (ha : a < 2 ^ 63) (hb : b < 2 ^ 63) : lN a < lN b ↔ a < b := by
  rw [Int64.lt_iff_toInt_lt, pk_lT ha, pk_lT hb]; omega
set_option maxHeartbeats 200000 in
theorem pk_lLE {a b : Nat} (ha : a < 2 ^ 63) (hb : b < 2 ^ 63) : lN a ≤ lN b ↔ a ≤ b := by
  rw [Int64.le_iff_toInt_le, pk_lT ha, pk_lT hb]; omega
set_option maxHeartbeats 200000 in
theorem pk_lEQ {a b : Nat} (ha : a < 2 ^ 63) (hb : b < 2 ^ 63) : lN a = lN b ↔ a = b := by
  rw [← Int64.toInt_inj, pk_lT ha, pk_lT hb]; omega
set_option maxHeartbeats 200000 in
theorem pk_lOf {x : Int64} (h : ¬ x < 0) : ∃ k : Nat, k < 2 ^ 63 ∧ x = lN k := by
  rw [Int64.lt_iff_toInt_lt] at h
  have h0 : (0 : Int64).toInt = 0 := by decide
  have hx := Int64.toInt_lt x
  refine ⟨x.toInt.toNat, by omega, Int64.toInt_inj.mp ?_⟩
  rw [pk_lT (by omega)]
  omega
set_option maxHeartbeats 200000 in
theorem pk_lDiv {a b : Nat} (ha : a < 2 ^ 63) (h0 : 0 < b) (hb : b < 2 ^ 63) : lN a / lN b = lN (a / b) := by
  apply Int64.toInt_inj.mp
  rw [lg_ldiv_nonneg (by rw [pk_lT ha]; omega) (by rw [pk_lT hb]; omega), pk_lT ha, pk_lT hb, pk_lT (Nat.lt_of_le_of_lt (Nat.div_le_self a b) ha)]
  rfl
set_option maxHeartbeats 200000 in
theorem pk_lRem {a b : Nat} (ha : a < 2 ^ 63) (h0 : 0 < b) (hb : b < 2 ^ 63) : lN a - lN a / lN b * lN b = lN (a % b) := by
  rw [pk_lDiv ha h0 hb, lN_mul, lN_sub (Nat.div_mul_le_self a b)]
  exact congrArg lN (by have := Nat.div_add_mod' a b; omega)
set_option maxHeartbeats 200000 in
theorem pk_loop {σ : Type} (W : Nat → Nat → σ → Prop) (I : Nat → σ → Prop) (e i0 : Nat) (s : σ) (hi : i0 ≤ e) (h0 : I i0 s) (hx : ∀ n s, I e s → W (n + 1) e s)
    (hs : ∀ n i s, i < e → I i s → (∀ s', I (i + 1) s' → W n (i + 1) s') → W (n + 1) i s) : ∃ n, W n i0 s :=
  ⟨e + 1, loop_i W I e hx hs (e + 1) i0 s hi (by omega) h0⟩
set_option maxHeartbeats 200000 in
theorem pk_loopD {σ : Type} (W : Nat → Nat → σ → Prop) (I : Nat → σ → Prop) (hx : ∀ n s, I 0 s → W (n + 1) 0 s)
    (hs : ∀ n i s, I (i + 1) s → (∀ s', I i s' → W n i s') → W (n + 1) (i + 1) s) : ∀ (e : Nat) (s : σ), I e s → W (e + 1) e s := by
  intro e
  induction e with
  | zero => exact fun s h => hx 0 s h
  | succ e ih => exact fun s h => hs (e + 1) e s h (fun s' h' => ih s' h')
set_option maxHeartbeats 200000 in
/-- a byte that holds a small number -/
theorem ls_vb (z : Int32) (h : -128 ≤ z.toInt) (h2 : z.toInt < 128) : vp_nar .byte z = z := by
  rw [vp_nar_byte]
  apply Int32.toInt_inj.mp
  rw [Int8.toInt_toInt32, Int32.toInt_toInt8]
  exact Int.bmod_eq_of_le (by omega) (by omega)
set_option maxHeartbeats 200000 in
theorem ls_vs (z : Int32) (h : -32768 ≤ z.toInt) (h2 : z.toInt < 32768) : vp_nar .short z = z := by
  rw [vp_nar_short]
  apply Int32.toInt_inj.mp
  rw [Int16.toInt_toInt32, Int32.toInt_toInt16]
  exact Int.bmod_eq_of_le (by omega) (by omega)
set_option maxHeartbeats 200000 in
theorem ls_i8 (z : Int32) (h : -128 ≤ z.toInt) (h2 : z.toInt < 128) : z.toInt8.toInt32 = z := by
  have := ls_vb z h h2; rwa [vp_nar_byte] at this
set_option maxHeartbeats 200000 in
theorem ls_i16 (z : Int32) (h : -32768 ≤ z.toInt) (h2 : z.toInt < 32768) : z.toInt16.toInt32 = z := by
  have := ls_vs z h h2; rwa [vp_nar_short] at this
set_option maxHeartbeats 200000 in
theorem ls_nb {n : Nat} (h : n < 128) : (nI n).toInt8.toInt32 = nI n :=
  ls_i8 _ (by rw [nI_toInt (by omega)]; omega) (by rw [nI_toInt (by omega)]; omega)
set_option maxHeartbeats 200000 in
theorem ls_ns {n : Nat} (h : n < 32768) : (nI n).toInt16.toInt32 = nI n :=
  ls_i16 _ (by rw [nI_toInt (by omega)]; omega) (by rw [nI_toInt (by omega)]; omega)
set_option maxHeartbeats 200000 in
theorem ls_vnb {n : Nat} (h : n < 128) : vp_nar .byte (nI n) = nI n := by rw [vp_nar_byte, ls_nb h]
set_option maxHeartbeats 200000 in
theorem ls_vns {n : Nat} (h : n < 32768) : vp_nar .short (nI n) = nI n := by rw [vp_nar_short, ls_ns h]
set_option maxHeartbeats 200000 in
theorem ls_vnb2 {n : Nat} (h : n < 128) : vp_nar .byte (nI n).toInt8.toInt32 = nI n := by rw [ls_nb h, ls_vnb h]
set_option maxHeartbeats 200000 in
theorem ls_vns2 {n : Nat} (h : n < 32768) : vp_nar .short (nI n).toInt16.toInt32 = nI n := by rw [ls_ns h, ls_vns h]
set_option maxHeartbeats 200000 in
theorem ls_vm1 : vp_nar .byte (-1) = -1 := by rw [vp_nar_byte]; decide
end
section
section
variable {f_tickLimit f_tokenCount f_outCount f_error f_errorPlace f_lastKind f_codeSize f_methodCount f_methodTokens f_cellCount f_activeCalls f_next f_ticksLeft f_state f_pos f_expressionStart f_pendingCount f_frameTop f_localCount : Int32}
variable {f_lastValue : Int64}
variable {a_tokenCode a_tokenValue a_outKind a_codeOp a_codeArg a_codeKind a_codePlace a_methodSign a_methodStart a_declared a_cellKind a_callReturn a_pendingLevel a_pendingPlace a_pendingMore a_frameKind a_frameMore a_localName : Nat → Int32}
variable {a_outValue a_cellValue : Nat → Int64}
set_option maxHeartbeats 200000 in
theorem hx_clear {post : SX → Prop} (hp : post (f_tickLimit, 0, 0, 0, -1, -1, 0, f_codeSize, 0, 0, f_cellCount, f_activeCalls, f_next, f_ticksLeft, f_state, f_pos, f_expressionStart, f_pendingCount, f_frameTop, f_localCount, a_tokenCode, a_tokenValue, a_outKind, a_outValue, a_codeOp, a_codeArg, a_codeKind, a_codePlace, a_methodSign, a_methodStart, (fun j => if j < 16 then -1 else a_declared j), a_cellKind, a_cellValue, a_callReturn, a_pendingLevel, a_pendingPlace, a_pendingMore, a_frameKind, a_frameMore, a_localName)) : wpX_clear post (f_tickLimit, f_tokenCount, f_outCount, f_error, f_errorPlace, f_lastKind, f_lastValue, f_codeSize, f_methodCount, f_methodTokens, f_cellCount, f_activeCalls, f_next, f_ticksLeft, f_state, f_pos, f_expressionStart, f_pendingCount, f_frameTop, f_localCount, a_tokenCode, a_tokenValue, a_outKind, a_outValue, a_codeOp, a_codeArg, a_codeKind, a_codePlace, a_methodSign, a_methodStart, a_declared, a_cellKind, a_cellValue, a_callReturn, a_pendingLevel, a_pendingPlace, a_pendingMore, a_frameKind, a_frameMore, a_localName) := by
  have H : ∀ d i : Nat, i + d = 16 → wX_clear_17 post f_tickLimit 0 f_outCount f_error f_errorPlace f_lastKind f_lastValue f_codeSize 0 0 f_cellCount f_activeCalls f_next f_ticksLeft f_state f_pos f_expressionStart f_pendingCount f_frameTop f_localCount (d + 1) (nI i) a_tokenCode a_tokenValue a_outKind a_outValue a_codeOp a_codeArg a_codeKind a_codePlace a_methodSign a_methodStart ((fun j => if j < i then -1 else a_declared j)) a_cellKind a_cellValue a_callReturn a_pendingLevel a_pendingPlace a_pendingMore a_frameKind a_frameMore a_localName := by
    intro d
    induction d with
    | zero =>
      intro i hi
      have e : i = 16 := by omega
      subst e
      exact br_t (by decide) hp
    | succ d ih =>
      intro i hi
      refine br_f (nI_ge (b := 16) (by omega) (by decide)) ⟨vp_in_nI (by omega) (by decide), nm_r ?_ (nm_r (nI_1 i) (ih (i + 1) (by omega)))⟩
      funext j
      rw [nI_clamp (by omega)]
      unfold upd
      by_cases h : j = i
      · simp [h]
      · by_cases h2 : j < i
        · simp [h, h2, show j < i + 1 by omega]
        · simp [h, h2, show ¬ j < i + 1 by omega]
  exact ⟨17, H 16 0 rfl⟩
end
section
variable {f_most f_n f_stored f_nm f_nEnv f_base f_ns f_no f_nc f_pc f_mode f_err f_errAt f_ticks f_calls f_outs f_resK f_part f_cnt f_full f_flag f_need : Int32}
variable {f_resV : Int64}
variable {a_tk a_tp a_mName a_mKind a_mCount a_mPar a_mAt a_vName a_vDecl a_vKind a_sk a_oKind a_oAt a_oArgs a_cKind a_cA a_cB a_outK : Nat → Int32}
variable {a_tv a_vVal a_sv a_outV : Nat → Int64}
set_option maxHeartbeats 200000 in
theorem hy_reset {post : SY → Prop} (hp : post (f_most, 0, 140, 0, f_nEnv, f_base, f_ns, f_no, f_nc, f_pc, f_mode, f_err, -1, f_ticks, f_calls, 0, -1, f_part, 0, f_cnt, f_full, f_flag, f_need, a_tk, a_tv, a_tp, a_mName, a_mKind, a_mCount, a_mPar, a_mAt, a_vName, (fun j => if 80 ≤ j ∧ j < 96 then -1 else a_vDecl j), a_vKind, a_vVal, a_sk, a_sv, a_oKind, a_oAt, a_oArgs, a_cKind, a_cA, a_cB, a_outK, a_outV)) : wpY_reset post (f_most, f_n, f_stored, f_nm, f_nEnv, f_base, f_ns, f_no, f_nc, f_pc, f_mode, f_err, f_errAt, f_ticks, f_calls, f_outs, f_resK, f_part, f_resV, f_cnt, f_full, f_flag, f_need, a_tk, a_tv, a_tp, a_mName, a_mKind, a_mCount, a_mPar, a_mAt, a_vName, a_vDecl, a_vKind, a_vVal, a_sk, a_sv, a_oKind, a_oAt, a_oArgs, a_cKind, a_cA, a_cB, a_outK, a_outV) := by
  have H : ∀ d i : Nat, i + d = 96 → 80 ≤ i → wY_reset_20 post f_most 0 140 0 f_nEnv f_base f_ns f_no f_nc f_pc f_mode f_err f_errAt f_ticks f_calls f_outs f_resK f_part f_resV f_cnt f_full f_flag f_need (d + 1) (nI i) a_tk a_tv a_tp a_mName a_mKind a_mCount a_mPar a_mAt a_vName ((fun j => if 80 ≤ j ∧ j < i then -1 else a_vDecl j)) a_vKind a_vVal a_sk a_sv a_oKind a_oAt a_oArgs a_cKind a_cA a_cB a_outK a_outV := by
    intro d
    induction d with
    | zero =>
      intro i hi h8
      have e : i = 96 := by omega
      subst e
      exact br_t (by decide) hp
    | succ d ih =>
      intro i hi h8
      refine br_f (nI_ge (b := 96) (by omega) (by decide)) ⟨vp_in_nI (by omega) (by decide), nm_r ?_ (nm_r (nI_1 i) (ih (i + 1) (by omega) (by omega)))⟩
      funext j
      rw [nI_clamp (by omega), ls_vm1]
      unfold upd
      show (if j = i then -1 else if 80 ≤ j ∧ j < i then -1 else a_vDecl j) = if 80 ≤ j ∧ j < i + 1 then -1 else a_vDecl j
      by_cases h : j = i
      · rw [if_pos h, if_pos (by omega)]
      · by_cases h2 : 80 ≤ j ∧ j < i
        · rw [if_neg h, if_pos h2, if_pos (by omega)]
        · rw [if_neg h, if_neg h2, if_neg (by omega)]
  have := H 16 80 rfl (by omega)
  refine ⟨17, ?_⟩
  have e : (fun j => if 80 ≤ j ∧ j < 80 then (-1 : Int32) else a_vDecl j) = a_vDecl := by
    funext j; rw [if_neg (by omega)]
  rw [e] at this
  exact this
end
end
section
/-! The reader as a pure machine. T: the tokens in the reference's coding (72: the text's end), V: the numbers' values.
   A configuration: state, place, the expression's start, the pending operators (level, place, more), the frames
   (kind, more, place, names), the local names (inner ones first), the code (size, op, arg, kind, place). -/
def ls_xc (t : Nat) : Nat := if t < 54 then t else if t < 70 then 54 else if t = 70 then 55 else if t = 71 then 56 else 57
abbrev ls_nam (t : Nat) : Prop := 54 ≤ t ∧ t < 70
abbrev ls_asg (t : Nat) : Prop := t = 21 ∨ (43 ≤ t ∧ t ≤ 53)
def ls_lv (t : Nat) : Nat :=
  if t = 42 then 3 else if t = 41 then 4 else if t = 30 then 5 else if t = 31 then 6 else if t = 29 then 7
  else if t = 39 then 8 else if t = 40 then 8 else if 35 ≤ t ∧ t ≤ 38 then 9 else if 32 ≤ t ∧ t ≤ 34 then 10
  else if t = 24 then 11 else if t = 25 then 11 else if 26 ≤ t ∧ t ≤ 28 then 12 else 2
abbrev LsP := Nat × Nat × Nat
abbrev LsF := Nat × Nat × Nat × List Nat
abbrev LsK := Nat × (Nat → Int32) × (Nat → Int32) × (Nat → Int32) × (Nat → Int32)
abbrev LsC := Nat × Nat × Nat × List LsP × List LsF × List Nat × LsK
def ls_addr : List Nat → Nat → Nat
  | [], nm => nm
  | x :: r, nm => if x = nm then 16 + r.length else ls_addr r nm
def ls_em (k : LsK) (o a d p : Int32) : LsK := (k.1 + 1, upd k.2.1 k.1 o, upd k.2.2.1 k.1 a, upd k.2.2.2.1 k.1 d, upd k.2.2.2.2 k.1 p)
def ls_aim (k : LsK) (j : Nat) : LsK := (k.1, k.2.1, upd k.2.2.1 j (nI k.1 - nI j), k.2.2.2.1, k.2.2.2.2)
def ls_exits (k : LsK) (lo : Nat) : LsK := (k.1, k.2.1, (fun i => if lo ≤ i ∧ i < k.1 ∧ (k.2.1 i = 14 ∨ k.2.1 i = 15) ∧ k.2.2.1 i = 0 then nI k.1 - nI i else k.2.2.1 i), k.2.2.2.1, k.2.2.2.2)
def ls_hasn (T : Nat → Nat) : Nat → Nat → Bool
  | _, 0 => false
  | a, m + 1 => decide (ls_nam (T a)) || ls_hasn T (a + 1) m
def ls_const (T : Nat → Nat) (a b : Nat) : Nat := if ls_hasn T a (b - a) then 0 else 8
/-- the innermost loop's frame -/
def ls_loop : List LsF → Option Nat
  | [] => none
  | f :: r => if f.1 = 5 then some f.2.1 else ls_loop r
/-- the kind of the method that is being read -/
def ls_mkd : List LsF → Option Nat
  | [] => none
  | [f] => if f.1 = 2 then some (f.2.2.2.headD 0) else none
  | _ :: g :: r => ls_mkd (g :: r)
def ls_fk (fr : List LsF) : Nat := match fr with
  | [] => 0
  | f :: _ => f.1
/-- the parameters from place p on: i of them stand already -/
def ls_par (T : Nat → Nat) : Nat → Nat → Nat → List Nat → Nat → Except Nat (Nat × List Nat × Nat)
  | 0, _, p, _, _ => .error p
  | f + 1, i, p, L, sg =>
    if T p < 6 then
      if ls_nam (T (p + 1)) ∧ ¬ (T (p + 1) - 54) ∈ L then
        if T (p + 2) = 19 then
          if i + 1 < 3 then ls_par T f (i + 1) (p + 3) ((T (p + 1) - 54) :: L) (sg + 16 + T p * 2 ^ (6 + 3 * i)) else .error (p + 2)
        else if T (p + 2) = 16 then
          if T (p + 3) = 17 then .ok (p + 4, (T (p + 1) - 54) :: L, sg + 16 + T p * 2 ^ (6 + 3 * i)) else .error (p + 3)
        else .error (p + 2)
      else .error (p + 1)
    else .error p
def ls_head (T : Nat → Nat) (pos : Nat) : Except Nat (Nat × List Nat × Nat) :=
  if T (pos + 3) = 16 then
    if T (pos + 4) = 17 then .ok (pos + 5, [], T (pos + 1) - 54) else .error (pos + 4)
  else ls_par T 3 0 (pos + 3) [] (T (pos + 1) - 54)
def ls_r0 (T : Nat → Nat) (pos es : Nat) (pe : List LsP) (fr : List LsF) (L : List Nat) (k : LsK) : Except Nat LsC :=
  if T pos = 72 ∧ fr = [] then .ok (6, pos, es, pe, fr, L, k)
  else match fr with
    | [] => if T pos < 6 then .ok (2, pos, es, pe, fr, L, k) else .ok (1, pos, es, pe, fr, L, k)
    | (fk, mo, sp, l) :: r =>
      if fk = 1 then
        if T pos = 18 then .ok (3, pos + 1, es, pe, r, l, k)
        else if T pos < 6 then .ok (2, pos, es, pe, (fk, mo, sp, l) :: r, L, k)
        else .ok (1, pos, es, pe, (fk, mo, sp, l) :: r, L, k)
      else .ok (1, pos, es, pe, (fk, mo, sp, l) :: r, L, k)
def ls_hdr (T : Nat → Nat) (pos : Nat) (fk : Nat) (pe : List LsP) (fr : List LsF) (L : List Nat) (cs : Nat) (k : LsK) : Except Nat LsC :=
  if T (pos + 1) = 15 then .ok (4, pos + 2, pos + 2, pe, (fk, cs, pos, []) :: fr, L, k) else .error (pos + 1)
def ls_r1 (T : Nat → Nat) (pos es : Nat) (pe : List LsP) (fr : List LsF) (L : List Nat) (k0 : LsK) : Except Nat LsC :=
  let k := ls_em k0 1 0 0 (nI pos)
  if T pos = 20 then .ok (3, pos + 1, es, pe, fr, L, k)
  else if T pos = 17 then .ok (0, pos + 1, es, pe, (1, L.length, pos, L) :: fr, L, k)
  else if T pos = 6 then ls_hdr T pos 7 pe fr L k0.1 k
  else if T pos = 8 then ls_hdr T pos 8 pe fr L k0.1 k
  else if T pos = 12 then ls_hdr T pos 9 pe fr L k0.1 k
  else if T pos = 9 then match ls_loop fr with
    | none => .error pos
    | some _ => if T (pos + 1) = 20 then .ok (3, pos + 2, es, pe, fr, L, ls_em k 14 0 0 (nI pos)) else .error (pos + 1)
  else if T pos = 10 then match ls_loop fr with
    | none => .error pos
    | some mo => if T (pos + 1) = 20 then .ok (3, pos + 2, es, pe, fr, L, ls_em k 14 (nI (mo + 1) - nI k.1) 0 (nI pos)) else .error (pos + 1)
  else if T pos = 11 then match ls_mkd fr with
    | none => .error pos
    | some mq => if T (pos + 1) = 20 then .ok (3, pos + 2, es, pe, fr, L, ls_em k 18 0 (nI mq) (nI pos))
      else .ok (4, pos + 1, pos + 1, pe, (10, k0.1, pos, []) :: fr, L, k)
  else .ok (4, pos, pos, pe, (6, k0.1, pos, []) :: fr, L, k)
def ls_var (T : Nat → Nat) (pos es : Nat) (pe : List LsP) (fr : List LsF) (L : List Nat) (k : LsK) : Except Nat LsC :=
  match fr with
  | [] =>
    let k1 := ls_em k 1 0 0 (nI pos)
    if T (pos + 2) = 21 then .ok (4, pos + 3, pos + 3, pe, [(11, k.1, pos, [])], L, k1)
    else if T (pos + 2) = 20 then .ok (0, pos + 3, es, pe, [], L, ls_em k1 19 (nI (ls_addr L (T (pos + 1) - 54))) (nI (T pos)) (nI pos))
    else .error (pos + 2)
  | (fk, mo, sp, l) :: r =>
    if L.length < 8 ∧ ¬ (T (pos + 1) - 54) ∈ L.take (L.length - mo) then
      let L1 := (T (pos + 1) - 54) :: L
      let k1 := ls_em k 19 (nI (ls_addr L1 (T (pos + 1) - 54))) (nI (T pos)) (nI pos)
      if T (pos + 2) = 21 then .ok (4, pos + 3, pos + 3, pe, (11, k.1, pos, []) :: (fk, mo, sp, l) :: r, L1, k1)
      else if T (pos + 2) = 20 then .ok (0, pos + 3, es, pe, (fk, mo, sp, l) :: r, L1, k1)
      else .error (pos + 2)
    else .error (pos + 1)
def ls_r2 (T : Nat → Nat) (pos es : Nat) (pe : List LsP) (fr : List LsF) (L : List Nat) (k : LsK) : Except Nat LsC :=
  if ls_nam (T (pos + 1)) then
    if fr = [] ∧ T (pos + 2) = 15 then
      match ls_head T pos with
      | .error e => .error e
      | .ok (p, L1, sg) => .ok (0, p, es, pe, [(1, L1.length, p, L1), (2, k.1 + 1, pos, [T pos])], L1, ls_em (ls_em k 1 0 0 (nI pos)) 21 0 (nI (sg * 8 + T pos)) (nI pos))
    else ls_var T pos es pe fr L k
  else .error (pos + 1)
def ls_r3 (T : Nat → Nat) (pos es : Nat) (pe : List LsP) (fr : List LsF) (L : List Nat) (k : LsK) : Except Nat LsC :=
  match fr with
  | [] => .ok (0, pos, es, pe, [], L, k)
  | (fk, mo, sp, l) :: r =>
    if fk = 3 then
      if T pos = 7 then .ok (0, pos + 1, es, pe, (4, k.1, sp, []) :: r, L, ls_aim (ls_em k 14 0 0 (nI pos)) mo)
      else .ok (3, pos, es, pe, r, L, ls_aim k mo)
    else if fk = 4 then .ok (3, pos, es, pe, r, L, ls_aim k mo)
    else if fk = 5 then .ok (3, pos, es, pe, r, L, ls_exits (ls_em k 14 (nI (mo + 1) - nI k.1) 0 (nI pos)) mo)
    else if fk = 2 then .ok (3, pos, es, pe, r, [], ls_aim (ls_em k 18 0 (nI (l.headD 0)) (nI (pos - 1))) mo)
    else .ok (0, pos, es, pe, (fk, mo, sp, l) :: r, L, k)
/-- a fault within an expression: its 33rd token came first -/
def ls_flt (es pos : Nat) : Except Nat LsC := .error (if es + 32 < pos then es + 32 else pos)
def ls_starts (pe : List LsP) : Bool := match pe with
  | [] => true
  | e :: _ => decide (e.1 ≤ 2)
def ls_r4 (T : Nat → Nat) (V : Nat → Int32) (pos es : Nat) (pe : List LsP) (fr : List LsF) (L : List Nat) (k : LsK) : Except Nat LsC :=
  if ls_nam (T pos) then
    let nm := T pos - 54
    if T (pos + 1) = 15 then
      if T (pos + 2) = 16 then .ok (5, pos + 3, es, pe, fr, L, ls_em k 11 (nI nm) 0 (nI pos))
      else .ok (4, pos + 2, es, (0, pos, 1) :: pe, fr, L, k)
    else if ls_starts pe = true ∧ ls_asg (T (pos + 1)) then
      if T (pos + 1) = 21 then .ok (4, pos + 2, es, (2, pos + 1, ls_addr L nm) :: pe, fr, L, k)
      else .ok (4, pos + 2, es, (2, pos + 1, ls_addr L nm) :: pe, fr, L, ls_em k 3 (nI (ls_addr L nm)) 0 (nI pos))
    else .ok (5, pos + 1, es, pe, fr, L, ls_em k 3 (nI (ls_addr L nm)) 0 (nI pos))
  else if T pos = 70 then .ok (5, pos + 1, es, pe, fr, L, ls_em k 2 (V pos) 3 (nI pos))
  else if T pos = 71 then .ok (5, pos + 1, es, pe, fr, L, ls_em k 2 (V pos) 4 (nI pos))
  else if T pos = 13 then .ok (5, pos + 1, es, pe, fr, L, ls_em k 2 1 0 (nI pos))
  else if T pos = 14 then .ok (5, pos + 1, es, pe, fr, L, ls_em k 2 0 0 (nI pos))
  else if T pos = 15 then
    if T (pos + 1) < 5 then
      if T (pos + 2) = 16 then .ok (4, pos + 3, es, (13, pos, T (pos + 1)) :: pe, fr, L, k) else ls_flt es (pos + 2)
    else if T (pos + 1) = 5 then ls_flt es (pos + 1)
    else .ok (4, pos + 1, es, (1, pos, 0) :: pe, fr, L, k)
  else if 22 ≤ T pos ∧ T pos ≤ 25 then .ok (4, pos + 1, es, (13, pos, 0) :: pe, fr, L, k)
  else ls_flt es pos
def ls_red (T : Nat → Nat) (pos : Nat) (lv pl mo : Nat) (k : LsK) : LsK :=
  if lv = 2 then
    if T pl = 21 then ls_em k 9 (nI mo) (nI (ls_const T (pl + 1) pos)) (nI pl)
    else ls_em (ls_em k 5 (nI (T pl - 19)) 0 (nI pl)) 10 (nI mo) 0 (nI pl)
  else if lv = 13 then
    if T pl = 15 then ls_em k 6 15 (nI mo) (nI pl) else ls_em k 4 (nI (T pl)) (nI mo) (nI pl)
  else if T pl = 41 ∨ T pl = 42 then ls_aim (ls_em k 8 0 0 (nI pl)) mo
  else ls_em k 5 (nI (T pl)) 0 (nI pl)
def ls_end (T : Nat → Nat) (pos es : Nat) (fr : List LsF) (L : List Nat) (k : LsK) : Except Nat LsC :=
  if es + 32 < pos then .error (es + 32) else
  match fr with
  | [] => .error pos
  | (fk, mo, sp, _) :: r =>
    if fk = 7 then
      if T pos = 16 then .ok (0, pos + 1, es, [], (3, k.1, sp, []) :: r, L, ls_em k 15 0 0 (nI sp)) else .error pos
    else if fk = 8 then
      if T pos = 16 then .ok (0, pos + 1, es, [], (5, mo, sp, []) :: r, L, ls_em k 15 0 0 (nI sp)) else .error pos
    else if fk = 9 then
      if T pos = 16 then
        if T (pos + 1) = 20 then .ok (3, pos + 2, es, [], r, L, ls_em k 16 0 0 (nI sp)) else .error (pos + 1)
      else .error pos
    else if T pos = 20 then
      if fk = 10 then .ok (3, pos + 1, es, [], r, L, ls_em k 17 0 (nI ((ls_mkd r).getD 0 + ls_const T es pos)) (nI sp))
      else if fk = 11 then .ok (3, pos + 1, es, [], r, L, ls_em k 20 (nI (ls_addr L (T (sp + 1) - 54))) (nI (T sp + ls_const T es pos)) (nI (sp + 2)))
      else .ok (3, pos + 1, es, [], r, L, ls_em k (if r = [] then 13 else 12) 0 0 (nI sp))
    else .error pos
def ls_r5 (T : Nat → Nat) (pos es : Nat) (pe : List LsP) (fr : List LsF) (L : List Nat) (k : LsK) : Except Nat LsC :=
  let lev := ls_lv (T pos)
  match pe with
  | [] =>
    if 2 < lev then .ok (4, pos + 1, es, [(lev, pos, k.1)], fr, L, if T pos = 41 ∨ T pos = 42 then ls_em k 7 0 (nI (T pos - 41)) (nI pos) else k)
    else ls_end T pos es fr L k
  | (lv, pl, mo) :: r =>
    if lev ≤ lv then .ok (5, pos, es, r, fr, L, ls_red T pos lv pl mo k)
    else if 2 < lev then .ok (4, pos + 1, es, (lev, pos, k.1) :: (lv, pl, mo) :: r, fr, L, if T pos = 41 ∨ T pos = 42 then ls_em k 7 0 (nI (T pos - 41)) (nI pos) else k)
    else if T pos = 16 then
      if lv = 0 then .ok (5, pos + 1, es, r, fr, L, ls_em k 11 (nI (T pl - 54 + mo * 16)) 0 (nI pl))
      else .ok (5, pos + 1, es, r, fr, L, k)
    else if T pos = 19 ∧ lv = 0 then
      if mo < 3 then .ok (4, pos + 1, es, (lv, pl, mo + 1) :: r, fr, L, k) else ls_flt es pos
    else ls_flt es pos
def ls_rs (T : Nat → Nat) (V : Nat → Int32) (c : LsC) : Except Nat LsC :=
  match c with
  | (st, pos, es, pe, fr, L, k) =>
    if st = 0 then ls_r0 T pos es pe fr L k
    else if st = 1 then ls_r1 T pos es pe fr L k
    else if st = 2 then ls_r2 T pos es pe fr L k
    else if st = 3 then ls_r3 T pos es pe fr L k
    else if st = 4 then ls_r4 T V pos es pe fr L k
    else ls_r5 T pos es pe fr L k
end
section
set_option maxHeartbeats 200000 in
theorem ls_lv_tab : ∀ t : Fin 43, 24 ≤ t.1 → 3 ≤ ls_lv t.1 ∧ ls_lv t.1 ≤ 12 := by decide
set_option maxHeartbeats 200000 in
theorem ls_lv_2 {t : Nat} (h : ¬ (24 ≤ t ∧ t ≤ 42)) : ls_lv t = 2 := by
  unfold ls_lv
  repeat rw [if_neg (by omega)]
set_option maxHeartbeats 200000 in
theorem ls_lv_c (t : Nat) : ls_lv t = 2 ∧ ¬ (24 ≤ t ∧ t ≤ 42) ∨ ((24 ≤ t ∧ t ≤ 42) ∧ 3 ≤ ls_lv t ∧ ls_lv t ≤ 12) := by
  by_cases h : 24 ≤ t ∧ t ≤ 42
  · exact Or.inr ⟨h, ls_lv_tab ⟨t, by omega⟩ h.1⟩
  · exact Or.inl ⟨ls_lv_2 h, h⟩
/-! Stacks in arrays, and what it means that a state of the component stands for a configuration -/
def ls_StP (a b c : Nat → Int32) : List LsP → Prop
  | [] => True
  | e :: r => a r.length = nI e.1 ∧ b r.length = nI e.2.1 ∧ c r.length = nI e.2.2 ∧ ls_StP a b c r
def ls_StF (a b : Nat → Int32) : List LsF → Prop
  | [] => a 0 = 0
  | f :: r => a (r.length + 1) = nI f.1 ∧ b (r.length + 1) = nI f.2.1 ∧ ls_StF a b r
def ls_StN (a : Nat → Int32) : List Nat → Prop
  | [] => True
  | x :: r => a r.length = nI x ∧ ls_StN a r
set_option maxHeartbeats 200000 in
theorem ls_StP_up {a b c : Nat → Int32} {j : Nat} {x y z : Int32} : ∀ {pe : List LsP}, pe.length ≤ j → ls_StP a b c pe → ls_StP (upd a j x) (upd b j y) (upd c j z) pe
  | [], _, _ => trivial
  | e :: r, h, ⟨h1, h2, h3, h4⟩ => by
    have h' : r.length + 1 ≤ j := h
    refine ⟨?_, ?_, ?_, ls_StP_up (by omega) h4⟩
    · rw [pk_un (by omega)]; exact h1
    · rw [pk_un (by omega)]; exact h2
    · rw [pk_un (by omega)]; exact h3
set_option maxHeartbeats 200000 in
theorem ls_StP_push {a b c : Nat → Int32} {pe : List LsP} (l p m : Nat) (h : ls_StP a b c pe) : ls_StP (upd a pe.length (nI l)) (upd b pe.length (nI p)) (upd c pe.length (nI m)) ((l, p, m) :: pe) :=
  ⟨pk_us, pk_us, pk_us, ls_StP_up (Nat.le_refl _) h⟩
set_option maxHeartbeats 200000 in
theorem ls_StP_more {a b c : Nat → Int32} {j : Nat} {z : Int32} : ∀ {pe : List LsP}, pe.length ≤ j → ls_StP a b c pe → ls_StP a b (upd c j z) pe
  | [], _, _ => trivial
  | e :: r, h, ⟨h1, h2, h3, h4⟩ => by
    have h' : r.length + 1 ≤ j := h
    exact ⟨h1, h2, by rw [pk_un (by omega)]; exact h3, ls_StP_more (by omega) h4⟩
set_option maxHeartbeats 200000 in
theorem ls_StF_up {a b : Nat → Int32} {j : Nat} {x y : Int32} : ∀ {fr : List LsF}, fr.length < j → ls_StF a b fr → ls_StF (upd a j x) (upd b j y) fr
  | [], h, h0 => by
    have h' : (0 : Nat) < j := h
    show upd a j x 0 = 0
    rw [pk_un (by omega)]; exact h0
  | f :: r, h, ⟨h1, h2, h3⟩ => by
    have h' : r.length + 1 < j := h
    refine ⟨?_, ?_, ls_StF_up (by omega) h3⟩
    · rw [pk_un (by omega)]; exact h1
    · rw [pk_un (by omega)]; exact h2
set_option maxHeartbeats 200000 in
theorem ls_StF_push {a b : Nat → Int32} {fr : List LsF} (k m s : Nat) (l : List Nat) (h : ls_StF a b fr) : ls_StF (upd a (fr.length + 1) (nI k)) (upd b (fr.length + 1) (nI m)) ((k, m, s, l) :: fr) :=
  ⟨pk_us, pk_us, ls_StF_up (Nat.lt_succ_self _) h⟩
set_option maxHeartbeats 200000 in
theorem ls_StF_set {a b : Nat → Int32} {f : LsF} {fr : List LsF} (k m s : Nat) (l : List Nat) (h : ls_StF a b (f :: fr)) : ls_StF (upd a (fr.length + 1) (nI k)) (upd b (fr.length + 1) (nI m)) ((k, m, s, l) :: fr) :=
  ls_StF_push k m s l h.2.2
set_option maxHeartbeats 200000 in
theorem ls_StN_up {a : Nat → Int32} {j : Nat} {x : Int32} : ∀ {L : List Nat}, L.length ≤ j → ls_StN a L → ls_StN (upd a j x) L
  | [], _, _ => trivial
  | e :: r, h, ⟨h1, h2⟩ => by
    have h' : r.length + 1 ≤ j := h
    exact ⟨by rw [pk_un (by omega)]; exact h1, ls_StN_up (by omega) h2⟩
set_option maxHeartbeats 200000 in
theorem ls_StN_push {a : Nat → Int32} {L : List Nat} (x : Nat) (h : ls_StN a L) : ls_StN (upd a L.length (nI x)) (x :: L) :=
  ⟨pk_us, ls_StN_up (Nat.le_refl _) h⟩
set_option maxHeartbeats 200000 in
theorem ls_StN_drop {a : Nat → Int32} : ∀ {L : List Nat} (m : Nat), ls_StN a L → ls_StN a (L.drop m)
  | [], m, h => by cases m <;> exact h
  | _ :: _, 0, h => h
  | _ :: _, m + 1, h => ls_StN_drop m h.2
def ls_tok (T : Nat → Nat) (V : Nat → Int32) (n : Nat) (tc tv : Nat → Int32) : Prop :=
  n ≤ 140 ∧ (∀ p, p < n → T p < 72 ∧ tc p = nI (ls_xc (T p)) ∧ (ls_nam (T p) → tv p = nI (T p - 54)) ∧ (70 ≤ T p → tv p = V p)) ∧ ∀ p, n ≤ p → T p = 72
set_option maxHeartbeats 200000 in
theorem ls_tok_le {T V n tc tv} (h : ls_tok T V n tc tv) (p : Nat) : T p ≤ 72 := by
  by_cases hp : p < n
  · have := (h.2.1 p hp).1; omega
  · have := h.2.2 p (by omega); omega
set_option maxHeartbeats 200000 in
theorem ls_tok_lt {T V n tc tv} (h : ls_tok T V n tc tv) {p : Nat} (hp : T p ≠ 72) : p < n := by
  apply Decidable.byContradiction
  intro hn
  exact hp (h.2.2 p (by omega))
/-- what the reader never changes -/
def ls_kept (u : SX) : Int32 × Int32 × Int32 × Int32 × Int64 × Int32 × Int32 × Int32 × Int32 × Int32 × Int32 × (Nat → Int32) × (Nat → Int32) × (Nat → Int32) × (Nat → Int64) × (Nat → Int32) × (Nat → Int32) × (Nat → Int32) × (Nat → Int32) × (Nat → Int64) × (Nat → Int32) := match u with
  | (f_tickLimit, f_tokenCount, f_outCount, f_error, f_errorPlace, f_lastKind, f_lastValue, f_codeSize, f_methodCount, f_methodTokens, f_cellCount, f_activeCalls, f_next, f_ticksLeft, f_state, f_pos, f_expressionStart, f_pendingCount, f_frameTop, f_localCount, a_tokenCode, a_tokenValue, a_outKind, a_outValue, a_codeOp, a_codeArg, a_codeKind, a_codePlace, a_methodSign, a_methodStart, a_declared, a_cellKind, a_cellValue, a_callReturn, a_pendingLevel, a_pendingPlace, a_pendingMore, a_frameKind, a_frameMore, a_localName) => (f_tickLimit, f_tokenCount, f_outCount, f_lastKind, f_lastValue, f_methodCount, f_methodTokens, f_cellCount, f_activeCalls, f_next, f_ticksLeft, a_tokenCode, a_tokenValue, a_outKind, a_outValue, a_methodSign, a_methodStart, a_declared, a_cellKind, a_cellValue, a_callReturn)
/-- the methods' code stands as it stood -/
def ls_lo (u : SX) (k : LsK) : Prop := match u with
  | (f_tickLimit, f_tokenCount, f_outCount, f_error, f_errorPlace, f_lastKind, f_lastValue, f_codeSize, f_methodCount, f_methodTokens, f_cellCount, f_activeCalls, f_next, f_ticksLeft, f_state, f_pos, f_expressionStart, f_pendingCount, f_frameTop, f_localCount, a_tokenCode, a_tokenValue, a_outKind, a_outValue, a_codeOp, a_codeArg, a_codeKind, a_codePlace, a_methodSign, a_methodStart, a_declared, a_cellKind, a_cellValue, a_callReturn, a_pendingLevel, a_pendingPlace, a_pendingMore, a_frameKind, a_frameMore, a_localName) => ∀ i, i < 480 → k.2.1 i = a_codeOp i ∧ k.2.2.1 i = a_codeArg i ∧ k.2.2.2.1 i = a_codeKind i ∧ k.2.2.2.2 i = a_codePlace i
def ls_XR (T : Nat → Nat) (V : Nat → Int32) (n : Nat) (u0 : SX) (c : LsC) (u : SX) : Prop := match c with
  | (st, pos, es, pe, fr, L, k) => match u with
    | (f_tickLimit, f_tokenCount, f_outCount, f_error, f_errorPlace, f_lastKind, f_lastValue, f_codeSize, f_methodCount, f_methodTokens, f_cellCount, f_activeCalls, f_next, f_ticksLeft, f_state, f_pos, f_expressionStart, f_pendingCount, f_frameTop, f_localCount, a_tokenCode, a_tokenValue, a_outKind, a_outValue, a_codeOp, a_codeArg, a_codeKind, a_codePlace, a_methodSign, a_methodStart, a_declared, a_cellKind, a_cellValue, a_callReturn, a_pendingLevel, a_pendingPlace, a_pendingMore, a_frameKind, a_frameMore, a_localName) => (f_tickLimit, f_tokenCount, f_outCount, f_lastKind, f_lastValue, f_methodCount, f_methodTokens, f_cellCount, f_activeCalls, f_next, f_ticksLeft, a_tokenCode, a_tokenValue, a_outKind, a_outValue, a_methodSign, a_methodStart, a_declared, a_cellKind, a_cellValue, a_callReturn) = ls_kept u0 ∧ ls_lo u0 k ∧ f_tokenCount = nI n ∧ ls_tok T V n a_tokenCode a_tokenValue ∧ f_error = 0 ∧ f_errorPlace = -1 ∧ f_codeSize = nI k.1 ∧ f_state = nI st ∧ f_pos = nI pos ∧ f_pendingCount = nI pe.length ∧ f_frameTop = nI fr.length ∧ f_localCount = nI L.length ∧ a_codeOp = k.2.1 ∧ a_codeArg = k.2.2.1 ∧ a_codeKind = k.2.2.2.1 ∧ a_codePlace = k.2.2.2.2 ∧ ((st = 4 ∨ st = 5) → f_expressionStart = nI es) ∧ ls_StP a_pendingLevel a_pendingPlace a_pendingMore pe ∧ ls_StF a_frameKind a_frameMore fr ∧ ls_StN a_localName L
/-- a fault was found, at e -/
def ls_XK (T : Nat → Nat) (V : Nat → Int32) (n : Nat) (u0 : SX) (e m : Nat) (u : SX) : Prop := match u with
    | (f_tickLimit, f_tokenCount, f_outCount, f_error, f_errorPlace, f_lastKind, f_lastValue, f_codeSize, f_methodCount, f_methodTokens, f_cellCount, f_activeCalls, f_next, f_ticksLeft, f_state, f_pos, f_expressionStart, f_pendingCount, f_frameTop, f_localCount, a_tokenCode, a_tokenValue, a_outKind, a_outValue, a_codeOp, a_codeArg, a_codeKind, a_codePlace, a_methodSign, a_methodStart, a_declared, a_cellKind, a_cellValue, a_callReturn, a_pendingLevel, a_pendingPlace, a_pendingMore, a_frameKind, a_frameMore, a_localName) => (f_tickLimit, f_tokenCount, f_outCount, f_lastKind, f_lastValue, f_methodCount, f_methodTokens, f_cellCount, f_activeCalls, f_next, f_ticksLeft, a_tokenCode, a_tokenValue, a_outKind, a_outValue, a_methodSign, a_methodStart, a_declared, a_cellKind, a_cellValue, a_callReturn) = ls_kept u0 ∧ f_tokenCount = nI n ∧ ls_tok T V n a_tokenCode a_tokenValue ∧ f_error = 1 ∧ f_errorPlace = nI e ∧ (∃ c, f_codeSize = nI c ∧ 480 ≤ c ∧ c ≤ 761) ∧ (∃ p, f_pos = nI p ∧ p < m) ∧ (∃ p, f_pendingCount = nI p ∧ p ≤ 140) ∧ (∃ p, f_frameTop = nI p ∧ p < 142) ∧ (∃ p, f_localCount = nI p ∧ p ≤ 8) ∧ ls_lo u0 (0, a_codeOp, a_codeArg, a_codeKind, a_codePlace)
section
variable {f_tickLimit f_tokenCount f_outCount f_error f_errorPlace f_lastKind f_codeSize f_methodCount f_methodTokens f_cellCount f_activeCalls f_next f_ticksLeft f_state f_pos f_expressionStart f_pendingCount f_frameTop f_localCount : Int32}
variable {f_lastValue : Int64}
variable {a_tokenCode a_tokenValue a_outKind a_codeOp a_codeArg a_codeKind a_codePlace a_methodSign a_methodStart a_declared a_cellKind a_callReturn a_pendingLevel a_pendingPlace a_pendingMore a_frameKind a_frameMore a_localName : Nat → Int32}
variable {a_outValue a_cellValue : Nat → Int64}
variable {T : Nat → Nat} {V : Nat → Int32} {n : Nat}
set_option maxHeartbeats 200000 in
theorem hx_wordAt {post : Int32 → Prop} {p : Nat} (h : ls_tok T V n a_tokenCode a_tokenValue) (hp : p < 1000) (g : post (nI (ls_xc (T p)))) : wpX_wordAt post (f_tickLimit, nI n, f_outCount, f_error, f_errorPlace, f_lastKind, f_lastValue, f_codeSize, f_methodCount, f_methodTokens, f_cellCount, f_activeCalls, f_next, f_ticksLeft, f_state, f_pos, f_expressionStart, f_pendingCount, f_frameTop, f_localCount, a_tokenCode, a_tokenValue, a_outKind, a_outValue, a_codeOp, a_codeArg, a_codeKind, a_codePlace, a_methodSign, a_methodStart, a_declared, a_cellKind, a_cellValue, a_callReturn, a_pendingLevel, a_pendingPlace, a_pendingMore, a_frameKind, a_frameMore, a_localName) (nI p) := by
  have hn := h.1
  refine br_f (nI_pos (by omega)) ?_
  by_cases q : p < n
  · obtain ⟨_, e, _⟩ := h.2.1 p q
    refine br_f (nI_ge q (by omega)) ⟨vp_in_nI (by omega) (by decide), ?_⟩
    rw [nI_clamp (by omega), e]; exact g
  · have e := h.2.2 p (by omega)
    rw [e] at g
    exact br_t (nI_le (by omega) (by omega)) g
set_option maxHeartbeats 200000 in
theorem hx_wordAny {post : Int32 → Prop} {p : Nat} (h : ls_tok T V n a_tokenCode a_tokenValue) (hp : p < 1000) (g : ∀ r, post r) : wpX_wordAt post (f_tickLimit, nI n, f_outCount, f_error, f_errorPlace, f_lastKind, f_lastValue, f_codeSize, f_methodCount, f_methodTokens, f_cellCount, f_activeCalls, f_next, f_ticksLeft, f_state, f_pos, f_expressionStart, f_pendingCount, f_frameTop, f_localCount, a_tokenCode, a_tokenValue, a_outKind, a_outValue, a_codeOp, a_codeArg, a_codeKind, a_codePlace, a_methodSign, a_methodStart, a_declared, a_cellKind, a_cellValue, a_callReturn, a_pendingLevel, a_pendingPlace, a_pendingMore, a_frameKind, a_frameMore, a_localName) (nI p) :=
  hx_wordAt h hp (g _)
set_option maxHeartbeats 200000 in
theorem hx_valueAny {post : Int32 → Prop} {p : Nat} (h : ls_tok T V n a_tokenCode a_tokenValue) (hp : p < 1000) (g : ∀ r, post r) : wpX_valueAt post (f_tickLimit, nI n, f_outCount, f_error, f_errorPlace, f_lastKind, f_lastValue, f_codeSize, f_methodCount, f_methodTokens, f_cellCount, f_activeCalls, f_next, f_ticksLeft, f_state, f_pos, f_expressionStart, f_pendingCount, f_frameTop, f_localCount, a_tokenCode, a_tokenValue, a_outKind, a_outValue, a_codeOp, a_codeArg, a_codeKind, a_codePlace, a_methodSign, a_methodStart, a_declared, a_cellKind, a_cellValue, a_callReturn, a_pendingLevel, a_pendingPlace, a_pendingMore, a_frameKind, a_frameMore, a_localName) (nI p) := by
  have hn := h.1
  refine br_f (nI_pos (by omega)) ?_
  by_cases q : p < n
  · exact br_f (nI_ge q (by omega)) ⟨vp_in_nI (by omega) (by decide), g _⟩
  · exact br_t (nI_le (by omega) (by omega)) (g _)
set_option maxHeartbeats 200000 in
theorem hx_valueName {post : Int32 → Prop} {p : Nat} (h : ls_tok T V n a_tokenCode a_tokenValue) (hp : p < 1000) (hn : ls_nam (T p)) (g : post (nI (T p - 54))) : wpX_valueAt post (f_tickLimit, nI n, f_outCount, f_error, f_errorPlace, f_lastKind, f_lastValue, f_codeSize, f_methodCount, f_methodTokens, f_cellCount, f_activeCalls, f_next, f_ticksLeft, f_state, f_pos, f_expressionStart, f_pendingCount, f_frameTop, f_localCount, a_tokenCode, a_tokenValue, a_outKind, a_outValue, a_codeOp, a_codeArg, a_codeKind, a_codePlace, a_methodSign, a_methodStart, a_declared, a_cellKind, a_cellValue, a_callReturn, a_pendingLevel, a_pendingPlace, a_pendingMore, a_frameKind, a_frameMore, a_localName) (nI p) := by
  have h1 := h.1
  have q : p < n := ls_tok_lt h (by have := hn.2; omega)
  obtain ⟨_, _, e, _⟩ := h.2.1 p q
  refine br_f (nI_pos (by omega)) (br_f (nI_ge q (by omega)) ⟨vp_in_nI (by omega) (by decide), ?_⟩)
  rw [nI_clamp (by omega), e hn]; exact g
set_option maxHeartbeats 200000 in
theorem hx_valueNum {post : Int32 → Prop} {p : Nat} (h : ls_tok T V n a_tokenCode a_tokenValue) (hp : p < 1000) (hn : 70 ≤ T p) (hn2 : T p < 72) (g : post (V p)) : wpX_valueAt post (f_tickLimit, nI n, f_outCount, f_error, f_errorPlace, f_lastKind, f_lastValue, f_codeSize, f_methodCount, f_methodTokens, f_cellCount, f_activeCalls, f_next, f_ticksLeft, f_state, f_pos, f_expressionStart, f_pendingCount, f_frameTop, f_localCount, a_tokenCode, a_tokenValue, a_outKind, a_outValue, a_codeOp, a_codeArg, a_codeKind, a_codePlace, a_methodSign, a_methodStart, a_declared, a_cellKind, a_cellValue, a_callReturn, a_pendingLevel, a_pendingPlace, a_pendingMore, a_frameKind, a_frameMore, a_localName) (nI p) := by
  have h1 := h.1
  have q : p < n := ls_tok_lt h (by omega)
  obtain ⟨_, _, _, e⟩ := h.2.1 p q
  refine br_f (nI_pos (by omega)) (br_f (nI_ge q (by omega)) ⟨vp_in_nI (by omega) (by decide), ?_⟩)
  rw [nI_clamp (by omega), e hn]; exact g
set_option maxHeartbeats 200000 in
theorem hx_emit {post : SX → Prop} {cs : Nat} {o a k p : Int32} (h : cs < 761) (hp : post (f_tickLimit, f_tokenCount, f_outCount, f_error, f_errorPlace, f_lastKind, f_lastValue, nI (cs + 1), f_methodCount, f_methodTokens, f_cellCount, f_activeCalls, f_next, f_ticksLeft, f_state, f_pos, f_expressionStart, f_pendingCount, f_frameTop, f_localCount, a_tokenCode, a_tokenValue, a_outKind, a_outValue, upd a_codeOp cs o, upd a_codeArg cs a, upd a_codeKind cs k, upd a_codePlace cs p, a_methodSign, a_methodStart, a_declared, a_cellKind, a_cellValue, a_callReturn, a_pendingLevel, a_pendingPlace, a_pendingMore, a_frameKind, a_frameMore, a_localName)) : wpX_emit post (f_tickLimit, f_tokenCount, f_outCount, f_error, f_errorPlace, f_lastKind, f_lastValue, nI cs, f_methodCount, f_methodTokens, f_cellCount, f_activeCalls, f_next, f_ticksLeft, f_state, f_pos, f_expressionStart, f_pendingCount, f_frameTop, f_localCount, a_tokenCode, a_tokenValue, a_outKind, a_outValue, a_codeOp, a_codeArg, a_codeKind, a_codePlace, a_methodSign, a_methodStart, a_declared, a_cellKind, a_cellValue, a_callReturn, a_pendingLevel, a_pendingPlace, a_pendingMore, a_frameKind, a_frameMore, a_localName) o a k p := by
  have e : (nI cs).toNatClampNeg = cs := nI_clamp (by omega)
  have i : vp_in (nI cs) 761 := vp_in_nI h (by decide)
  refine br_f (nI_ge h (by decide)) ⟨i, nm_r (by rw [e]) ⟨i, nm_r (by rw [e]) ⟨i, nm_r (by rw [e]) ⟨i, nm_r (by rw [e]) (nm_r (nI_1 cs) hp)⟩⟩⟩⟩
set_option maxHeartbeats 200000 in
theorem hx_openFrame {post : SX → Prop} {ft : Nat} {k m : Int32} (h : ft < 141) (hp : post (f_tickLimit, f_tokenCount, f_outCount, f_error, f_errorPlace, f_lastKind, f_lastValue, f_codeSize, f_methodCount, f_methodTokens, f_cellCount, f_activeCalls, f_next, f_ticksLeft, f_state, f_pos, f_expressionStart, f_pendingCount, nI (ft + 1), f_localCount, a_tokenCode, a_tokenValue, a_outKind, a_outValue, a_codeOp, a_codeArg, a_codeKind, a_codePlace, a_methodSign, a_methodStart, a_declared, a_cellKind, a_cellValue, a_callReturn, a_pendingLevel, a_pendingPlace, a_pendingMore, upd a_frameKind (ft + 1) k, upd a_frameMore (ft + 1) m, a_localName)) : wpX_openFrame post (f_tickLimit, f_tokenCount, f_outCount, f_error, f_errorPlace, f_lastKind, f_lastValue, f_codeSize, f_methodCount, f_methodTokens, f_cellCount, f_activeCalls, f_next, f_ticksLeft, f_state, f_pos, f_expressionStart, f_pendingCount, nI ft, f_localCount, a_tokenCode, a_tokenValue, a_outKind, a_outValue, a_codeOp, a_codeArg, a_codeKind, a_codePlace, a_methodSign, a_methodStart, a_declared, a_cellKind, a_cellValue, a_callReturn, a_pendingLevel, a_pendingPlace, a_pendingMore, a_frameKind, a_frameMore, a_localName) k m := by
  have e : (nI (ft + 1)).toNatClampNeg = ft + 1 := nI_clamp (by omega)
  have i : vp_in (nI (ft + 1)) 142 := vp_in_nI (by omega) (by decide)
  refine br_f (by rw [nI_1]; exact nI_ge (b := 142) (by omega) (by decide)) (nm_r (nI_1 ft) ⟨i, nm_r (by rw [e]) ⟨i, nm_r (by rw [e]) hp⟩⟩)
set_option maxHeartbeats 200000 in
theorem hx_closeFrame {post : SX → Prop} {ft : Nat} (h : ft < 141) (hp : post (f_tickLimit, f_tokenCount, f_outCount, f_error, f_errorPlace, f_lastKind, f_lastValue, f_codeSize, f_methodCount, f_methodTokens, f_cellCount, f_activeCalls, f_next, f_ticksLeft, f_state, f_pos, f_expressionStart, f_pendingCount, nI ft, f_localCount, a_tokenCode, a_tokenValue, a_outKind, a_outValue, a_codeOp, a_codeArg, a_codeKind, a_codePlace, a_methodSign, a_methodStart, a_declared, a_cellKind, a_cellValue, a_callReturn, a_pendingLevel, a_pendingPlace, a_pendingMore, a_frameKind, a_frameMore, a_localName)) : wpX_closeFrame post (f_tickLimit, f_tokenCount, f_outCount, f_error, f_errorPlace, f_lastKind, f_lastValue, f_codeSize, f_methodCount, f_methodTokens, f_cellCount, f_activeCalls, f_next, f_ticksLeft, f_state, f_pos, f_expressionStart, f_pendingCount, nI (ft + 1), f_localCount, a_tokenCode, a_tokenValue, a_outKind, a_outValue, a_codeOp, a_codeArg, a_codeKind, a_codePlace, a_methodSign, a_methodStart, a_declared, a_cellKind, a_cellValue, a_callReturn, a_pendingLevel, a_pendingPlace, a_pendingMore, a_frameKind, a_frameMore, a_localName) :=
  br_f (nI_nle (by omega) (by omega)) (nm_r (nI_pred ft) hp)
set_option maxHeartbeats 200000 in
theorem hx_aim {post : SX → Prop} {j : Nat} (h : j < 761) (hp : post (f_tickLimit, f_tokenCount, f_outCount, f_error, f_errorPlace, f_lastKind, f_lastValue, f_codeSize, f_methodCount, f_methodTokens, f_cellCount, f_activeCalls, f_next, f_ticksLeft, f_state, f_pos, f_expressionStart, f_pendingCount, f_frameTop, f_localCount, a_tokenCode, a_tokenValue, a_outKind, a_outValue, a_codeOp, upd a_codeArg j (f_codeSize - nI j), a_codeKind, a_codePlace, a_methodSign, a_methodStart, a_declared, a_cellKind, a_cellValue, a_callReturn, a_pendingLevel, a_pendingPlace, a_pendingMore, a_frameKind, a_frameMore, a_localName)) : wpX_aim post (f_tickLimit, f_tokenCount, f_outCount, f_error, f_errorPlace, f_lastKind, f_lastValue, f_codeSize, f_methodCount, f_methodTokens, f_cellCount, f_activeCalls, f_next, f_ticksLeft, f_state, f_pos, f_expressionStart, f_pendingCount, f_frameTop, f_localCount, a_tokenCode, a_tokenValue, a_outKind, a_outValue, a_codeOp, a_codeArg, a_codeKind, a_codePlace, a_methodSign, a_methodStart, a_declared, a_cellKind, a_cellValue, a_callReturn, a_pendingLevel, a_pendingPlace, a_pendingMore, a_frameKind, a_frameMore, a_localName) (nI j) := by
  have e : (nI j).toNatClampNeg = j := nI_clamp (by omega)
  have i : vp_in (nI j) 761 := vp_in_nI h (by decide)
  exact br_f (nI_pos (by omega)) (br_f (nI_ge h (by decide)) ⟨i, nm_r (by rw [e]) hp⟩)
set_option maxHeartbeats 200000 in
theorem hx_pend {post : SX → Prop} {pc : Nat} {l p m : Int32} (h : pc < 140) (hp : post (f_tickLimit, f_tokenCount, f_outCount, f_error, f_errorPlace, f_lastKind, f_lastValue, f_codeSize, f_methodCount, f_methodTokens, f_cellCount, f_activeCalls, f_next, f_ticksLeft, f_state, f_pos, f_expressionStart, nI (pc + 1), f_frameTop, f_localCount, a_tokenCode, a_tokenValue, a_outKind, a_outValue, a_codeOp, a_codeArg, a_codeKind, a_codePlace, a_methodSign, a_methodStart, a_declared, a_cellKind, a_cellValue, a_callReturn, upd a_pendingLevel pc l, upd a_pendingPlace pc p, upd a_pendingMore pc m, a_frameKind, a_frameMore, a_localName)) : wpX_pend post (f_tickLimit, f_tokenCount, f_outCount, f_error, f_errorPlace, f_lastKind, f_lastValue, f_codeSize, f_methodCount, f_methodTokens, f_cellCount, f_activeCalls, f_next, f_ticksLeft, f_state, f_pos, f_expressionStart, nI pc, f_frameTop, f_localCount, a_tokenCode, a_tokenValue, a_outKind, a_outValue, a_codeOp, a_codeArg, a_codeKind, a_codePlace, a_methodSign, a_methodStart, a_declared, a_cellKind, a_cellValue, a_callReturn, a_pendingLevel, a_pendingPlace, a_pendingMore, a_frameKind, a_frameMore, a_localName) l p m := by
  have e : (nI pc).toNatClampNeg = pc := nI_clamp (by omega)
  have i : vp_in (nI pc) 140 := vp_in_nI h (by decide)
  exact br_f (nI_ge h (by decide)) ⟨i, nm_r (by rw [e]) ⟨i, nm_r (by rw [e]) ⟨i, nm_r (by rw [e]) (nm_r (nI_1 pc) hp)⟩⟩⟩
set_option maxHeartbeats 200000 in
/-- a fault where no expression is open -/
theorem hx_fault0 {post : SX → Prop} {st : Nat} (h : st < 4) (hp : post (f_tickLimit, f_tokenCount, f_outCount, 1, f_pos, f_lastKind, f_lastValue, f_codeSize, f_methodCount, f_methodTokens, f_cellCount, f_activeCalls, f_next, f_ticksLeft, nI st, f_pos, f_expressionStart, f_pendingCount, f_frameTop, f_localCount, a_tokenCode, a_tokenValue, a_outKind, a_outValue, a_codeOp, a_codeArg, a_codeKind, a_codePlace, a_methodSign, a_methodStart, a_declared, a_cellKind, a_cellValue, a_callReturn, a_pendingLevel, a_pendingPlace, a_pendingMore, a_frameKind, a_frameMore, a_localName)) : wpX_fault post (f_tickLimit, f_tokenCount, f_outCount, 0, f_errorPlace, f_lastKind, f_lastValue, f_codeSize, f_methodCount, f_methodTokens, f_cellCount, f_activeCalls, f_next, f_ticksLeft, nI st, f_pos, f_expressionStart, f_pendingCount, f_frameTop, f_localCount, a_tokenCode, a_tokenValue, a_outKind, a_outValue, a_codeOp, a_codeArg, a_codeKind, a_codePlace, a_methodSign, a_methodStart, a_declared, a_cellKind, a_cellValue, a_callReturn, a_pendingLevel, a_pendingPlace, a_pendingMore, a_frameKind, a_frameMore, a_localName) := by
  have h4 : ¬ nI st = 4 := fun e => by
    have := (nI_eq (a := st) (b := 4) (by omega) (by decide)).mp e; omega
  have h5 : ¬ nI st = 5 := fun e => by
    have := (nI_eq (a := st) (b := 5) (by omega) (by decide)).mp e; omega
  exact br_t rfl (br_f h4 (br_f h5 (br_t rfl (br_t rfl hp))))
set_option maxHeartbeats 200000 in
/-- a fault within an expression -/
theorem hx_fault1 {post : SX → Prop} {st pos es : Nat} (h : st = 4 ∨ st = 5) (hq : es ≤ pos) (hq2 : pos < 1000) (hp : post (f_tickLimit, f_tokenCount, f_outCount, 1, nI (if es + 32 < pos then es + 32 else pos), f_lastKind, f_lastValue, f_codeSize, f_methodCount, f_methodTokens, f_cellCount, f_activeCalls, f_next, f_ticksLeft, nI st, nI pos, nI es, f_pendingCount, f_frameTop, f_localCount, a_tokenCode, a_tokenValue, a_outKind, a_outValue, a_codeOp, a_codeArg, a_codeKind, a_codePlace, a_methodSign, a_methodStart, a_declared, a_cellKind, a_cellValue, a_callReturn, a_pendingLevel, a_pendingPlace, a_pendingMore, a_frameKind, a_frameMore, a_localName)) : wpX_fault post (f_tickLimit, f_tokenCount, f_outCount, 0, f_errorPlace, f_lastKind, f_lastValue, f_codeSize, f_methodCount, f_methodTokens, f_cellCount, f_activeCalls, f_next, f_ticksLeft, nI st, nI pos, nI es, f_pendingCount, f_frameTop, f_localCount, a_tokenCode, a_tokenValue, a_outKind, a_outValue, a_codeOp, a_codeArg, a_codeKind, a_codePlace, a_methodSign, a_methodStart, a_declared, a_cellKind, a_cellValue, a_callReturn, a_pendingLevel, a_pendingPlace, a_pendingMore, a_frameKind, a_frameMore, a_localName) := by
  have K : wX_fault_23 post f_tickLimit f_tokenCount f_outCount 0 f_errorPlace f_lastKind f_lastValue f_codeSize f_methodCount f_methodTokens f_cellCount f_activeCalls f_next f_ticksLeft (nI st) (nI pos) (nI es) f_pendingCount f_frameTop f_localCount a_tokenCode a_tokenValue a_outKind a_outValue a_codeOp a_codeArg a_codeKind a_codePlace a_methodSign a_methodStart a_declared a_cellKind a_cellValue a_callReturn a_pendingLevel a_pendingPlace a_pendingMore a_frameKind a_frameMore a_localName := by
    refine br_f (by decide) ?_
    rw [pk_sub hq]
    by_cases q : es + 32 < pos
    · rw [if_pos q] at hp
      refine br_f (nI_ge (a := 32) (by omega) (by omega)) (br_f (by decide) (nm_r ?_ hp))
      exact (nI_add es 32)
    · rw [if_neg q] at hp
      exact br_t (nI_le (b := 32) (by omega) (by decide)) (br_t rfl hp)
  rcases h with rfl | rfl
  · exact br_t rfl (br_t rfl K)
  · exact br_t rfl (br_f (by decide) (br_t rfl K))
set_option maxHeartbeats 200000 in
theorem hx_faultN {post : SX → Prop} (hp : post (f_tickLimit, f_tokenCount, f_outCount, 1, f_errorPlace, f_lastKind, f_lastValue, f_codeSize, f_methodCount, f_methodTokens, f_cellCount, f_activeCalls, f_next, f_ticksLeft, f_state, f_pos, f_expressionStart, f_pendingCount, f_frameTop, f_localCount, a_tokenCode, a_tokenValue, a_outKind, a_outValue, a_codeOp, a_codeArg, a_codeKind, a_codePlace, a_methodSign, a_methodStart, a_declared, a_cellKind, a_cellValue, a_callReturn, a_pendingLevel, a_pendingPlace, a_pendingMore, a_frameKind, a_frameMore, a_localName)) : wpX_fault post (f_tickLimit, f_tokenCount, f_outCount, 1, f_errorPlace, f_lastKind, f_lastValue, f_codeSize, f_methodCount, f_methodTokens, f_cellCount, f_activeCalls, f_next, f_ticksLeft, f_state, f_pos, f_expressionStart, f_pendingCount, f_frameTop, f_localCount, a_tokenCode, a_tokenValue, a_outKind, a_outValue, a_codeOp, a_codeArg, a_codeKind, a_codePlace, a_methodSign, a_methodStart, a_declared, a_cellKind, a_cellValue, a_callReturn, a_pendingLevel, a_pendingPlace, a_pendingMore, a_frameKind, a_frameMore, a_localName) := br_f (by decide) hp
set_option maxHeartbeats 200000 in
theorem hx_expect {post : SX → Prop} {p w : Nat} (h : ls_tok T V n a_tokenCode a_tokenValue) (hp : p < 1000) (hw : ls_xc (T p) = w) (g : post (f_tickLimit, nI n, f_outCount, f_error, f_errorPlace, f_lastKind, f_lastValue, f_codeSize, f_methodCount, f_methodTokens, f_cellCount, f_activeCalls, f_next, f_ticksLeft, f_state, nI (p + 1), f_expressionStart, f_pendingCount, f_frameTop, f_localCount, a_tokenCode, a_tokenValue, a_outKind, a_outValue, a_codeOp, a_codeArg, a_codeKind, a_codePlace, a_methodSign, a_methodStart, a_declared, a_cellKind, a_cellValue, a_callReturn, a_pendingLevel, a_pendingPlace, a_pendingMore, a_frameKind, a_frameMore, a_localName)) : wpX_expect post (f_tickLimit, nI n, f_outCount, f_error, f_errorPlace, f_lastKind, f_lastValue, f_codeSize, f_methodCount, f_methodTokens, f_cellCount, f_activeCalls, f_next, f_ticksLeft, f_state, nI p, f_expressionStart, f_pendingCount, f_frameTop, f_localCount, a_tokenCode, a_tokenValue, a_outKind, a_outValue, a_codeOp, a_codeArg, a_codeKind, a_codePlace, a_methodSign, a_methodStart, a_declared, a_cellKind, a_cellValue, a_callReturn, a_pendingLevel, a_pendingPlace, a_pendingMore, a_frameKind, a_frameMore, a_localName) (nI w) := by
  unfold wpX_expect
  refine hx_wordAt h hp ?_
  rw [hw]
  exact br_t rfl (nm_r (nI_1 p) g)
set_option maxHeartbeats 200000 in
theorem ls_xc_lt (t : Nat) : ls_xc t < 58 := by unfold ls_xc; (repeat' split) <;> omega
set_option maxHeartbeats 200000 in
theorem ls_xc_eq {t w : Nat} (h : w < 54) : ls_xc t = w ↔ t = w := by
  unfold ls_xc
  (repeat' split) <;> omega
set_option maxHeartbeats 200000 in
theorem ls_xc_nam {t : Nat} (ht : t ≤ 72) : ls_xc t = 54 ↔ ls_nam t := by
  unfold ls_xc ls_nam
  (repeat' split) <;> omega
set_option maxHeartbeats 200000 in
theorem hx_expectF {post : SX → Prop} {p w st : Nat} (h : ls_tok T V n a_tokenCode a_tokenValue) (hp : p < 1000) (hw : w < 54) (hne : T p ≠ w) (hs : st < 4) (g : post (f_tickLimit, nI n, f_outCount, 1, nI p, f_lastKind, f_lastValue, f_codeSize, f_methodCount, f_methodTokens, f_cellCount, f_activeCalls, f_next, f_ticksLeft, nI st, nI p, f_expressionStart, f_pendingCount, f_frameTop, f_localCount, a_tokenCode, a_tokenValue, a_outKind, a_outValue, a_codeOp, a_codeArg, a_codeKind, a_codePlace, a_methodSign, a_methodStart, a_declared, a_cellKind, a_cellValue, a_callReturn, a_pendingLevel, a_pendingPlace, a_pendingMore, a_frameKind, a_frameMore, a_localName)) : wpX_expect post (f_tickLimit, nI n, f_outCount, 0, f_errorPlace, f_lastKind, f_lastValue, f_codeSize, f_methodCount, f_methodTokens, f_cellCount, f_activeCalls, f_next, f_ticksLeft, nI st, nI p, f_expressionStart, f_pendingCount, f_frameTop, f_localCount, a_tokenCode, a_tokenValue, a_outKind, a_outValue, a_codeOp, a_codeArg, a_codeKind, a_codePlace, a_methodSign, a_methodStart, a_declared, a_cellKind, a_cellValue, a_callReturn, a_pendingLevel, a_pendingPlace, a_pendingMore, a_frameKind, a_frameMore, a_localName) (nI w) := by
  unfold wpX_expect
  refine hx_wordAt h hp ?_
  refine br_f (fun e => hne ((ls_xc_eq hw).mp ((nI_eq (by have := ls_xc_lt (T p); omega) (by omega)).mp e))) ?_
  exact hx_fault0 hs g
set_option maxHeartbeats 200000 in
theorem hx_expectG {post : SX → Prop} {p w st es : Nat} (h : ls_tok T V n a_tokenCode a_tokenValue) (hp : p < 1000) (hw : w < 54) (hne : T p ≠ w) (hs : st = 4 ∨ st = 5) (hq : es ≤ p) (g : post (f_tickLimit, nI n, f_outCount, 1, nI (if es + 32 < p then es + 32 else p), f_lastKind, f_lastValue, f_codeSize, f_methodCount, f_methodTokens, f_cellCount, f_activeCalls, f_next, f_ticksLeft, nI st, nI p, nI es, f_pendingCount, f_frameTop, f_localCount, a_tokenCode, a_tokenValue, a_outKind, a_outValue, a_codeOp, a_codeArg, a_codeKind, a_codePlace, a_methodSign, a_methodStart, a_declared, a_cellKind, a_cellValue, a_callReturn, a_pendingLevel, a_pendingPlace, a_pendingMore, a_frameKind, a_frameMore, a_localName)) : wpX_expect post (f_tickLimit, nI n, f_outCount, 0, f_errorPlace, f_lastKind, f_lastValue, f_codeSize, f_methodCount, f_methodTokens, f_cellCount, f_activeCalls, f_next, f_ticksLeft, nI st, nI p, nI es, f_pendingCount, f_frameTop, f_localCount, a_tokenCode, a_tokenValue, a_outKind, a_outValue, a_codeOp, a_codeArg, a_codeKind, a_codePlace, a_methodSign, a_methodStart, a_declared, a_cellKind, a_cellValue, a_callReturn, a_pendingLevel, a_pendingPlace, a_pendingMore, a_frameKind, a_frameMore, a_localName) (nI w) := by
  unfold wpX_expect
  refine hx_wordAt h hp ?_
  refine br_f (fun e => hne ((ls_xc_eq hw).mp ((nI_eq (by have := ls_xc_lt (T p); omega) (by omega)).mp e))) ?_
  exact hx_fault1 hs hq hp g
end
end
section
/-! Behind a fault the component goes on to the end of its step: nothing is harmed -/
set_option maxHeartbeats 200000 in
theorem ls_lo_em {u0 : SX} {c : Nat} {o a k p : Int32} {cc cs : Nat} {op arg kd pl : Nat → Int32} (h : ls_lo u0 (cc, op, arg, kd, pl)) (hc : 480 ≤ c) : ls_lo u0 (cs, upd op c o, upd arg c a, upd kd c k, upd pl c p) := by
  obtain ⟨f_tickLimit, f_tokenCount, f_outCount, f_error, f_errorPlace, f_lastKind, f_lastValue, f_codeSize, f_methodCount, f_methodTokens, f_cellCount, f_activeCalls, f_next, f_ticksLeft, f_state, f_pos, f_expressionStart, f_pendingCount, f_frameTop, f_localCount, a_tokenCode, a_tokenValue, a_outKind, a_outValue, a_codeOp, a_codeArg, a_codeKind, a_codePlace, a_methodSign, a_methodStart, a_declared, a_cellKind, a_cellValue, a_callReturn, a_pendingLevel, a_pendingPlace, a_pendingMore, a_frameKind, a_frameMore, a_localName⟩ := u0
  intro i hi
  obtain ⟨h1, h2, h3, h4⟩ := h i hi
  refine ⟨?_, ?_, ?_, ?_⟩
  · show upd op c o i = _; rw [pk_un (by omega)]; exact h1
  · show upd arg c a i = _; rw [pk_un (by omega)]; exact h2
  · show upd kd c k i = _; rw [pk_un (by omega)]; exact h3
  · show upd pl c p i = _; rw [pk_un (by omega)]; exact h4
set_option maxHeartbeats 200000 in
theorem ls_lo_aim {u0 : SX} {c : Nat} {a : Int32} {cc cs : Nat} {op arg kd pl : Nat → Int32} (h : ls_lo u0 (cc, op, arg, kd, pl)) (hc : 480 ≤ c) : ls_lo u0 (cs, op, upd arg c a, kd, pl) := by
  obtain ⟨f_tickLimit, f_tokenCount, f_outCount, f_error, f_errorPlace, f_lastKind, f_lastValue, f_codeSize, f_methodCount, f_methodTokens, f_cellCount, f_activeCalls, f_next, f_ticksLeft, f_state, f_pos, f_expressionStart, f_pendingCount, f_frameTop, f_localCount, a_tokenCode, a_tokenValue, a_outKind, a_outValue, a_codeOp, a_codeArg, a_codeKind, a_codePlace, a_methodSign, a_methodStart, a_declared, a_cellKind, a_cellValue, a_callReturn, a_pendingLevel, a_pendingPlace, a_pendingMore, a_frameKind, a_frameMore, a_localName⟩ := u0
  intro i hi
  obtain ⟨h1, h2, h3, h4⟩ := h i hi
  refine ⟨h1, ?_, h3, h4⟩
  show upd arg c a i = _; rw [pk_un (by omega)]; exact h2
set_option maxHeartbeats 200000 in
theorem ls_lo_cs {u0 : SX} {cc cs : Nat} {op arg kd pl : Nat → Int32} (h : ls_lo u0 (cc, op, arg, kd, pl)) : ls_lo u0 (cs, op, arg, kd, pl) := by
  obtain ⟨f_tickLimit, f_tokenCount, f_outCount, f_error, f_errorPlace, f_lastKind, f_lastValue, f_codeSize, f_methodCount, f_methodTokens, f_cellCount, f_activeCalls, f_next, f_ticksLeft, f_state, f_pos, f_expressionStart, f_pendingCount, f_frameTop, f_localCount, a_tokenCode, a_tokenValue, a_outKind, a_outValue, a_codeOp, a_codeArg, a_codeKind, a_codePlace, a_methodSign, a_methodStart, a_declared, a_cellKind, a_cellValue, a_callReturn, a_pendingLevel, a_pendingPlace, a_pendingMore, a_frameKind, a_frameMore, a_localName⟩ := u0
  exact h
section
variable {T : Nat → Nat} {V : Nat → Int32} {n : Nat} {u0 u : SX} {e m : Nat} {post : SX → Prop}
set_option maxHeartbeats 200000 in
theorem ls_XK_mono {m' : Nat} (h : ls_XK T V n u0 e m u) (hm : m ≤ m') : ls_XK T V n u0 e m' u := by
  obtain ⟨f_tickLimit, f_tokenCount, f_outCount, f_error, f_errorPlace, f_lastKind, f_lastValue, f_codeSize, f_methodCount, f_methodTokens, f_cellCount, f_activeCalls, f_next, f_ticksLeft, f_state, f_pos, f_expressionStart, f_pendingCount, f_frameTop, f_localCount, a_tokenCode, a_tokenValue, a_outKind, a_outValue, a_codeOp, a_codeArg, a_codeKind, a_codePlace, a_methodSign, a_methodStart, a_declared, a_cellKind, a_cellValue, a_callReturn, a_pendingLevel, a_pendingPlace, a_pendingMore, a_frameKind, a_frameMore, a_localName⟩ := u
  obtain ⟨hk, h1, ht, h2, h3, hc, ⟨p, hp, hpp⟩, hr⟩ := h
  exact ⟨hk, h1, ht, h2, h3, hc, ⟨p, hp, by omega⟩, hr⟩
set_option maxHeartbeats 200000 in
theorem kx_emit {o a k p : Int32} (h : ls_XK T V n u0 e m u) (hp : ∀ u', ls_XK T V n u0 e m u' → post u') : wpX_emit post u o a k p := by
  obtain ⟨f_tickLimit, f_tokenCount, f_outCount, f_error, f_errorPlace, f_lastKind, f_lastValue, f_codeSize, f_methodCount, f_methodTokens, f_cellCount, f_activeCalls, f_next, f_ticksLeft, f_state, f_pos, f_expressionStart, f_pendingCount, f_frameTop, f_localCount, a_tokenCode, a_tokenValue, a_outKind, a_outValue, a_codeOp, a_codeArg, a_codeKind, a_codePlace, a_methodSign, a_methodStart, a_declared, a_cellKind, a_cellValue, a_callReturn, a_pendingLevel, a_pendingPlace, a_pendingMore, a_frameKind, a_frameMore, a_localName⟩ := u
  obtain ⟨hk, rfl, ht, rfl, rfl, ⟨c, rfl, c1, c2⟩, hpo, hpe, hft, hlc, hlo⟩ := h
  by_cases q : c < 761
  · exact hx_emit q (hp _ ⟨hk, rfl, ht, rfl, rfl, ⟨c + 1, rfl, by omega, by omega⟩, hpo, hpe, hft, hlc, ls_lo_em hlo c1⟩)
  · exact br_t (nI_le (a := 761) (by omega) (by omega)) (hp _ ⟨hk, rfl, ht, rfl, rfl, ⟨c, rfl, c1, c2⟩, hpo, hpe, hft, hlc, hlo⟩)
end
end
section
section
variable {T : Nat → Nat} {V : Nat → Int32} {n : Nat} {u0 u : SX} {e m : Nat} {post : SX → Prop}
set_option maxHeartbeats 200000 in
theorem kx_openFrame {a b : Int32} (h : ls_XK T V n u0 e m u) (hp : ∀ u', ls_XK T V n u0 e m u' → post u') : wpX_openFrame post u a b := by
  obtain ⟨f_tickLimit, f_tokenCount, f_outCount, f_error, f_errorPlace, f_lastKind, f_lastValue, f_codeSize, f_methodCount, f_methodTokens, f_cellCount, f_activeCalls, f_next, f_ticksLeft, f_state, f_pos, f_expressionStart, f_pendingCount, f_frameTop, f_localCount, a_tokenCode, a_tokenValue, a_outKind, a_outValue, a_codeOp, a_codeArg, a_codeKind, a_codePlace, a_methodSign, a_methodStart, a_declared, a_cellKind, a_cellValue, a_callReturn, a_pendingLevel, a_pendingPlace, a_pendingMore, a_frameKind, a_frameMore, a_localName⟩ := u
  obtain ⟨hk, rfl, ht, rfl, rfl, hc, hpo, hpe, ⟨ft, rfl, hf⟩, hlc, hlo⟩ := h
  by_cases q : ft < 141
  · exact hx_openFrame q (hp _ ⟨hk, rfl, ht, rfl, rfl, hc, hpo, hpe, ⟨ft + 1, rfl, by omega⟩, hlc, hlo⟩)
  · exact br_t (by rw [nI_1]; exact nI_le (a := 142) (by omega) (by omega)) (hp _ ⟨hk, rfl, ht, rfl, rfl, hc, hpo, hpe, ⟨ft, rfl, hf⟩, hlc, hlo⟩)
set_option maxHeartbeats 200000 in
theorem kx_closeFrame (h : ls_XK T V n u0 e m u) (hp : ∀ u', ls_XK T V n u0 e m u' → post u') : wpX_closeFrame post u := by
  obtain ⟨f_tickLimit, f_tokenCount, f_outCount, f_error, f_errorPlace, f_lastKind, f_lastValue, f_codeSize, f_methodCount, f_methodTokens, f_cellCount, f_activeCalls, f_next, f_ticksLeft, f_state, f_pos, f_expressionStart, f_pendingCount, f_frameTop, f_localCount, a_tokenCode, a_tokenValue, a_outKind, a_outValue, a_codeOp, a_codeArg, a_codeKind, a_codePlace, a_methodSign, a_methodStart, a_declared, a_cellKind, a_cellValue, a_callReturn, a_pendingLevel, a_pendingPlace, a_pendingMore, a_frameKind, a_frameMore, a_localName⟩ := u
  obtain ⟨hk, rfl, ht, rfl, rfl, hc, hpo, hpe, ⟨ft, rfl, hf⟩, hlc, hlo⟩ := h
  cases ft with
  | zero => exact br_t (by decide) (hp _ ⟨hk, rfl, ht, rfl, rfl, hc, hpo, hpe, ⟨0, rfl, hf⟩, hlc, hlo⟩)
  | succ ft => exact hx_closeFrame (by omega) (hp _ ⟨hk, rfl, ht, rfl, rfl, hc, hpo, hpe, ⟨ft, rfl, by omega⟩, hlc, hlo⟩)
set_option maxHeartbeats 200000 in
theorem kx_startExpression (h : ls_XK T V n u0 e m u) (hp : ∀ u', ls_XK T V n u0 e m u' → post u') : wpX_startExpression post u := by
  obtain ⟨f_tickLimit, f_tokenCount, f_outCount, f_error, f_errorPlace, f_lastKind, f_lastValue, f_codeSize, f_methodCount, f_methodTokens, f_cellCount, f_activeCalls, f_next, f_ticksLeft, f_state, f_pos, f_expressionStart, f_pendingCount, f_frameTop, f_localCount, a_tokenCode, a_tokenValue, a_outKind, a_outValue, a_codeOp, a_codeArg, a_codeKind, a_codePlace, a_methodSign, a_methodStart, a_declared, a_cellKind, a_cellValue, a_callReturn, a_pendingLevel, a_pendingPlace, a_pendingMore, a_frameKind, a_frameMore, a_localName⟩ := u
  obtain ⟨hk, h1, ht, h2, h3, hc, hpo, hr⟩ := h
  exact hp _ ⟨hk, h1, ht, h2, h3, hc, hpo, hr⟩
set_option maxHeartbeats 200000 in
theorem kx_wordAt {q : Int32 → Prop} {p : Nat} (h : ls_XK T V n u0 e m u) (hpp : p < 1000) (hp : ∀ r, q r) : wpX_wordAt q u (nI p) := by
  obtain ⟨f_tickLimit, f_tokenCount, f_outCount, f_error, f_errorPlace, f_lastKind, f_lastValue, f_codeSize, f_methodCount, f_methodTokens, f_cellCount, f_activeCalls, f_next, f_ticksLeft, f_state, f_pos, f_expressionStart, f_pendingCount, f_frameTop, f_localCount, a_tokenCode, a_tokenValue, a_outKind, a_outValue, a_codeOp, a_codeArg, a_codeKind, a_codePlace, a_methodSign, a_methodStart, a_declared, a_cellKind, a_cellValue, a_callReturn, a_pendingLevel, a_pendingPlace, a_pendingMore, a_frameKind, a_frameMore, a_localName⟩ := u
  obtain ⟨hk, rfl, ht, hr⟩ := h
  exact hx_wordAny ht hpp hp
set_option maxHeartbeats 200000 in
theorem kx_valueAt {q : Int32 → Prop} {p : Nat} (h : ls_XK T V n u0 e m u) (hpp : p < 1000) (hp : ∀ r, q r) : wpX_valueAt q u (nI p) := by
  obtain ⟨f_tickLimit, f_tokenCount, f_outCount, f_error, f_errorPlace, f_lastKind, f_lastValue, f_codeSize, f_methodCount, f_methodTokens, f_cellCount, f_activeCalls, f_next, f_ticksLeft, f_state, f_pos, f_expressionStart, f_pendingCount, f_frameTop, f_localCount, a_tokenCode, a_tokenValue, a_outKind, a_outValue, a_codeOp, a_codeArg, a_codeKind, a_codePlace, a_methodSign, a_methodStart, a_declared, a_cellKind, a_cellValue, a_callReturn, a_pendingLevel, a_pendingPlace, a_pendingMore, a_frameKind, a_frameMore, a_localName⟩ := u
  obtain ⟨hk, rfl, ht, hr⟩ := h
  exact hx_valueAny ht hpp hp
set_option maxHeartbeats 200000 in
theorem kx_expect {w : Int32} (h : ls_XK T V n u0 e m u) (hm : m ≤ 900) (hp : ∀ u', ls_XK T V n u0 e (m + 1) u' → post u') : wpX_expect post u w := by
  have h' := h
  obtain ⟨f_tickLimit, f_tokenCount, f_outCount, f_error, f_errorPlace, f_lastKind, f_lastValue, f_codeSize, f_methodCount, f_methodTokens, f_cellCount, f_activeCalls, f_next, f_ticksLeft, f_state, f_pos, f_expressionStart, f_pendingCount, f_frameTop, f_localCount, a_tokenCode, a_tokenValue, a_outKind, a_outValue, a_codeOp, a_codeArg, a_codeKind, a_codePlace, a_methodSign, a_methodStart, a_declared, a_cellKind, a_cellValue, a_callReturn, a_pendingLevel, a_pendingPlace, a_pendingMore, a_frameKind, a_frameMore, a_localName⟩ := u
  obtain ⟨hk, rfl, ht, rfl, rfl, hc, ⟨p, rfl, hpp⟩, hr⟩ := h
  unfold wpX_expect
  refine kx_wordAt h' (by omega) fun r => ?_
  refine br_c (fun _ => nm_r (nI_1 p) (hp _ ⟨hk, rfl, ht, rfl, rfl, hc, ⟨p + 1, rfl, by omega⟩, hr⟩)) (fun _ => ?_)
  exact hx_faultN (hp _ ⟨hk, rfl, ht, rfl, rfl, hc, ⟨p, rfl, by omega⟩, hr⟩)
end
end
section
section
variable {T : Nat → Nat} {V : Nat → Int32} {n : Nat} {u0 u : SX} {e m : Nat} {post : SX → Prop}
set_option maxHeartbeats 200000 in
theorem kx_addressOf {q : Int32 → Prop} {x : Int32} (h : ls_XK T V n u0 e m u) (hp : ∀ r, q r) : wpX_addressOf q u x := by
  obtain ⟨f_tickLimit, f_tokenCount, f_outCount, f_error, f_errorPlace, f_lastKind, f_lastValue, f_codeSize, f_methodCount, f_methodTokens, f_cellCount, f_activeCalls, f_next, f_ticksLeft, f_state, f_pos, f_expressionStart, f_pendingCount, f_frameTop, f_localCount, a_tokenCode, a_tokenValue, a_outKind, a_outValue, a_codeOp, a_codeArg, a_codeKind, a_codePlace, a_methodSign, a_methodStart, a_declared, a_cellKind, a_cellValue, a_callReturn, a_pendingLevel, a_pendingPlace, a_pendingMore, a_frameKind, a_frameMore, a_localName⟩ := u
  obtain ⟨hk, rfl, ht, rfl, rfl, hc, hpo, hpe, hft, ⟨lc, rfl, hl⟩, hlo⟩ := h
  have H : ∀ d i : Nat, i + d = lc → ∀ z : Int32, wX_addressOf_4 q x f_tickLimit (nI n) f_outCount 1 (nI e) f_lastKind f_lastValue f_codeSize f_methodCount f_methodTokens f_cellCount f_activeCalls f_next f_ticksLeft f_state f_pos f_expressionStart f_pendingCount f_frameTop (nI lc) a_tokenCode a_tokenValue a_outKind a_outValue a_codeOp a_codeArg a_codeKind a_codePlace a_methodSign a_methodStart a_declared a_cellKind a_cellValue a_callReturn a_pendingLevel a_pendingPlace a_pendingMore a_frameKind a_frameMore a_localName (d + 1) z (nI i) := by
    intro d
    induction d with
    | zero => intro i hi z; exact br_t (nI_le (by omega) (by omega)) (hp _)
    | succ d ih =>
      intro i hi z
      exact br_f (nI_ge (by omega) (by omega)) ⟨vp_in_nI (by omega) (by decide), br_c (fun _ => nm_e (nm_r (nI_1 i) (ih (i + 1) (by omega) _))) (fun _ => nm_r (nI_1 i) (ih (i + 1) (by omega) _))⟩
  exact ⟨lc + 1, H lc 0 (by omega) x⟩
set_option maxHeartbeats 200000 in
theorem kx_constantSince {q : Int32 → Prop} {s : Nat} (h : ls_XK T V n u0 e m u) (hs : s < 1000) (hp : ∀ r, q r) : wpX_constantSince q u (nI s) := by
  obtain ⟨f_tickLimit, f_tokenCount, f_outCount, f_error, f_errorPlace, f_lastKind, f_lastValue, f_codeSize, f_methodCount, f_methodTokens, f_cellCount, f_activeCalls, f_next, f_ticksLeft, f_state, f_pos, f_expressionStart, f_pendingCount, f_frameTop, f_localCount, a_tokenCode, a_tokenValue, a_outKind, a_outValue, a_codeOp, a_codeArg, a_codeKind, a_codePlace, a_methodSign, a_methodStart, a_declared, a_cellKind, a_cellValue, a_callReturn, a_pendingLevel, a_pendingPlace, a_pendingMore, a_frameKind, a_frameMore, a_localName⟩ := u
  obtain ⟨hk, rfl, ht, rfl, rfl, hc, ⟨p, rfl, hpp⟩, hr⟩ := h
  have H : ∀ d i : Nat, 1000 ≤ i + d → ∀ z : Int32, i ≤ 1000 → wX_constantSince_5 q f_tickLimit (nI n) f_outCount 1 (nI e) f_lastKind f_lastValue f_codeSize f_methodCount f_methodTokens f_cellCount f_activeCalls f_next f_ticksLeft f_state (nI p) f_expressionStart f_pendingCount f_frameTop f_localCount a_tokenCode a_tokenValue a_outKind a_outValue a_codeOp a_codeArg a_codeKind a_codePlace a_methodSign a_methodStart a_declared a_cellKind a_cellValue a_callReturn a_pendingLevel a_pendingPlace a_pendingMore a_frameKind a_frameMore a_localName (d + 1) z (nI i) := by
    intro d
    induction d with
    | zero =>
      intro i hi z hi2
      refine br_f (nI_pos (by omega)) (br_c (fun _ => hp _) fun _ => br_t (nI_le (a := 140) (by omega) (by omega)) (hp _))
    | succ d ih =>
      intro i hi z hi2
      by_cases h2 : i < 140
      · refine br_f (nI_pos (by omega)) (br_c (fun _ => hp _) fun _ => br_f (nI_ge (b := 140) h2 (by decide)) ⟨vp_in_nI h2 (by decide), ?_⟩)
        exact br_c (fun _ => nm_r (nI_1 i) (ih (i + 1) (by omega) _ (by omega))) (fun _ => nm_r (nI_1 i) (ih (i + 1) (by omega) _ (by omega)))
      · exact br_f (nI_pos (by omega)) (br_c (fun _ => hp _) fun _ => br_t (nI_le (a := 140) (by omega) (by omega)) (hp _))
  exact ⟨1001, H 1000 s (by omega) 8 (by omega)⟩
set_option maxHeartbeats 200000 in
theorem kx_codePlaceOf {q : Int32 → Prop} {x : Int32} (hp : ∀ r, q r) : wpX_codePlaceOf q u x := by
  obtain ⟨f_tickLimit, f_tokenCount, f_outCount, f_error, f_errorPlace, f_lastKind, f_lastValue, f_codeSize, f_methodCount, f_methodTokens, f_cellCount, f_activeCalls, f_next, f_ticksLeft, f_state, f_pos, f_expressionStart, f_pendingCount, f_frameTop, f_localCount, a_tokenCode, a_tokenValue, a_outKind, a_outValue, a_codeOp, a_codeArg, a_codeKind, a_codePlace, a_methodSign, a_methodStart, a_declared, a_cellKind, a_cellValue, a_callReturn, a_pendingLevel, a_pendingPlace, a_pendingMore, a_frameKind, a_frameMore, a_localName⟩ := u
  refine br_c (fun _ => hp _) (fun h0 => ?_)
  rcases pk_ix x (n := 761) (by decide) with h | h | ⟨j, hj, rfl⟩
  · exact absurd h h0
  · exact br_t h (hp _)
  · exact br_f (nI_ge hj (by decide)) ⟨vp_in_nI hj (by decide), hp _⟩
set_option maxHeartbeats 200000 in
theorem kx_openMethodKind {q : Int32 → Prop} (hp : ∀ r, q r) : wpX_openMethodKind q u := by
  obtain ⟨f_tickLimit, f_tokenCount, f_outCount, f_error, f_errorPlace, f_lastKind, f_lastValue, f_codeSize, f_methodCount, f_methodTokens, f_cellCount, f_activeCalls, f_next, f_ticksLeft, f_state, f_pos, f_expressionStart, f_pendingCount, f_frameTop, f_localCount, a_tokenCode, a_tokenValue, a_outKind, a_outValue, a_codeOp, a_codeArg, a_codeKind, a_codePlace, a_methodSign, a_methodStart, a_declared, a_cellKind, a_cellValue, a_callReturn, a_pendingLevel, a_pendingPlace, a_pendingMore, a_frameKind, a_frameMore, a_localName⟩ := u
  refine br_c (fun _ => hp _) (fun _ => br_c (fun _ => nm_e ?_) (fun _ => hp _))
  refine br_c (fun _ => hp _) (fun h0 => ?_)
  rcases pk_ix (a_frameMore 1) (n := 761) (by decide) with h | h | ⟨j, hj, h⟩
  · exact absurd h h0
  · exact br_t h (hp _)
  · rw [h]
    exact br_f (nI_ge hj (by decide)) ⟨vp_in_nI hj (by decide), nm_e (hp _)⟩
end
end
section
/-! The component's reading steps against the pure machine: states 0 to 3 -/
set_option maxHeartbeats 200000 in
theorem ls_w {t w : Nat} (hw : w < 54) : nI (ls_xc t) = nI w ↔ t = w := by
  rw [nI_eq (by have := ls_xc_lt t; omega) (by omega), ls_xc_eq hw]
set_option maxHeartbeats 200000 in
theorem ls_w54 {t : Nat} (ht : t ≤ 72) : nI (ls_xc t) = 54 ↔ ls_nam t := by
  rw [← ls_xc_nam ht]
  exact nI_eq (b := 54) (by have := ls_xc_lt t; omega) (by decide)
set_option maxHeartbeats 200000 in
theorem ls_w57 {t : Nat} (ht : t ≤ 72) : nI (ls_xc t) = 57 ↔ t = 72 := by
  have h : ls_xc t = 57 ↔ t = 72 := by unfold ls_xc; (repeat' split) <;> omega
  rw [← h]
  exact nI_eq (b := 57) (by have := ls_xc_lt t; omega) (by decide)
set_option maxHeartbeats 200000 in
theorem ls_wlt {t w : Nat} (hw : w < 54) : nI (ls_xc t) < nI w ↔ t < w := by
  have h : ls_xc t < w ↔ t < w := by unfold ls_xc; (repeat' split) <;> omega
  rw [← h]
  exact nI_ltI (by have := ls_xc_lt t; omega) (by omega)
set_option maxHeartbeats 200000 in
theorem ls_wgt {t w : Nat} (hw : w < 54) : nI w < nI (ls_xc t) ↔ w < t := by
  have h : w < ls_xc t ↔ w < t := by unfold ls_xc; (repeat' split) <;> omega
  rw [← h]
  exact nI_ltI (by omega) (by have := ls_xc_lt t; omega)
set_option maxHeartbeats 200000 in
theorem ls_isKind {q : Int32 → Prop} {t : Nat} (h1 : t < 6 → q 1) (h0 : ¬ t < 6 → q 0) : wpX_isKind q (nI (ls_xc t)) := by
  refine br_f (nI_pos (by have := ls_xc_lt t; omega)) (br_c (fun h => h0 ?_) (fun h => h1 ?_))
  · have := (ls_wgt (t := t) (w := 5) (by decide)).mp h; omega
  · have := mt (ls_wgt (t := t) (w := 5) (by decide)).mpr h; omega
def ls_out (T : Nat → Nat) (V : Nat → Int32) (n : Nat) (u0 : SX) (r : Except Nat LsC) (post : SX → Prop) : Prop := match r with
  | .ok c => ∀ u', ls_XR T V n u0 c u' → post u'
  | .error e => ∀ u', ls_XK T V n u0 e 400 u' → post u'
section
variable {T : Nat → Nat} {V : Nat → Int32} {n : Nat} {u0 u : SX} {post : SX → Prop} {pos es : Nat} {pe : List LsP} {fr : List LsF} {L : List Nat} {k : LsK}
set_option maxHeartbeats 200000 in
theorem rx_r0 (h : ls_XR T V n u0 (0, pos, es, pe, fr, L, k) u) (b1 : pos ≤ 140) (b2 : fr.length < 141) (hl : ∀ f, fr.head? = some f → f.1 = 1 → f.2.1 = f.2.2.2.length ∧ ∃ m, f.2.2.2 = L.drop m) (hfk : ∀ f, fr.head? = some f → 0 < f.1 ∧ f.1 < 12)
    (hp : ls_out T V n u0 (ls_r0 T pos es pe fr L k) post) : wpX_begin post u := by
  obtain ⟨f_tickLimit, f_tokenCount, f_outCount, f_error, f_errorPlace, f_lastKind, f_lastValue, f_codeSize, f_methodCount, f_methodTokens, f_cellCount, f_activeCalls, f_next, f_ticksLeft, f_state, f_pos, f_expressionStart, f_pendingCount, f_frameTop, f_localCount, a_tokenCode, a_tokenValue, a_outKind, a_outValue, a_codeOp, a_codeArg, a_codeKind, a_codePlace, a_methodSign, a_methodStart, a_declared, a_cellKind, a_cellValue, a_callReturn, a_pendingLevel, a_pendingPlace, a_pendingMore, a_frameKind, a_frameMore, a_localName⟩ := u
  obtain ⟨hk, hlo, rfl, ht, rfl, rfl, rfl, rfl, rfl, rfl, rfl, rfl, rfl, rfl, rfl, rfl, hes, hP, hF, hN⟩ := h
  unfold wpX_begin
  dsimp only
  refine hx_wordAt ht (by omega) ?_
  refine ⟨vp_in_nI (by omega) (by decide), ?_⟩
  rw [nI_clamp (by omega)]
  have tl := ls_tok_le ht pos
  unfold ls_r0 at hp
  cases fr with
  | nil =>
    refine nm_r (show a_frameKind 0 = 0 from hF) (br_t rfl ?_)
    by_cases t72 : T pos = 72
    · rw [if_pos ⟨t72, rfl⟩] at hp
      exact br_t ((ls_w57 tl).mpr t72) (br_t rfl (hp _ ⟨hk, hlo, rfl, ht, rfl, rfl, rfl, rfl, rfl, rfl, rfl, rfl, rfl, rfl, rfl, rfl, (fun h => by omega), hP, hF, hN⟩))
    · rw [if_neg (fun h => t72 h.1)] at hp
      refine br_f (mt (ls_w57 tl).mp t72) ?_
      have K : wX_begin_71 post (nI (ls_xc (T pos))) 1 f_tickLimit (nI n) f_outCount 0 (-1) f_lastKind f_lastValue (nI k.1) f_methodCount f_methodTokens f_cellCount f_activeCalls f_next f_ticksLeft (nI 0) (nI pos) f_expressionStart (nI pe.length) (nI 0) (nI L.length) a_tokenCode a_tokenValue a_outKind a_outValue k.2.1 k.2.2.1 k.2.2.2.1 k.2.2.2.2 a_methodSign a_methodStart a_declared a_cellKind a_cellValue a_callReturn a_pendingLevel a_pendingPlace a_pendingMore a_frameKind a_frameMore a_localName := by
        refine ls_isKind (fun t6 => ?_) (fun t6 => ?_)
        · dsimp only at hp
          rw [if_pos t6] at hp
          exact br_f (by decide) (br_f (by decide) (hp _ ⟨hk, hlo, rfl, ht, rfl, rfl, rfl, rfl, rfl, rfl, rfl, rfl, rfl, rfl, rfl, rfl, (fun h => by omega), hP, hF, hN⟩))
        · dsimp only at hp
          rw [if_neg t6] at hp
          exact br_t rfl (hp _ ⟨hk, hlo, rfl, ht, rfl, rfl, rfl, rfl, rfl, rfl, rfl, rfl, rfl, rfl, rfl, rfl, (fun h => by omega), hP, hF, hN⟩)
      exact br_c (fun _ => br_f (by decide) K) (fun _ => K)
  | cons f r =>
    obtain ⟨fk, mo, sp, l⟩ := f
    obtain ⟨f0, f12⟩ := hfk _ rfl
    dsimp only at f0 f12
    rw [if_neg (fun h => List.cons_ne_nil _ _ h.2)] at hp
    dsimp only at hp
    obtain ⟨hF1, hF2, hF3⟩ := hF
    refine nm_r (show a_frameKind (r.length + 1) = nI fk from hF1) (br_f (nI_ne0 f0 (by omega)) ?_)
    by_cases q : fk = 1
    · subst q
      rw [if_pos rfl] at hp
      refine br_t rfl ?_
      have C : wX_begin_53 post (nI (ls_xc (T pos))) (nI 1) 1 f_tickLimit (nI n) f_outCount 0 (-1) f_lastKind f_lastValue (nI k.1) f_methodCount f_methodTokens f_cellCount f_activeCalls f_next f_ticksLeft (nI 0) (nI pos) f_expressionStart (nI pe.length) (nI (r.length + 1)) (nI L.length) a_tokenCode a_tokenValue a_outKind a_outValue k.2.1 k.2.2.1 k.2.2.2.1 k.2.2.2.2 a_methodSign a_methodStart a_declared a_cellKind a_cellValue a_callReturn a_pendingLevel a_pendingPlace a_pendingMore a_frameKind a_frameMore a_localName := by
        by_cases t18 : T pos = 18
        · rw [if_pos t18] at hp
          refine br_t ((ls_w (w := 18) (by decide)).mpr t18) (br_t rfl ?_)
          unfold wpX_closeBlock
          dsimp only
          refine ⟨vp_in_nI (n := r.length + 1) (Nat.lt_succ_of_lt b2) (by decide), ?_⟩
          rw [nI_clamp (n := r.length + 1) (by have : r.length + 1 < 141 := b2; omega)]
          obtain ⟨hm, m, hd⟩ := hl _ rfl rfl
          dsimp only at hm hd
          refine nm_r (show a_frameMore (r.length + 1) = nI l.length by rw [← hm]; exact hF2) ?_
          refine hx_closeFrame (by have : r.length + 1 < 141 := b2; omega) ?_
          refine nm_r (nI_1 pos) (hp _ ⟨hk, hlo, rfl, ht, rfl, rfl, rfl, rfl, rfl, rfl, rfl, rfl, rfl, rfl, rfl, rfl, (fun h => by omega), hP, hF3, ?_⟩)
          rw [hd]; exact ls_StN_drop m hN
        · rw [if_neg t18] at hp
          refine br_f (mt (ls_w (w := 18) (by decide)).mp t18) ?_
          refine ls_isKind (fun t6 => ?_) (fun t6 => ?_)
          · rw [if_pos t6] at hp
            exact br_f (by decide) (br_f (by decide) (hp _ ⟨hk, hlo, rfl, ht, rfl, rfl, rfl, rfl, rfl, rfl, rfl, rfl, rfl, rfl, rfl, rfl, (fun h => by omega), hP, ⟨hF1, hF2, hF3⟩, hN⟩))
          · rw [if_neg t6] at hp
            exact br_t rfl (hp _ ⟨hk, hlo, rfl, ht, rfl, rfl, rfl, rfl, rfl, rfl, rfl, rfl, rfl, rfl, rfl, rfl, (fun h => by omega), hP, ⟨hF1, hF2, hF3⟩, hN⟩)
      exact br_c (fun _ => br_f (by decide) C) (fun _ => C)
    · rw [if_neg q] at hp
      have q1 : ¬ nI fk = 1 := fun h => q ((nI_eq (b := 1) (by omega) (by decide)).mp h)
      refine br_f q1 ?_
      have K : wX_begin_71 post (nI (ls_xc (T pos))) 0 f_tickLimit (nI n) f_outCount 0 (-1) f_lastKind f_lastValue (nI k.1) f_methodCount f_methodTokens f_cellCount f_activeCalls f_next f_ticksLeft (nI 0) (nI pos) f_expressionStart (nI pe.length) (nI (r.length + 1)) (nI L.length) a_tokenCode a_tokenValue a_outKind a_outValue k.2.1 k.2.2.1 k.2.2.2.1 k.2.2.2.2 a_methodSign a_methodStart a_declared a_cellKind a_cellValue a_callReturn a_pendingLevel a_pendingPlace a_pendingMore a_frameKind a_frameMore a_localName := by
        have hp1 := hp _ (show ls_XR T V n u0 _ (f_tickLimit, nI n, f_outCount, 0, -1, f_lastKind, f_lastValue, nI k.1, f_methodCount, f_methodTokens, f_cellCount, f_activeCalls, f_next, f_ticksLeft, 1, nI pos, f_expressionStart, nI pe.length, nI (r.length + 1), nI L.length, a_tokenCode, a_tokenValue, a_outKind, a_outValue, k.2.1, k.2.2.1, k.2.2.2.1, k.2.2.2.2, a_methodSign, a_methodStart, a_declared, a_cellKind, a_cellValue, a_callReturn, a_pendingLevel, a_pendingPlace, a_pendingMore, a_frameKind, a_frameMore, a_localName) from ⟨hk, hlo, rfl, ht, rfl, rfl, rfl, rfl, rfl, rfl, rfl, rfl, rfl, rfl, rfl, rfl, (fun h => by omega), hP, ⟨hF1, hF2, hF3⟩, hN⟩)
        exact ls_isKind (fun _ => br_f (by decide) (br_t rfl hp1)) (fun _ => br_t rfl hp1)
      have C : wX_begin_53 post (nI (ls_xc (T pos))) (nI fk) 0 f_tickLimit (nI n) f_outCount 0 (-1) f_lastKind f_lastValue (nI k.1) f_methodCount f_methodTokens f_cellCount f_activeCalls f_next f_ticksLeft (nI 0) (nI pos) f_expressionStart (nI pe.length) (nI (r.length + 1)) (nI L.length) a_tokenCode a_tokenValue a_outKind a_outValue k.2.1 k.2.2.1 k.2.2.2.1 k.2.2.2.2 a_methodSign a_methodStart a_declared a_cellKind a_cellValue a_callReturn a_pendingLevel a_pendingPlace a_pendingMore a_frameKind a_frameMore a_localName :=
        br_c (fun _ => br_f q1 K) (fun _ => K)
      exact br_c (fun _ => br_f (nI_ne0 f0 (by omega)) C) (fun _ => C)
end
end
section
set_option maxHeartbeats 200000 in
theorem ls_nm1 {m : Nat} (h : m < 2 ^ 31) : ¬ nI m = -1 := fun e => by
  have h1 := nI_toInt h
  rw [e] at h1
  have h2 : (-1 : Int32).toInt = -1 := by decide
  omega
section
variable {f_tickLimit f_tokenCount f_outCount f_error f_errorPlace f_lastKind f_codeSize f_methodCount f_methodTokens f_cellCount f_activeCalls f_next f_ticksLeft f_state f_pos f_expressionStart f_pendingCount f_frameTop f_localCount : Int32}
variable {f_lastValue : Int64}
variable {a_tokenCode a_tokenValue a_outKind a_codeOp a_codeArg a_codeKind a_codePlace a_methodSign a_methodStart a_declared a_cellKind a_callReturn a_pendingLevel a_pendingPlace a_pendingMore a_frameKind a_frameMore a_localName : Nat → Int32}
variable {a_outValue a_cellValue : Nat → Int64}
variable {T : Nat → Nat} {V : Nat → Int32} {n : Nat} {u0 u : SX} {post : SX → Prop} {pos es : Nat} {pe : List LsP} {fr : List LsF} {L : List Nat} {k : LsK}
set_option maxHeartbeats 200000 in
theorem ls_lo_emK {o a d p : Int32} (h : ls_lo u0 k) (hc : 480 ≤ k.1) : ls_lo u0 (ls_em k o a d p) := ls_lo_em (cc := k.1) h hc
set_option maxHeartbeats 200000 in
theorem ls_lo_aimK {j : Nat} (h : ls_lo u0 k) (hc : 480 ≤ j) : ls_lo u0 (ls_aim k j) := ls_lo_aim (cc := k.1) h hc
set_option maxHeartbeats 200000 in
/-- if, while, print: the '(' -/
theorem rx_hdr {fk tick : Nat} (hk : (f_tickLimit, f_tokenCount, f_outCount, f_lastKind, f_lastValue, f_methodCount, f_methodTokens, f_cellCount, f_activeCalls, f_next, f_ticksLeft, a_tokenCode, a_tokenValue, a_outKind, a_outValue, a_methodSign, a_methodStart, a_declared, a_cellKind, a_cellValue, a_callReturn) = ls_kept u0) (hlo : ls_lo u0 k) (ht : ls_tok T V n a_tokenCode a_tokenValue) (hP : ls_StP a_pendingLevel a_pendingPlace a_pendingMore pe) (hF : ls_StF a_frameKind a_frameMore fr) (hN : ls_StN a_localName L) (etc : f_tokenCount = nI n) (b0 : 480 ≤ k.1 ∧ k.1 ≤ 761) (b1 : pos ≤ 140) (b2 : fr.length < 141) (b3 : L.length ≤ 8) (b4 : pe.length ≤ 140)
    (hp : ls_out T V n u0 (ls_hdr T pos fk pe fr L tick k) post) : wpX_beginHeader post (f_tickLimit, nI n, f_outCount, 0, -1, f_lastKind, f_lastValue, nI k.1, f_methodCount, f_methodTokens, f_cellCount, f_activeCalls, f_next, f_ticksLeft, 1, nI pos, f_expressionStart, nI pe.length, nI fr.length, nI L.length, a_tokenCode, a_tokenValue, a_outKind, a_outValue, k.2.1, k.2.2.1, k.2.2.2.1, k.2.2.2.2, a_methodSign, a_methodStart, a_declared, a_cellKind, a_cellValue, a_callReturn, a_pendingLevel, a_pendingPlace, a_pendingMore, a_frameKind, a_frameMore, a_localName) (nI fk) (nI tick) := by
  subst etc
  unfold wpX_beginHeader
  dsimp only
  refine hx_openFrame b2 (nm_r (nI_1 pos) ?_)
  unfold ls_hdr at hp
  by_cases t : T (pos + 1) = 15
  · rw [if_pos t] at hp
    refine hx_expect (w := 15) ht (by omega) ((ls_xc_eq (by decide)).mpr t) ?_
    exact hp _ ⟨hk, hlo, rfl, ht, rfl, rfl, rfl, rfl, rfl, rfl, rfl, rfl, rfl, rfl, rfl, rfl, (fun _ => rfl), hP, ls_StF_push fk tick pos [] hF, hN⟩
  · rw [if_neg t] at hp
    refine hx_expectF (w := 15) (st := 1) ht (by omega) (by decide) t (by decide) ?_
    exact hp _ ⟨hk, rfl, ht, rfl, rfl, ⟨k.1, rfl, b0⟩, ⟨pos + 1, rfl, by omega⟩, ⟨pe.length, rfl, b4⟩, ⟨fr.length + 1, rfl, by omega⟩, ⟨L.length, rfl, b3⟩, ls_lo_cs (cc := k.1) hlo⟩
set_option maxHeartbeats 200000 in
theorem ls_loop_walk {x1 : Int32} (etc : f_frameTop = nI fr.length) (b2 : fr.length < 142) (hF : ls_StF a_frameKind a_frameMore fr) (hfk : ∀ f ∈ fr, f.1 < 12)
    (h0 : ls_loop fr = none → wX_readLoopJump_37 post x1 0 f_tickLimit f_tokenCount f_outCount f_error f_errorPlace f_lastKind f_lastValue f_codeSize f_methodCount f_methodTokens f_cellCount f_activeCalls f_next f_ticksLeft f_state f_pos f_expressionStart f_pendingCount f_frameTop f_localCount a_tokenCode a_tokenValue a_outKind a_outValue a_codeOp a_codeArg a_codeKind a_codePlace a_methodSign a_methodStart a_declared a_cellKind a_cellValue a_callReturn a_pendingLevel a_pendingPlace a_pendingMore a_frameKind a_frameMore a_localName) (h1 : ∀ m j, ls_loop fr = some m → 0 < j → j < 142 → a_frameMore j = nI m → wX_readLoopJump_37 post x1 (nI j) f_tickLimit f_tokenCount f_outCount f_error f_errorPlace f_lastKind f_lastValue f_codeSize f_methodCount f_methodTokens f_cellCount f_activeCalls f_next f_ticksLeft f_state f_pos f_expressionStart f_pendingCount f_frameTop f_localCount a_tokenCode a_tokenValue a_outKind a_outValue a_codeOp a_codeArg a_codeKind a_codePlace a_methodSign a_methodStart a_declared a_cellKind a_cellValue a_callReturn a_pendingLevel a_pendingPlace a_pendingMore a_frameKind a_frameMore a_localName) : wpX_readLoopJump post (f_tickLimit, f_tokenCount, f_outCount, f_error, f_errorPlace, f_lastKind, f_lastValue, f_codeSize, f_methodCount, f_methodTokens, f_cellCount, f_activeCalls, f_next, f_ticksLeft, f_state, f_pos, f_expressionStart, f_pendingCount, f_frameTop, f_localCount, a_tokenCode, a_tokenValue, a_outKind, a_outValue, a_codeOp, a_codeArg, a_codeKind, a_codePlace, a_methodSign, a_methodStart, a_declared, a_cellKind, a_cellValue, a_callReturn, a_pendingLevel, a_pendingPlace, a_pendingMore, a_frameKind, a_frameMore, a_localName) x1 := by
  have H : ∀ (g : List LsF), g.length ≤ fr.length → ls_StF a_frameKind a_frameMore g → (∀ f ∈ g, f.1 < 12) → ls_loop g = ls_loop fr → wX_readLoopJump_7 post x1 f_tickLimit f_tokenCount f_outCount f_error f_errorPlace f_lastKind f_lastValue f_codeSize f_methodCount f_methodTokens f_cellCount f_activeCalls f_next f_ticksLeft f_state f_pos f_expressionStart f_pendingCount f_frameTop f_localCount a_tokenCode a_tokenValue a_outKind a_outValue a_codeOp a_codeArg a_codeKind a_codePlace a_methodSign a_methodStart a_declared a_cellKind a_cellValue a_callReturn a_pendingLevel a_pendingPlace a_pendingMore a_frameKind a_frameMore a_localName (g.length + 2) 0 (nI g.length) := by
    intro g
    induction g with
    | nil => intro _ _ _ e; exact br_t (by decide) (h0 e.symm)
    | cons f r ih =>
      intro hle hS hf e
      obtain ⟨s1, s2, s3⟩ := hS
      have hle' : r.length + 1 ≤ fr.length := hle
      have f12 := hf f (List.mem_cons_self ..)
      refine br_f (nI_nle (n := r.length + 1) (by omega) (by omega)) (br_t rfl ⟨vp_in_nI (n := r.length + 1) (by omega) (by decide), ?_⟩)
      rw [show (nI (f :: r).length).toNatClampNeg = r.length + 1 from nI_clamp (n := r.length + 1) (by omega), s1]
      by_cases q : f.1 = 5
      · rw [q]
        have e2 : ls_loop fr = some f.2.1 := by rw [← e]; simp [ls_loop, q]
        refine br_t rfl (nm_r (pk_m1 r.length) ?_)
        have K := h1 _ (r.length + 1) e2 (by omega) (by omega) s2
        have ne : ¬ nI (r.length + 1) = 0 := nI_ne0 (by omega) (by omega)
        cases r with
        | nil => exact br_t (by decide) K
        | cons g2 r2 => exact br_f (nI_nle (n := r2.length + 1) (by omega) (by have : (g2 :: r2).length = r2.length + 1 := rfl; omega)) (br_f ne K)
      · refine br_f (fun h => q ((nI_eq (b := 5) (by omega) (by decide)).mp h)) (nm_r (pk_m1 r.length) ?_)
        exact ih (by omega) s3 (fun f hf' => hf f (List.mem_cons_of_mem _ hf')) (by rw [← e]; simp [ls_loop, q])
  subst etc
  exact ⟨_, H fr (Nat.le_refl _) hF hfk rfl⟩
set_option maxHeartbeats 200000 in
theorem ls_mkd_walk {q : Int32 → Prop} (etc : f_frameTop = nI fr.length) (b2 : fr.length < 142) (hF : ls_StF a_frameKind a_frameMore fr) (hfk : ∀ f ∈ fr, f.1 < 12) (hmk : ∀ f ∈ fr, f.1 = 2 → f.2.1 < 761 ∧ a_codeKind f.2.1 &&& 7 = nI (f.2.2.2.headD 0) ∧ f.2.2.2.headD 0 < 8)
    (h0 : ls_mkd fr = none → q (-1)) (h1 : ∀ m, ls_mkd fr = some m → m < 8 → q (nI m)) : wpX_openMethodKind q (f_tickLimit, f_tokenCount, f_outCount, f_error, f_errorPlace, f_lastKind, f_lastValue, f_codeSize, f_methodCount, f_methodTokens, f_cellCount, f_activeCalls, f_next, f_ticksLeft, f_state, f_pos, f_expressionStart, f_pendingCount, f_frameTop, f_localCount, a_tokenCode, a_tokenValue, a_outKind, a_outValue, a_codeOp, a_codeArg, a_codeKind, a_codePlace, a_methodSign, a_methodStart, a_declared, a_cellKind, a_cellValue, a_callReturn, a_pendingLevel, a_pendingPlace, a_pendingMore, a_frameKind, a_frameMore, a_localName) := by
  subst etc
  cases fr with
  | nil => exact br_t (by decide) (h0 rfl)
  | cons f r =>
    have key : ∀ (g : List LsF), g ≠ [] → ls_StF a_frameKind a_frameMore g → (∀ f ∈ g, f.1 < 12) → (∀ f ∈ g, f.1 = 2 → f.2.1 < 761 ∧ a_codeKind f.2.1 &&& 7 = nI (f.2.2.2.headD 0) ∧ f.2.2.2.headD 0 < 8) → (a_frameKind 1 = 2 → ∃ m d, ls_mkd g = some m ∧ a_frameMore 1 = nI d ∧ d < 761 ∧ a_codeKind d &&& 7 = nI m ∧ m < 8) ∧ (¬ a_frameKind 1 = 2 → ls_mkd g = none) := by
      intro g
      induction g with
      | nil => intro h; exact absurd rfl h
      | cons f r ih =>
        intro _ hS hf hm
        obtain ⟨s1, s2, s3⟩ := hS
        cases r with
        | nil =>
          have f12 := hf f (List.mem_cons_self ..)
          have s1' : a_frameKind 1 = nI f.1 := s1
          have s2' : a_frameMore 1 = nI f.2.1 := s2
          rw [s1']
          refine ⟨fun h => ?_, fun h => ?_⟩
          · have q : f.1 = 2 := (nI_eq (b := 2) (by omega) (by decide)).mp h
            obtain ⟨m1, m2, m3⟩ := hm f (List.mem_cons_self ..) q
            exact ⟨_, f.2.1, by simp [ls_mkd, q], s2', m1, m2, m3⟩
          · have q : f.1 ≠ 2 := fun q => h (by rw [q]; rfl)
            simp [ls_mkd, q]
        | cons g2 r2 =>
          have := ih (List.cons_ne_nil _ _) s3 (fun f hf' => hf f (List.mem_cons_of_mem _ hf')) (fun f hf' => hm f (List.mem_cons_of_mem _ hf'))
          exact this
    obtain ⟨k1, k2⟩ := key _ (List.cons_ne_nil f r) hF hfk hmk
    refine br_f (nI_nle (n := r.length + 1) (by omega) (by have : r.length + 1 < 142 := b2; omega)) (br_c (fun h => ?_) (fun h => h0 (k2 h)))
    obtain ⟨m, d, e1, e2, e3, e4, e5⟩ := k1 h
    rw [e2]
    refine nm_e (br_f (nI_pos (by omega)) (br_f (nI_ge e3 (by decide)) ⟨vp_in_nI e3 (by decide), ?_⟩))
    rw [nI_clamp (by omega), e4]
    exact nm_e (h1 m e1 e5)
end
section
variable {T : Nat → Nat} {V : Nat → Int32} {n : Nat} {u0 u : SX} {post : SX → Prop} {pos es : Nat} {pe : List LsP} {fr : List LsF} {L : List Nat} {k : LsK}
set_option maxHeartbeats 200000 in
theorem rx_r1 (h : ls_XR T V n u0 (1, pos, es, pe, fr, L, k) u) (b0 : 480 ≤ k.1 ∧ k.1 + 1 ≤ 761) (b01 : T pos ≠ 72 → k.1 + 2 ≤ 761) (b1 : pos ≤ 140) (b2 : fr.length < 141) (b3 : L.length ≤ 8) (b4 : pe.length ≤ 140) (hfk : ∀ f ∈ fr, f.1 < 12) (hmk : ∀ f ∈ fr, f.1 = 2 → f.2.1 < k.1 ∧ k.2.2.2.1 f.2.1 &&& 7 = nI (f.2.2.2.headD 0) ∧ f.2.2.2.headD 0 < 8)
    (hp : ls_out T V n u0 (ls_r1 T pos es pe fr L k) post) : wpX_beginStatement post u := by
  obtain ⟨f_tickLimit, f_tokenCount, f_outCount, f_error, f_errorPlace, f_lastKind, f_lastValue, f_codeSize, f_methodCount, f_methodTokens, f_cellCount, f_activeCalls, f_next, f_ticksLeft, f_state, f_pos, f_expressionStart, f_pendingCount, f_frameTop, f_localCount, a_tokenCode, a_tokenValue, a_outKind, a_outValue, a_codeOp, a_codeArg, a_codeKind, a_codePlace, a_methodSign, a_methodStart, a_declared, a_cellKind, a_cellValue, a_callReturn, a_pendingLevel, a_pendingPlace, a_pendingMore, a_frameKind, a_frameMore, a_localName⟩ := u
  obtain ⟨hk, hlo, rfl, ht, rfl, rfl, rfl, rfl, rfl, rfl, rfl, rfl, rfl, rfl, rfl, rfl, hes, hP, hF, hN⟩ := h
  unfold wpX_beginStatement
  dsimp only
  refine hx_wordAt ht (by omega) (hx_emit (by omega) ?_)
  dsimp only
  have hlo1 : ls_lo u0 (ls_em k 1 0 0 (nI pos)) := ls_lo_emK hlo b0.1
  have XK1 : ∀ (p ft : Nat) (K : LsK) (st : Int32), p < 400 → ft < 142 → ls_lo u0 K → (480 ≤ K.1 ∧ K.1 ≤ 761) → ∀ e fk fm, ls_XK T V n u0 e 400 (f_tickLimit, nI n, f_outCount, 1, nI e, f_lastKind, f_lastValue, nI K.1, f_methodCount, f_methodTokens, f_cellCount, f_activeCalls, f_next, f_ticksLeft, st, nI p, f_expressionStart, nI pe.length, nI ft, nI L.length, a_tokenCode, a_tokenValue, a_outKind, a_outValue, K.2.1, K.2.2.1, K.2.2.2.1, K.2.2.2.2, a_methodSign, a_methodStart, a_declared, a_cellKind, a_cellValue, a_callReturn, a_pendingLevel, a_pendingPlace, a_pendingMore, fk, fm, a_localName) :=
    fun p ft K st h1 h2 h3 h4 e fk fm => ⟨hk, rfl, ht, rfl, rfl, ⟨K.1, rfl, h4⟩, ⟨p, rfl, h1⟩, ⟨pe.length, rfl, b4⟩, ⟨ft, rfl, h2⟩, ⟨L.length, rfl, b3⟩, ls_lo_cs (cc := K.1) h3⟩
  by_cases t20 : T pos = 20
  · unfold ls_r1 at hp; dsimp only at hp
    rw [if_pos t20] at hp
    rw [t20]
    repeat first | refine br_f (by decide) ?_ | refine br_t (by decide) ?_
    refine nm_r (nI_1 pos) (hp _ ⟨hk, hlo1, rfl, ht, rfl, rfl, rfl, rfl, rfl, rfl, rfl, rfl, rfl, rfl, rfl, rfl, (fun h => by omega), hP, hF, hN⟩)
  by_cases t17 : T pos = 17
  · unfold ls_r1 at hp; dsimp only at hp
    rw [if_neg t20, if_pos t17] at hp
    rw [t17]
    repeat first | refine br_f (by decide) ?_ | refine br_t (by decide) ?_
    refine nm_r (nI_1 pos) (hx_openFrame b2 (hp _ ⟨hk, hlo1, rfl, ht, rfl, rfl, rfl, rfl, rfl, rfl, rfl, rfl, rfl, rfl, rfl, rfl, (fun h => by omega), hP, ls_StF_push 1 L.length pos L hF, hN⟩))
  by_cases t6 : T pos = 6
  · unfold ls_r1 at hp; dsimp only at hp
    rw [if_neg t20, if_neg t17, if_pos t6] at hp
    have b5 := b01 (by omega)
    rw [t6]
    repeat first | refine br_f (by decide) ?_ | refine br_t (by decide) ?_
    exact rx_hdr (k := ls_em k 1 0 0 (nI pos)) (fk := 7) (tick := k.1) hk hlo1 ht hP hF hN rfl ⟨(by show 480 ≤ k.1 + 1; omega), (by show k.1 + 1 ≤ 761; omega)⟩ b1 b2 b3 b4 hp
  by_cases t8 : T pos = 8
  · unfold ls_r1 at hp; dsimp only at hp
    rw [if_neg t20, if_neg t17, if_neg t6, if_pos t8] at hp
    rw [t8]
    repeat first | refine br_f (by decide) ?_ | refine br_t (by decide) ?_
    exact rx_hdr (k := ls_em k 1 0 0 (nI pos)) (fk := 8) (tick := k.1) hk hlo1 ht hP hF hN rfl ⟨(by show 480 ≤ k.1 + 1; omega), (by show k.1 + 1 ≤ 761; omega)⟩ b1 b2 b3 b4 hp
  by_cases t12 : T pos = 12
  · unfold ls_r1 at hp; dsimp only at hp
    rw [if_neg t20, if_neg t17, if_neg t6, if_neg t8, if_pos t12] at hp
    rw [t12]
    repeat first | refine br_f (by decide) ?_ | refine br_t (by decide) ?_
    exact rx_hdr (k := ls_em k 1 0 0 (nI pos)) (fk := 9) (tick := k.1) hk hlo1 ht hP hF hN rfl ⟨(by show 480 ≤ k.1 + 1; omega), (by show k.1 + 1 ≤ 761; omega)⟩ b1 b2 b3 b4 hp
  by_cases t9 : T pos = 9
  · unfold ls_r1 at hp; dsimp only at hp
    rw [if_neg t20, if_neg t17, if_neg t6, if_neg t8, if_neg t12, if_pos t9] at hp
    have b5 := b01 (by omega)
    rw [t9]
    repeat first | refine br_f (by decide) ?_ | refine br_t (by decide) ?_
    refine ls_loop_walk rfl (by omega) hF hfk (fun e => ?_) (fun m j e j0 j1 hm => ?_)
    · rw [e] at hp
      refine br_t rfl (hx_fault0 (st := 1) (by decide) (hp _ (XK1 pos fr.length (ls_em k 1 0 0 (nI pos)) 1 (by omega) (by omega) hlo1 ⟨by show 480 ≤ k.1 + 1; omega, by show k.1 + 1 ≤ 761; omega⟩ _ _ _)))
    · rw [e] at hp
      refine br_f (nI_ne0 j0 (by omega)) (br_t rfl ?_)
      refine hx_emit (by omega) (nm_r (nI_1 pos) ?_)
      have hlo2 : ls_lo u0 (ls_em (ls_em k 1 0 0 (nI pos)) 14 0 0 (nI pos)) := ls_lo_emK hlo1 (by show 480 ≤ k.1 + 1; omega)
      dsimp only at hp
      by_cases s : T (pos + 1) = 20
      · rw [if_pos s] at hp
        refine hx_expect (w := 20) ht (by omega) ((ls_xc_eq (by decide)).mpr s) (hp _ ⟨hk, hlo2, rfl, ht, rfl, rfl, rfl, rfl, rfl, rfl, rfl, rfl, rfl, rfl, rfl, rfl, (fun h => by omega), hP, hF, hN⟩)
      · rw [if_neg s] at hp
        refine hx_expectF (w := 20) (st := 1) ht (by omega) (by decide) s (by decide) (hp _ (XK1 (pos + 1) fr.length (ls_em (ls_em k 1 0 0 (nI pos)) 14 0 0 (nI pos)) _ (by omega) (by omega) hlo2 ⟨by show 480 ≤ k.1 + 1 + 1; omega, by show k.1 + 1 + 1 ≤ 761; omega⟩ _ _ _))
  by_cases t10 : T pos = 10
  · unfold ls_r1 at hp; dsimp only at hp
    rw [if_neg t20, if_neg t17, if_neg t6, if_neg t8, if_neg t12, if_neg t9, if_pos t10] at hp
    have b5 := b01 (by omega)
    rw [t10]
    repeat first | refine br_f (by decide) ?_ | refine br_t (by decide) ?_
    refine ls_loop_walk rfl (by omega) hF hfk (fun e => ?_) (fun m j e j0 j1 hm => ?_)
    · rw [e] at hp
      refine br_t rfl (hx_fault0 (st := 1) (by decide) (hp _ (XK1 pos fr.length (ls_em k 1 0 0 (nI pos)) 1 (by omega) (by omega) hlo1 ⟨by show 480 ≤ k.1 + 1; omega, by show k.1 + 1 ≤ 761; omega⟩ _ _ _)))
    · rw [e] at hp
      refine br_f (nI_ne0 j0 (by omega)) (br_f (by decide) ⟨vp_in_nI j1 (by decide), ?_⟩)
      rw [nI_clamp (by omega), hm, nI_1]
      refine hx_emit (by omega) (nm_r (nI_1 pos) ?_)
      have hlo2 : ls_lo u0 (ls_em (ls_em k 1 0 0 (nI pos)) 14 (nI (m + 1) - nI (k.1 + 1)) 0 (nI pos)) := ls_lo_emK hlo1 (by show 480 ≤ k.1 + 1; omega)
      dsimp only at hp
      by_cases s : T (pos + 1) = 20
      · rw [if_pos s] at hp
        refine hx_expect (w := 20) ht (by omega) ((ls_xc_eq (by decide)).mpr s) (hp _ ⟨hk, hlo2, rfl, ht, rfl, rfl, rfl, rfl, rfl, rfl, rfl, rfl, rfl, rfl, rfl, rfl, (fun h => by omega), hP, hF, hN⟩)
      · rw [if_neg s] at hp
        refine hx_expectF (w := 20) (st := 1) ht (by omega) (by decide) s (by decide) (hp _ (XK1 (pos + 1) fr.length (ls_em (ls_em k 1 0 0 (nI pos)) 14 (nI (m + 1) - nI (k.1 + 1)) 0 (nI pos)) _ (by omega) (by omega) hlo2 ⟨by show 480 ≤ k.1 + 1 + 1; omega, by show k.1 + 1 + 1 ≤ 761; omega⟩ _ _ _))
  by_cases t11 : T pos = 11
  · unfold ls_r1 at hp; dsimp only at hp
    rw [if_neg t20, if_neg t17, if_neg t6, if_neg t8, if_neg t12, if_neg t9, if_neg t10, if_pos t11] at hp
    have b5 := b01 (by omega)
    rw [t11]
    repeat first | refine br_f (by decide) ?_ | refine br_t (by decide) ?_
    unfold wpX_beginReturn
    refine ls_mkd_walk rfl (by omega) hF hfk (fun f hf h2 => ?_) (fun e => ?_) (fun m e m8 => ?_)
    · obtain ⟨m1, m2, m3⟩ := hmk f hf h2
      exact ⟨by omega, by rw [pk_un (by omega)]; exact m2, m3⟩
    · rw [e] at hp
      refine br_t rfl (hx_fault0 (st := 1) (by decide) (hp _ (XK1 pos fr.length (ls_em k 1 0 0 (nI pos)) 1 (by omega) (by omega) hlo1 ⟨by show 480 ≤ k.1 + 1; omega, by show k.1 + 1 ≤ 761; omega⟩ _ _ _)))
    · rw [e] at hp
      dsimp only at hp
      have hm : ¬ nI m = -1 := ls_nm1 (by omega)
      refine br_f hm ?_
      rw [nI_1]
      refine hx_wordAt ht (by omega) ?_
      by_cases s : T (pos + 1) = 20
      · rw [if_pos s] at hp
        refine br_t ((ls_w (w := 20) (by decide)).mpr s) (hx_emit (by omega) (nm_r (nI_add pos 2) (hp _ ⟨hk, ls_lo_emK hlo1 (by show 480 ≤ k.1 + 1; omega), rfl, ht, rfl, rfl, rfl, rfl, rfl, rfl, rfl, rfl, rfl, rfl, rfl, rfl, (fun h => by omega), hP, hF, hN⟩)))
      · rw [if_neg s] at hp
        exact br_f (mt (ls_w (w := 20) (by decide)).mp s) (nm_e (hx_openFrame b2 (hp _ ⟨hk, hlo1, rfl, ht, rfl, rfl, rfl, rfl, rfl, rfl, rfl, rfl, rfl, rfl, rfl, rfl, (fun _ => rfl), hP, ls_StF_push 10 k.1 pos [] hF, hN⟩)))
  · unfold ls_r1 at hp; dsimp only at hp
    rw [if_neg t20, if_neg t17, if_neg t6, if_neg t8, if_neg t12, if_neg t9, if_neg t10, if_neg t11] at hp
    have K : wX_beginStatement_191 post (nI k.1) f_tickLimit (nI n) f_outCount 0 (-1) f_lastKind f_lastValue (nI (k.1 + 1)) f_methodCount f_methodTokens f_cellCount f_activeCalls f_next f_ticksLeft (nI 1) (nI pos) f_expressionStart (nI pe.length) (nI fr.length) (nI L.length) a_tokenCode a_tokenValue a_outKind a_outValue (upd k.2.1 k.1 1) (upd k.2.2.1 k.1 0) (upd k.2.2.2.1 k.1 0) (upd k.2.2.2.2 k.1 (nI pos)) a_methodSign a_methodStart a_declared a_cellKind a_cellValue a_callReturn a_pendingLevel a_pendingPlace a_pendingMore a_frameKind a_frameMore a_localName :=
      hx_openFrame b2 (hp _ ⟨hk, hlo1, rfl, ht, rfl, rfl, rfl, rfl, rfl, rfl, rfl, rfl, rfl, rfl, rfl, rfl, (fun _ => rfl), hP, ls_StF_push 6 k.1 pos [] hF, hN⟩)
    have N : ∀ w, w < 54 → T pos ≠ w → ¬ nI (ls_xc (T pos)) = nI w := fun w hw h => mt (ls_w hw).mp h
    refine br_c (fun _ => K) (fun h6 => br_c (fun _ => K) (fun h20 => ?_))
    refine br_f (N 6 (by decide) t6) (br_c (fun _ => K) (fun _ => br_f (N 8 (by decide) t8) (br_f (N 9 (by decide) t9) (br_f (N 10 (by decide) t10) (br_f (N 11 (by decide) t11) (br_f (N 12 (by decide) t12) ?_))))))
    refine br_c (fun _ => K) (fun _ => br_c (fun _ => K) (fun _ => br_c (fun _ => K) (fun _ => br_c (fun _ => K) (fun _ => br_f (N 17 (by decide) t17) ?_))))
    exact br_c (fun _ => K) (fun _ => br_c (fun _ => K) (fun _ => br_f (N 20 (by decide) t20) trivial))
end
end
section
section
variable {f_tickLimit f_tokenCount f_outCount f_error f_errorPlace f_lastKind f_codeSize f_methodCount f_methodTokens f_cellCount f_activeCalls f_next f_ticksLeft f_state f_pos f_expressionStart f_pendingCount f_frameTop f_localCount : Int32}
variable {f_lastValue : Int64}
variable {a_tokenCode a_tokenValue a_outKind a_codeOp a_codeArg a_codeKind a_codePlace a_methodSign a_methodStart a_declared a_cellKind a_callReturn a_pendingLevel a_pendingPlace a_pendingMore a_frameKind a_frameMore a_localName : Nat → Int32}
variable {a_outValue a_cellValue : Nat → Int64}
variable {T : Nat → Nat} {V : Nat → Int32} {n : Nat} {u0 u : SX} {post : SX → Prop} {pos es : Nat} {pe : List LsP} {fr : List LsF} {L : List Nat} {k : LsK}
set_option maxHeartbeats 200000 in
/-- the address of a name -/
theorem hx_addressOf {q : Int32 → Prop} {nm : Nat} (hnm : nm < 16) (hN : ls_StN a_localName L) (hL : ∀ x ∈ L, x < 16) (b3 : L.length ≤ 8) (hp : q (nI (ls_addr L nm))) : wpX_addressOf q (f_tickLimit, f_tokenCount, f_outCount, f_error, f_errorPlace, f_lastKind, f_lastValue, f_codeSize, f_methodCount, f_methodTokens, f_cellCount, f_activeCalls, f_next, f_ticksLeft, f_state, f_pos, f_expressionStart, f_pendingCount, f_frameTop, nI L.length, a_tokenCode, a_tokenValue, a_outKind, a_outValue, a_codeOp, a_codeArg, a_codeKind, a_codePlace, a_methodSign, a_methodStart, a_declared, a_cellKind, a_cellValue, a_callReturn, a_pendingLevel, a_pendingPlace, a_pendingMore, a_frameKind, a_frameMore, a_localName) (nI nm) := by
  have key : ∀ (M : List Nat), ls_StN a_localName M → ∀ i, i < M.length → ∃ x y, a_localName i = nI x ∧ M = y ++ x :: M.drop (M.length - i) ∧ (M.drop (M.length - i)).length = i := by
    intro M
    induction M with
    | nil => intro _ i hi; exact absurd hi (by simp)
    | cons z r ih =>
      intro hS i hi
      obtain ⟨s1, s2⟩ := hS
      have hi' : i < r.length + 1 := hi
      by_cases q : i = r.length
      · subst q
        refine ⟨z, [], s1, ?_, ?_⟩
        · show z :: r = z :: (z :: r).drop (r.length + 1 - r.length)
          rw [show r.length + 1 - r.length = 1 by omega]; rfl
        · show ((z :: r).drop (r.length + 1 - r.length)).length = r.length
          rw [show r.length + 1 - r.length = 1 by omega]; rfl
      · obtain ⟨x, y, h1, h2, h3⟩ := ih s2 i (by omega)
        have e : (z :: r).length - i = (r.length - i) + 1 := by show r.length + 1 - i = _; omega
        refine ⟨x, z :: y, h1, ?_, ?_⟩
        · rw [e, List.drop_succ_cons, List.cons_append, ← h2]
        · rw [e, List.drop_succ_cons]; exact h3
  have H : ∀ d i : Nat, i + d = L.length → wX_addressOf_4 q (nI nm) f_tickLimit f_tokenCount f_outCount f_error f_errorPlace f_lastKind f_lastValue f_codeSize f_methodCount f_methodTokens f_cellCount f_activeCalls f_next f_ticksLeft f_state f_pos f_expressionStart f_pendingCount f_frameTop (nI L.length) a_tokenCode a_tokenValue a_outKind a_outValue a_codeOp a_codeArg a_codeKind a_codePlace a_methodSign a_methodStart a_declared a_cellKind a_cellValue a_callReturn a_pendingLevel a_pendingPlace a_pendingMore a_frameKind a_frameMore a_localName (d + 1) (nI (ls_addr (L.drop (L.length - i)) nm)) (nI i) := by
    intro d
    induction d with
    | zero =>
      intro i hi
      have e : L.drop (L.length - i) = L := by rw [show L.length - i = 0 by omega]; rfl
      rw [e]
      exact br_t (nI_le (by omega) (by omega)) hp
    | succ d ih =>
      intro i hi
      obtain ⟨x, y, h1, h2, h3⟩ := key L hN i (by omega)
      have e1 : L.drop (L.length - (i + 1)) = x :: L.drop (L.length - i) := by
        have hy : y.length = L.length - (i + 1) := by
          have := congrArg List.length h2
          rw [List.length_append, List.length_cons, h3] at this
          omega
        rw [← hy]
        conv => lhs; rw [h2]
        rw [List.drop_left]
      have hx : x < 16 := hL x (by rw [h2]; simp)
      refine br_f (nI_ge (by omega) (by omega)) ⟨vp_in_nI (by omega) (by decide), ?_⟩
      rw [nI_clamp (by omega), h1]
      have I := ih (i + 1) (by omega)
      rw [e1] at I
      by_cases z : x = nm
      · subst z
        have e2 : ls_addr (x :: L.drop (L.length - i)) x = 16 + i := by
          show (if x = x then 16 + (L.drop (L.length - i)).length else _) = _
          rw [if_pos rfl, h3]
        rw [e2] at I
        exact br_t rfl (nm_r (nI_add 16 i) (nm_r (nI_1 i) I))
      · have e2 : ls_addr (x :: L.drop (L.length - i)) nm = ls_addr (L.drop (L.length - i)) nm := by
          show (if x = nm then _ else _) = _
          rw [if_neg z]
        rw [e2] at I
        exact br_f (fun h => z ((nI_eq (by omega) (by omega)).mp h)) (nm_r (nI_1 i) I)
  have := H L.length 0 (by omega)
  rw [show L.drop (L.length - 0) = [] by simp] at this
  exact ⟨_, this⟩
set_option maxHeartbeats 200000 in
/-- a new local name: from the scope that begins at mo -/
theorem hx_addLocal {p2 : Int32 → SX → Prop} {nm mo : Nat} (hnm : nm < 16) (hN : ls_StN a_localName L) (hL : ∀ x ∈ L, x < 16) (b3 : L.length ≤ 8) (hmo : mo ≤ L.length)
    (h1 : L.length < 8 → ¬ nm ∈ L.take (L.length - mo) → p2 1 (f_tickLimit, f_tokenCount, f_outCount, f_error, f_errorPlace, f_lastKind, f_lastValue, f_codeSize, f_methodCount, f_methodTokens, f_cellCount, f_activeCalls, f_next, f_ticksLeft, f_state, f_pos, f_expressionStart, f_pendingCount, f_frameTop, nI (L.length + 1), a_tokenCode, a_tokenValue, a_outKind, a_outValue, a_codeOp, a_codeArg, a_codeKind, a_codePlace, a_methodSign, a_methodStart, a_declared, a_cellKind, a_cellValue, a_callReturn, a_pendingLevel, a_pendingPlace, a_pendingMore, a_frameKind, a_frameMore, upd a_localName L.length (nI nm)))
    (h0 : ¬ (L.length < 8 ∧ ¬ nm ∈ L.take (L.length - mo)) → p2 0 (f_tickLimit, f_tokenCount, f_outCount, f_error, f_errorPlace, f_lastKind, f_lastValue, f_codeSize, f_methodCount, f_methodTokens, f_cellCount, f_activeCalls, f_next, f_ticksLeft, f_state, f_pos, f_expressionStart, f_pendingCount, f_frameTop, nI L.length, a_tokenCode, a_tokenValue, a_outKind, a_outValue, a_codeOp, a_codeArg, a_codeKind, a_codePlace, a_methodSign, a_methodStart, a_declared, a_cellKind, a_cellValue, a_callReturn, a_pendingLevel, a_pendingPlace, a_pendingMore, a_frameKind, a_frameMore, a_localName)) : wpX_addLocal p2 (f_tickLimit, f_tokenCount, f_outCount, f_error, f_errorPlace, f_lastKind, f_lastValue, f_codeSize, f_methodCount, f_methodTokens, f_cellCount, f_activeCalls, f_next, f_ticksLeft, f_state, f_pos, f_expressionStart, f_pendingCount, f_frameTop, nI L.length, a_tokenCode, a_tokenValue, a_outKind, a_outValue, a_codeOp, a_codeArg, a_codeKind, a_codePlace, a_methodSign, a_methodStart, a_declared, a_cellKind, a_cellValue, a_callReturn, a_pendingLevel, a_pendingPlace, a_pendingMore, a_frameKind, a_frameMore, a_localName) (nI nm) (nI mo) := by
  have key : ∀ (M : List Nat), ls_StN a_localName M → ∀ i, i < M.length → ∃ x, a_localName i = nI x ∧ x ∈ M ∧ M.take (M.length - i) = M.take (M.length - (i + 1)) ++ [x] := by
    intro M
    induction M with
    | nil => intro _ i hi; exact absurd hi (by simp)
    | cons z r ih =>
      intro hS i hi
      obtain ⟨s1, s2⟩ := hS
      have hi' : i < r.length + 1 := hi
      by_cases q : i = r.length
      · subst q
        refine ⟨z, s1, by simp, ?_⟩
        show (z :: r).take (r.length + 1 - r.length) = (z :: r).take (r.length + 1 - (r.length + 1)) ++ [z]
        rw [show r.length + 1 - r.length = 1 by omega, show r.length + 1 - (r.length + 1) = 0 by omega]; rfl
      · obtain ⟨x, h1, h2, h3⟩ := ih s2 i (by omega)
        refine ⟨x, h1, List.mem_cons_of_mem _ h2, ?_⟩
        have e : (z :: r).length - i = (r.length - i) + 1 := by show r.length + 1 - i = _; omega
        have e' : (z :: r).length - (i + 1) = (r.length - (i + 1)) + 1 := by show r.length + 1 - (i + 1) = _; omega
        rw [e, e', List.take_succ_cons, List.take_succ_cons, h3]; rfl
  have F : ∀ b : Nat, (b = 1 ∧ L.length < 8 ∧ ¬ nm ∈ L.take (L.length - mo)) ∨ (b = 0 ∧ ¬ (L.length < 8 ∧ ¬ nm ∈ L.take (L.length - mo))) → wX_addLocal_59 p2 (nI nm) (nI b) f_tickLimit f_tokenCount f_outCount f_error f_errorPlace f_lastKind f_lastValue f_codeSize f_methodCount f_methodTokens f_cellCount f_activeCalls f_next f_ticksLeft f_state f_pos f_expressionStart f_pendingCount f_frameTop (nI L.length) a_tokenCode a_tokenValue a_outKind a_outValue a_codeOp a_codeArg a_codeKind a_codePlace a_methodSign a_methodStart a_declared a_cellKind a_cellValue a_callReturn a_pendingLevel a_pendingPlace a_pendingMore a_frameKind a_frameMore a_localName := by
    intro b hb
    rcases hb with ⟨rfl, g1, g2⟩ | ⟨rfl, g⟩
    · refine br_f (by decide) ⟨vp_in_nI g1 (by decide), nm_r (by rw [nI_clamp (by omega)]) (nm_r (nI_1 _) ⟨rfl, h1 g1 g2⟩)⟩
    · exact br_t rfl ⟨rfl, h0 g⟩
  have Z : ∀ d i : Nat, ¬ (L.length < 8 ∧ ¬ nm ∈ L.take (L.length - mo)) → wX_addLocal_18 p2 (nI nm) f_tickLimit f_tokenCount f_outCount f_error f_errorPlace f_lastKind f_lastValue f_codeSize f_methodCount f_methodTokens f_cellCount f_activeCalls f_next f_ticksLeft f_state f_pos f_expressionStart f_pendingCount f_frameTop (nI L.length) a_tokenCode a_tokenValue a_outKind a_outValue a_codeOp a_codeArg a_codeKind a_codePlace a_methodSign a_methodStart a_declared a_cellKind a_cellValue a_callReturn a_pendingLevel a_pendingPlace a_pendingMore a_frameKind a_frameMore a_localName (d + 1) 0 (nI i) := by
    intro d i g
    exact br_c (fun _ => F 0 (Or.inr ⟨rfl, g⟩)) (fun _ => br_c (fun _ => F 0 (Or.inr ⟨rfl, g⟩)) (fun _ => br_t rfl (F 0 (Or.inr ⟨rfl, g⟩))))
  have H : ∀ d i : Nat, i + d = L.length → mo ≤ i → L.length < 8 → (¬ nm ∈ L.take (L.length - mo) ↔ ¬ nm ∈ L.take (L.length - i)) → wX_addLocal_18 p2 (nI nm) f_tickLimit f_tokenCount f_outCount f_error f_errorPlace f_lastKind f_lastValue f_codeSize f_methodCount f_methodTokens f_cellCount f_activeCalls f_next f_ticksLeft f_state f_pos f_expressionStart f_pendingCount f_frameTop (nI L.length) a_tokenCode a_tokenValue a_outKind a_outValue a_codeOp a_codeArg a_codeKind a_codePlace a_methodSign a_methodStart a_declared a_cellKind a_cellValue a_callReturn a_pendingLevel a_pendingPlace a_pendingMore a_frameKind a_frameMore a_localName (d + 2) 1 (nI i) := by
    intro d
    induction d with
    | zero =>
      intro i hi hm hl hq
      have e : L.take (L.length - i) = [] := by rw [show L.length - i = 0 by omega]; rfl
      rw [e] at hq
      exact br_f (nI_pos (by omega)) (br_t (nI_le (by omega) (by omega)) (F 1 (Or.inl ⟨rfl, hl, hq.mpr (by simp)⟩)))
    | succ d ih =>
      intro i hi hm hl hq
      obtain ⟨x, k1, k2, k3⟩ := key L hN i (by omega)
      have hx := hL x k2
      refine br_f (nI_pos (by omega)) (br_f (nI_ge (by omega) (by omega)) (br_f (by decide) ⟨vp_in_nI (by omega) (by decide), ?_⟩))
      rw [nI_clamp (by omega), k1]
      by_cases z : x = nm
      · subst z
        refine br_t rfl (nm_r (nI_1 i) (Z _ _ ?_))
        intro ⟨_, g⟩
        exact hq.mp g (by rw [k3]; simp)
      · refine br_f (fun h => z ((nI_eq (by omega) (by omega)).mp h)) (nm_r (nI_1 i) (ih (i + 1) (by omega) (by omega) hl ?_))
        rw [hq, k3]
        simp only [List.mem_append, List.mem_singleton, not_or]
        exact ⟨fun h => h.1, fun h => ⟨h, fun e => z e.symm⟩⟩
  by_cases l8 : L.length < 8
  · exact br_f (nI_ge (b := 8) l8 (by decide)) ⟨_, H (L.length - mo) mo (by omega) (Nat.le_refl _) l8 Iff.rfl⟩
  · exact br_t (nI_le (a := 8) (by omega) (by omega)) ⟨_, Z 0 mo (fun h => l8 h.1)⟩
end
end
section
section
variable {f_tickLimit f_tokenCount f_outCount f_error f_errorPlace f_lastKind f_codeSize f_methodCount f_methodTokens f_cellCount f_activeCalls f_next f_ticksLeft f_state f_pos f_expressionStart f_pendingCount f_frameTop f_localCount : Int32}
variable {f_lastValue : Int64}
variable {a_tokenCode a_tokenValue a_outKind a_codeOp a_codeArg a_codeKind a_codePlace a_methodSign a_methodStart a_declared a_cellKind a_callReturn a_pendingLevel a_pendingPlace a_pendingMore a_frameKind a_frameMore a_localName : Nat → Int32}
variable {a_outValue a_cellValue : Nat → Int64}
variable {T : Nat → Nat} {V : Nat → Int32} {n : Nat} {u0 u : SX} {post : SX → Prop} {pos es e m : Nat} {pe : List LsP} {fr : List LsF} {L : List Nat} {k : LsK}
set_option maxHeartbeats 200000 in
theorem kx_var148 {x4 x6 : Int32} (h : ls_XK T V n u0 e m (f_tickLimit, f_tokenCount, f_outCount, f_error, f_errorPlace, f_lastKind, f_lastValue, f_codeSize, f_methodCount, f_methodTokens, f_cellCount, f_activeCalls, f_next, f_ticksLeft, f_state, f_pos, f_expressionStart, f_pendingCount, f_frameTop, f_localCount, a_tokenCode, a_tokenValue, a_outKind, a_outValue, a_codeOp, a_codeArg, a_codeKind, a_codePlace, a_methodSign, a_methodStart, a_declared, a_cellKind, a_cellValue, a_callReturn, a_pendingLevel, a_pendingPlace, a_pendingMore, a_frameKind, a_frameMore, a_localName)) (hm : m ≤ 390) (hp : ∀ u', ls_XK T V n u0 e (m + 1) u' → post u') : wX_readVariable_148 post x4 x6 f_tickLimit f_tokenCount f_outCount f_error f_errorPlace f_lastKind f_lastValue f_codeSize f_methodCount f_methodTokens f_cellCount f_activeCalls f_next f_ticksLeft f_state f_pos f_expressionStart f_pendingCount f_frameTop f_localCount a_tokenCode a_tokenValue a_outKind a_outValue a_codeOp a_codeArg a_codeKind a_codePlace a_methodSign a_methodStart a_declared a_cellKind a_cellValue a_callReturn a_pendingLevel a_pendingPlace a_pendingMore a_frameKind a_frameMore a_localName := by
  refine br_c (fun _ => ?_) (fun _ => ?_)
  · refine kx_expect h (by omega) fun u' h' => ?_
    obtain ⟨f_tickLimit, f_tokenCount, f_outCount, f_error, f_errorPlace, f_lastKind, f_lastValue, f_codeSize, f_methodCount, f_methodTokens, f_cellCount, f_activeCalls, f_next, f_ticksLeft, f_state, f_pos, f_expressionStart, f_pendingCount, f_frameTop, f_localCount, a_tokenCode, a_tokenValue, a_outKind, a_outValue, a_codeOp, a_codeArg, a_codeKind, a_codePlace, a_methodSign, a_methodStart, a_declared, a_cellKind, a_cellValue, a_callReturn, a_pendingLevel, a_pendingPlace, a_pendingMore, a_frameKind, a_frameMore, a_localName⟩ := u'
    exact hp _ h'
  · obtain ⟨hk, h1, ht, h2, h3, hc, ⟨p, hp1, hpp⟩, hr⟩ := h
    rw [hp1]
    refine nm_r (nI_1 p) ?_
    refine kx_openFrame (T := T) (V := V) (n := n) (u0 := u0) (e := e) (m := m + 1) ⟨hk, h1, ht, h2, h3, hc, ⟨p + 1, rfl, by omega⟩, hr⟩ fun u' h' => ?_
    obtain ⟨f_tickLimit, f_tokenCount, f_outCount, f_error, f_errorPlace, f_lastKind, f_lastValue, f_codeSize, f_methodCount, f_methodTokens, f_cellCount, f_activeCalls, f_next, f_ticksLeft, f_state, f_pos, f_expressionStart, f_pendingCount, f_frameTop, f_localCount, a_tokenCode, a_tokenValue, a_outKind, a_outValue, a_codeOp, a_codeArg, a_codeKind, a_codePlace, a_methodSign, a_methodStart, a_declared, a_cellKind, a_cellValue, a_callReturn, a_pendingLevel, a_pendingPlace, a_pendingMore, a_frameKind, a_frameMore, a_localName⟩ := u'
    refine kx_startExpression h' fun u'' h'' => ?_
    obtain ⟨f_tickLimit, f_tokenCount, f_outCount, f_error, f_errorPlace, f_lastKind, f_lastValue, f_codeSize, f_methodCount, f_methodTokens, f_cellCount, f_activeCalls, f_next, f_ticksLeft, f_state, f_pos, f_expressionStart, f_pendingCount, f_frameTop, f_localCount, a_tokenCode, a_tokenValue, a_outKind, a_outValue, a_codeOp, a_codeArg, a_codeKind, a_codePlace, a_methodSign, a_methodStart, a_declared, a_cellKind, a_cellValue, a_callReturn, a_pendingLevel, a_pendingPlace, a_pendingMore, a_frameKind, a_frameMore, a_localName⟩ := u''
    exact hp _ h''
set_option maxHeartbeats 200000 in
theorem kx_var131 {x1 x2 x3 x4 x6 : Int32} (h : ls_XK T V n u0 e m (f_tickLimit, f_tokenCount, f_outCount, f_error, f_errorPlace, f_lastKind, f_lastValue, f_codeSize, f_methodCount, f_methodTokens, f_cellCount, f_activeCalls, f_next, f_ticksLeft, f_state, f_pos, f_expressionStart, f_pendingCount, f_frameTop, f_localCount, a_tokenCode, a_tokenValue, a_outKind, a_outValue, a_codeOp, a_codeArg, a_codeKind, a_codePlace, a_methodSign, a_methodStart, a_declared, a_cellKind, a_cellValue, a_callReturn, a_pendingLevel, a_pendingPlace, a_pendingMore, a_frameKind, a_frameMore, a_localName)) (hm : m ≤ 390) (hp : ∀ u', ls_XK T V n u0 e (m + 1) u' → post u') : wX_readVariable_131 post x1 x2 x3 x4 x6 f_tickLimit f_tokenCount f_outCount f_error f_errorPlace f_lastKind f_lastValue f_codeSize f_methodCount f_methodTokens f_cellCount f_activeCalls f_next f_ticksLeft f_state f_pos f_expressionStart f_pendingCount f_frameTop f_localCount a_tokenCode a_tokenValue a_outKind a_outValue a_codeOp a_codeArg a_codeKind a_codePlace a_methodSign a_methodStart a_declared a_cellKind a_cellValue a_callReturn a_pendingLevel a_pendingPlace a_pendingMore a_frameKind a_frameMore a_localName := by
  refine kx_addressOf h fun r => kx_emit h fun u' h' => ?_
  obtain ⟨f_tickLimit, f_tokenCount, f_outCount, f_error, f_errorPlace, f_lastKind, f_lastValue, f_codeSize, f_methodCount, f_methodTokens, f_cellCount, f_activeCalls, f_next, f_ticksLeft, f_state, f_pos, f_expressionStart, f_pendingCount, f_frameTop, f_localCount, a_tokenCode, a_tokenValue, a_outKind, a_outValue, a_codeOp, a_codeArg, a_codeKind, a_codePlace, a_methodSign, a_methodStart, a_declared, a_cellKind, a_cellValue, a_callReturn, a_pendingLevel, a_pendingPlace, a_pendingMore, a_frameKind, a_frameMore, a_localName⟩ := u'
  exact kx_var148 h' hm hp
set_option maxHeartbeats 200000 in
theorem kx_var91 {x1 x2 x3 x4 x5 : Int32} (h : ls_XK T V n u0 e m (f_tickLimit, f_tokenCount, f_outCount, f_error, f_errorPlace, f_lastKind, f_lastValue, f_codeSize, f_methodCount, f_methodTokens, f_cellCount, f_activeCalls, f_next, f_ticksLeft, f_state, f_pos, f_expressionStart, f_pendingCount, f_frameTop, f_localCount, a_tokenCode, a_tokenValue, a_outKind, a_outValue, a_codeOp, a_codeArg, a_codeKind, a_codePlace, a_methodSign, a_methodStart, a_declared, a_cellKind, a_cellValue, a_callReturn, a_pendingLevel, a_pendingPlace, a_pendingMore, a_frameKind, a_frameMore, a_localName)) (hm : m ≤ 380) (hp : ∀ u', ls_XK T V n u0 e (m + 2) u' → post u') : wX_readVariable_91 post x1 x2 x3 x4 x5 f_tickLimit f_tokenCount f_outCount f_error f_errorPlace f_lastKind f_lastValue f_codeSize f_methodCount f_methodTokens f_cellCount f_activeCalls f_next f_ticksLeft f_state f_pos f_expressionStart f_pendingCount f_frameTop f_localCount a_tokenCode a_tokenValue a_outKind a_outValue a_codeOp a_codeArg a_codeKind a_codePlace a_methodSign a_methodStart a_declared a_cellKind a_cellValue a_callReturn a_pendingLevel a_pendingPlace a_pendingMore a_frameKind a_frameMore a_localName := by
  obtain ⟨hk, h1, ht, h2, h3, hc, ⟨p, hp1, hpp⟩, hr⟩ := h
  unfold wX_readVariable_91
  rw [hp1]
  refine nm_r (nI_1 p) ?_
  have h' : ls_XK T V n u0 e (m + 1) (f_tickLimit, f_tokenCount, f_outCount, f_error, f_errorPlace, f_lastKind, f_lastValue, f_codeSize, f_methodCount, f_methodTokens, f_cellCount, f_activeCalls, f_next, f_ticksLeft, f_state, nI (p + 1), f_expressionStart, f_pendingCount, f_frameTop, f_localCount, a_tokenCode, a_tokenValue, a_outKind, a_outValue, a_codeOp, a_codeArg, a_codeKind, a_codePlace, a_methodSign, a_methodStart, a_declared, a_cellKind, a_cellValue, a_callReturn, a_pendingLevel, a_pendingPlace, a_pendingMore, a_frameKind, a_frameMore, a_localName) := ⟨hk, h1, ht, h2, h3, hc, ⟨p + 1, rfl, by omega⟩, hr⟩
  refine kx_wordAt h' (by omega) fun r => ?_
  have A : ∀ z0, wX_readVariable_119 post x1 x2 x3 x4 x5 z0 f_tickLimit f_tokenCount f_outCount f_error f_errorPlace f_lastKind f_lastValue f_codeSize f_methodCount f_methodTokens f_cellCount f_activeCalls f_next f_ticksLeft f_state (nI (p + 1)) f_expressionStart f_pendingCount f_frameTop f_localCount a_tokenCode a_tokenValue a_outKind a_outValue a_codeOp a_codeArg a_codeKind a_codePlace a_methodSign a_methodStart a_declared a_cellKind a_cellValue a_callReturn a_pendingLevel a_pendingPlace a_pendingMore a_frameKind a_frameMore a_localName := fun z0 =>
    br_c (fun _ => br_c (fun _ => kx_var131 h' (by omega) hp) (fun _ => kx_var148 h' (by omega) hp)) (fun _ => kx_var131 h' (by omega) hp)
  exact br_c (fun _ => A 1) (fun _ => A 0)
set_option maxHeartbeats 200000 in
/-- the text's or a block's declaration of a variable -/
theorem rx_var (hkk : (f_tickLimit, f_tokenCount, f_outCount, f_lastKind, f_lastValue, f_methodCount, f_methodTokens, f_cellCount, f_activeCalls, f_next, f_ticksLeft, a_tokenCode, a_tokenValue, a_outKind, a_outValue, a_methodSign, a_methodStart, a_declared, a_cellKind, a_cellValue, a_callReturn) = ls_kept u0) (hlo : ls_lo u0 k) (ht : ls_tok T V n a_tokenCode a_tokenValue) (hP : ls_StP a_pendingLevel a_pendingPlace a_pendingMore pe) (hF : ls_StF a_frameKind a_frameMore fr) (hN : ls_StN a_localName L) (etc : f_tokenCount = nI n) (b0 : 480 ≤ k.1 ∧ k.1 + 2 ≤ 761) (b1 : pos < 140) (b2 : fr.length < 141) (b3 : L.length ≤ 8) (b4 : pe.length ≤ 140)
    (hL : ∀ x ∈ L, x < 16) (t6 : T pos < 6) (tn : ls_nam (T (pos + 1))) (hmo : ∀ f, fr.head? = some f → f.2.1 ≤ L.length)
    (hp : ls_out T V n u0 (ls_var T pos es pe fr L k) post) : wpX_readVariable post (f_tickLimit, nI n, f_outCount, 0, -1, f_lastKind, f_lastValue, nI k.1, f_methodCount, f_methodTokens, f_cellCount, f_activeCalls, f_next, f_ticksLeft, nI 2, nI pos, f_expressionStart, nI pe.length, nI fr.length, nI L.length, a_tokenCode, a_tokenValue, a_outKind, a_outValue, k.2.1, k.2.2.1, k.2.2.2.1, k.2.2.2.2, a_methodSign, a_methodStart, a_declared, a_cellKind, a_cellValue, a_callReturn, a_pendingLevel, a_pendingPlace, a_pendingMore, a_frameKind, a_frameMore, a_localName) := by
  subst etc
  unfold wpX_readVariable
  dsimp only
  refine hx_wordAt ht (by omega) ?_
  rw [nI_1]
  refine hx_valueName ht (by omega) tn ?_
  have ex : ls_xc (T pos) = T pos := by unfold ls_xc; rw [if_pos (by omega)]
  rw [ex]
  have hnm : T (pos + 1) - 54 < 16 := by have := tn.2; omega
  unfold ls_var at hp
  cases fr with
  | nil =>
    dsimp only at hp
    refine br_t (by decide) ?_
    refine nm_r (nI_1 pos) (br_t rfl (hx_emit (by omega) ?_))
    refine nm_r (nI_1 (pos + 1)) ?_
    refine hx_wordAt ht (by omega) ?_
    have lo1 : ls_lo u0 (ls_em k 1 0 0 (nI pos)) := ls_lo_emK hlo b0.1
    by_cases t21 : T (pos + 2) = 21
    · rw [if_pos t21] at hp
      refine br_t ((ls_w (w := 21) (by decide)).mpr t21) (br_t rfl (br_f (by decide) (br_f (by decide) (nm_r (nI_1 (pos + 2)) ?_))))
      refine hx_openFrame (ft := 0) (by decide) (hp _ ⟨hkk, lo1, rfl, ht, rfl, rfl, rfl, rfl, rfl, rfl, rfl, rfl, rfl, rfl, rfl, rfl, (fun _ => rfl), hP, ls_StF_push 11 k.1 pos [] hF, hN⟩)
    · rw [if_neg t21] at hp
      refine br_f (mt (ls_w (w := 21) (by decide)).mp t21) (br_t rfl (br_t rfl ?_))
      refine hx_addressOf hnm hN hL b3 (hx_emit (by omega) (br_t rfl ?_))
      by_cases t20 : T (pos + 2) = 20
      · rw [if_pos t20] at hp
        exact hx_expect (w := 20) ht (by omega) ((ls_xc_eq (by decide)).mpr t20) (hp _ ⟨hkk, ls_lo_emK lo1 (by show 480 ≤ k.1 + 1; omega), rfl, ht, rfl, rfl, rfl, rfl, rfl, rfl, rfl, rfl, rfl, rfl, rfl, rfl, (fun h => by omega), hP, hF, hN⟩)
      · rw [if_neg t20] at hp
        exact hx_expectF (w := 20) (st := 0) ht (by omega) (by decide) t20 (by decide) (hp _ ⟨hkk, rfl, ht, rfl, rfl, ⟨k.1 + 1 + 1, rfl, by omega, by omega⟩, ⟨pos + 2, rfl, by omega⟩, ⟨pe.length, rfl, b4⟩, ⟨0, rfl, by omega⟩, ⟨L.length, rfl, b3⟩, ls_lo_em (cc := k.1 + 1) lo1 (by omega)⟩)
  | cons f r =>
    obtain ⟨fk, mo, sp, l⟩ := f
    dsimp only at hp
    have b2' : r.length + 1 < 141 := b2
    have hmo' : mo ≤ L.length := hmo _ rfl
    refine br_f (nI_nle (n := r.length + 1) (by omega) (by omega)) ?_
    refine nm_r (nI_1 pos) (br_f (by decide) ⟨vp_in_nI (n := r.length + 1) (by omega) (by decide), ?_⟩)
    rw [show (nI ((fk, mo, sp, l) :: r : List LsF).length).toNatClampNeg = r.length + 1 from nI_clamp (n := r.length + 1) (by omega), show a_frameMore (r.length + 1) = nI mo from hF.2.1]
    refine hx_addLocal hnm hN hL b3 hmo' (fun h8 hnot => ?_) (fun hno => ?_)
    · rw [if_pos ⟨h8, hnot⟩] at hp
      refine br_f (by decide) (nm_r (nI_1 (pos + 1)) ?_)
      refine hx_wordAt ht (by omega) ?_
      have N1 : ls_StN (upd a_localName L.length (nI (T (pos + 1) - 54))) ((T (pos + 1) - 54) :: L) := ls_StN_push _ hN
      have L1 : ∀ x ∈ (T (pos + 1) - 54) :: L, x < 16 := by
        intro x hx
        rcases List.mem_cons.mp hx with rfl | hx
        · exact hnm
        · exact hL x hx
      have lo1 : ls_lo u0 (ls_em k 19 (nI (ls_addr ((T (pos + 1) - 54) :: L) (T (pos + 1) - 54))) (nI (T pos)) (nI pos)) := ls_lo_emK hlo b0.1
      by_cases t21 : T (pos + 2) = 21
      · rw [if_pos t21] at hp
        refine br_t ((ls_w (w := 21) (by decide)).mpr t21) (br_f (by decide) ?_)
        refine hx_addressOf (L := (T (pos + 1) - 54) :: L) hnm N1 L1 (by show L.length + 1 ≤ 8; omega) (hx_emit (by omega) (br_f (by decide) (nm_r (nI_1 (pos + 2)) ?_)))
        exact hx_openFrame (ft := r.length + 1) (by omega) (hp _ ⟨hkk, lo1, rfl, ht, rfl, rfl, rfl, rfl, rfl, rfl, rfl, rfl, rfl, rfl, rfl, rfl, (fun _ => rfl), hP, ls_StF_push 11 k.1 pos [] hF, N1⟩)
      · rw [if_neg t21] at hp
        refine br_f (mt (ls_w (w := 21) (by decide)).mp t21) (br_f (by decide) ?_)
        refine hx_addressOf (L := (T (pos + 1) - 54) :: L) hnm N1 L1 (by show L.length + 1 ≤ 8; omega) (hx_emit (by omega) (br_t rfl ?_))
        by_cases t20 : T (pos + 2) = 20
        · rw [if_pos t20] at hp
          exact hx_expect (w := 20) ht (by omega) ((ls_xc_eq (by decide)).mpr t20) (hp _ ⟨hkk, lo1, rfl, ht, rfl, rfl, rfl, rfl, rfl, rfl, rfl, rfl, rfl, rfl, rfl, rfl, (fun h => by omega), hP, hF, N1⟩)
        · rw [if_neg t20] at hp
          exact hx_expectF (w := 20) (st := 0) ht (by omega) (by decide) t20 (by decide) (hp _ ⟨hkk, rfl, ht, rfl, rfl, ⟨k.1 + 1, rfl, by omega, by omega⟩, ⟨pos + 2, rfl, by omega⟩, ⟨pe.length, rfl, b4⟩, ⟨r.length + 1, rfl, by omega⟩, ⟨L.length + 1, rfl, by omega⟩, ls_lo_em (cc := k.1) hlo b0.1⟩)
    · rw [if_neg hno] at hp
      refine br_t rfl ?_
      refine hx_fault0 (st := 0) (by decide) ?_
      refine kx_var91 (T := T) (V := V) (n := n) (u0 := u0) (e := pos + 1) (m := 200) ⟨hkk, rfl, ht, rfl, rfl, ⟨k.1, rfl, b0.1, by omega⟩, ⟨pos + 1, rfl, by omega⟩, ⟨pe.length, rfl, b4⟩, ⟨r.length + 1, rfl, by omega⟩, ⟨L.length, rfl, b3⟩, ls_lo_cs (cc := k.1) hlo⟩ (by omega) fun u' h' => hp _ (ls_XK_mono h' (by omega))
end
end
section
section
variable {f_tickLimit f_tokenCount f_outCount f_error f_errorPlace f_lastKind f_codeSize f_methodCount f_methodTokens f_cellCount f_activeCalls f_next f_ticksLeft f_state f_pos f_expressionStart f_pendingCount f_frameTop f_localCount : Int32}
variable {f_lastValue : Int64}
variable {a_tokenCode a_tokenValue a_outKind a_codeOp a_codeArg a_codeKind a_codePlace a_methodSign a_methodStart a_declared a_cellKind a_callReturn a_pendingLevel a_pendingPlace a_pendingMore a_frameKind a_frameMore a_localName : Nat → Int32}
variable {a_outValue a_cellValue : Nat → Int64}
variable {T : Nat → Nat} {V : Nat → Int32} {n : Nat} {u0 u : SX} {post : SX → Prop} {pos es e m : Nat} {pe : List LsP} {fr : List LsF} {L : List Nat} {k : LsK}
set_option maxHeartbeats 200000 in
theorem ls_XK_state {z : Int32} (h : ls_XK T V n u0 e m (f_tickLimit, f_tokenCount, f_outCount, f_error, f_errorPlace, f_lastKind, f_lastValue, f_codeSize, f_methodCount, f_methodTokens, f_cellCount, f_activeCalls, f_next, f_ticksLeft, f_state, f_pos, f_expressionStart, f_pendingCount, f_frameTop, f_localCount, a_tokenCode, a_tokenValue, a_outKind, a_outValue, a_codeOp, a_codeArg, a_codeKind, a_codePlace, a_methodSign, a_methodStart, a_declared, a_cellKind, a_cellValue, a_callReturn, a_pendingLevel, a_pendingPlace, a_pendingMore, a_frameKind, a_frameMore, a_localName)) : ls_XK T V n u0 e m (f_tickLimit, f_tokenCount, f_outCount, f_error, f_errorPlace, f_lastKind, f_lastValue, f_codeSize, f_methodCount, f_methodTokens, f_cellCount, f_activeCalls, f_next, f_ticksLeft, z, f_pos, f_expressionStart, f_pendingCount, f_frameTop, f_localCount, a_tokenCode, a_tokenValue, a_outKind, a_outValue, a_codeOp, a_codeArg, a_codeKind, a_codePlace, a_methodSign, a_methodStart, a_declared, a_cellKind, a_cellValue, a_callReturn, a_pendingLevel, a_pendingPlace, a_pendingMore, a_frameKind, a_frameMore, a_localName) := by
  obtain ⟨hk, h1, ht, h2, h3, hc, hpo, hr⟩ := h
  exact ⟨hk, h1, ht, h2, h3, hc, hpo, hr⟩
set_option maxHeartbeats 200000 in
theorem kx_head157 {x1 x2 x3 : Int32} (h : ls_XK T V n u0 e m (f_tickLimit, f_tokenCount, f_outCount, f_error, f_errorPlace, f_lastKind, f_lastValue, f_codeSize, f_methodCount, f_methodTokens, f_cellCount, f_activeCalls, f_next, f_ticksLeft, f_state, f_pos, f_expressionStart, f_pendingCount, f_frameTop, f_localCount, a_tokenCode, a_tokenValue, a_outKind, a_outValue, a_codeOp, a_codeArg, a_codeKind, a_codePlace, a_methodSign, a_methodStart, a_declared, a_cellKind, a_cellValue, a_callReturn, a_pendingLevel, a_pendingPlace, a_pendingMore, a_frameKind, a_frameMore, a_localName)) (hm : m ≤ 390) (hp : ∀ u', ls_XK T V n u0 e (m + 2) u' → post u') : wX_readMethodHead_157 post x1 x2 x3 f_tickLimit f_tokenCount f_outCount f_error f_errorPlace f_lastKind f_lastValue f_codeSize f_methodCount f_methodTokens f_cellCount f_activeCalls f_next f_ticksLeft f_state f_pos f_expressionStart f_pendingCount f_frameTop f_localCount a_tokenCode a_tokenValue a_outKind a_outValue a_codeOp a_codeArg a_codeKind a_codePlace a_methodSign a_methodStart a_declared a_cellKind a_cellValue a_callReturn a_pendingLevel a_pendingPlace a_pendingMore a_frameKind a_frameMore a_localName := by
  unfold wX_readMethodHead_157
  refine kx_expect h (by omega) fun u1 h1 => ?_
  obtain ⟨f_tickLimit, f_tokenCount, f_outCount, f_error, f_errorPlace, f_lastKind, f_lastValue, f_codeSize, f_methodCount, f_methodTokens, f_cellCount, f_activeCalls, f_next, f_ticksLeft, f_state, f_pos, f_expressionStart, f_pendingCount, f_frameTop, f_localCount, a_tokenCode, a_tokenValue, a_outKind, a_outValue, a_codeOp, a_codeArg, a_codeKind, a_codePlace, a_methodSign, a_methodStart, a_declared, a_cellKind, a_cellValue, a_callReturn, a_pendingLevel, a_pendingPlace, a_pendingMore, a_frameKind, a_frameMore, a_localName⟩ := u1
  refine kx_expect h1 (by omega) fun u2 h2 => ?_
  obtain ⟨f_tickLimit, f_tokenCount, f_outCount, f_error, f_errorPlace, f_lastKind, f_lastValue, f_codeSize, f_methodCount, f_methodTokens, f_cellCount, f_activeCalls, f_next, f_ticksLeft, f_state, f_pos, f_expressionStart, f_pendingCount, f_frameTop, f_localCount, a_tokenCode, a_tokenValue, a_outKind, a_outValue, a_codeOp, a_codeArg, a_codeKind, a_codePlace, a_methodSign, a_methodStart, a_declared, a_cellKind, a_cellValue, a_callReturn, a_pendingLevel, a_pendingPlace, a_pendingMore, a_frameKind, a_frameMore, a_localName⟩ := u2
  refine kx_openFrame h2 fun u3 h3 => ?_
  obtain ⟨f_tickLimit, f_tokenCount, f_outCount, f_error, f_errorPlace, f_lastKind, f_lastValue, f_codeSize, f_methodCount, f_methodTokens, f_cellCount, f_activeCalls, f_next, f_ticksLeft, f_state, f_pos, f_expressionStart, f_pendingCount, f_frameTop, f_localCount, a_tokenCode, a_tokenValue, a_outKind, a_outValue, a_codeOp, a_codeArg, a_codeKind, a_codePlace, a_methodSign, a_methodStart, a_declared, a_cellKind, a_cellValue, a_callReturn, a_pendingLevel, a_pendingPlace, a_pendingMore, a_frameKind, a_frameMore, a_localName⟩ := u3
  refine kx_emit h3 fun u4 h4 => ?_
  obtain ⟨f_tickLimit, f_tokenCount, f_outCount, f_error, f_errorPlace, f_lastKind, f_lastValue, f_codeSize, f_methodCount, f_methodTokens, f_cellCount, f_activeCalls, f_next, f_ticksLeft, f_state, f_pos, f_expressionStart, f_pendingCount, f_frameTop, f_localCount, a_tokenCode, a_tokenValue, a_outKind, a_outValue, a_codeOp, a_codeArg, a_codeKind, a_codePlace, a_methodSign, a_methodStart, a_declared, a_cellKind, a_cellValue, a_callReturn, a_pendingLevel, a_pendingPlace, a_pendingMore, a_frameKind, a_frameMore, a_localName⟩ := u4
  refine kx_openFrame h4 fun u5 h5 => ?_
  obtain ⟨f_tickLimit, f_tokenCount, f_outCount, f_error, f_errorPlace, f_lastKind, f_lastValue, f_codeSize, f_methodCount, f_methodTokens, f_cellCount, f_activeCalls, f_next, f_ticksLeft, f_state, f_pos, f_expressionStart, f_pendingCount, f_frameTop, f_localCount, a_tokenCode, a_tokenValue, a_outKind, a_outValue, a_codeOp, a_codeArg, a_codeKind, a_codePlace, a_methodSign, a_methodStart, a_declared, a_cellKind, a_cellValue, a_callReturn, a_pendingLevel, a_pendingPlace, a_pendingMore, a_frameKind, a_frameMore, a_localName⟩ := u5
  exact hp _ (ls_XK_state h5)
set_option maxHeartbeats 200000 in
theorem kx_headL {x1 x2 x3 x4 x5 : Int32} {f : Nat} (h : ls_XK T V n u0 e m (f_tickLimit, f_tokenCount, f_outCount, f_error, f_errorPlace, f_lastKind, f_lastValue, f_codeSize, f_methodCount, f_methodTokens, f_cellCount, f_activeCalls, f_next, f_ticksLeft, f_state, f_pos, f_expressionStart, f_pendingCount, f_frameTop, f_localCount, a_tokenCode, a_tokenValue, a_outKind, a_outValue, a_codeOp, a_codeArg, a_codeKind, a_codePlace, a_methodSign, a_methodStart, a_declared, a_cellKind, a_cellValue, a_callReturn, a_pendingLevel, a_pendingPlace, a_pendingMore, a_frameKind, a_frameMore, a_localName)) (hm : m ≤ 390) (hp : ∀ u', ls_XK T V n u0 e (m + 2) u' → post u') : wX_readMethodHead_60 post x1 x2 (f + 1) x3 x4 x5 f_tickLimit f_tokenCount f_outCount f_error f_errorPlace f_lastKind f_lastValue f_codeSize f_methodCount f_methodTokens f_cellCount f_activeCalls f_next f_ticksLeft f_state f_pos f_expressionStart f_pendingCount f_frameTop f_localCount a_tokenCode a_tokenValue a_outKind a_outValue a_codeOp a_codeArg a_codeKind a_codePlace a_methodSign a_methodStart a_declared a_cellKind a_cellValue a_callReturn a_pendingLevel a_pendingPlace a_pendingMore a_frameKind a_frameMore a_localName := by
  have K : wX_readMethodHead_157 post x1 x2 x3 f_tickLimit f_tokenCount f_outCount f_error f_errorPlace f_lastKind f_lastValue f_codeSize f_methodCount f_methodTokens f_cellCount f_activeCalls f_next f_ticksLeft f_state f_pos f_expressionStart f_pendingCount f_frameTop f_localCount a_tokenCode a_tokenValue a_outKind a_outValue a_codeOp a_codeArg a_codeKind a_codePlace a_methodSign a_methodStart a_declared a_cellKind a_cellValue a_callReturn a_pendingLevel a_pendingPlace a_pendingMore a_frameKind a_frameMore a_localName := kx_head157 h hm hp
  obtain ⟨hk, h1, ht, h2, hr⟩ := h
  exact br_c (fun _ => K) (fun _ => br_c (fun _ => K) (fun _ => br_f (by rw [h2]; decide) K))
set_option maxHeartbeats 200000 in
theorem kx_head126 {x1 x2 x3 x5 z0 : Int32} {f : Nat} (h : ls_XK T V n u0 e m (f_tickLimit, f_tokenCount, f_outCount, f_error, f_errorPlace, f_lastKind, f_lastValue, f_codeSize, f_methodCount, f_methodTokens, f_cellCount, f_activeCalls, f_next, f_ticksLeft, f_state, f_pos, f_expressionStart, f_pendingCount, f_frameTop, f_localCount, a_tokenCode, a_tokenValue, a_outKind, a_outValue, a_codeOp, a_codeArg, a_codeKind, a_codePlace, a_methodSign, a_methodStart, a_declared, a_cellKind, a_cellValue, a_callReturn, a_pendingLevel, a_pendingPlace, a_pendingMore, a_frameKind, a_frameMore, a_localName)) (hm : m ≤ 380) (hp : ∀ u', ls_XK T V n u0 e (m + 3) u' → post u') : wX_readMethodHead_126 post (wX_readMethodHead_60 post x1 x2 (f + 1)) x1 x2 x3 x5 z0 f_tickLimit f_tokenCount f_outCount f_error f_errorPlace f_lastKind f_lastValue f_codeSize f_methodCount f_methodTokens f_cellCount f_activeCalls f_next f_ticksLeft f_state f_pos f_expressionStart f_pendingCount f_frameTop f_localCount a_tokenCode a_tokenValue a_outKind a_outValue a_codeOp a_codeArg a_codeKind a_codePlace a_methodSign a_methodStart a_declared a_cellKind a_cellValue a_callReturn a_pendingLevel a_pendingPlace a_pendingMore a_frameKind a_frameMore a_localName := by
  have K : ∀ x4 x5, wX_readMethodHead_60 post x1 x2 (f + 1) x3 x4 x5 f_tickLimit f_tokenCount f_outCount f_error f_errorPlace f_lastKind f_lastValue f_codeSize f_methodCount f_methodTokens f_cellCount f_activeCalls f_next f_ticksLeft f_state f_pos f_expressionStart f_pendingCount f_frameTop f_localCount a_tokenCode a_tokenValue a_outKind a_outValue a_codeOp a_codeArg a_codeKind a_codePlace a_methodSign a_methodStart a_declared a_cellKind a_cellValue a_callReturn a_pendingLevel a_pendingPlace a_pendingMore a_frameKind a_frameMore a_localName := fun x4 x5 => kx_headL h (by omega) fun u' h' => hp u' (ls_XK_mono h' (by omega))
  refine br_c (fun _ => nm_e (K _ _)) (fun _ => br_c (fun _ => nm_e (K _ _)) (fun _ => ?_))
  obtain ⟨hk, h1, ht, h2, h3, hc, ⟨p, hp1, hpp⟩, hr⟩ := h
  rw [hp1]
  refine nm_r (nI_1 p) (nm_e ?_)
  exact kx_headL (m := m + 1) ⟨hk, h1, ht, h2, h3, hc, ⟨p + 1, rfl, by omega⟩, hr⟩ (by omega) hp
set_option maxHeartbeats 200000 in
theorem ls_sgn : ∀ i : Fin 3, ∀ t : Fin 6, nI t.1 <<< ((6 + (nI i.1 * 3)) &&& 31) = nI (t.1 * 2 ^ (6 + 3 * i.1)) := by decide +kernel
set_option maxHeartbeats 200000 in
/-- behind the head's last parameter -/
theorem hx_head157 {x1 x2 : Int32} {p sg kd0 : Nat} (hkk : (f_tickLimit, f_tokenCount, f_outCount, f_lastKind, f_lastValue, f_methodCount, f_methodTokens, f_cellCount, f_activeCalls, f_next, f_ticksLeft, a_tokenCode, a_tokenValue, a_outKind, a_outValue, a_methodSign, a_methodStart, a_declared, a_cellKind, a_cellValue, a_callReturn) = ls_kept u0) (hlo : ls_lo u0 k) (ht : ls_tok T V n a_tokenCode a_tokenValue) (hP : ls_StP a_pendingLevel a_pendingPlace a_pendingMore pe) (hF : ls_StF a_frameKind a_frameMore []) (hN : ls_StN a_localName L) (etc : f_tokenCount = nI n) (b0 : 480 ≤ k.1 ∧ k.1 + 1 ≤ 761) (b1 : p < 300) (b3 : L.length ≤ 8) (b4 : pe.length ≤ 140)
    (ex2 : x2 = nI kd0) (ex1 : x1 = nI pos)
    (hp : ls_out T V n u0 (if T p = 16 then if T (p + 1) = 17 then .ok (0, p + 2, es, pe, [(1, L.length, p + 2, L), (2, k.1, pos, [kd0])], L, ls_em k 21 0 (nI (sg * 8 + kd0)) (nI pos)) else .error (p + 1) else .error p) post) :
    wX_readMethodHead_157 post x1 x2 (nI sg) f_tickLimit (nI n) f_outCount 0 (-1) f_lastKind f_lastValue (nI k.1) f_methodCount f_methodTokens f_cellCount f_activeCalls f_next f_ticksLeft (nI 2) (nI p) f_expressionStart (nI pe.length) (nI 0) (nI L.length) a_tokenCode a_tokenValue a_outKind a_outValue k.2.1 k.2.2.1 k.2.2.2.1 k.2.2.2.2 a_methodSign a_methodStart a_declared a_cellKind a_cellValue a_callReturn a_pendingLevel a_pendingPlace a_pendingMore a_frameKind a_frameMore a_localName := by
  subst etc ex1 ex2
  unfold wX_readMethodHead_157
  by_cases t16 : T p = 16
  · rw [if_pos t16] at hp
    refine hx_expect (w := 16) ht (by omega) ((ls_xc_eq (by decide)).mpr t16) ?_
    dsimp only
    by_cases t17 : T (p + 1) = 17
    · rw [if_pos t17] at hp
      refine hx_expect (w := 17) ht (by omega) ((ls_xc_eq (by decide)).mpr t17) ?_
      refine hx_openFrame (ft := 0) (by decide) ?_
      dsimp only
      rw [show (8 : Int32) = nI 8 from rfl, pk_mul, nI_add]
      refine hx_emit (by omega) ?_
      refine hx_openFrame (ft := 1) (by decide) ?_
      exact hp _ ⟨hkk, ls_lo_emK hlo b0.1, rfl, ht, rfl, rfl, rfl, rfl, rfl, rfl, rfl, rfl, rfl, rfl, rfl, rfl, (fun h => by omega), hP, ls_StF_push (fr := [(2, k.1, pos, [kd0])]) 1 L.length (p + 2) L (ls_StF_push 2 k.1 pos [kd0] hF), hN⟩
    · rw [if_neg t17] at hp
      refine hx_expectF (w := 17) (st := 2) ht (by omega) (by decide) t17 (by decide) ?_
      have X1 : ls_XK T V n u0 (p + 1) 310 (f_tickLimit, nI n, f_outCount, 1, nI (p + 1), f_lastKind, f_lastValue, nI k.1, f_methodCount, f_methodTokens, f_cellCount, f_activeCalls, f_next, f_ticksLeft, nI 2, nI (p + 1), f_expressionStart, nI pe.length, nI 0, nI L.length, a_tokenCode, a_tokenValue, a_outKind, a_outValue, k.2.1, k.2.2.1, k.2.2.2.1, k.2.2.2.2, a_methodSign, a_methodStart, a_declared, a_cellKind, a_cellValue, a_callReturn, a_pendingLevel, a_pendingPlace, a_pendingMore, a_frameKind, a_frameMore, a_localName) := ⟨hkk, rfl, ht, rfl, rfl, ⟨k.1, rfl, b0.1, by omega⟩, ⟨p + 1, rfl, by omega⟩, ⟨pe.length, rfl, b4⟩, ⟨0, rfl, by omega⟩, ⟨L.length, rfl, b3⟩, ls_lo_cs (cc := k.1) hlo⟩
      refine kx_openFrame X1 fun u3 h3 => ?_
      obtain ⟨f_tickLimit, f_tokenCount, f_outCount, f_error, f_errorPlace, f_lastKind, f_lastValue, f_codeSize, f_methodCount, f_methodTokens, f_cellCount, f_activeCalls, f_next, f_ticksLeft, f_state, f_pos, f_expressionStart, f_pendingCount, f_frameTop, f_localCount, a_tokenCode, a_tokenValue, a_outKind, a_outValue, a_codeOp, a_codeArg, a_codeKind, a_codePlace, a_methodSign, a_methodStart, a_declared, a_cellKind, a_cellValue, a_callReturn, a_pendingLevel, a_pendingPlace, a_pendingMore, a_frameKind, a_frameMore, a_localName⟩ := u3
      refine kx_emit h3 fun u4 h4 => ?_
      obtain ⟨f_tickLimit, f_tokenCount, f_outCount, f_error, f_errorPlace, f_lastKind, f_lastValue, f_codeSize, f_methodCount, f_methodTokens, f_cellCount, f_activeCalls, f_next, f_ticksLeft, f_state, f_pos, f_expressionStart, f_pendingCount, f_frameTop, f_localCount, a_tokenCode, a_tokenValue, a_outKind, a_outValue, a_codeOp, a_codeArg, a_codeKind, a_codePlace, a_methodSign, a_methodStart, a_declared, a_cellKind, a_cellValue, a_callReturn, a_pendingLevel, a_pendingPlace, a_pendingMore, a_frameKind, a_frameMore, a_localName⟩ := u4
      refine kx_openFrame h4 fun u5 h5 => ?_
      obtain ⟨f_tickLimit, f_tokenCount, f_outCount, f_error, f_errorPlace, f_lastKind, f_lastValue, f_codeSize, f_methodCount, f_methodTokens, f_cellCount, f_activeCalls, f_next, f_ticksLeft, f_state, f_pos, f_expressionStart, f_pendingCount, f_frameTop, f_localCount, a_tokenCode, a_tokenValue, a_outKind, a_outValue, a_codeOp, a_codeArg, a_codeKind, a_codePlace, a_methodSign, a_methodStart, a_declared, a_cellKind, a_cellValue, a_callReturn, a_pendingLevel, a_pendingPlace, a_pendingMore, a_frameKind, a_frameMore, a_localName⟩ := u5
      exact hp _ (ls_XK_state (ls_XK_mono h5 (by omega)))
  · rw [if_neg t16] at hp
    refine hx_expectF (w := 16) (st := 2) ht (by omega) (by decide) t16 (by decide) ?_
    have X1 : ls_XK T V n u0 p 310 (f_tickLimit, nI n, f_outCount, 1, nI p, f_lastKind, f_lastValue, nI k.1, f_methodCount, f_methodTokens, f_cellCount, f_activeCalls, f_next, f_ticksLeft, nI 2, nI p, f_expressionStart, nI pe.length, nI 0, nI L.length, a_tokenCode, a_tokenValue, a_outKind, a_outValue, k.2.1, k.2.2.1, k.2.2.2.1, k.2.2.2.2, a_methodSign, a_methodStart, a_declared, a_cellKind, a_cellValue, a_callReturn, a_pendingLevel, a_pendingPlace, a_pendingMore, a_frameKind, a_frameMore, a_localName) := ⟨hkk, rfl, ht, rfl, rfl, ⟨k.1, rfl, b0.1, by omega⟩, ⟨p, rfl, by omega⟩, ⟨pe.length, rfl, b4⟩, ⟨0, rfl, by omega⟩, ⟨L.length, rfl, b3⟩, ls_lo_cs (cc := k.1) hlo⟩
    refine kx_expect X1 (by omega) fun u2 h2 => ?_
    obtain ⟨f_tickLimit, f_tokenCount, f_outCount, f_error, f_errorPlace, f_lastKind, f_lastValue, f_codeSize, f_methodCount, f_methodTokens, f_cellCount, f_activeCalls, f_next, f_ticksLeft, f_state, f_pos, f_expressionStart, f_pendingCount, f_frameTop, f_localCount, a_tokenCode, a_tokenValue, a_outKind, a_outValue, a_codeOp, a_codeArg, a_codeKind, a_codePlace, a_methodSign, a_methodStart, a_declared, a_cellKind, a_cellValue, a_callReturn, a_pendingLevel, a_pendingPlace, a_pendingMore, a_frameKind, a_frameMore, a_localName⟩ := u2
    refine kx_openFrame h2 fun u3 h3 => ?_
    obtain ⟨f_tickLimit, f_tokenCount, f_outCount, f_error, f_errorPlace, f_lastKind, f_lastValue, f_codeSize, f_methodCount, f_methodTokens, f_cellCount, f_activeCalls, f_next, f_ticksLeft, f_state, f_pos, f_expressionStart, f_pendingCount, f_frameTop, f_localCount, a_tokenCode, a_tokenValue, a_outKind, a_outValue, a_codeOp, a_codeArg, a_codeKind, a_codePlace, a_methodSign, a_methodStart, a_declared, a_cellKind, a_cellValue, a_callReturn, a_pendingLevel, a_pendingPlace, a_pendingMore, a_frameKind, a_frameMore, a_localName⟩ := u3
    refine kx_emit h3 fun u4 h4 => ?_
    obtain ⟨f_tickLimit, f_tokenCount, f_outCount, f_error, f_errorPlace, f_lastKind, f_lastValue, f_codeSize, f_methodCount, f_methodTokens, f_cellCount, f_activeCalls, f_next, f_ticksLeft, f_state, f_pos, f_expressionStart, f_pendingCount, f_frameTop, f_localCount, a_tokenCode, a_tokenValue, a_outKind, a_outValue, a_codeOp, a_codeArg, a_codeKind, a_codePlace, a_methodSign, a_methodStart, a_declared, a_cellKind, a_cellValue, a_callReturn, a_pendingLevel, a_pendingPlace, a_pendingMore, a_frameKind, a_frameMore, a_localName⟩ := u4
    refine kx_openFrame h4 fun u5 h5 => ?_
    obtain ⟨f_tickLimit, f_tokenCount, f_outCount, f_error, f_errorPlace, f_lastKind, f_lastValue, f_codeSize, f_methodCount, f_methodTokens, f_cellCount, f_activeCalls, f_next, f_ticksLeft, f_state, f_pos, f_expressionStart, f_pendingCount, f_frameTop, f_localCount, a_tokenCode, a_tokenValue, a_outKind, a_outValue, a_codeOp, a_codeArg, a_codeKind, a_codePlace, a_methodSign, a_methodStart, a_declared, a_cellKind, a_cellValue, a_callReturn, a_pendingLevel, a_pendingPlace, a_pendingMore, a_frameKind, a_frameMore, a_localName⟩ := u5
    exact hp _ (ls_XK_state (ls_XK_mono h5 (by omega)))
/-- the continuation of the method's head -/
def ls_hout (T : Nat → Nat) (V : Nat → Int32) (n : Nat) (u0 : SX) (es : Nat) (pe : List LsP) (k : LsK) (pos : Nat) (kd0 : Nat) (r : Except Nat (Nat × List Nat × Nat)) (post : SX → Prop) : Prop := match r with
  | .ok (p, L, sg) => ∀ u', ls_XR T V n u0 (0, p, es, pe, [(1, L.length, p, L), (2, k.1, pos, [kd0])], L, ls_em k 21 0 (nI (sg * 8 + kd0)) (nI pos)) u' → post u'
  | .error e => ∀ u', ls_XK T V n u0 e 400 u' → post u'
set_option maxHeartbeats 200000 in
theorem hx_par {kd0 : Nat} (hkk : (f_tickLimit, f_tokenCount, f_outCount, f_lastKind, f_lastValue, f_methodCount, f_methodTokens, f_cellCount, f_activeCalls, f_next, f_ticksLeft, a_tokenCode, a_tokenValue, a_outKind, a_outValue, a_methodSign, a_methodStart, a_declared, a_cellKind, a_cellValue, a_callReturn) = ls_kept u0) (hlo : ls_lo u0 k) (ht : ls_tok T V n a_tokenCode a_tokenValue) (hP : ls_StP a_pendingLevel a_pendingPlace a_pendingMore pe) (hF : ls_StF a_frameKind a_frameMore []) (etc : f_tokenCount = nI n) (b0 : 480 ≤ k.1 ∧ k.1 + 1 ≤ 761) (b4 : pe.length ≤ 140) :
    ∀ f i p L sg a_localName, i + f = 3 → L.length = i → p + 4 * f < 200 → (∀ x ∈ L, x < 16) → ls_StN a_localName L → ls_hout T V n u0 es pe k pos kd0 (ls_par T f i p L sg) post → 0 < f →
    wX_readMethodHead_60 post (nI pos) (nI kd0) (f + 1) (nI sg) 1 (nI i) f_tickLimit (nI n) f_outCount 0 (-1) f_lastKind f_lastValue (nI k.1) f_methodCount f_methodTokens f_cellCount f_activeCalls f_next f_ticksLeft (nI 2) (nI p) f_expressionStart (nI pe.length) (nI 0) (nI L.length) a_tokenCode a_tokenValue a_outKind a_outValue k.2.1 k.2.2.1 k.2.2.2.1 k.2.2.2.2 a_methodSign a_methodStart a_declared a_cellKind a_cellValue a_callReturn a_pendingLevel a_pendingPlace a_pendingMore a_frameKind a_frameMore a_localName := by
  subst etc
  intro f
  induction f with
  | zero => intro i p L sg ln _ _ _ _ _ _ h; omega
  | succ f ih =>
    intro i p L sg ln hi hLi hpf hL hN hp _
    unfold ls_par at hp
    refine br_f (nI_ge (b := 3) (by omega) (by decide)) (br_f (by decide) (br_t rfl ?_))
    refine hx_wordAt ht (by omega) ?_
    unfold wpX_readParameter
    refine hx_wordAt ht (by omega) ?_
    refine ls_isKind (fun t6 => ?_) (fun t6 => ?_)
    · rw [if_pos t6] at hp
      refine br_f (by decide) (nm_r (nI_1 p) ?_)
      refine hx_wordAt ht (by omega) ?_
      have ex : ls_xc (T p) = T p := by unfold ls_xc; rw [if_pos (by omega)]
      have XKa : ls_XK T V n u0 (p + 1) 210 (f_tickLimit, nI n, f_outCount, 1, nI (p + 1), f_lastKind, f_lastValue, nI k.1, f_methodCount, f_methodTokens, f_cellCount, f_activeCalls, f_next, f_ticksLeft, nI 2, nI (p + 1), f_expressionStart, nI pe.length, nI 0, nI L.length, a_tokenCode, a_tokenValue, a_outKind, a_outValue, k.2.1, k.2.2.1, k.2.2.2.1, k.2.2.2.2, a_methodSign, a_methodStart, a_declared, a_cellKind, a_cellValue, a_callReturn, a_pendingLevel, a_pendingPlace, a_pendingMore, a_frameKind, a_frameMore, ln) := ⟨hkk, rfl, ht, rfl, rfl, ⟨k.1, rfl, b0.1, by omega⟩, ⟨p + 1, rfl, by omega⟩, ⟨pe.length, rfl, b4⟩, ⟨0, rfl, by omega⟩, ⟨L.length, rfl, by omega⟩, ls_lo_cs (cc := k.1) hlo⟩
      have XKb : ls_XK T V n u0 (p + 1) 210 (f_tickLimit, nI n, f_outCount, 1, nI (p + 1), f_lastKind, f_lastValue, nI k.1, f_methodCount, f_methodTokens, f_cellCount, f_activeCalls, f_next, f_ticksLeft, nI 2, nI (p + 2), f_expressionStart, nI pe.length, nI 0, nI L.length, a_tokenCode, a_tokenValue, a_outKind, a_outValue, k.2.1, k.2.2.1, k.2.2.2.1, k.2.2.2.2, a_methodSign, a_methodStart, a_declared, a_cellKind, a_cellValue, a_callReturn, a_pendingLevel, a_pendingPlace, a_pendingMore, a_frameKind, a_frameMore, ln) := ⟨hkk, rfl, ht, rfl, rfl, ⟨k.1, rfl, b0.1, by omega⟩, ⟨p + 2, rfl, by omega⟩, ⟨pe.length, rfl, b4⟩, ⟨0, rfl, by omega⟩, ⟨L.length, rfl, by omega⟩, ls_lo_cs (cc := k.1) hlo⟩
      by_cases tn : ls_nam (T (p + 1))
      · refine hx_valueName ht (by omega) tn ?_
        have hnm : T (p + 1) - 54 < 16 := by have := tn.2; omega
        refine br_t ((ls_w54 (ls_tok_le ht _)).mpr tn) ?_
        refine hx_addLocal (mo := 0) hnm hN hL (by omega) (by omega) (fun h8 hnot => ?_) (fun hno => ?_)
        · rw [Nat.sub_zero, List.take_length] at hnot
          rw [if_pos ⟨tn, hnot⟩] at hp
          refine br_f (by decide) (nm_r (nI_1 (p + 1)) ?_)
          dsimp only
          have N1 : ls_StN (upd ln L.length (nI (T (p + 1) - 54))) ((T (p + 1) - 54) :: L) := ls_StN_push _ hN
          have L1 : ∀ x ∈ (T (p + 1) - 54) :: L, x < 16 := by
            intro x hx
            rcases List.mem_cons.mp hx with rfl | hx
            · exact hnm
            · exact hL x hx
          have es1 : nI sg + (16 + nI (ls_xc (T p)) <<< ((6 + nI i * 3) &&& 31)) = nI (sg + 16 + T p * 2 ^ (6 + 3 * i)) := by
            rw [ex, ls_sgn ⟨i, by omega⟩ ⟨T p, by omega⟩, show (16 : Int32) = nI 16 from rfl, nI_add, nI_add, Nat.add_assoc]
          refine nm_r es1 ?_
          refine hx_wordAt ht (by omega) ?_
          by_cases t19 : T (p + 2) = 19
          · rw [if_pos t19] at hp
            refine br_t ((ls_w (w := 19) (by decide)).mpr t19) (br_f (by decide) ?_)
            rw [nI_1]
            by_cases i3 : i + 1 < 3
            · rw [if_pos i3] at hp
              refine br_f (nI_ge (b := 3) i3 (by decide)) (nm_r (nI_1 (p + 2)) (nm_e ?_))
              exact ih (i + 1) (p + 3) ((T (p + 1) - 54) :: L) _ _ (by omega) (by show L.length + 1 = _; omega) (by omega) L1 N1 hp (by omega)
            · rw [if_neg i3] at hp
              refine br_t (nI_le (a := 3) (by omega) (by omega)) (nm_e ?_)
              have f0 : f = 0 := by omega
              subst f0
              refine br_t (nI_le (a := 3) (by omega) (by omega)) ?_
              refine hx_head157 (L := (T (p + 1) - 54) :: L) (es := es) (p := p + 2) hkk hlo ht hP hF N1 rfl b0 (by omega) (by show L.length + 1 ≤ 8; omega) b4 rfl rfl ?_
              rw [if_neg (by omega)]
              exact hp
          · rw [if_neg t19] at hp
            refine br_f (mt (ls_w (w := 19) (by decide)).mp t19) (br_t rfl (nm_e ?_))
            have g : wX_readMethodHead_157 post (nI pos) (nI kd0) (nI (sg + 16 + T p * 2 ^ (6 + 3 * i))) f_tickLimit (nI n) f_outCount 0 (-1) f_lastKind f_lastValue (nI k.1) f_methodCount f_methodTokens f_cellCount f_activeCalls f_next f_ticksLeft (nI 2) (nI (p + 1 + 1)) f_expressionStart (nI pe.length) (nI 0) (nI (L.length + 1)) a_tokenCode a_tokenValue a_outKind a_outValue k.2.1 k.2.2.1 k.2.2.2.1 k.2.2.2.2 a_methodSign a_methodStart a_declared a_cellKind a_cellValue a_callReturn a_pendingLevel a_pendingPlace a_pendingMore a_frameKind a_frameMore (upd ln L.length (nI (T (p + 1) - 54))) := by
              refine hx_head157 (L := (T (p + 1) - 54) :: L) (es := es) (p := p + 2) hkk hlo ht hP hF N1 rfl b0 (by omega) (by show L.length + 1 ≤ 8; omega) b4 rfl rfl ?_
              by_cases t16 : T (p + 2) = 16
              · rw [if_pos t16] at hp ⊢
                by_cases t17 : T (p + 3) = 17
                · rw [if_pos t17] at hp
                  rw [if_pos t17]
                  exact hp
                · rw [if_neg t17] at hp
                  rw [if_neg t17]
                  exact hp
              · rw [if_neg t16] at hp ⊢
                exact hp
            cases f with
            | zero => exact br_c (fun _ => g) (fun _ => br_t rfl g)
            | succ f => exact br_c (fun _ => g) (fun _ => br_t rfl g)
        · rw [Nat.sub_zero, List.take_length] at hno
          rw [if_neg (fun h => hno ⟨by omega, h.2⟩)] at hp
          refine br_t rfl (hx_fault0 (st := 2) (by decide) (nm_r (nI_1 (p + 1)) ?_))
          dsimp only
          refine nm_e (kx_wordAt XKb (by omega) fun r => ?_)
          exact br_c (fun _ => kx_head126 XKb (by omega) fun u' h' => hp _ (ls_XK_mono h' (by omega))) (fun _ => kx_head126 XKb (by omega) fun u' h' => hp _ (ls_XK_mono h' (by omega)))
      · rw [if_neg (fun h => tn h.1)] at hp
        refine hx_valueAny ht (by omega) fun r => ?_
        refine br_f (mt (ls_w54 (ls_tok_le ht _)).mp tn) (hx_fault0 (st := 2) (by decide) (nm_r (nI_1 (p + 1)) ?_))
        dsimp only
        refine nm_e (kx_wordAt XKb (by omega) fun r => ?_)
        exact br_c (fun _ => kx_head126 XKb (by omega) fun u' h' => hp _ (ls_XK_mono h' (by omega))) (fun _ => kx_head126 XKb (by omega) fun u' h' => hp _ (ls_XK_mono h' (by omega)))
    · rw [if_neg t6] at hp
      refine br_t rfl (hx_fault0 (st := 2) (by decide) ?_)
      dsimp only
      have XKc : ls_XK T V n u0 p 210 (f_tickLimit, nI n, f_outCount, 1, nI p, f_lastKind, f_lastValue, nI k.1, f_methodCount, f_methodTokens, f_cellCount, f_activeCalls, f_next, f_ticksLeft, nI 2, nI p, f_expressionStart, nI pe.length, nI 0, nI L.length, a_tokenCode, a_tokenValue, a_outKind, a_outValue, k.2.1, k.2.2.1, k.2.2.2.1, k.2.2.2.2, a_methodSign, a_methodStart, a_declared, a_cellKind, a_cellValue, a_callReturn, a_pendingLevel, a_pendingPlace, a_pendingMore, a_frameKind, a_frameMore, ln) := ⟨hkk, rfl, ht, rfl, rfl, ⟨k.1, rfl, b0.1, by omega⟩, ⟨p, rfl, by omega⟩, ⟨pe.length, rfl, b4⟩, ⟨0, rfl, by omega⟩, ⟨L.length, rfl, by omega⟩, ls_lo_cs (cc := k.1) hlo⟩
      refine nm_e (kx_wordAt XKc (by omega) fun r => ?_)
      exact br_c (fun _ => kx_head126 XKc (by omega) fun u' h' => hp _ (ls_XK_mono h' (by omega))) (fun _ => kx_head126 XKc (by omega) fun u' h' => hp _ (ls_XK_mono h' (by omega)))
end
section
variable {T : Nat → Nat} {V : Nat → Int32} {n : Nat} {u0 u : SX} {post : SX → Prop} {pos es : Nat} {pe : List LsP} {fr : List LsF} {L : List Nat} {k : LsK}
set_option maxHeartbeats 200000 in
theorem rx_r2 (h : ls_XR T V n u0 (2, pos, es, pe, fr, L, k) u) (b0 : 480 ≤ k.1 ∧ k.1 + 2 ≤ 761) (b1 : pos < 140) (b2 : fr.length < 141) (b3 : L.length ≤ 8) (b4 : pe.length ≤ 140) (hL : ∀ x ∈ L, x < 16) (hL0 : fr = [] → L = []) (t6 : T pos < 6) (hmo : ∀ f, fr.head? = some f → f.2.1 ≤ L.length)
    (hp : ls_out T V n u0 (ls_r2 T pos es pe fr L k) post) : wpX_beginDeclaration post u := by
  obtain ⟨f_tickLimit, f_tokenCount, f_outCount, f_error, f_errorPlace, f_lastKind, f_lastValue, f_codeSize, f_methodCount, f_methodTokens, f_cellCount, f_activeCalls, f_next, f_ticksLeft, f_state, f_pos, f_expressionStart, f_pendingCount, f_frameTop, f_localCount, a_tokenCode, a_tokenValue, a_outKind, a_outValue, a_codeOp, a_codeArg, a_codeKind, a_codePlace, a_methodSign, a_methodStart, a_declared, a_cellKind, a_cellValue, a_callReturn, a_pendingLevel, a_pendingPlace, a_pendingMore, a_frameKind, a_frameMore, a_localName⟩ := u
  obtain ⟨hk, hlo, rfl, ht, rfl, rfl, rfl, rfl, rfl, rfl, rfl, rfl, rfl, rfl, rfl, rfl, hes, hP, hF, hN⟩ := h
  unfold wpX_beginDeclaration
  dsimp only
  rw [nI_1]
  refine hx_wordAt ht (by omega) ?_
  rw [show nI pos + 2 = nI (pos + 2) from nI_add pos 2]
  refine hx_wordAt ht (by omega) ?_
  unfold ls_r2 at hp
  by_cases tn : ls_nam (T (pos + 1))
  · rw [if_pos tn] at hp
    refine br_t ((ls_w54 (ls_tok_le ht _)).mpr tn) ?_
    have VV : ¬ (fr = [] ∧ T (pos + 2) = 15) → wX_beginDeclaration_65 post f_tickLimit (nI n) f_outCount 0 (-1) f_lastKind f_lastValue (nI k.1) f_methodCount f_methodTokens f_cellCount f_activeCalls f_next f_ticksLeft (nI 2) (nI pos) f_expressionStart (nI pe.length) (nI fr.length) (nI L.length) a_tokenCode a_tokenValue a_outKind a_outValue k.2.1 k.2.2.1 k.2.2.2.1 k.2.2.2.2 a_methodSign a_methodStart a_declared a_cellKind a_cellValue a_callReturn a_pendingLevel a_pendingPlace a_pendingMore a_frameKind a_frameMore a_localName := by
      intro hno
      rw [if_neg hno] at hp
      unfold wX_beginDeclaration_65
      exact rx_var (es := es) hk hlo ht hP hF hN rfl b0 b1 b2 b3 b4 hL t6 tn hmo hp
    cases fr with
    | nil =>
      refine br_t rfl ?_
      by_cases t15 : T (pos + 2) = 15
      · rw [if_pos ⟨rfl, t15⟩] at hp
        refine br_t ((ls_w (w := 15) (by decide)).mpr t15) ?_
        have L0 := hL0 rfl
        subst L0
        unfold wpX_readMethodHead
        dsimp only
        refine hx_wordAt ht (by omega) ?_
        rw [nI_1]
        refine hx_valueName ht (by omega) tn ?_
        have ex : ls_xc (T pos) = T pos := by unfold ls_xc; rw [if_pos (by omega)]
        rw [ex]
        refine hx_emit (by omega) (nm_r (nI_add pos 3) ?_)
        refine hx_wordAt ht (by omega) ?_
        have lo1 : ls_lo u0 (ls_em k 1 0 0 (nI pos)) := ls_lo_emK hlo b0.1
        unfold ls_head at hp
        by_cases t16 : T (pos + 3) = 16
        · rw [if_pos t16] at hp
          refine br_t ((ls_w (w := 16) (by decide)).mpr t16) ⟨1, br_f (by decide) (br_t rfl ?_)⟩
          refine hx_head157 (k := ls_em k 1 0 0 (nI pos)) (L := []) (es := es) (p := pos + 3) hk lo1 ht hP hF hN rfl ⟨by show 480 ≤ k.1 + 1; omega, by show k.1 + 1 + 1 ≤ 761; omega⟩ (by omega) (by decide) b4 rfl rfl ?_
          rw [if_pos t16]
          by_cases t17 : T (pos + 4) = 17
          · rw [if_pos t17] at hp
            rw [if_pos t17]
            exact hp
          · rw [if_neg t17] at hp
            rw [if_neg t17]
            exact hp
        · rw [if_neg t16] at hp
          refine br_f (mt (ls_w (w := 16) (by decide)).mp t16) ⟨4, ?_⟩
          refine hx_par (k := ls_em k 1 0 0 (nI pos)) (es := es) hk lo1 ht hP hF rfl ⟨by show 480 ≤ k.1 + 1; omega, by show k.1 + 1 + 1 ≤ 761; omega⟩ b4 3 0 (pos + 3) [] (T (pos + 1) - 54) a_localName rfl rfl (by omega) (by simp) trivial ?_ (by decide)
          unfold ls_hout
          split
          · next heq => rw [heq] at hp; exact hp
          · next heq => rw [heq] at hp; exact hp
      · exact br_f (mt (ls_w (w := 15) (by decide)).mp t15) (VV (fun h => t15 h.2))
    | cons f r => exact br_f (nI_ne0 (n := r.length + 1) (by omega) (by have : r.length + 1 < 141 := b2; omega)) (VV (fun h => List.cons_ne_nil _ _ h.1))
  · rw [if_neg tn] at hp
    refine br_f (mt (ls_w54 (ls_tok_le ht _)).mp tn) (nm_e (hx_fault0 (st := 2) (by decide) ?_))
    exact hp _ ⟨hk, rfl, ht, rfl, rfl, ⟨k.1, rfl, b0.1, by omega⟩, ⟨pos + 1, rfl, by omega⟩, ⟨pe.length, rfl, b4⟩, ⟨fr.length, rfl, by omega⟩, ⟨L.length, rfl, b3⟩, ls_lo_cs (cc := k.1) hlo⟩
end
end
section
section
variable {f_tickLimit f_tokenCount f_outCount f_error f_errorPlace f_lastKind f_codeSize f_methodCount f_methodTokens f_cellCount f_activeCalls f_next f_ticksLeft f_state f_pos f_expressionStart f_pendingCount f_frameTop f_localCount : Int32}
variable {f_lastValue : Int64}
variable {a_tokenCode a_tokenValue a_outKind a_codeOp a_codeArg a_codeKind a_codePlace a_methodSign a_methodStart a_declared a_cellKind a_callReturn a_pendingLevel a_pendingPlace a_pendingMore a_frameKind a_frameMore a_localName : Nat → Int32}
variable {a_outValue a_cellValue : Nat → Int64}
variable {T : Nat → Nat} {V : Nat → Int32} {n : Nat} {u0 u : SX} {post : SX → Prop} {pos es e m : Nat} {pe : List LsP} {fr : List LsF} {L : List Nat} {k : LsK}
set_option maxHeartbeats 200000 in
theorem hx_aimExits {lo cs : Nat} (h : lo ≤ cs) (hc : cs ≤ 761) (hp : post (f_tickLimit, f_tokenCount, f_outCount, f_error, f_errorPlace, f_lastKind, f_lastValue, nI cs, f_methodCount, f_methodTokens, f_cellCount, f_activeCalls, f_next, f_ticksLeft, f_state, f_pos, f_expressionStart, f_pendingCount, f_frameTop, f_localCount, a_tokenCode, a_tokenValue, a_outKind, a_outValue, a_codeOp, (fun i => if lo ≤ i ∧ i < cs ∧ (a_codeOp i = 14 ∨ a_codeOp i = 15) ∧ a_codeArg i = 0 then nI cs - nI i else a_codeArg i), a_codeKind, a_codePlace, a_methodSign, a_methodStart, a_declared, a_cellKind, a_cellValue, a_callReturn, a_pendingLevel, a_pendingPlace, a_pendingMore, a_frameKind, a_frameMore, a_localName)) : wpX_aimExits post (f_tickLimit, f_tokenCount, f_outCount, f_error, f_errorPlace, f_lastKind, f_lastValue, nI cs, f_methodCount, f_methodTokens, f_cellCount, f_activeCalls, f_next, f_ticksLeft, f_state, f_pos, f_expressionStart, f_pendingCount, f_frameTop, f_localCount, a_tokenCode, a_tokenValue, a_outKind, a_outValue, a_codeOp, a_codeArg, a_codeKind, a_codePlace, a_methodSign, a_methodStart, a_declared, a_cellKind, a_cellValue, a_callReturn, a_pendingLevel, a_pendingPlace, a_pendingMore, a_frameKind, a_frameMore, a_localName) (nI lo) := by
  have H : ∀ d j : Nat, j + d = cs → lo ≤ j → ∀ A : Nat → Int32, A = (fun i => if lo ≤ i ∧ i < j ∧ (a_codeOp i = 14 ∨ a_codeOp i = 15) ∧ a_codeArg i = 0 then nI cs - nI i else a_codeArg i) → wX_aimExits_2 post f_tickLimit f_tokenCount f_outCount f_error f_errorPlace f_lastKind f_lastValue (nI cs) f_methodCount f_methodTokens f_cellCount f_activeCalls f_next f_ticksLeft f_state f_pos f_expressionStart f_pendingCount f_frameTop f_localCount (d + 1) (nI j) a_tokenCode a_tokenValue a_outKind a_outValue a_codeOp A a_codeKind a_codePlace a_methodSign a_methodStart a_declared a_cellKind a_cellValue a_callReturn a_pendingLevel a_pendingPlace a_pendingMore a_frameKind a_frameMore a_localName := by
    intro d
    induction d with
    | zero =>
      intro j hj hl A hA
      have e : j = cs := by omega
      subst e
      rw [hA]
      exact br_f (nI_pos (by omega)) (br_t (nI_le (by omega) (by omega)) hp)
    | succ d ih =>
      intro j hj hl A hA
      have ej : (nI j).toNatClampNeg = j := nI_clamp (by omega)
      have ij : vp_in (nI j) 761 := vp_in_nI (by omega) (by decide)
      have Aj : A j = a_codeArg j := by rw [hA]; exact if_neg (by omega)
      -- the array that the next turn wants
      have same : ¬ ((a_codeOp j = 14 ∨ a_codeOp j = 15) ∧ a_codeArg j = 0) → A = (fun i => if lo ≤ i ∧ i < j + 1 ∧ (a_codeOp i = 14 ∨ a_codeOp i = 15) ∧ a_codeArg i = 0 then nI cs - nI i else a_codeArg i) := by
        intro hno
        rw [hA]
        funext i
        by_cases q : i = j
        · subst q
          rw [if_neg (by omega), if_neg (fun h => hno h.2.2)]
        · by_cases z : lo ≤ i ∧ i < j ∧ (a_codeOp i = 14 ∨ a_codeOp i = 15) ∧ a_codeArg i = 0
          · rw [if_pos z, if_pos ⟨z.1, by omega, z.2.2⟩]
          · rw [if_neg z, if_neg (fun h => z ⟨h.1, by omega, h.2.2⟩)]
      have other : (a_codeOp j = 14 ∨ a_codeOp j = 15) → a_codeArg j = 0 → upd A j (nI cs - nI j) = (fun i => if lo ≤ i ∧ i < j + 1 ∧ (a_codeOp i = 14 ∨ a_codeOp i = 15) ∧ a_codeArg i = 0 then nI cs - nI i else a_codeArg i) := by
        intro h1 h2
        rw [hA]
        funext i
        unfold upd
        by_cases q : i = j
        · subst q
          rw [if_pos rfl, if_pos ⟨hl, by omega, h1, h2⟩]
        · rw [if_neg q]
          dsimp only
          by_cases z : lo ≤ i ∧ i < j ∧ (a_codeOp i = 14 ∨ a_codeOp i = 15) ∧ a_codeArg i = 0
          · rw [if_pos z, if_pos ⟨z.1, by omega, z.2.2⟩]
          · rw [if_neg z, if_neg (fun h => z ⟨h.1, by omega, h.2.2⟩)]
      have G : (a_codeOp j = 14 ∨ a_codeOp j = 15) → wX_aimExits_36 post (wX_aimExits_2 post f_tickLimit f_tokenCount f_outCount f_error f_errorPlace f_lastKind f_lastValue (nI cs) f_methodCount f_methodTokens f_cellCount f_activeCalls f_next f_ticksLeft f_state f_pos f_expressionStart f_pendingCount f_frameTop f_localCount (d + 1)) (nI j) f_tickLimit f_tokenCount f_outCount f_error f_errorPlace f_lastKind f_lastValue (nI cs) f_methodCount f_methodTokens f_cellCount f_activeCalls f_next f_ticksLeft f_state f_pos f_expressionStart f_pendingCount f_frameTop f_localCount a_tokenCode a_tokenValue a_outKind a_outValue a_codeOp A a_codeKind a_codePlace a_methodSign a_methodStart a_declared a_cellKind a_cellValue a_callReturn a_pendingLevel a_pendingPlace a_pendingMore a_frameKind a_frameMore a_localName := by
        intro h1
        refine br_f (by decide) ⟨ij, ?_⟩
        rw [ej, Aj]
        by_cases z : a_codeArg j = 0
        · refine br_t z ⟨ij, nm_e (nm_r (nI_1 j) ?_)⟩
          exact ih (j + 1) (by omega) (by omega) _ (other h1 z)
        · refine br_f z (nm_r (nI_1 j) ?_)
          exact ih (j + 1) (by omega) (by omega) _ (same (fun h => z h.2))
      refine br_f (nI_pos (by omega)) (br_f (nI_ge (by omega) (by omega)) ⟨ij, ?_⟩)
      rw [ej]
      by_cases q14 : a_codeOp j = 14
      · exact br_t q14 (G (Or.inl q14))
      · refine br_f q14 ⟨ij, ?_⟩
        by_cases q15 : a_codeOp j = 15
        · exact br_t q15 (G (Or.inr q15))
        · refine br_f q15 (br_t rfl (nm_r (nI_1 j) ?_))
          exact ih (j + 1) (by omega) (by omega) _ (same (fun h => h.1.elim q14 q15))
  refine ⟨_, H (cs - lo) lo (by omega) (Nat.le_refl _) a_codeArg ?_⟩
  funext i
  rw [if_neg (by omega)]
end
section
variable {T : Nat → Nat} {V : Nat → Int32} {n : Nat} {u0 u : SX} {post : SX → Prop} {pos es : Nat} {pe : List LsP} {fr : List LsF} {L : List Nat} {k : LsK}
set_option maxHeartbeats 200000 in
theorem ls_lo_exits {j : Nat} (h : ls_lo u0 k) (hc : 480 ≤ j) : ls_lo u0 (ls_exits k j) := by
  obtain ⟨f_tickLimit, f_tokenCount, f_outCount, f_error, f_errorPlace, f_lastKind, f_lastValue, f_codeSize, f_methodCount, f_methodTokens, f_cellCount, f_activeCalls, f_next, f_ticksLeft, f_state, f_pos, f_expressionStart, f_pendingCount, f_frameTop, f_localCount, a_tokenCode, a_tokenValue, a_outKind, a_outValue, a_codeOp, a_codeArg, a_codeKind, a_codePlace, a_methodSign, a_methodStart, a_declared, a_cellKind, a_cellValue, a_callReturn, a_pendingLevel, a_pendingPlace, a_pendingMore, a_frameKind, a_frameMore, a_localName⟩ := u0
  intro i hi
  obtain ⟨h1, h2, h3, h4⟩ := h i hi
  refine ⟨h1, ?_, h3, h4⟩
  show (if j ≤ i ∧ _ then _ else _) = _
  rw [if_neg (by omega)]; exact h2
set_option maxHeartbeats 200000 in
theorem rx_r3 (h : ls_XR T V n u0 (3, pos, es, pe, fr, L, k) u) (b0 : 480 ≤ k.1 ∧ k.1 + 1 ≤ 761) (b1 : pos ≤ 140) (b2 : fr.length < 141) (hfk : ∀ f ∈ fr, 0 < f.1 ∧ f.1 < 12) (hmo : ∀ f ∈ fr, 2 ≤ f.1 → 480 ≤ f.2.1 ∧ f.2.1 < k.1) (hmk : ∀ f ∈ fr, f.1 = 2 → f.2.1 < k.1 ∧ k.2.2.2.1 f.2.1 &&& 7 = nI (f.2.2.2.headD 0) ∧ f.2.2.2.headD 0 < 8) (hbt : ∀ f, fr.head? = some f → f.1 = 2 → fr = [f] ∧ 0 < pos)
    (hp : ls_out T V n u0 (ls_r3 T pos es pe fr L k) post) : wpX_finish post u := by
  obtain ⟨f_tickLimit, f_tokenCount, f_outCount, f_error, f_errorPlace, f_lastKind, f_lastValue, f_codeSize, f_methodCount, f_methodTokens, f_cellCount, f_activeCalls, f_next, f_ticksLeft, f_state, f_pos, f_expressionStart, f_pendingCount, f_frameTop, f_localCount, a_tokenCode, a_tokenValue, a_outKind, a_outValue, a_codeOp, a_codeArg, a_codeKind, a_codePlace, a_methodSign, a_methodStart, a_declared, a_cellKind, a_cellValue, a_callReturn, a_pendingLevel, a_pendingPlace, a_pendingMore, a_frameKind, a_frameMore, a_localName⟩ := u
  obtain ⟨hk, hlo, rfl, ht, rfl, rfl, rfl, rfl, rfl, rfl, rfl, rfl, rfl, rfl, rfl, rfl, hes, hP, hF, hN⟩ := h
  unfold wpX_finish
  dsimp only
  have ift : vp_in (nI fr.length) 142 := vp_in_nI (by omega) (by decide)
  refine ⟨ift, ?_⟩
  rw [nI_clamp (n := fr.length) (by omega)]
  refine nm_e ⟨ift, ?_⟩
  unfold ls_r3 at hp
  cases fr with
  | nil =>
    refine nm_r (show a_frameKind 0 = 0 from hF) (br_t (by decide) ?_)
    exact hp _ ⟨hk, hlo, rfl, ht, rfl, rfl, rfl, rfl, rfl, rfl, rfl, rfl, rfl, rfl, rfl, rfl, (fun h => by omega), hP, hF, hN⟩
  | cons f r =>
    obtain ⟨fk, mo, sp, l⟩ := f
    have b2' : r.length + 1 < 141 := b2
    obtain ⟨f0, f12⟩ := hfk _ (List.mem_cons_self ..)
    have hm := hmo _ (List.mem_cons_self ..)
    dsimp only at f0 f12 hp hm
    obtain ⟨hF1, hF2, hF3⟩ := hF
    have eF2 : a_frameMore ((fk, mo, sp, l) :: r : List LsF).length = nI mo := hF2
    rw [eF2]
    refine nm_r (show a_frameKind (r.length + 1) = nI fk from hF1) ?_
    have N : ∀ w, w < 100 → fk ≠ w → ¬ nI fk = nI w := fun w hw h => mt (nI_eq (by omega) (by omega)).mp h
    by_cases q3 : fk = 3
    · subst q3
      have hm := hm (by decide)
      rw [if_pos rfl] at hp
      refine br_f (by decide) (br_f (by decide) (br_f (by decide) (br_t rfl ?_)))
      unfold wpX_finishThen
      dsimp only
      refine hx_wordAt ht (by omega) ?_
      by_cases t7 : T pos = 7
      · rw [if_pos t7] at hp
        refine br_t ((ls_w (w := 7) (by decide)).mpr t7) ⟨ift, ?_⟩
        rw [show (nI ((3, mo, sp, l) :: r : List LsF).length).toNatClampNeg = r.length + 1 from nI_clamp (n := r.length + 1) (by omega)]
        refine nm_e ⟨ift, nm_e ?_⟩
        refine hx_emit (by omega) (nm_r (nI_1 pos) ?_)
        unfold wX_finishThen_70
        refine hx_aim (by omega) ?_
        exact hp _ ⟨hk, ls_lo_aimK (ls_lo_emK hlo b0.1) hm.1, rfl, ht, rfl, rfl, rfl, rfl, rfl, rfl, rfl, rfl, rfl, rfl, rfl, rfl, (fun h => by omega), hP, ls_StF_push 4 k.1 sp [] hF3, hN⟩
      · rw [if_neg t7] at hp
        refine br_f (mt (ls_w (w := 7) (by decide)).mp t7) (hx_closeFrame (ft := r.length) (by omega) ?_)
        unfold wX_finishThen_70
        refine hx_aim (by omega) ?_
        exact hp _ ⟨hk, ls_lo_aimK hlo hm.1, rfl, ht, rfl, rfl, rfl, rfl, rfl, rfl, rfl, rfl, rfl, rfl, rfl, rfl, (fun h => by omega), hP, hF3, hN⟩
    rw [if_neg q3] at hp
    by_cases q4 : fk = 4
    · subst q4
      have hm := hm (by decide)
      rw [if_pos rfl] at hp
      refine br_f (by decide) (br_f (by decide) (br_f (by decide) (br_f (by decide) (br_t rfl ?_))))
      refine hx_aim (by omega) (hx_closeFrame (ft := r.length) (by omega) ?_)
      exact hp _ ⟨hk, ls_lo_aimK hlo hm.1, rfl, ht, rfl, rfl, rfl, rfl, rfl, rfl, rfl, rfl, rfl, rfl, rfl, rfl, (fun h => by omega), hP, hF3, hN⟩
    rw [if_neg q4] at hp
    by_cases q5 : fk = 5
    · subst q5
      have hm := hm (by decide)
      rw [if_pos rfl] at hp
      refine br_f (by decide) (br_f (by decide) (br_f (by decide) (br_f (by decide) (br_f (by decide) (br_t rfl ?_)))))
      rw [nI_1]
      refine hx_emit (by omega) ?_
      dsimp only
      refine hx_aimExits (cs := k.1 + 1) (by omega) (by omega) ?_
      refine hx_closeFrame (ft := r.length) (by omega) ?_
      exact hp _ ⟨hk, ls_lo_exits (ls_lo_emK hlo b0.1) hm.1, rfl, ht, rfl, rfl, rfl, rfl, rfl, rfl, rfl, rfl, rfl, rfl, rfl, rfl, (fun h => by omega), hP, hF3, hN⟩
    rw [if_neg q5] at hp
    by_cases q2 : fk = 2
    · subst q2
      have hm := hm (by decide)
      rw [if_pos rfl] at hp
      obtain ⟨hr, hpos⟩ := hbt _ rfl rfl
      have hr0 : r = [] := by injection hr
      subst hr0
      obtain ⟨m1, m2, m3⟩ := hmk _ (List.mem_cons_self ..) rfl
      dsimp only at m1 m2 m3
      refine br_f (by decide) (br_f (by decide) (br_t rfl ?_))
      unfold wpX_finishMethod
      refine ls_mkd_walk (fr := [(2, mo, sp, l)]) rfl (by simp) ⟨hF1, hF2, hF3⟩ (fun f hf => (hfk f hf).2) (fun f hf h2 => ?_) (fun e => ?_) (fun m e m8 => ?_)
      · obtain ⟨g1, g2, g3⟩ := hmk f hf h2
        exact ⟨by omega, g2, g3⟩
      · simp [ls_mkd] at e
      · have em : m = l.headD 0 := by injection (show some (l.headD 0) = some m from e) with e; exact e.symm
        subst em
        rw [show nI pos - 1 = nI (pos - 1) from pk_sub (b := 1) hpos]
        refine hx_emit (by omega) (hx_aim (by omega) (hx_closeFrame (ft := 0) (by decide) ?_))
        exact hp _ ⟨hk, ls_lo_aimK (ls_lo_emK hlo b0.1) hm.1, rfl, ht, rfl, rfl, rfl, rfl, rfl, rfl, rfl, rfl, rfl, rfl, rfl, rfl, (fun h => by omega), hP, hF3, trivial⟩
    rw [if_neg q2] at hp
    have hp1 := hp _ (show ls_XR T V n u0 _ (f_tickLimit, nI n, f_outCount, 0, -1, f_lastKind, f_lastValue, nI k.1, f_methodCount, f_methodTokens, f_cellCount, f_activeCalls, f_next, f_ticksLeft, 0, nI pos, f_expressionStart, nI pe.length, nI (r.length + 1), nI L.length, a_tokenCode, a_tokenValue, a_outKind, a_outValue, k.2.1, k.2.2.1, k.2.2.2.1, k.2.2.2.2, a_methodSign, a_methodStart, a_declared, a_cellKind, a_cellValue, a_callReturn, a_pendingLevel, a_pendingPlace, a_pendingMore, a_frameKind, a_frameMore, a_localName) from ⟨hk, hlo, rfl, ht, rfl, rfl, rfl, rfl, rfl, rfl, rfl, rfl, rfl, rfl, rfl, rfl, (fun h => by omega), hP, ⟨hF1, hF2, hF3⟩, hN⟩)
    refine br_c (fun _ => hp1) (fun h2 => br_c (fun _ => hp1) (fun h5 => ?_))
    exact br_f (N 2 (by decide) q2) (br_f (N 3 (by decide) q3) (br_f (N 4 (by decide) q4) (br_f (N 5 (by decide) q5) trivial)))
end
end
section
section
variable {f_tickLimit f_tokenCount f_outCount f_error f_errorPlace f_lastKind f_codeSize f_methodCount f_methodTokens f_cellCount f_activeCalls f_next f_ticksLeft f_state f_pos f_expressionStart f_pendingCount f_frameTop f_localCount : Int32}
variable {f_lastValue : Int64}
variable {a_tokenCode a_tokenValue a_outKind a_codeOp a_codeArg a_codeKind a_codePlace a_methodSign a_methodStart a_declared a_cellKind a_callReturn a_pendingLevel a_pendingPlace a_pendingMore a_frameKind a_frameMore a_localName : Nat → Int32}
variable {a_outValue a_cellValue : Nat → Int64}
variable {q : Int32 → Prop} {pe : List LsP}
set_option maxHeartbeats 200000 in
theorem hx_topLevel (hP : ls_StP a_pendingLevel a_pendingPlace a_pendingMore pe) (b : pe.length ≤ 140) (h0 : pe = [] → q (-1)) (h1 : ∀ e r, pe = e :: r → q (nI e.1)) : wpX_topLevel q (f_tickLimit, f_tokenCount, f_outCount, f_error, f_errorPlace, f_lastKind, f_lastValue, f_codeSize, f_methodCount, f_methodTokens, f_cellCount, f_activeCalls, f_next, f_ticksLeft, f_state, f_pos, f_expressionStart, nI pe.length, f_frameTop, f_localCount, a_tokenCode, a_tokenValue, a_outKind, a_outValue, a_codeOp, a_codeArg, a_codeKind, a_codePlace, a_methodSign, a_methodStart, a_declared, a_cellKind, a_cellValue, a_callReturn, a_pendingLevel, a_pendingPlace, a_pendingMore, a_frameKind, a_frameMore, a_localName) := by
  cases pe with
  | nil => exact br_t (by decide) (h0 rfl)
  | cons e r =>
    have b' : r.length + 1 ≤ 140 := b
    refine br_f (nI_nle (n := r.length + 1) (by omega) (by omega)) ?_
    rw [show nI (e :: r : List LsP).length - 1 = nI r.length from nI_pred r.length]
    refine ⟨vp_in_nI (by omega) (by decide), ?_⟩
    rw [nI_clamp (by omega), hP.1]
    exact h1 e r rfl
end
section
variable {T : Nat → Nat} {V : Nat → Int32} {n : Nat} {u0 u : SX} {post : SX → Prop} {pos es : Nat} {pe : List LsP} {fr : List LsF} {L : List Nat} {k : LsK}
set_option maxHeartbeats 200000 in
theorem rx_r4 (h : ls_XR T V n u0 (4, pos, es, pe, fr, L, k) u) (b0 : 480 ≤ k.1 ∧ k.1 ≤ 761) (b01 : T pos ≠ 72 → k.1 + 1 ≤ 761) (b1 : pos ≤ 140) (b2 : fr.length ≤ 141) (b3 : L.length ≤ 8) (b4 : pe.length ≤ pos) (b5 : es ≤ pos) (hL : ∀ x ∈ L, x < 16) (hlv : ∀ e ∈ pe, e.1 < 14)
    (hp : ls_out T V n u0 (ls_r4 T V pos es pe fr L k) post) : wpX_readOperand post u := by
  obtain ⟨f_tickLimit, f_tokenCount, f_outCount, f_error, f_errorPlace, f_lastKind, f_lastValue, f_codeSize, f_methodCount, f_methodTokens, f_cellCount, f_activeCalls, f_next, f_ticksLeft, f_state, f_pos, f_expressionStart, f_pendingCount, f_frameTop, f_localCount, a_tokenCode, a_tokenValue, a_outKind, a_outValue, a_codeOp, a_codeArg, a_codeKind, a_codePlace, a_methodSign, a_methodStart, a_declared, a_cellKind, a_cellValue, a_callReturn, a_pendingLevel, a_pendingPlace, a_pendingMore, a_frameKind, a_frameMore, a_localName⟩ := u
  obtain ⟨hk, hlo, rfl, ht, rfl, rfl, rfl, rfl, rfl, rfl, rfl, rfl, rfl, rfl, rfl, rfl, hes, hP, hF, hN⟩ := h
  have hes := hes (Or.inl rfl)
  subst hes
  unfold wpX_readOperand
  dsimp only
  refine hx_wordAt ht (by omega) ?_
  have n140 := ht.1
  have PL : T pos ≠ 72 → pos < 140 := fun h => by have := ls_tok_lt ht h; omega
  have XKf : ∀ p, p < 300 → ∀ (q : List LsP) (pl pp pm : Nat → Int32) e, q.length ≤ 140 → ls_XK T V n u0 e 400 (f_tickLimit, nI n, f_outCount, 1, nI e, f_lastKind, f_lastValue, nI k.1, f_methodCount, f_methodTokens, f_cellCount, f_activeCalls, f_next, f_ticksLeft, nI 4, nI p, nI es, nI q.length, nI fr.length, nI L.length, a_tokenCode, a_tokenValue, a_outKind, a_outValue, k.2.1, k.2.2.1, k.2.2.2.1, k.2.2.2.2, a_methodSign, a_methodStart, a_declared, a_cellKind, a_cellValue, a_callReturn, pl, pp, pm, a_frameKind, a_frameMore, a_localName) :=
    fun p hp q pl pp pm e hq => ⟨hk, rfl, ht, rfl, rfl, ⟨k.1, rfl, b0⟩, ⟨p, rfl, by omega⟩, ⟨q.length, rfl, hq⟩, ⟨fr.length, rfl, by omega⟩, ⟨L.length, rfl, b3⟩, ls_lo_cs (cc := k.1) hlo⟩
  have N : ∀ w, w < 54 → T pos ≠ w → ¬ nI (ls_xc (T pos)) = nI w := fun w hw h => mt (ls_w hw).mp h
  unfold ls_r4 at hp
  by_cases tn : ls_nam (T pos)
  · rw [if_pos tn] at hp
    have tn1 := tn.1
    have tn2 := tn.2
    have p140 := PL (by omega)
    have b6 := b01 (by omega)
    dsimp only at hp
    refine br_f (N 13 (by decide) (by omega)) (br_f (N 14 (by decide) (by omega)) (br_f (N 15 (by decide) (by omega)) (br_f (N 22 (by decide) (by omega)) (br_f (N 23 (by decide) (by omega)) (br_f (N 24 (by decide) (by omega)) (br_f (N 25 (by decide) (by omega)) (br_t ((ls_w54 (ls_tok_le ht _)).mpr tn) ?_)))))))
    unfold wpX_readName
    dsimp only
    refine hx_valueName ht (by omega) tn ?_
    rw [nI_1]
    refine hx_wordAt ht (by omega) ?_
    have hnm : T pos - 54 < 16 := by omega
    refine hx_addressOf hnm hN hL b3 ?_
    have A : ∀ z0 : Int32, (z0 = 0 ∧ ls_starts pe = false ∨ z0 = 1 ∧ ls_starts pe = true) → wX_readName_39 post (nI (T pos - 54)) (nI (ls_xc (T (pos + 1)))) (nI (ls_addr L (T pos - 54))) z0 f_tickLimit (nI n) f_outCount 0 (-1) f_lastKind f_lastValue (nI k.1) f_methodCount f_methodTokens f_cellCount f_activeCalls f_next f_ticksLeft (nI 4) (nI pos) (nI es) (nI pe.length) (nI fr.length) (nI L.length) a_tokenCode a_tokenValue a_outKind a_outValue k.2.1 k.2.2.1 k.2.2.2.1 k.2.2.2.2 a_methodSign a_methodStart a_declared a_cellKind a_cellValue a_callReturn a_pendingLevel a_pendingPlace a_pendingMore a_frameKind a_frameMore a_localName := by
      intro z0 hz
      by_cases t15 : T (pos + 1) = 15
      · rw [if_pos t15] at hp
        refine br_t ((ls_w (w := 15) (by decide)).mpr t15) ?_
        unfold wpX_readCall
        dsimp only
        rw [show nI pos + 2 = nI (pos + 2) from nI_add pos 2]
        refine hx_wordAt ht (by omega) ?_
        by_cases t16 : T (pos + 2) = 16
        · rw [if_pos t16] at hp
          refine br_t ((ls_w (w := 16) (by decide)).mpr t16) (hx_emit (by omega) (nm_r (nI_add pos 3) ?_))
          exact hp _ ⟨hk, ls_lo_emK hlo b0.1, rfl, ht, rfl, rfl, rfl, rfl, rfl, rfl, rfl, rfl, rfl, rfl, rfl, rfl, (fun _ => rfl), hP, hF, hN⟩
        · rw [if_neg t16] at hp
          refine br_f (mt (ls_w (w := 16) (by decide)).mp t16) (hx_pend (by omega) (nm_r (nI_add pos 2) ?_))
          exact hp _ ⟨hk, hlo, rfl, ht, rfl, rfl, rfl, rfl, rfl, rfl, rfl, rfl, rfl, rfl, rfl, rfl, (fun _ => rfl), ls_StP_push 0 pos 1 hP, hF, hN⟩
      · rw [if_neg t15] at hp
        refine br_f (mt (ls_w (w := 15) (by decide)).mp t15) ?_
        have LD : ¬ (ls_starts pe = true ∧ ls_asg (T (pos + 1))) → wX_readName_109 post (nI (ls_addr L (T pos - 54))) f_tickLimit (nI n) f_outCount 0 (-1) f_lastKind f_lastValue (nI k.1) f_methodCount f_methodTokens f_cellCount f_activeCalls f_next f_ticksLeft (nI 4) (nI pos) (nI es) (nI pe.length) (nI fr.length) (nI L.length) a_tokenCode a_tokenValue a_outKind a_outValue k.2.1 k.2.2.1 k.2.2.2.1 k.2.2.2.2 a_methodSign a_methodStart a_declared a_cellKind a_cellValue a_callReturn a_pendingLevel a_pendingPlace a_pendingMore a_frameKind a_frameMore a_localName := by
          intro hno
          rw [if_neg hno] at hp
          refine hx_emit (by omega) (nm_r (nI_1 pos) ?_)
          exact hp _ ⟨hk, ls_lo_emK hlo b0.1, rfl, ht, rfl, rfl, rfl, rfl, rfl, rfl, rfl, rfl, rfl, rfl, rfl, rfl, (fun _ => rfl), hP, hF, hN⟩
        rcases hz with ⟨rfl, hz⟩ | ⟨rfl, hz⟩
        · exact br_t rfl (LD (by rw [hz]; simp))
        · refine br_f (by decide) ?_
          have N1 : ∀ w, w < 54 → T (pos + 1) ≠ w → ¬ nI (ls_xc (T (pos + 1))) = nI w := fun w hw h => mt (ls_w hw).mp h
          by_cases t21 : T (pos + 1) = 21
          · rw [if_pos ⟨hz, Or.inl t21⟩, if_pos t21] at hp
            refine br_t ((ls_w (w := 21) (by decide)).mpr t21) (br_f (by decide) (br_t ((ls_w (w := 21) (by decide)).mpr t21) ?_))
            unfold wX_readName_84
            rw [nI_1]
            refine hx_pend (by omega) (nm_r (nI_add pos 2) ?_)
            exact hp _ ⟨hk, hlo, rfl, ht, rfl, rfl, rfl, rfl, rfl, rfl, rfl, rfl, rfl, rfl, rfl, rfl, (fun _ => rfl), ls_StP_push 2 (pos + 1) _ hP, hF, hN⟩
          · refine br_f (N1 21 (by decide) t21) ?_
            by_cases l43 : T (pos + 1) < 43
            · exact br_t ((ls_wlt (w := 43) (by decide)).mpr l43) (br_t rfl (LD (by intro ⟨_, h⟩; unfold ls_asg at h; omega)))
            · refine br_f (mt (ls_wlt (w := 43) (by decide)).mp l43) ?_
              by_cases g53 : 53 < T (pos + 1)
              · exact br_t ((ls_wgt (w := 53) (by decide)).mpr g53) (br_t rfl (LD (by intro ⟨_, h⟩; unfold ls_asg at h; omega)))
              · refine br_f (mt (ls_wgt (w := 53) (by decide)).mp g53) (br_f (by decide) (br_f (N1 21 (by decide) t21) ?_))
                rw [if_pos ⟨hz, Or.inr ⟨by omega, by omega⟩⟩, if_neg t21] at hp
                refine hx_emit (by omega) ?_
                dsimp only
                unfold wX_readName_84
                rw [nI_1]
                refine hx_pend (by omega) (nm_r (nI_add pos 2) ?_)
                exact hp _ ⟨hk, ls_lo_emK hlo b0.1, rfl, ht, rfl, rfl, rfl, rfl, rfl, rfl, rfl, rfl, rfl, rfl, rfl, rfl, (fun _ => rfl), ls_StP_push 2 (pos + 1) _ hP, hF, hN⟩
    refine hx_topLevel hP (by omega) (fun e => ?_) (fun e r he => ?_)
    · subst e
      exact br_f (by decide) (A 1 (Or.inr ⟨rfl, rfl⟩))
    · have e14 := hlv e (by rw [he]; exact List.mem_cons_self ..)
      by_cases e2 : 2 < e.1
      · exact br_t (nI_lt (a := 2) e2 (by omega)) (A 0 (Or.inl ⟨rfl, by rw [he]; show decide (e.1 ≤ 2) = false; exact decide_eq_false (by omega)⟩))
      · exact br_f (nI_nlt (b := e.1) (a := 2) (by omega) (by decide)) (A 1 (Or.inr ⟨rfl, by rw [he]; show decide (e.1 ≤ 2) = true; exact decide_eq_true (by omega)⟩))
  rw [if_neg tn] at hp
  have NN : ¬ nI (ls_xc (T pos)) = 54 := mt (ls_w54 (ls_tok_le ht _)).mp tn
  by_cases t70 : T pos = 70
  · rw [if_pos t70] at hp
    have b6 := b01 (by omega)
    have p140 := PL (by omega)
    have hv : wpX_readLiteral post (f_tickLimit, nI n, f_outCount, 0, -1, f_lastKind, f_lastValue, nI k.1, f_methodCount, f_methodTokens, f_cellCount, f_activeCalls, f_next, f_ticksLeft, nI 4, nI pos, nI es, nI pe.length, nI fr.length, nI L.length, a_tokenCode, a_tokenValue, a_outKind, a_outValue, k.2.1, k.2.2.1, k.2.2.2.1, k.2.2.2.2, a_methodSign, a_methodStart, a_declared, a_cellKind, a_cellValue, a_callReturn, a_pendingLevel, a_pendingPlace, a_pendingMore, a_frameKind, a_frameMore, a_localName) 3 := by
      unfold wpX_readLiteral
      dsimp only
      refine hx_valueNum ht (by omega) (by omega) (by omega) (br_f (by decide) (hx_emit (by omega) (nm_r (nI_1 pos) ?_)))
      exact hp _ ⟨hk, ls_lo_emK hlo b0.1, rfl, ht, rfl, rfl, rfl, rfl, rfl, rfl, rfl, rfl, rfl, rfl, rfl, rfl, (fun _ => rfl), hP, hF, hN⟩
    rw [t70]
    repeat first | refine br_f (by decide) ?_ | refine br_t (by decide) ?_
    exact hv
  rw [if_neg t70] at hp
  by_cases t71 : T pos = 71
  · rw [if_pos t71] at hp
    have b6 := b01 (by omega)
    have p140 := PL (by omega)
    have hv : wpX_readLiteral post (f_tickLimit, nI n, f_outCount, 0, -1, f_lastKind, f_lastValue, nI k.1, f_methodCount, f_methodTokens, f_cellCount, f_activeCalls, f_next, f_ticksLeft, nI 4, nI pos, nI es, nI pe.length, nI fr.length, nI L.length, a_tokenCode, a_tokenValue, a_outKind, a_outValue, k.2.1, k.2.2.1, k.2.2.2.1, k.2.2.2.2, a_methodSign, a_methodStart, a_declared, a_cellKind, a_cellValue, a_callReturn, a_pendingLevel, a_pendingPlace, a_pendingMore, a_frameKind, a_frameMore, a_localName) 4 := by
      unfold wpX_readLiteral
      dsimp only
      refine hx_valueNum ht (by omega) (by omega) (by omega) (br_f (by decide) (hx_emit (by omega) (nm_r (nI_1 pos) ?_)))
      exact hp _ ⟨hk, ls_lo_emK hlo b0.1, rfl, ht, rfl, rfl, rfl, rfl, rfl, rfl, rfl, rfl, rfl, rfl, rfl, rfl, (fun _ => rfl), hP, hF, hN⟩
    rw [t71]
    repeat first | refine br_f (by decide) ?_ | refine br_t (by decide) ?_
    exact hv
  rw [if_neg t71] at hp
  by_cases t13 : T pos = 13
  · rw [if_pos t13] at hp
    have b6 := b01 (by omega)
    have p140 := PL (by omega)
    refine br_t ((ls_w (w := 13) (by decide)).mpr t13) ?_
    unfold wX_readOperand_123 wpX_readLiteral
    dsimp only
    refine hx_valueAny ht (by omega) fun r => (br_t rfl (hx_wordAt ht (by omega) (br_t ((ls_w (w := 13) (by decide)).mpr t13) ?_)))
    unfold wX_readLiteral_31 wX_readLiteral_32
    refine hx_emit (by omega) (nm_r (nI_1 pos) ?_)
    exact hp _ ⟨hk, ls_lo_emK hlo b0.1, rfl, ht, rfl, rfl, rfl, rfl, rfl, rfl, rfl, rfl, rfl, rfl, rfl, rfl, (fun _ => rfl), hP, hF, hN⟩
  rw [if_neg t13] at hp
  by_cases t14 : T pos = 14
  · rw [if_pos t14] at hp
    have b6 := b01 (by omega)
    have p140 := PL (by omega)
    refine br_f (N 13 (by decide) t13) (br_t ((ls_w (w := 14) (by decide)).mpr t14) ?_)
    unfold wX_readOperand_123 wpX_readLiteral
    dsimp only
    refine hx_valueAny ht (by omega) fun r => (br_t rfl (hx_wordAt ht (by omega) (br_f (N 13 (by decide) t13) ?_)))
    unfold wX_readLiteral_31 wX_readLiteral_32
    refine hx_emit (by omega) (nm_r (nI_1 pos) ?_)
    exact hp _ ⟨hk, ls_lo_emK hlo b0.1, rfl, ht, rfl, rfl, rfl, rfl, rfl, rfl, rfl, rfl, rfl, rfl, rfl, rfl, (fun _ => rfl), hP, hF, hN⟩
  rw [if_neg t14] at hp
  by_cases t15 : T pos = 15
  · rw [if_pos t15] at hp
    have p140 := PL (by omega)
    refine br_f (N 13 (by decide) t13) (br_f (N 14 (by decide) t14) (br_t ((ls_w (w := 15) (by decide)).mpr t15) ?_))
    unfold wpX_readOpen
    refine nm_r (nI_1 pos) ?_
    refine hx_wordAt ht (by omega) ?_
    refine ls_isKind (fun k6 => br_f (by decide) ?_) (fun k6 => br_t rfl ?_)
    · by_cases k5 : T (pos + 1) = 5
      · rw [if_neg (by omega), if_pos k5] at hp
        refine br_t ((ls_w (w := 5) (by decide)).mpr k5) (hx_fault1 (st := 4) (Or.inl rfl) (by omega) (by omega) ?_)
        exact hp _ (XKf (pos + 1) (by omega) pe _ _ _ _ (by omega))
      · rw [if_pos (by omega)] at hp
        have ex : ls_xc (T (pos + 1)) = T (pos + 1) := by unfold ls_xc; rw [if_pos (by omega)]
        refine br_f (mt (ls_w (w := 5) (by decide)).mp k5) ?_
        rw [ex]
        refine hx_pend (by omega) (nm_r (nI_1 (pos + 1)) ?_)
        by_cases t16 : T (pos + 2) = 16
        · rw [if_pos t16] at hp
          refine hx_expect (w := 16) ht (by omega) ((ls_xc_eq (by decide)).mpr t16) ?_
          exact hp _ ⟨hk, hlo, rfl, ht, rfl, rfl, rfl, rfl, rfl, rfl, rfl, rfl, rfl, rfl, rfl, rfl, (fun _ => rfl), ls_StP_push 13 pos _ hP, hF, hN⟩
        · rw [if_neg t16] at hp
          refine hx_expectG (w := 16) (st := 4) ht (by omega) (by decide) t16 (Or.inl rfl) (by omega) ?_
          exact hp _ (XKf (pos + 2) (by omega) ((13, pos, T (pos + 1)) :: pe) _ _ _ _ (by show pe.length + 1 ≤ 140; omega))
    · rw [if_neg (by omega), if_neg (by omega)] at hp
      refine hx_pend (by omega) ?_
      exact hp _ ⟨hk, hlo, rfl, ht, rfl, rfl, rfl, rfl, rfl, rfl, rfl, rfl, rfl, rfl, rfl, rfl, (fun _ => rfl), ls_StP_push 1 pos 0 hP, hF, hN⟩
  rw [if_neg t15] at hp
  refine br_f (N 13 (by decide) t13) (br_f (N 14 (by decide) t14) (br_f (N 15 (by decide) t15) ?_))
  by_cases tu : 22 ≤ T pos ∧ T pos ≤ 25
  · rw [if_pos tu] at hp
    have p140 := PL (by omega)
    have K : wX_readOperand_138 post f_tickLimit (nI n) f_outCount 0 (-1) f_lastKind f_lastValue (nI k.1) f_methodCount f_methodTokens f_cellCount f_activeCalls f_next f_ticksLeft (nI 4) (nI pos) (nI es) (nI pe.length) (nI fr.length) (nI L.length) a_tokenCode a_tokenValue a_outKind a_outValue k.2.1 k.2.2.1 k.2.2.2.1 k.2.2.2.2 a_methodSign a_methodStart a_declared a_cellKind a_cellValue a_callReturn a_pendingLevel a_pendingPlace a_pendingMore a_frameKind a_frameMore a_localName := by
      refine hx_pend (by omega) (nm_r (nI_1 pos) ?_)
      exact hp _ ⟨hk, hlo, rfl, ht, rfl, rfl, rfl, rfl, rfl, rfl, rfl, rfl, rfl, rfl, rfl, rfl, (fun _ => rfl), ls_StP_push 13 pos 0 hP, hF, hN⟩
    refine br_c (fun _ => K) (fun n22 => br_c (fun _ => K) (fun n23 => br_c (fun _ => K) (fun n24 => br_c (fun _ => K) (fun n25 => ?_))))
    exfalso
    have a22 : T pos ≠ 22 := fun e => n22 ((ls_w (w := 22) (by decide)).mpr e)
    have a23 : T pos ≠ 23 := fun e => n23 ((ls_w (w := 23) (by decide)).mpr e)
    have a24 : T pos ≠ 24 := fun e => n24 ((ls_w (w := 24) (by decide)).mpr e)
    have a25 : T pos ≠ 25 := fun e => n25 ((ls_w (w := 25) (by decide)).mpr e)
    omega
  · rw [if_neg tu] at hp
    have N55 : ¬ nI (ls_xc (T pos)) = 55 := fun e => by
      have := (nI_eq (b := 55) (by have := ls_xc_lt (T pos); omega) (by decide)).mp e
      revert this
      unfold ls_xc ls_nam at *
      (repeat' split) <;> omega
    have N56 : ¬ nI (ls_xc (T pos)) = 56 := fun e => by
      have := (nI_eq (b := 56) (by have := ls_xc_lt (T pos); omega) (by decide)).mp e
      revert this
      unfold ls_xc ls_nam at *
      (repeat' split) <;> omega
    refine br_f (N 22 (by decide) (by omega)) (br_f (N 23 (by decide) (by omega)) (br_f (N 24 (by decide) (by omega)) (br_f (N 25 (by decide) (by omega)) (br_f NN (br_f N55 (br_f N56 ?_))))))
    refine hx_fault1 (st := 4) (Or.inl rfl) b5 (by omega) ?_
    exact hp _ (XKf pos (by omega) pe _ _ _ _ (by omega))
end
end
section
set_option maxHeartbeats 200000 in
theorem hx_levelOf {q : Int32 → Prop} {t : Nat} (hq : q (nI (ls_lv t))) : wpX_levelOf q (nI (ls_xc t)) := by
  have W : ∀ w v, w < 54 → nI (ls_lv w) = v → nI (ls_xc t) = nI w → q v := fun w v hw hv h => by
    have := (ls_w hw).mp h
    subst this
    rw [← hv]; exact hq
  have two : (t < 24 ∨ 42 < t) → q 2 := fun h => by
    have e : ls_lv t = 2 := ls_lv_2 (by omega)
    rw [e] at hq; exact hq
  refine br_c (fun h => two (Or.inl ((ls_wlt (w := 24) (by decide)).mp h))) (fun h24 => br_c (fun h => two (Or.inr ((ls_wgt (w := 42) (by decide)).mp h))) (fun h42 => ?_))
  refine br_c (W 24 _ (by decide) rfl) (fun _ => br_c (W 25 _ (by decide) rfl) (fun _ => br_c (W 26 _ (by decide) rfl) (fun _ => br_c (W 27 _ (by decide) rfl) (fun _ => br_c (W 28 _ (by decide) rfl) (fun _ => ?_)))))
  refine br_c (W 29 _ (by decide) rfl) (fun _ => br_c (W 30 _ (by decide) rfl) (fun _ => br_c (W 31 _ (by decide) rfl) (fun _ => br_c (W 32 _ (by decide) rfl) (fun _ => br_c (W 33 _ (by decide) rfl) (fun _ => ?_)))))
  refine br_c (W 34 _ (by decide) rfl) (fun _ => br_c (W 35 _ (by decide) rfl) (fun _ => br_c (W 36 _ (by decide) rfl) (fun _ => br_c (W 37 _ (by decide) rfl) (fun _ => br_c (W 38 _ (by decide) rfl) (fun _ => ?_)))))
  exact br_c (W 39 _ (by decide) rfl) (fun _ => br_c (W 40 _ (by decide) rfl) (fun _ => br_c (W 41 _ (by decide) rfl) (fun _ => br_c (W 42 _ (by decide) rfl) (fun _ => trivial))))
section
variable {f_tickLimit f_tokenCount f_outCount f_error f_errorPlace f_lastKind f_codeSize f_methodCount f_methodTokens f_cellCount f_activeCalls f_next f_ticksLeft f_state f_pos f_expressionStart f_pendingCount f_frameTop f_localCount : Int32}
variable {f_lastValue : Int64}
variable {a_tokenCode a_tokenValue a_outKind a_codeOp a_codeArg a_codeKind a_codePlace a_methodSign a_methodStart a_declared a_cellKind a_callReturn a_pendingLevel a_pendingPlace a_pendingMore a_frameKind a_frameMore a_localName : Nat → Int32}
variable {a_outValue a_cellValue : Nat → Int64}
variable {T : Nat → Nat} {V : Nat → Int32} {n : Nat} {u0 u : SX} {post : SX → Prop} {pos es e m : Nat} {pe : List LsP} {fr : List LsF} {L : List Nat} {k : LsK}
set_option maxHeartbeats 200000 in
theorem kx_wordAtX {q : Int32 → Prop} {x : Int32} (ht : ls_tok T V n a_tokenCode a_tokenValue) (hp : ∀ r, q r) : wpX_wordAt q (f_tickLimit, nI n, f_outCount, f_error, f_errorPlace, f_lastKind, f_lastValue, f_codeSize, f_methodCount, f_methodTokens, f_cellCount, f_activeCalls, f_next, f_ticksLeft, f_state, f_pos, f_expressionStart, f_pendingCount, f_frameTop, f_localCount, a_tokenCode, a_tokenValue, a_outKind, a_outValue, a_codeOp, a_codeArg, a_codeKind, a_codePlace, a_methodSign, a_methodStart, a_declared, a_cellKind, a_cellValue, a_callReturn, a_pendingLevel, a_pendingPlace, a_pendingMore, a_frameKind, a_frameMore, a_localName) x := by
  have := ht.1
  refine br_c (fun _ => hp _) (fun h0 => ?_)
  rcases pk_ix x (n := n) (by omega) with h | h | ⟨j, hj, rfl⟩
  · exact absurd h h0
  · exact br_t h (hp _)
  · exact br_f (nI_ge hj (by omega)) ⟨vp_in_nI (by omega) (by decide), hp _⟩
set_option maxHeartbeats 200000 in
theorem kx_valueAtX {q : Int32 → Prop} {x : Int32} (ht : ls_tok T V n a_tokenCode a_tokenValue) (hp : ∀ r, q r) : wpX_valueAt q (f_tickLimit, nI n, f_outCount, f_error, f_errorPlace, f_lastKind, f_lastValue, f_codeSize, f_methodCount, f_methodTokens, f_cellCount, f_activeCalls, f_next, f_ticksLeft, f_state, f_pos, f_expressionStart, f_pendingCount, f_frameTop, f_localCount, a_tokenCode, a_tokenValue, a_outKind, a_outValue, a_codeOp, a_codeArg, a_codeKind, a_codePlace, a_methodSign, a_methodStart, a_declared, a_cellKind, a_cellValue, a_callReturn, a_pendingLevel, a_pendingPlace, a_pendingMore, a_frameKind, a_frameMore, a_localName) x := by
  have := ht.1
  refine br_c (fun _ => hp _) (fun h0 => ?_)
  rcases pk_ix x (n := n) (by omega) with h | h | ⟨j, hj, rfl⟩
  · exact absurd h h0
  · exact br_t h (hp _)
  · exact br_f (nI_ge hj (by omega)) ⟨vp_in_nI (by omega) (by decide), hp _⟩
set_option maxHeartbeats 200000 in
theorem kx_endCondition {a b c : Int32} (h : ls_XK T V n u0 e m u) (hp : ∀ u', ls_XK T V n u0 e m u' → post u') : wpX_endCondition post u a b c := by
  obtain ⟨f_tickLimit, f_tokenCount, f_outCount, f_error, f_errorPlace, f_lastKind, f_lastValue, f_codeSize, f_methodCount, f_methodTokens, f_cellCount, f_activeCalls, f_next, f_ticksLeft, f_state, f_pos, f_expressionStart, f_pendingCount, f_frameTop, f_localCount, a_tokenCode, a_tokenValue, a_outKind, a_outValue, a_codeOp, a_codeArg, a_codeKind, a_codePlace, a_methodSign, a_methodStart, a_declared, a_cellKind, a_cellValue, a_callReturn, a_pendingLevel, a_pendingPlace, a_pendingMore, a_frameKind, a_frameMore, a_localName⟩ := u
  have h' := h
  obtain ⟨hk, rfl, ht, rfl, rfl, hc, hpo, hpe, ⟨ft, rfl, hf⟩, hlc, hlo⟩ := h
  have i : vp_in (nI ft) 142 := vp_in_nI hf (by decide)
  refine ⟨i, nm_e ⟨i, nm_e ?_⟩⟩
  refine kx_emit (T := T) (V := V) (n := n) (u0 := u0) (e := e) (m := m) ⟨hk, rfl, ht, rfl, rfl, hc, hpo, hpe, ⟨ft, rfl, hf⟩, hlc, hlo⟩ fun u' g => ?_
  obtain ⟨f_tickLimit, f_tokenCount, f_outCount, f_error, f_errorPlace, f_lastKind, f_lastValue, f_codeSize, f_methodCount, f_methodTokens, f_cellCount, f_activeCalls, f_next, f_ticksLeft, f_state, f_pos, f_expressionStart, f_pendingCount, f_frameTop, f_localCount, a_tokenCode, a_tokenValue, a_outKind, a_outValue, a_codeOp, a_codeArg, a_codeKind, a_codePlace, a_methodSign, a_methodStart, a_declared, a_cellKind, a_cellValue, a_callReturn, a_pendingLevel, a_pendingPlace, a_pendingMore, a_frameKind, a_frameMore, a_localName⟩ := u'
  exact hp _ g
set_option maxHeartbeats 200000 in
theorem kx_end119 {x1 x2 x3 x4 : Int32} (h : ls_XK T V n u0 e m (f_tickLimit, f_tokenCount, f_outCount, f_error, f_errorPlace, f_lastKind, f_lastValue, f_codeSize, f_methodCount, f_methodTokens, f_cellCount, f_activeCalls, f_next, f_ticksLeft, f_state, f_pos, f_expressionStart, f_pendingCount, f_frameTop, f_localCount, a_tokenCode, a_tokenValue, a_outKind, a_outValue, a_codeOp, a_codeArg, a_codeKind, a_codePlace, a_methodSign, a_methodStart, a_declared, a_cellKind, a_cellValue, a_callReturn, a_pendingLevel, a_pendingPlace, a_pendingMore, a_frameKind, a_frameMore, a_localName)) (hp : ∀ u', ls_XK T V n u0 e m u' → post u') : wX_endExpression_119 post x1 x2 x3 x4 f_tickLimit f_tokenCount f_outCount f_error f_errorPlace f_lastKind f_lastValue f_codeSize f_methodCount f_methodTokens f_cellCount f_activeCalls f_next f_ticksLeft f_state f_pos f_expressionStart f_pendingCount f_frameTop f_localCount a_tokenCode a_tokenValue a_outKind a_outValue a_codeOp a_codeArg a_codeKind a_codePlace a_methodSign a_methodStart a_declared a_cellKind a_cellValue a_callReturn a_pendingLevel a_pendingPlace a_pendingMore a_frameKind a_frameMore a_localName := by
  have E : ∀ o a k p, wpX_emit (fun u => match u with | (f_tickLimit, f_tokenCount, f_outCount, f_error, f_errorPlace, f_lastKind, f_lastValue, f_codeSize, f_methodCount, f_methodTokens, f_cellCount, f_activeCalls, f_next, f_ticksLeft, f_state, f_pos, f_expressionStart, f_pendingCount, f_frameTop, f_localCount, a_tokenCode, a_tokenValue, a_outKind, a_outValue, a_codeOp, a_codeArg, a_codeKind, a_codePlace, a_methodSign, a_methodStart, a_declared, a_cellKind, a_cellValue, a_callReturn, a_pendingLevel, a_pendingPlace, a_pendingMore, a_frameKind, a_frameMore, a_localName) => post (f_tickLimit, f_tokenCount, f_outCount, f_error, f_errorPlace, f_lastKind, f_lastValue, f_codeSize, f_methodCount, f_methodTokens, f_cellCount, f_activeCalls, f_next, f_ticksLeft, f_state, f_pos, f_expressionStart, f_pendingCount, f_frameTop, f_localCount, a_tokenCode, a_tokenValue, a_outKind, a_outValue, a_codeOp, a_codeArg, a_codeKind, a_codePlace, a_methodSign, a_methodStart, a_declared, a_cellKind, a_cellValue, a_callReturn, a_pendingLevel, a_pendingPlace, a_pendingMore, a_frameKind, a_frameMore, a_localName)) (f_tickLimit, f_tokenCount, f_outCount, f_error, f_errorPlace, f_lastKind, f_lastValue, f_codeSize, f_methodCount, f_methodTokens, f_cellCount, f_activeCalls, f_next, f_ticksLeft, f_state, f_pos, f_expressionStart, f_pendingCount, f_frameTop, f_localCount, a_tokenCode, a_tokenValue, a_outKind, a_outValue, a_codeOp, a_codeArg, a_codeKind, a_codePlace, a_methodSign, a_methodStart, a_declared, a_cellKind, a_cellValue, a_callReturn, a_pendingLevel, a_pendingPlace, a_pendingMore, a_frameKind, a_frameMore, a_localName) o a k p := fun o a k p => kx_emit h fun u' g => by
    obtain ⟨f_tickLimit, f_tokenCount, f_outCount, f_error, f_errorPlace, f_lastKind, f_lastValue, f_codeSize, f_methodCount, f_methodTokens, f_cellCount, f_activeCalls, f_next, f_ticksLeft, f_state, f_pos, f_expressionStart, f_pendingCount, f_frameTop, f_localCount, a_tokenCode, a_tokenValue, a_outKind, a_outValue, a_codeOp, a_codeArg, a_codeKind, a_codePlace, a_methodSign, a_methodStart, a_declared, a_cellKind, a_cellValue, a_callReturn, a_pendingLevel, a_pendingPlace, a_pendingMore, a_frameKind, a_frameMore, a_localName⟩ := u'
    exact hp _ g
  have C : ∀ a b c, wpX_endCondition (fun u => match u with | (f_tickLimit, f_tokenCount, f_outCount, f_error, f_errorPlace, f_lastKind, f_lastValue, f_codeSize, f_methodCount, f_methodTokens, f_cellCount, f_activeCalls, f_next, f_ticksLeft, f_state, f_pos, f_expressionStart, f_pendingCount, f_frameTop, f_localCount, a_tokenCode, a_tokenValue, a_outKind, a_outValue, a_codeOp, a_codeArg, a_codeKind, a_codePlace, a_methodSign, a_methodStart, a_declared, a_cellKind, a_cellValue, a_callReturn, a_pendingLevel, a_pendingPlace, a_pendingMore, a_frameKind, a_frameMore, a_localName) => post (f_tickLimit, f_tokenCount, f_outCount, f_error, f_errorPlace, f_lastKind, f_lastValue, f_codeSize, f_methodCount, f_methodTokens, f_cellCount, f_activeCalls, f_next, f_ticksLeft, f_state, f_pos, f_expressionStart, f_pendingCount, f_frameTop, f_localCount, a_tokenCode, a_tokenValue, a_outKind, a_outValue, a_codeOp, a_codeArg, a_codeKind, a_codePlace, a_methodSign, a_methodStart, a_declared, a_cellKind, a_cellValue, a_callReturn, a_pendingLevel, a_pendingPlace, a_pendingMore, a_frameKind, a_frameMore, a_localName)) (f_tickLimit, f_tokenCount, f_outCount, f_error, f_errorPlace, f_lastKind, f_lastValue, f_codeSize, f_methodCount, f_methodTokens, f_cellCount, f_activeCalls, f_next, f_ticksLeft, f_state, f_pos, f_expressionStart, f_pendingCount, f_frameTop, f_localCount, a_tokenCode, a_tokenValue, a_outKind, a_outValue, a_codeOp, a_codeArg, a_codeKind, a_codePlace, a_methodSign, a_methodStart, a_declared, a_cellKind, a_cellValue, a_callReturn, a_pendingLevel, a_pendingPlace, a_pendingMore, a_frameKind, a_frameMore, a_localName) a b c := fun a b c => kx_endCondition h fun u' g => by
    obtain ⟨f_tickLimit, f_tokenCount, f_outCount, f_error, f_errorPlace, f_lastKind, f_lastValue, f_codeSize, f_methodCount, f_methodTokens, f_cellCount, f_activeCalls, f_next, f_ticksLeft, f_state, f_pos, f_expressionStart, f_pendingCount, f_frameTop, f_localCount, a_tokenCode, a_tokenValue, a_outKind, a_outValue, a_codeOp, a_codeArg, a_codeKind, a_codePlace, a_methodSign, a_methodStart, a_declared, a_cellKind, a_cellValue, a_callReturn, a_pendingLevel, a_pendingPlace, a_pendingMore, a_frameKind, a_frameMore, a_localName⟩ := u'
    exact hp _ g
  have R : wpX_endReturn (fun u => match u with | (f_tickLimit, f_tokenCount, f_outCount, f_error, f_errorPlace, f_lastKind, f_lastValue, f_codeSize, f_methodCount, f_methodTokens, f_cellCount, f_activeCalls, f_next, f_ticksLeft, f_state, f_pos, f_expressionStart, f_pendingCount, f_frameTop, f_localCount, a_tokenCode, a_tokenValue, a_outKind, a_outValue, a_codeOp, a_codeArg, a_codeKind, a_codePlace, a_methodSign, a_methodStart, a_declared, a_cellKind, a_cellValue, a_callReturn, a_pendingLevel, a_pendingPlace, a_pendingMore, a_frameKind, a_frameMore, a_localName) => post (f_tickLimit, f_tokenCount, f_outCount, f_error, f_errorPlace, f_lastKind, f_lastValue, f_codeSize, f_methodCount, f_methodTokens, f_cellCount, f_activeCalls, f_next, f_ticksLeft, f_state, f_pos, f_expressionStart, f_pendingCount, f_frameTop, f_localCount, a_tokenCode, a_tokenValue, a_outKind, a_outValue, a_codeOp, a_codeArg, a_codeKind, a_codePlace, a_methodSign, a_methodStart, a_declared, a_cellKind, a_cellValue, a_callReturn, a_pendingLevel, a_pendingPlace, a_pendingMore, a_frameKind, a_frameMore, a_localName)) (f_tickLimit, f_tokenCount, f_outCount, f_error, f_errorPlace, f_lastKind, f_lastValue, f_codeSize, f_methodCount, f_methodTokens, f_cellCount, f_activeCalls, f_next, f_ticksLeft, f_state, f_pos, f_expressionStart, f_pendingCount, f_frameTop, f_localCount, a_tokenCode, a_tokenValue, a_outKind, a_outValue, a_codeOp, a_codeArg, a_codeKind, a_codePlace, a_methodSign, a_methodStart, a_declared, a_cellKind, a_cellValue, a_callReturn, a_pendingLevel, a_pendingPlace, a_pendingMore, a_frameKind, a_frameMore, a_localName) x4 x3 := by
    unfold wpX_endReturn
    refine kx_openMethodKind fun r => kx_emit h fun u' g => ?_
    obtain ⟨f_tickLimit, f_tokenCount, f_outCount, f_error, f_errorPlace, f_lastKind, f_lastValue, f_codeSize, f_methodCount, f_methodTokens, f_cellCount, f_activeCalls, f_next, f_ticksLeft, f_state, f_pos, f_expressionStart, f_pendingCount, f_frameTop, f_localCount, a_tokenCode, a_tokenValue, a_outKind, a_outValue, a_codeOp, a_codeArg, a_codeKind, a_codePlace, a_methodSign, a_methodStart, a_declared, a_cellKind, a_cellValue, a_callReturn, a_pendingLevel, a_pendingPlace, a_pendingMore, a_frameKind, a_frameMore, a_localName⟩ := u'
    exact hp _ g
  have D : wpX_endDeclaration (fun u => match u with | (f_tickLimit, f_tokenCount, f_outCount, f_error, f_errorPlace, f_lastKind, f_lastValue, f_codeSize, f_methodCount, f_methodTokens, f_cellCount, f_activeCalls, f_next, f_ticksLeft, f_state, f_pos, f_expressionStart, f_pendingCount, f_frameTop, f_localCount, a_tokenCode, a_tokenValue, a_outKind, a_outValue, a_codeOp, a_codeArg, a_codeKind, a_codePlace, a_methodSign, a_methodStart, a_declared, a_cellKind, a_cellValue, a_callReturn, a_pendingLevel, a_pendingPlace, a_pendingMore, a_frameKind, a_frameMore, a_localName) => post (f_tickLimit, f_tokenCount, f_outCount, f_error, f_errorPlace, f_lastKind, f_lastValue, f_codeSize, f_methodCount, f_methodTokens, f_cellCount, f_activeCalls, f_next, f_ticksLeft, f_state, f_pos, f_expressionStart, f_pendingCount, f_frameTop, f_localCount, a_tokenCode, a_tokenValue, a_outKind, a_outValue, a_codeOp, a_codeArg, a_codeKind, a_codePlace, a_methodSign, a_methodStart, a_declared, a_cellKind, a_cellValue, a_callReturn, a_pendingLevel, a_pendingPlace, a_pendingMore, a_frameKind, a_frameMore, a_localName)) (f_tickLimit, f_tokenCount, f_outCount, f_error, f_errorPlace, f_lastKind, f_lastValue, f_codeSize, f_methodCount, f_methodTokens, f_cellCount, f_activeCalls, f_next, f_ticksLeft, f_state, f_pos, f_expressionStart, f_pendingCount, f_frameTop, f_localCount, a_tokenCode, a_tokenValue, a_outKind, a_outValue, a_codeOp, a_codeArg, a_codeKind, a_codePlace, a_methodSign, a_methodStart, a_declared, a_cellKind, a_cellValue, a_callReturn, a_pendingLevel, a_pendingPlace, a_pendingMore, a_frameKind, a_frameMore, a_localName) x4 x3 := by
    unfold wpX_endDeclaration
    obtain ⟨hk, h1, ht, hr⟩ := id h
    subst h1
    refine kx_wordAtX ht fun r => kx_valueAtX ht fun r => kx_addressOf h fun r => kx_emit h fun u' g => ?_
    obtain ⟨f_tickLimit, f_tokenCount, f_outCount, f_error, f_errorPlace, f_lastKind, f_lastValue, f_codeSize, f_methodCount, f_methodTokens, f_cellCount, f_activeCalls, f_next, f_ticksLeft, f_state, f_pos, f_expressionStart, f_pendingCount, f_frameTop, f_localCount, a_tokenCode, a_tokenValue, a_outKind, a_outValue, a_codeOp, a_codeArg, a_codeKind, a_codePlace, a_methodSign, a_methodStart, a_declared, a_cellKind, a_cellValue, a_callReturn, a_pendingLevel, a_pendingPlace, a_pendingMore, a_frameKind, a_frameMore, a_localName⟩ := u'
    exact hp _ g
  refine br_c (fun _ => br_c (fun _ => E _ _ _ _) (fun _ => E _ _ _ _)) (fun _ => br_c (fun _ => br_c (fun _ => E _ _ _ _) (fun _ => E _ _ _ _)) (fun _ => ?_))
  exact br_c (fun _ => C _ _ _) (fun _ => br_c (fun _ => C _ _ _) (fun _ => br_c (fun _ => E _ _ _ _) (fun _ => br_c (fun _ => R) (fun _ => br_c (fun _ => D) (fun _ => trivial)))))
set_option maxHeartbeats 200000 in
theorem kx_end104 {x1 x2 x3 x4 x5 : Int32} (h : ls_XK T V n u0 e m (f_tickLimit, f_tokenCount, f_outCount, f_error, f_errorPlace, f_lastKind, f_lastValue, f_codeSize, f_methodCount, f_methodTokens, f_cellCount, f_activeCalls, f_next, f_ticksLeft, f_state, f_pos, f_expressionStart, f_pendingCount, f_frameTop, f_localCount, a_tokenCode, a_tokenValue, a_outKind, a_outValue, a_codeOp, a_codeArg, a_codeKind, a_codePlace, a_methodSign, a_methodStart, a_declared, a_cellKind, a_cellValue, a_callReturn, a_pendingLevel, a_pendingPlace, a_pendingMore, a_frameKind, a_frameMore, a_localName)) (hm : m ≤ 390) (hp : ∀ u', ls_XK T V n u0 e (m + 1) u' → post u') : wX_endExpression_104 post x1 x2 x3 x4 x5 f_tickLimit f_tokenCount f_outCount f_error f_errorPlace f_lastKind f_lastValue f_codeSize f_methodCount f_methodTokens f_cellCount f_activeCalls f_next f_ticksLeft f_state f_pos f_expressionStart f_pendingCount f_frameTop f_localCount a_tokenCode a_tokenValue a_outKind a_outValue a_codeOp a_codeArg a_codeKind a_codePlace a_methodSign a_methodStart a_declared a_cellKind a_cellValue a_callReturn a_pendingLevel a_pendingPlace a_pendingMore a_frameKind a_frameMore a_localName := by
  refine br_c (fun _ => ?_) (fun _ => kx_end119 h fun u' g => hp _ (ls_XK_mono g (by omega)))
  refine kx_closeFrame h fun u' g => ?_
  obtain ⟨f_tickLimit, f_tokenCount, f_outCount, f_error, f_errorPlace, f_lastKind, f_lastValue, f_codeSize, f_methodCount, f_methodTokens, f_cellCount, f_activeCalls, f_next, f_ticksLeft, f_state, f_pos, f_expressionStart, f_pendingCount, f_frameTop, f_localCount, a_tokenCode, a_tokenValue, a_outKind, a_outValue, a_codeOp, a_codeArg, a_codeKind, a_codePlace, a_methodSign, a_methodStart, a_declared, a_cellKind, a_cellValue, a_callReturn, a_pendingLevel, a_pendingPlace, a_pendingMore, a_frameKind, a_frameMore, a_localName⟩ := u'
  refine kx_expect g (by omega) fun u' g => ?_
  obtain ⟨f_tickLimit, f_tokenCount, f_outCount, f_error, f_errorPlace, f_lastKind, f_lastValue, f_codeSize, f_methodCount, f_methodTokens, f_cellCount, f_activeCalls, f_next, f_ticksLeft, f_state, f_pos, f_expressionStart, f_pendingCount, f_frameTop, f_localCount, a_tokenCode, a_tokenValue, a_outKind, a_outValue, a_codeOp, a_codeArg, a_codeKind, a_codePlace, a_methodSign, a_methodStart, a_declared, a_cellKind, a_cellValue, a_callReturn, a_pendingLevel, a_pendingPlace, a_pendingMore, a_frameKind, a_frameMore, a_localName⟩ := u'
  exact kx_end119 g hp
set_option maxHeartbeats 200000 in
theorem kx_end84 {x1 x2 x3 x4 x5 z0 : Int32} (h : ls_XK T V n u0 e m (f_tickLimit, f_tokenCount, f_outCount, f_error, f_errorPlace, f_lastKind, f_lastValue, f_codeSize, f_methodCount, f_methodTokens, f_cellCount, f_activeCalls, f_next, f_ticksLeft, f_state, f_pos, f_expressionStart, f_pendingCount, f_frameTop, f_localCount, a_tokenCode, a_tokenValue, a_outKind, a_outValue, a_codeOp, a_codeArg, a_codeKind, a_codePlace, a_methodSign, a_methodStart, a_declared, a_cellKind, a_cellValue, a_callReturn, a_pendingLevel, a_pendingPlace, a_pendingMore, a_frameKind, a_frameMore, a_localName)) (hm : m ≤ 380) (hp : ∀ u', ls_XK T V n u0 e (m + 2) u' → post u') : wX_endExpression_84 post x1 x2 x3 x4 x5 z0 f_tickLimit f_tokenCount f_outCount f_error f_errorPlace f_lastKind f_lastValue f_codeSize f_methodCount f_methodTokens f_cellCount f_activeCalls f_next f_ticksLeft f_state f_pos f_expressionStart f_pendingCount f_frameTop f_localCount a_tokenCode a_tokenValue a_outKind a_outValue a_codeOp a_codeArg a_codeKind a_codePlace a_methodSign a_methodStart a_declared a_cellKind a_cellValue a_callReturn a_pendingLevel a_pendingPlace a_pendingMore a_frameKind a_frameMore a_localName := by
  have h2 : ls_XK T V n u0 e m (f_tickLimit, f_tokenCount, f_outCount, f_error, f_errorPlace, f_lastKind, f_lastValue, f_codeSize, f_methodCount, f_methodTokens, f_cellCount, f_activeCalls, f_next, f_ticksLeft, z0, f_pos, f_expressionStart, f_pendingCount, f_frameTop, f_localCount, a_tokenCode, a_tokenValue, a_outKind, a_outValue, a_codeOp, a_codeArg, a_codeKind, a_codePlace, a_methodSign, a_methodStart, a_declared, a_cellKind, a_cellValue, a_callReturn, a_pendingLevel, a_pendingPlace, a_pendingMore, a_frameKind, a_frameMore, a_localName) := by
    obtain ⟨hk, h1, ht, h2, h3, hc, hpo, hr⟩ := h
    exact ⟨hk, h1, ht, h2, h3, hc, hpo, hr⟩
  have E98 : wX_endExpression_98 post x1 x2 x3 x4 x5 f_tickLimit f_tokenCount f_outCount f_error f_errorPlace f_lastKind f_lastValue f_codeSize f_methodCount f_methodTokens f_cellCount f_activeCalls f_next f_ticksLeft z0 f_pos f_expressionStart f_pendingCount f_frameTop f_localCount a_tokenCode a_tokenValue a_outKind a_outValue a_codeOp a_codeArg a_codeKind a_codePlace a_methodSign a_methodStart a_declared a_cellKind a_cellValue a_callReturn a_pendingLevel a_pendingPlace a_pendingMore a_frameKind a_frameMore a_localName := by
    unfold wX_endExpression_98
    refine kx_expect h2 (by omega) fun u' g => ?_
    obtain ⟨f_tickLimit, f_tokenCount, f_outCount, f_error, f_errorPlace, f_lastKind, f_lastValue, f_codeSize, f_methodCount, f_methodTokens, f_cellCount, f_activeCalls, f_next, f_ticksLeft, f_state, f_pos, f_expressionStart, f_pendingCount, f_frameTop, f_localCount, a_tokenCode, a_tokenValue, a_outKind, a_outValue, a_codeOp, a_codeArg, a_codeKind, a_codePlace, a_methodSign, a_methodStart, a_declared, a_cellKind, a_cellValue, a_callReturn, a_pendingLevel, a_pendingPlace, a_pendingMore, a_frameKind, a_frameMore, a_localName⟩ := u'
    exact kx_end104 g (by omega) hp
  have E104 : wX_endExpression_104 post x1 x2 x3 x4 x5 f_tickLimit f_tokenCount f_outCount f_error f_errorPlace f_lastKind f_lastValue f_codeSize f_methodCount f_methodTokens f_cellCount f_activeCalls f_next f_ticksLeft z0 f_pos f_expressionStart f_pendingCount f_frameTop f_localCount a_tokenCode a_tokenValue a_outKind a_outValue a_codeOp a_codeArg a_codeKind a_codePlace a_methodSign a_methodStart a_declared a_cellKind a_cellValue a_callReturn a_pendingLevel a_pendingPlace a_pendingMore a_frameKind a_frameMore a_localName := kx_end104 h2 (by omega) fun u' g => hp _ (ls_XK_mono g (by omega))
  exact br_c (fun _ => br_c (fun _ => E98) (fun _ => E104)) (fun _ => E98)
set_option maxHeartbeats 200000 in
theorem kx_end18 (h : ls_XK T V n u0 e m (f_tickLimit, f_tokenCount, f_outCount, f_error, f_errorPlace, f_lastKind, f_lastValue, f_codeSize, f_methodCount, f_methodTokens, f_cellCount, f_activeCalls, f_next, f_ticksLeft, f_state, f_pos, f_expressionStart, f_pendingCount, f_frameTop, f_localCount, a_tokenCode, a_tokenValue, a_outKind, a_outValue, a_codeOp, a_codeArg, a_codeKind, a_codePlace, a_methodSign, a_methodStart, a_declared, a_cellKind, a_cellValue, a_callReturn, a_pendingLevel, a_pendingPlace, a_pendingMore, a_frameKind, a_frameMore, a_localName)) (hes : f_expressionStart = nI es) (hes2 : es < 1000) (hm : m ≤ 380) (hp : ∀ u', ls_XK T V n u0 e (m + 2) u' → post u') : wX_endExpression_18 post f_tickLimit f_tokenCount f_outCount f_error f_errorPlace f_lastKind f_lastValue f_codeSize f_methodCount f_methodTokens f_cellCount f_activeCalls f_next f_ticksLeft f_state f_pos f_expressionStart f_pendingCount f_frameTop f_localCount a_tokenCode a_tokenValue a_outKind a_outValue a_codeOp a_codeArg a_codeKind a_codePlace a_methodSign a_methodStart a_declared a_cellKind a_cellValue a_callReturn a_pendingLevel a_pendingPlace a_pendingMore a_frameKind a_frameMore a_localName := by
  subst hes
  have i : vp_in f_frameTop 142 := by
    obtain ⟨hk, h1, ht, h2, h3, hc, hpo, hpe, ⟨ft, rfl, hf⟩, hr⟩ := h
    exact vp_in_nI hf (by decide)
  refine ⟨i, nm_e ⟨i, nm_e ?_⟩⟩
  refine kx_codePlaceOf fun r => kx_constantSince h hes2 fun r2 => ?_
  have A : ∀ x1 x2 x3 x4 z0, wX_endExpression_71 post x1 x2 x3 x4 z0 f_tickLimit f_tokenCount f_outCount f_error f_errorPlace f_lastKind f_lastValue f_codeSize f_methodCount f_methodTokens f_cellCount f_activeCalls f_next f_ticksLeft f_state f_pos (nI es) f_pendingCount f_frameTop f_localCount a_tokenCode a_tokenValue a_outKind a_outValue a_codeOp a_codeArg a_codeKind a_codePlace a_methodSign a_methodStart a_declared a_cellKind a_cellValue a_callReturn a_pendingLevel a_pendingPlace a_pendingMore a_frameKind a_frameMore a_localName := fun x1 x2 x3 x4 z0 => br_c (fun _ => kx_end84 h hm hp) (fun _ => kx_end84 h hm hp)
  exact br_c (fun _ => A _ _ _ _ _) (fun _ => br_c (fun _ => A _ _ _ _ _) (fun _ => A _ _ _ _ _))
set_option maxHeartbeats 200000 in
theorem hx_constantSince {q : Int32 → Prop} {s : Nat} (ht : ls_tok T V n a_tokenCode a_tokenValue) (hs : s ≤ pos) (hpn : pos ≤ n) (hp : q (nI (ls_const T s pos))) : wpX_constantSince q (f_tickLimit, nI n, f_outCount, f_error, f_errorPlace, f_lastKind, f_lastValue, f_codeSize, f_methodCount, f_methodTokens, f_cellCount, f_activeCalls, f_next, f_ticksLeft, f_state, nI pos, f_expressionStart, f_pendingCount, f_frameTop, f_localCount, a_tokenCode, a_tokenValue, a_outKind, a_outValue, a_codeOp, a_codeArg, a_codeKind, a_codePlace, a_methodSign, a_methodStart, a_declared, a_cellKind, a_cellValue, a_callReturn, a_pendingLevel, a_pendingPlace, a_pendingMore, a_frameKind, a_frameMore, a_localName) (nI s) := by
  have n140 := ht.1
  have H : ∀ d i z : Nat, i + d = pos → q (nI (if ls_hasn T i d then 0 else z)) → wX_constantSince_5 q f_tickLimit (nI n) f_outCount f_error f_errorPlace f_lastKind f_lastValue f_codeSize f_methodCount f_methodTokens f_cellCount f_activeCalls f_next f_ticksLeft f_state (nI pos) f_expressionStart f_pendingCount f_frameTop f_localCount a_tokenCode a_tokenValue a_outKind a_outValue a_codeOp a_codeArg a_codeKind a_codePlace a_methodSign a_methodStart a_declared a_cellKind a_cellValue a_callReturn a_pendingLevel a_pendingPlace a_pendingMore a_frameKind a_frameMore a_localName (d + 1) (nI z) (nI i) := by
    intro d
    induction d with
    | zero => intro i z hi hq; exact br_f (nI_pos (by omega)) (br_t (nI_le (by omega) (by omega)) hq)
    | succ d ih =>
      intro i z hi hq
      obtain ⟨h72, e, _⟩ := ht.2.1 i (by omega)
      refine br_f (nI_pos (by omega)) (br_f (nI_ge (by omega) (by omega)) (br_f (nI_ge (b := 140) (by omega) (by decide)) ⟨vp_in_nI (by omega) (by decide), ?_⟩))
      rw [nI_clamp (by omega), e]
      by_cases q1 : ls_nam (T i)
      · refine br_t ((ls_w54 (by omega)).mpr q1) (nm_r (nI_1 i) (ih (i + 1) 0 (by omega) ?_))
        have e1 : ls_hasn T i (d + 1) = true := by
          show (decide (ls_nam (T i)) || _) = true
          rw [decide_eq_true q1]; rfl
        rw [e1] at hq
        have e2 : (if ls_hasn T (i + 1) d = true then 0 else 0) = (if true = true then 0 else z) := by split <;> rfl
        rw [e2]; exact hq
      · refine br_f (mt (ls_w54 (by omega)).mp q1) (nm_r (nI_1 i) (ih (i + 1) z (by omega) ?_))
        have e1 : ls_hasn T i (d + 1) = ls_hasn T (i + 1) d := by
          show (decide (ls_nam (T i)) || _) = _
          rw [decide_eq_false q1]; rfl
        rw [e1] at hq
        exact hq
  exact ⟨_, H (pos - s) s 8 (by omega) hp⟩
set_option maxHeartbeats 200000 in
/-- the end of an expression -/
theorem rx_end (hk : (f_tickLimit, f_tokenCount, f_outCount, f_lastKind, f_lastValue, f_methodCount, f_methodTokens, f_cellCount, f_activeCalls, f_next, f_ticksLeft, a_tokenCode, a_tokenValue, a_outKind, a_outValue, a_methodSign, a_methodStart, a_declared, a_cellKind, a_cellValue, a_callReturn) = ls_kept u0) (hlo : ls_lo u0 k) (ht : ls_tok T V n a_tokenCode a_tokenValue) (hF : ls_StF a_frameKind a_frameMore fr) (hN : ls_StN a_localName L) (etc : f_tokenCount = nI n) (ees : f_expressionStart = nI es) (b0 : 480 ≤ k.1 ∧ k.1 ≤ 761) (b01 : T pos ≠ 72 → k.1 + 1 ≤ 761) (b1 : pos ≤ n) (b2 : fr.length ≤ 141) (b3 : L.length ≤ 8) (b5 : es ≤ pos) (hL : ∀ x ∈ L, x < 16)
    (hfr : ∃ fk mo sp l r, fr = (fk, mo, sp, l) :: r ∧ 6 ≤ fk ∧ fk < 12 ∧ mo < k.1 ∧ k.2.2.2.2 mo = nI sp ∧ (fk = 11 → T sp < 6 ∧ ls_nam (T (sp + 1)) ∧ sp < 140) ∧ (fk = 10 → ls_mkd r ≠ none) ∧ (∀ f ∈ r, 0 < f.1 ∧ f.1 < 12) ∧ (∀ f ∈ r, f.1 = 2 → f.2.1 < k.1 ∧ k.2.2.2.1 f.2.1 &&& 7 = nI (f.2.2.2.headD 0) ∧ f.2.2.2.headD 0 < 8))
    (hp : ls_out T V n u0 (ls_end T pos es fr L k) post) : wpX_endExpression post (f_tickLimit, nI n, f_outCount, 0, -1, f_lastKind, f_lastValue, nI k.1, f_methodCount, f_methodTokens, f_cellCount, f_activeCalls, f_next, f_ticksLeft, nI 5, nI pos, f_expressionStart, nI 0, nI fr.length, nI L.length, a_tokenCode, a_tokenValue, a_outKind, a_outValue, k.2.1, k.2.2.1, k.2.2.2.1, k.2.2.2.2, a_methodSign, a_methodStart, a_declared, a_cellKind, a_cellValue, a_callReturn, a_pendingLevel, a_pendingPlace, a_pendingMore, a_frameKind, a_frameMore, a_localName) := by
  subst etc ees
  have n140 := ht.1
  have XKf : ∀ p ft : Nat, p < 300 → ft < 142 → ∀ st e, ls_XK T V n u0 e 310 (f_tickLimit, nI n, f_outCount, 1, nI e, f_lastKind, f_lastValue, nI k.1, f_methodCount, f_methodTokens, f_cellCount, f_activeCalls, f_next, f_ticksLeft, st, nI p, nI es, nI 0, nI ft, nI L.length, a_tokenCode, a_tokenValue, a_outKind, a_outValue, k.2.1, k.2.2.1, k.2.2.2.1, k.2.2.2.2, a_methodSign, a_methodStart, a_declared, a_cellKind, a_cellValue, a_callReturn, a_pendingLevel, a_pendingPlace, a_pendingMore, a_frameKind, a_frameMore, a_localName) :=
    fun p ft hp hft st e => ⟨hk, rfl, ht, rfl, rfl, ⟨k.1, rfl, b0⟩, ⟨p, rfl, by omega⟩, ⟨0, rfl, by omega⟩, ⟨ft, rfl, hft⟩, ⟨L.length, rfl, b3⟩, ls_lo_cs (cc := k.1) hlo⟩
  unfold wpX_endExpression
  dsimp only
  rw [pk_sub b5]
  unfold ls_end at hp
  by_cases long : es + 32 < pos
  · rw [if_pos long] at hp
    refine br_f (nI_ge (a := 32) (by omega) (by omega)) (hx_fault1 (st := 5) (Or.inr rfl) b5 (by omega) ?_)
    rw [if_pos long]
    exact kx_end18 (XKf pos fr.length (by omega) (by omega) _ _) rfl (by omega) (by omega) fun u' g => hp _ (ls_XK_mono g (by omega))
  rw [if_neg long] at hp
  refine br_t (nI_le (b := 32) (by omega) (by decide)) ?_
  obtain ⟨fk, mo, sp, l, r, rfl, f6, f12, hmo, hsp, h11, h10, hfk, hmk⟩ := hfr
  dsimp only at hp
  have b2' : r.length + 1 ≤ 141 := b2
  have ift : vp_in (nI ((fk, mo, sp, l) :: r : List LsF).length) 142 := vp_in_nI (n := r.length + 1) (by omega) (by decide)
  obtain ⟨hF1, hF2, hF3⟩ := hF
  have hF1 : a_frameKind (r.length + 1) = nI fk := hF1
  have hF2 : a_frameMore (r.length + 1) = nI mo := hF2
  have N : ∀ w, w < 100 → fk ≠ w → ¬ nI fk = nI w := fun w hw h => mt (nI_eq (by omega) (by omega)).mp h
  refine ⟨ift, ?_⟩
  rw [show (nI ((fk, mo, sp, l) :: r : List LsF).length).toNatClampNeg = r.length + 1 from nI_clamp (n := r.length + 1) (by omega)]
  refine nm_r hF1 ⟨ift, nm_r hF2 ?_⟩
  have CP : ∀ {q : Int32 → Prop}, q (nI sp) → wpX_codePlaceOf q (f_tickLimit, nI n, f_outCount, 0, -1, f_lastKind, f_lastValue, nI k.1, f_methodCount, f_methodTokens, f_cellCount, f_activeCalls, f_next, f_ticksLeft, nI 5, nI pos, nI es, nI 0, nI ((fk, mo, sp, l) :: r : List LsF).length, nI L.length, a_tokenCode, a_tokenValue, a_outKind, a_outValue, k.2.1, k.2.2.1, k.2.2.2.1, k.2.2.2.2, a_methodSign, a_methodStart, a_declared, a_cellKind, a_cellValue, a_callReturn, a_pendingLevel, a_pendingPlace, a_pendingMore, a_frameKind, a_frameMore, a_localName) (nI mo) := by
    intro q hq
    refine br_f (nI_pos (by omega)) (br_f (nI_ge (b := 761) (by omega) (by decide)) ⟨vp_in_nI (by omega) (by decide), ?_⟩)
    rw [nI_clamp (by omega), hsp]; exact hq
  refine CP (hx_constantSince ht b5 b1 ?_)
  -- a condition
  have cond : ∀ fk', (fk = 7 ∧ fk' = 3 ∨ fk = 8 ∧ fk' = 5) → ∀ mo' : Nat, (fk = 7 → mo' = k.1) → (fk = 8 → mo' = mo) →
      ls_out T V n u0 (if T pos = 16 then .ok (0, pos + 1, es, [], (fk', mo', sp, []) :: r, L, ls_em k 15 0 0 (nI sp)) else .error pos) post →
      wX_endExpression_66 post (nI fk) (nI mo) (nI sp) (nI (ls_const T es pos)) f_tickLimit (nI n) f_outCount 0 (-1) f_lastKind f_lastValue (nI k.1) f_methodCount f_methodTokens f_cellCount f_activeCalls f_next f_ticksLeft (nI 5) (nI pos) (nI es) (nI 0) (nI ((fk, mo, sp, l) :: r : List LsF).length) (nI L.length) a_tokenCode a_tokenValue a_outKind a_outValue k.2.1 k.2.2.1 k.2.2.2.1 k.2.2.2.2 a_methodSign a_methodStart a_declared a_cellKind a_cellValue a_callReturn a_pendingLevel a_pendingPlace a_pendingMore a_frameKind a_frameMore a_localName := by
    intro fk' hf mo' hm7 hm8 hp
    refine br_f (by decide) (br_f (by decide) ?_)
    unfold wX_endExpression_98
    by_cases t16 : T pos = 16
    · rw [if_pos t16] at hp
      have b6 := b01 (by omega)
      refine hx_expect (w := 16) ht (by omega) ((ls_xc_eq (by decide)).mpr t16) (br_f (by decide) ?_)
      have fin : wpX_endCondition (fun u => match u with | (f_tickLimit, f_tokenCount, f_outCount, f_error, f_errorPlace, f_lastKind, f_lastValue, f_codeSize, f_methodCount, f_methodTokens, f_cellCount, f_activeCalls, f_next, f_ticksLeft, f_state, f_pos, f_expressionStart, f_pendingCount, f_frameTop, f_localCount, a_tokenCode, a_tokenValue, a_outKind, a_outValue, a_codeOp, a_codeArg, a_codeKind, a_codePlace, a_methodSign, a_methodStart, a_declared, a_cellKind, a_cellValue, a_callReturn, a_pendingLevel, a_pendingPlace, a_pendingMore, a_frameKind, a_frameMore, a_localName) => post (f_tickLimit, f_tokenCount, f_outCount, f_error, f_errorPlace, f_lastKind, f_lastValue, f_codeSize, f_methodCount, f_methodTokens, f_cellCount, f_activeCalls, f_next, f_ticksLeft, f_state, f_pos, f_expressionStart, f_pendingCount, f_frameTop, f_localCount, a_tokenCode, a_tokenValue, a_outKind, a_outValue, a_codeOp, a_codeArg, a_codeKind, a_codePlace, a_methodSign, a_methodStart, a_declared, a_cellKind, a_cellValue, a_callReturn, a_pendingLevel, a_pendingPlace, a_pendingMore, a_frameKind, a_frameMore, a_localName)) (f_tickLimit, nI n, f_outCount, 0, -1, f_lastKind, f_lastValue, nI k.1, f_methodCount, f_methodTokens, f_cellCount, f_activeCalls, f_next, f_ticksLeft, nI 0, nI (pos + 1), nI es, nI 0, nI ((fk, mo, sp, l) :: r : List LsF).length, nI L.length, a_tokenCode, a_tokenValue, a_outKind, a_outValue, k.2.1, k.2.2.1, k.2.2.2.1, k.2.2.2.2, a_methodSign, a_methodStart, a_declared, a_cellKind, a_cellValue, a_callReturn, a_pendingLevel, a_pendingPlace, a_pendingMore, a_frameKind, a_frameMore, a_localName) (nI fk') (nI mo') (nI sp) := by
        refine ⟨ift, ?_⟩
        rw [show (nI ((fk, mo, sp, l) :: r : List LsF).length).toNatClampNeg = r.length + 1 from nI_clamp (n := r.length + 1) (by omega)]
        refine nm_e ⟨ift, nm_e (hx_emit (by omega) ?_)⟩
        exact hp _ ⟨hk, ls_lo_emK hlo b0.1, rfl, ht, rfl, rfl, rfl, rfl, rfl, rfl, rfl, rfl, rfl, rfl, rfl, rfl, (fun h => by omega), trivial, ls_StF_push fk' mo' sp [] hF3, hN⟩
      rcases hf with ⟨rfl, rfl⟩ | ⟨rfl, rfl⟩
      · have := hm7 rfl
        subst this
        exact br_f (by decide) (br_f (by decide) (br_t rfl fin))
      · have := hm8 rfl
        subst this
        exact br_f (by decide) (br_f (by decide) (br_f (by decide) (br_t rfl fin)))
    · rw [if_neg t16] at hp
      refine hx_expectF (w := 16) (st := 0) ht (by omega) (by decide) t16 (by decide) ?_
      exact kx_end104 (XKf pos (r.length + 1) (by omega) (by omega) _ _) (by omega) fun u' g => hp _ (ls_XK_mono g (by omega))
  by_cases q7 : fk = 7
  · rw [if_pos q7] at hp
    refine br_t (by rw [q7]; rfl) (cond 3 (Or.inl ⟨q7, rfl⟩) k.1 (fun _ => rfl) (fun h => by omega) hp)
  rw [if_neg q7] at hp
  refine br_f (N 7 (by decide) q7) ?_
  by_cases q8 : fk = 8
  · rw [if_pos q8] at hp
    refine br_t (by rw [q8]; rfl) (cond 5 (Or.inr ⟨q8, rfl⟩) mo (fun h => by omega) (fun _ => rfl) hp)
  rw [if_neg q8] at hp
  refine br_f (N 8 (by decide) q8) (br_t rfl (br_t rfl ?_))
  -- the rest of the state behind the ';'
  by_cases q9 : fk = 9
  · subst q9
    rw [if_pos rfl] at hp
    refine br_t rfl ?_
    unfold wX_endExpression_98
    by_cases t16 : T pos = 16
    · rw [if_pos t16] at hp
      have b6 := b01 (by omega)
      refine hx_expect (w := 16) ht (by omega) ((ls_xc_eq (by decide)).mpr t16) (br_t rfl (hx_closeFrame (ft := r.length) (by omega) ?_))
      by_cases t20 : T (pos + 1) = 20
      · rw [if_pos t20] at hp
        refine hx_expect (w := 20) ht (by omega) ((ls_xc_eq (by decide)).mpr t20) ?_
        refine br_f (by decide) (br_f (by decide) (br_f (by decide) (br_f (by decide) (br_t rfl (hx_emit (by omega) ?_)))))
        exact hp _ ⟨hk, ls_lo_emK hlo b0.1, rfl, ht, rfl, rfl, rfl, rfl, rfl, rfl, rfl, rfl, rfl, rfl, rfl, rfl, (fun h => by omega), trivial, hF3, hN⟩
      · rw [if_neg t20] at hp
        refine hx_expectF (w := 20) (st := 3) ht (by omega) (by decide) t20 (by decide) ?_
        exact kx_end119 (XKf (pos + 1) r.length (by omega) (by omega) _ _) fun u' g => hp _ (ls_XK_mono g (by omega))
    · rw [if_neg t16] at hp
      refine hx_expectF (w := 16) (st := 3) ht (by omega) (by decide) t16 (by decide) ?_
      exact kx_end104 (XKf pos (r.length + 1) (by omega) (by omega) _ _) (by omega) fun u' g => hp _ (ls_XK_mono g (by omega))
  rw [if_neg q9] at hp
  refine br_f (N 9 (by decide) q9) (br_t rfl (hx_closeFrame (ft := r.length) (by omega) ?_))
  by_cases t20 : T pos = 20
  · rw [if_pos t20] at hp
    have b6 := b01 (by omega)
    refine hx_expect (w := 20) ht (by omega) ((ls_xc_eq (by decide)).mpr t20) ?_
    by_cases q10 : fk = 10
    · subst q10
      rw [if_pos rfl] at hp
      refine br_f (by decide) (br_f (by decide) (br_f (by decide) (br_f (by decide) (br_f (by decide) (br_t rfl ?_)))))
      unfold wpX_endReturn
      refine ls_mkd_walk (fr := r) rfl (by omega) hF3 (fun f hf => (hfk f hf).2) (fun f hf h2 => ?_) (fun e => absurd e (h10 rfl)) (fun m e m8 => ?_)
      · obtain ⟨g1, g2, g3⟩ := hmk f hf h2
        exact ⟨by omega, g2, g3⟩
      · rw [e] at hp
        rw [nI_add]
        refine hx_emit (by omega) ?_
        exact hp _ ⟨hk, ls_lo_emK hlo b0.1, rfl, ht, rfl, rfl, rfl, rfl, rfl, rfl, rfl, rfl, rfl, rfl, rfl, rfl, (fun h => by omega), trivial, hF3, hN⟩
    rw [if_neg q10] at hp
    by_cases q11 : fk = 11
    · subst q11
      rw [if_pos rfl] at hp
      obtain ⟨s6, sn, s140⟩ := h11 rfl
      refine br_f (by decide) (br_f (by decide) (br_f (by decide) (br_f (by decide) (br_f (by decide) (br_f (by decide) (br_t rfl ?_))))))
      unfold wpX_endDeclaration
      refine hx_wordAt ht (by omega) ?_
      have ex : ls_xc (T sp) = T sp := by unfold ls_xc; rw [if_pos (by omega)]
      rw [ex, nI_1]
      refine hx_valueName ht (by omega) sn ?_
      refine hx_addressOf (by have := sn.2; omega) hN hL b3 ?_
      rw [nI_add, show nI sp + 2 = nI (sp + 2) from nI_add sp 2]
      refine hx_emit (by omega) ?_
      exact hp _ ⟨hk, ls_lo_emK hlo b0.1, rfl, ht, rfl, rfl, rfl, rfl, rfl, rfl, rfl, rfl, rfl, rfl, rfl, rfl, (fun h => by omega), trivial, hF3, hN⟩
    rw [if_neg q11] at hp
    have q6 : fk = 6 := by omega
    subst q6
    refine br_t (by decide) ?_
    cases r with
    | nil =>
      rw [if_pos rfl] at hp
      refine br_t rfl (hx_emit (by omega) ?_)
      exact hp _ ⟨hk, ls_lo_emK hlo b0.1, rfl, ht, rfl, rfl, rfl, rfl, rfl, rfl, rfl, rfl, rfl, rfl, rfl, rfl, (fun h => by omega), trivial, hF3, hN⟩
    | cons g r2 =>
      rw [if_neg (List.cons_ne_nil _ _)] at hp
      refine br_f (nI_ne0 (n := r2.length + 1) (by omega) (by have : (g :: r2).length = r2.length + 1 := rfl; omega)) (hx_emit (by omega) ?_)
      exact hp _ ⟨hk, ls_lo_emK hlo b0.1, rfl, ht, rfl, rfl, rfl, rfl, rfl, rfl, rfl, rfl, rfl, rfl, rfl, rfl, (fun h => by omega), trivial, hF3, hN⟩
  · rw [if_neg t20] at hp
    refine hx_expectF (w := 20) (st := 3) ht (by omega) (by decide) t20 (by decide) ?_
    exact kx_end119 (XKf pos r.length (by omega) (by omega) _ _) fun u' g => hp _ (ls_XK_mono g (by omega))
end
end
section
/-- what stands behind the pending operators -/
def ls_peok (T : Nat → Nat) (k : LsK) (pos : Nat) (pe : List LsP) : Prop := ∀ e ∈ pe, e.1 < 14 ∧ e.2.1 < pos ∧ e.2.2 < 761 ∧ (e.1 = 0 → ls_nam (T e.2.1) ∧ e.2.2 ≤ 3) ∧ (e.1 = 2 → ls_asg (T e.2.1)) ∧ (e.1 = 13 → T e.2.1 = 15 ∨ (22 ≤ T e.2.1 ∧ T e.2.1 ≤ 25)) ∧ (2 < e.1 → e.1 ≠ 13 → ls_lv (T e.2.1) = e.1) ∧ (e.1 ≠ 13 → e.1 ≠ 2 → (T e.2.1 = 41 ∨ T e.2.1 = 42) → 480 ≤ e.2.2 ∧ e.2.2 < k.1)
set_option maxHeartbeats 200000 in
theorem ls_lv_in {t : Nat} (h : 2 < ls_lv t) : 24 ≤ t ∧ t ≤ 42 := by
  have := ls_lv_c t; omega
section
variable {f_tickLimit f_tokenCount f_outCount f_error f_errorPlace f_lastKind f_codeSize f_methodCount f_methodTokens f_cellCount f_activeCalls f_next f_ticksLeft f_state f_pos f_expressionStart f_pendingCount f_frameTop f_localCount : Int32}
variable {f_lastValue : Int64}
variable {a_tokenCode a_tokenValue a_outKind a_codeOp a_codeArg a_codeKind a_codePlace a_methodSign a_methodStart a_declared a_cellKind a_callReturn a_pendingLevel a_pendingPlace a_pendingMore a_frameKind a_frameMore a_localName : Nat → Int32}
variable {a_outValue a_cellValue : Nat → Int64}
variable {T : Nat → Nat} {V : Nat → Int32} {n : Nat} {u0 u : SX} {post : SX → Prop} {pos es e m : Nat} {pe : List LsP} {fr : List LsF} {L : List Nat} {k : LsK}
set_option maxHeartbeats 200000 in
theorem rx_red {lv pl mo : Nat} {r : List LsP} (hk : (f_tickLimit, f_tokenCount, f_outCount, f_lastKind, f_lastValue, f_methodCount, f_methodTokens, f_cellCount, f_activeCalls, f_next, f_ticksLeft, a_tokenCode, a_tokenValue, a_outKind, a_outValue, a_methodSign, a_methodStart, a_declared, a_cellKind, a_cellValue, a_callReturn) = ls_kept u0) (hlo : ls_lo u0 k) (ht : ls_tok T V n a_tokenCode a_tokenValue) (hP : ls_StP a_pendingLevel a_pendingPlace a_pendingMore ((lv, pl, mo) :: r)) (hF : ls_StF a_frameKind a_frameMore fr) (hN : ls_StN a_localName L) (etc : f_tokenCount = nI n) (ees : f_expressionStart = nI es) (b0 : 480 ≤ k.1) (b01 : k.1 + (if lv = 2 ∧ T pl ≠ 21 then 2 else 1) ≤ 761) (b1 : pos ≤ n) (b4 : r.length < 140) (l2 : 2 ≤ lv) (hpe : ls_peok T k pos ((lv, pl, mo) :: r))
    (hp : ∀ u', ls_XR T V n u0 (5, pos, es, r, fr, L, ls_red T pos lv pl mo k) u' → post u') : wpX_reduce post (f_tickLimit, nI n, f_outCount, 0, -1, f_lastKind, f_lastValue, nI k.1, f_methodCount, f_methodTokens, f_cellCount, f_activeCalls, f_next, f_ticksLeft, nI 5, nI pos, f_expressionStart, nI (r.length + 1), nI fr.length, nI L.length, a_tokenCode, a_tokenValue, a_outKind, a_outValue, k.2.1, k.2.2.1, k.2.2.2.1, k.2.2.2.2, a_methodSign, a_methodStart, a_declared, a_cellKind, a_cellValue, a_callReturn, a_pendingLevel, a_pendingPlace, a_pendingMore, a_frameKind, a_frameMore, a_localName) := by
  subst etc ees
  have n140 := ht.1
  obtain ⟨p1, p2, p3, p4, p5, p6, p7, p8⟩ := hpe _ (List.mem_cons_self ..)
  dsimp only at p1 p2 p3 p4 p5 p6 p7 p8
  obtain ⟨s1, s2, s3, s4⟩ := hP
  dsimp only at s1 s2 s3
  have i : vp_in (nI r.length) 140 := vp_in_nI b4 (by decide)
  have ei : (nI r.length).toNatClampNeg = r.length := nI_clamp (by omega)
  refine br_f (nI_nle (n := r.length + 1) (by omega) (by omega)) (nm_r (nI_pred r.length) ⟨i, ?_⟩)
  rw [ei]
  refine nm_r s1 ⟨i, nm_r s2 ⟨i, nm_r s3 ?_⟩⟩
  refine hx_wordAt ht (by omega) ?_
  unfold ls_red at hp
  have N : ∀ w, w < 100 → lv ≠ w → ¬ nI lv = nI w := fun w hw h => mt (nI_eq (by omega) (by omega)).mp h
  have W : ∀ w, w < 54 → T pl ≠ w → ¬ nI (ls_xc (T pl)) = nI w := fun w hw h => mt (ls_w hw).mp h
  by_cases q2 : lv = 2
  · subst q2
    rw [if_pos rfl] at hp
    refine br_t rfl ?_
    unfold wpX_reduceAssign
    dsimp only
    have pa := p5 rfl
    by_cases t21 : T pl = 21
    · rw [if_pos t21] at hp
      rw [if_neg (fun h => h.2 t21)] at b01
      refine br_t ((ls_w (w := 21) (by decide)).mpr t21) ?_
      rw [nI_1]
      refine hx_constantSince ht (by omega) b1 (hx_emit (by omega) ?_)
      exact hp _ ⟨hk, ls_lo_emK hlo b0, rfl, ht, rfl, rfl, rfl, rfl, rfl, rfl, rfl, rfl, rfl, rfl, rfl, rfl, (fun _ => rfl), s4, hF, hN⟩
    · rw [if_neg t21] at hp
      rw [if_pos ⟨rfl, t21⟩] at b01
      have pr : 43 ≤ T pl ∧ T pl ≤ 53 := by rcases pa with h | h; exact absurd h t21; exact h
      have ex : ls_xc (T pl) = T pl := by unfold ls_xc; rw [if_pos (by omega)]
      refine br_f (W 21 (by decide) t21) ?_
      have ea : nI (ls_xc (T pl)) + (-19) = nI (T pl - 19) := by
        rw [ex]
        have : nI (T pl) = nI (T pl - 19) + nI 19 := by rw [nI_add]; congr 1; omega
        rw [this, Int32.add_assoc]
        exact Int32.add_zero _
      rw [ea]
      refine hx_emit (by omega) (hx_emit (by omega) ?_)
      exact hp _ ⟨hk, ls_lo_emK (ls_lo_emK hlo b0) (by show 480 ≤ k.1 + 1; omega), rfl, ht, rfl, rfl, rfl, rfl, rfl, rfl, rfl, rfl, rfl, rfl, rfl, rfl, (fun _ => rfl), s4, hF, hN⟩
  rw [if_neg q2] at hp
  rw [if_neg (fun h => q2 h.1)] at b01
  refine br_f (N 2 (by decide) q2) ?_
  by_cases q13 : lv = 13
  · subst q13
    rw [if_pos rfl] at hp
    refine br_t rfl ?_
    rcases p6 rfl with t15 | tu
    · rw [if_pos t15] at hp
      refine br_t ((ls_w (w := 15) (by decide)).mpr t15) ?_
      rw [t15]
      refine hx_emit (by omega) ?_
      exact hp _ ⟨hk, ls_lo_emK hlo b0, rfl, ht, rfl, rfl, rfl, rfl, rfl, rfl, rfl, rfl, rfl, rfl, rfl, rfl, (fun _ => rfl), s4, hF, hN⟩
    · rw [if_neg (by omega)] at hp
      have ex : ls_xc (T pl) = T pl := by unfold ls_xc; rw [if_pos (by omega)]
      refine br_f (W 15 (by decide) (by omega)) ?_
      rw [ex]
      refine hx_emit (by omega) ?_
      exact hp _ ⟨hk, ls_lo_emK hlo b0, rfl, ht, rfl, rfl, rfl, rfl, rfl, rfl, rfl, rfl, rfl, rfl, rfl, rfl, (fun _ => rfl), s4, hF, hN⟩
  rw [if_neg q13] at hp
  refine br_f (N 13 (by decide) q13) ?_
  have elv := p7 (by omega) q13
  have tin := ls_lv_in (t := T pl) (by omega)
  have ex : ls_xc (T pl) = T pl := by unfold ls_xc; rw [if_pos (by omega)]
  by_cases lg : T pl = 41 ∨ T pl = 42
  · rw [if_pos lg] at hp
    obtain ⟨g1, g2⟩ := p8 q13 q2 lg
    have K : wX_reduce_118 post (nI pl) (nI mo) f_tickLimit (nI n) f_outCount 0 (-1) f_lastKind f_lastValue (nI k.1) f_methodCount f_methodTokens f_cellCount f_activeCalls f_next f_ticksLeft (nI 5) (nI pos) (nI es) (nI r.length) (nI fr.length) (nI L.length) a_tokenCode a_tokenValue a_outKind a_outValue k.2.1 k.2.2.1 k.2.2.2.1 k.2.2.2.2 a_methodSign a_methodStart a_declared a_cellKind a_cellValue a_callReturn a_pendingLevel a_pendingPlace a_pendingMore a_frameKind a_frameMore a_localName := by
      refine hx_emit (by omega) (hx_aim p3 ?_)
      exact hp _ ⟨hk, ls_lo_aimK (ls_lo_emK hlo b0) g1, rfl, ht, rfl, rfl, rfl, rfl, rfl, rfl, rfl, rfl, rfl, rfl, rfl, rfl, (fun _ => rfl), s4, hF, hN⟩
    rcases lg with h | h
    · exact br_t ((ls_w (w := 41) (by decide)).mpr h) K
    · exact br_f (W 41 (by decide) (by omega)) (br_t ((ls_w (w := 42) (by decide)).mpr h) K)
  · rw [if_neg lg] at hp
    refine br_f (W 41 (by decide) (fun h => lg (Or.inl h))) (br_f (W 42 (by decide) (fun h => lg (Or.inr h))) ?_)
    rw [ex]
    refine hx_emit (by omega) ?_
    exact hp _ ⟨hk, ls_lo_emK hlo b0, rfl, ht, rfl, rfl, rfl, rfl, rfl, rfl, rfl, rfl, rfl, rfl, rfl, rfl, (fun _ => rfl), s4, hF, hN⟩
end
section
variable {T : Nat → Nat} {V : Nat → Int32} {n : Nat} {u0 u : SX} {post : SX → Prop} {pos es : Nat} {pe : List LsP} {fr : List LsF} {L : List Nat} {k : LsK}
set_option maxHeartbeats 200000 in
theorem ls_sh4 : ∀ m : Fin 4, nI m.1 <<< ((4 : Int32) &&& 31) = nI (m.1 * 16) := by decide +kernel
set_option maxHeartbeats 200000 in
theorem rx_r5 (h : ls_XR T V n u0 (5, pos, es, pe, fr, L, k) u) (b0 : 480 ≤ k.1 ∧ k.1 ≤ 761) (b01 : T pos ≠ 72 → k.1 + 1 ≤ 761) (b02 : ∀ e, pe.head? = some e → k.1 + (if e.1 = 2 ∧ T e.2.1 ≠ 21 then 2 else 1) ≤ 761) (b1 : pos ≤ n) (b2 : fr.length ≤ 141) (b3 : L.length ≤ 8) (b4 : pe.length ≤ pos) (b5 : es ≤ pos) (hL : ∀ x ∈ L, x < 16) (hpe : ls_peok T k pos pe)
    (hfr : ∃ fk mo sp l r, fr = (fk, mo, sp, l) :: r ∧ 6 ≤ fk ∧ fk < 12 ∧ mo < k.1 ∧ k.2.2.2.2 mo = nI sp ∧ (fk = 11 → T sp < 6 ∧ ls_nam (T (sp + 1)) ∧ sp < 140) ∧ (fk = 10 → ls_mkd r ≠ none) ∧ (∀ f ∈ r, 0 < f.1 ∧ f.1 < 12) ∧ (∀ f ∈ r, f.1 = 2 → f.2.1 < k.1 ∧ k.2.2.2.1 f.2.1 &&& 7 = nI (f.2.2.2.headD 0) ∧ f.2.2.2.headD 0 < 8))
    (hp : ls_out T V n u0 (ls_r5 T pos es pe fr L k) post) : wpX_readOperator post u := by
  obtain ⟨f_tickLimit, f_tokenCount, f_outCount, f_error, f_errorPlace, f_lastKind, f_lastValue, f_codeSize, f_methodCount, f_methodTokens, f_cellCount, f_activeCalls, f_next, f_ticksLeft, f_state, f_pos, f_expressionStart, f_pendingCount, f_frameTop, f_localCount, a_tokenCode, a_tokenValue, a_outKind, a_outValue, a_codeOp, a_codeArg, a_codeKind, a_codePlace, a_methodSign, a_methodStart, a_declared, a_cellKind, a_cellValue, a_callReturn, a_pendingLevel, a_pendingPlace, a_pendingMore, a_frameKind, a_frameMore, a_localName⟩ := u
  obtain ⟨hk, hlo, rfl, ht, rfl, rfl, rfl, rfl, rfl, rfl, rfl, rfl, rfl, rfl, rfl, rfl, hes, hP, hF, hN⟩ := h
  have hes := hes (Or.inr rfl)
  subst hes
  have n140 := ht.1
  unfold wpX_readOperator
  dsimp only
  refine hx_wordAt ht (by omega) (hx_levelOf ?_)
  have lvl : ls_lv (T pos) < 13 := by have := ls_lv_c (T pos); omega
  have lv2 : 2 ≤ ls_lv (T pos) := by have := ls_lv_c (T pos); omega
  have PL : T pos ≠ 72 → pos < 140 := fun h => by have := ls_tok_lt ht h; omega
  have W : ∀ w, w < 54 → T pos ≠ w → ¬ nI (ls_xc (T pos)) = nI w := fun w hw h => mt (ls_w hw).mp h
  have XKf : ∀ e, ls_XK T V n u0 e 400 (f_tickLimit, nI n, f_outCount, 1, nI e, f_lastKind, f_lastValue, nI k.1, f_methodCount, f_methodTokens, f_cellCount, f_activeCalls, f_next, f_ticksLeft, nI 5, nI pos, nI es, nI pe.length, nI fr.length, nI L.length, a_tokenCode, a_tokenValue, a_outKind, a_outValue, k.2.1, k.2.2.1, k.2.2.2.1, k.2.2.2.2, a_methodSign, a_methodStart, a_declared, a_cellKind, a_cellValue, a_callReturn, a_pendingLevel, a_pendingPlace, a_pendingMore, a_frameKind, a_frameMore, a_localName) :=
    fun e => ⟨hk, rfl, ht, rfl, rfl, ⟨k.1, rfl, b0⟩, ⟨pos, rfl, by omega⟩, ⟨pe.length, rfl, by omega⟩, ⟨fr.length, rfl, by omega⟩, ⟨L.length, rfl, b3⟩, ls_lo_cs (cc := k.1) hlo⟩
  -- a binary operator
  have BIN : 2 < ls_lv (T pos) → ls_out T V n u0 (.ok (4, pos + 1, es, (ls_lv (T pos), pos, k.1) :: pe, fr, L, if T pos = 41 ∨ T pos = 42 then ls_em k 7 0 (nI (T pos - 41)) (nI pos) else k)) post → wpX_readBinary (fun u => match u with | (f_tickLimit, f_tokenCount, f_outCount, f_error, f_errorPlace, f_lastKind, f_lastValue, f_codeSize, f_methodCount, f_methodTokens, f_cellCount, f_activeCalls, f_next, f_ticksLeft, f_state, f_pos, f_expressionStart, f_pendingCount, f_frameTop, f_localCount, a_tokenCode, a_tokenValue, a_outKind, a_outValue, a_codeOp, a_codeArg, a_codeKind, a_codePlace, a_methodSign, a_methodStart, a_declared, a_cellKind, a_cellValue, a_callReturn, a_pendingLevel, a_pendingPlace, a_pendingMore, a_frameKind, a_frameMore, a_localName) => post (f_tickLimit, f_tokenCount, f_outCount, f_error, f_errorPlace, f_lastKind, f_lastValue, f_codeSize, f_methodCount, f_methodTokens, f_cellCount, f_activeCalls, f_next, f_ticksLeft, f_state, f_pos, f_expressionStart, f_pendingCount, f_frameTop, f_localCount, a_tokenCode, a_tokenValue, a_outKind, a_outValue, a_codeOp, a_codeArg, a_codeKind, a_codePlace, a_methodSign, a_methodStart, a_declared, a_cellKind, a_cellValue, a_callReturn, a_pendingLevel, a_pendingPlace, a_pendingMore, a_frameKind, a_frameMore, a_localName)) (f_tickLimit, nI n, f_outCount, 0, -1, f_lastKind, f_lastValue, nI k.1, f_methodCount, f_methodTokens, f_cellCount, f_activeCalls, f_next, f_ticksLeft, nI 5, nI pos, nI es, nI pe.length, nI fr.length, nI L.length, a_tokenCode, a_tokenValue, a_outKind, a_outValue, k.2.1, k.2.2.1, k.2.2.2.1, k.2.2.2.2, a_methodSign, a_methodStart, a_declared, a_cellKind, a_cellValue, a_callReturn, a_pendingLevel, a_pendingPlace, a_pendingMore, a_frameKind, a_frameMore, a_localName) (nI (ls_xc (T pos))) (nI (ls_lv (T pos))) := by
    intro hl hp
    have tin := ls_lv_in hl
    have p140 := PL (by omega)
    have b6 := b01 (by omega)
    unfold wpX_readBinary
    dsimp only
    refine hx_pend (by omega) ?_
    by_cases t41 : T pos = 41
    · rw [if_pos (Or.inl t41)] at hp
      refine br_t ((ls_w (w := 41) (by decide)).mpr t41) (br_f (W 42 (by decide) (by omega)) ?_)
      refine hx_emit (by omega) (nm_r (nI_1 pos) ?_)
      rw [show T pos - 41 = 0 by omega] at hp
      exact hp _ ⟨hk, ls_lo_emK hlo b0.1, rfl, ht, rfl, rfl, rfl, rfl, rfl, rfl, rfl, rfl, rfl, rfl, rfl, rfl, (fun _ => rfl), ls_StP_push _ pos k.1 hP, hF, hN⟩
    refine br_f (W 41 (by decide) t41) ?_
    by_cases t42 : T pos = 42
    · rw [if_pos (Or.inr t42)] at hp
      refine br_t ((ls_w (w := 42) (by decide)).mpr t42) (br_t ((ls_w (w := 42) (by decide)).mpr t42) ?_)
      refine hx_emit (by omega) (nm_r (nI_1 pos) ?_)
      rw [show T pos - 41 = 1 by omega] at hp
      exact hp _ ⟨hk, ls_lo_emK hlo b0.1, rfl, ht, rfl, rfl, rfl, rfl, rfl, rfl, rfl, rfl, rfl, rfl, rfl, rfl, (fun _ => rfl), ls_StP_push _ pos k.1 hP, hF, hN⟩
    · rw [if_neg (by omega)] at hp
      refine br_f (W 42 (by decide) t42) (nm_r (nI_1 pos) ?_)
      exact hp _ ⟨hk, hlo, rfl, ht, rfl, rfl, rfl, rfl, rfl, rfl, rfl, rfl, rfl, rfl, rfl, rfl, (fun _ => rfl), ls_StP_push _ pos k.1 hP, hF, hN⟩
  unfold ls_r5 at hp
  dsimp only at hp
  refine hx_topLevel hP (by omega) (fun e => ?_) (fun e r he => ?_)
  · subst e
    dsimp only at hp
    refine br_t ?_ ?_
    · have : nI (ls_lv (T pos)) = nI (ls_lv (T pos)) := rfl
      rw [Int32.lt_iff_toInt_lt, nI_toInt (by omega)]
      have : (-1 : Int32).toInt = -1 := by decide
      omega
    by_cases hl : 2 < ls_lv (T pos)
    · rw [if_pos hl] at hp
      exact br_f (nI_ge (a := 2) hl (by omega)) (BIN hl hp)
    · rw [if_neg hl] at hp
      refine br_t (nI_le (b := 2) (by omega) (by decide)) (br_t rfl ?_)
      exact rx_end (k := k) (es := es) hk hlo ht hF hN rfl rfl b0 b01 b1 b2 b3 b5 hL hfr hp
  · subst he
    obtain ⟨lv, pl, mo⟩ := e
    obtain ⟨p1, p2, p3, p4, p5, p6, p7, p8⟩ := hpe _ (List.mem_cons_self ..)
    dsimp only at p1 p2 p3 p4 p5 p6 p7 p8 hp
    have b4' : r.length + 1 ≤ pos := b4
    by_cases red : ls_lv (T pos) ≤ lv
    · rw [if_pos red] at hp
      refine br_f (nI_nlt red (by omega)) ?_
      exact rx_red (k := k) (es := es) hk hlo ht hP hF hN rfl rfl b0.1 (b02 _ rfl) b1 (by omega) (by omega) hpe hp
    rw [if_neg red] at hp
    refine br_t (nI_lt (by omega) (by omega)) ?_
    by_cases hl : 2 < ls_lv (T pos)
    · rw [if_pos hl] at hp
      exact br_f (nI_ge (a := 2) hl (by omega)) (BIN hl hp)
    rw [if_neg hl] at hp
    refine br_t (nI_le (b := 2) (by omega) (by decide)) (br_f (ls_nm1 (by omega)) ?_)
    have iv : vp_in (nI r.length) 140 := vp_in_nI (by omega) (by decide)
    have ei : (nI r.length).toNatClampNeg = r.length := nI_clamp (by omega)
    obtain ⟨s1, s2, s3, s4⟩ := hP
    dsimp only at s1 s2 s3
    by_cases t16 : T pos = 16
    · rw [if_pos t16] at hp
      have p140 := PL (by omega)
      have b6 := b01 (by omega)
      refine br_t ((ls_w (w := 16) (by decide)).mpr t16) ?_
      unfold wpX_closeParenthesis
      dsimp only
      refine br_f (nI_nle (n := r.length + 1) (by omega) (by omega)) (nm_r (nI_pred r.length) ?_)
      by_cases q0 : lv = 0
      · subst q0
        rw [if_pos rfl] at hp
        obtain ⟨tn, m3⟩ := p4 rfl
        refine br_t rfl ⟨iv, ?_⟩
        rw [ei]
        refine nm_r s2 ?_
        refine hx_valueName ht (by omega) tn ⟨iv, ?_⟩
        rw [s3, ls_sh4 ⟨mo, by omega⟩, nI_add]
        refine hx_emit (by omega) (nm_r (nI_1 pos) ?_)
        exact hp _ ⟨hk, ls_lo_emK hlo b0.1, rfl, ht, rfl, rfl, rfl, rfl, rfl, rfl, rfl, rfl, rfl, rfl, rfl, rfl, (fun _ => rfl), s4, hF, hN⟩
      · rw [if_neg q0] at hp
        refine br_f (nI_ne0 (by omega) (by omega)) (nm_r (nI_1 pos) ?_)
        exact hp _ ⟨hk, hlo, rfl, ht, rfl, rfl, rfl, rfl, rfl, rfl, rfl, rfl, rfl, rfl, rfl, rfl, (fun _ => rfl), s4, hF, hN⟩
    rw [if_neg t16] at hp
    refine br_f (W 16 (by decide) t16) ?_
    have FLT : ls_out T V n u0 (ls_flt es pos) post → wX_readOperator_88 post f_tickLimit (nI n) f_outCount 0 (-1) f_lastKind f_lastValue (nI k.1) f_methodCount f_methodTokens f_cellCount f_activeCalls f_next f_ticksLeft (nI 5) (nI pos) (nI es) (nI ((lv, pl, mo) :: r : List LsP).length) (nI fr.length) (nI L.length) a_tokenCode a_tokenValue a_outKind a_outValue k.2.1 k.2.2.1 k.2.2.2.1 k.2.2.2.2 a_methodSign a_methodStart a_declared a_cellKind a_cellValue a_callReturn a_pendingLevel a_pendingPlace a_pendingMore a_frameKind a_frameMore a_localName :=
      fun hp => hx_fault1 (st := 5) (Or.inr rfl) b5 (by omega) (hp _ (XKf _))
    by_cases t19 : T pos = 19
    · refine br_t ((ls_w (w := 19) (by decide)).mpr t19) ?_
      have p140 := PL (by omega)
      by_cases q0 : lv = 0
      · subst q0
        rw [if_pos ⟨t19, rfl⟩] at hp
        obtain ⟨tn, m3⟩ := p4 rfl
        refine br_t rfl ?_
        unfold wpX_readComma
        dsimp only
        refine nm_r (nI_pred r.length) (br_f (nI_pos (by omega)) ⟨iv, ?_⟩)
        rw [ei, s3]
        by_cases m3' : mo < 3
        · rw [if_pos m3'] at hp
          refine br_f (nI_ge (b := 3) m3' (by decide)) ⟨iv, iv, nm_r (by rw [nI_1]) (nm_r (nI_1 pos) ?_)⟩
          exact hp _ ⟨hk, hlo, rfl, ht, rfl, rfl, rfl, rfl, rfl, rfl, rfl, rfl, rfl, rfl, rfl, rfl, (fun _ => rfl), ⟨s1, s2, pk_us, ls_StP_more (Nat.le_refl _) s4⟩, hF, hN⟩
        · rw [if_neg m3'] at hp
          refine br_t (nI_le (a := 3) (by omega) (by omega)) ?_
          exact hx_fault1 (st := 5) (Or.inr rfl) b5 (by omega) (hp _ (XKf _))
      · rw [if_neg (fun h => q0 h.2)] at hp
        exact br_f (nI_ne0 (by omega) (by omega)) (FLT hp)
    · rw [if_neg (fun h => t19 h.1)] at hp
      exact br_f (W 19 (by decide) t19) (FLT hp)
end
end
section
/-! What holds of every configuration of the reading -/
def ls_txt (T : Nat → Nat) (n : Nat) : Prop := n ≤ 140 ∧ (∀ p, p < n → T p < 72) ∧ ∀ p, n ≤ p → T p = 72
set_option maxHeartbeats 200000 in
theorem ls_txt_lt {T n} (h : ls_txt T n) {p : Nat} (hp : T p ≠ 72) : p < n := by
  apply Decidable.byContradiction
  intro hn
  exact hp (h.2.2 p (by omega))
/-- the instructions that pending operators still owe -/
def ls_dpe (T : Nat → Nat) : List LsP → Nat
  | [] => 0
  | e :: r => (if e.1 = 2 then (if T e.2.1 = 21 then 1 else 2) else if e.1 = 1 then 0 else 1) + ls_dpe T r
def ls_dfr : List LsF → Nat
  | [] => 0
  | f :: r => (if f.1 = 5 ∨ f.1 = 8 ∨ f.1 = 2 then 1 else 0) + ls_dfr r
def ls_fok (k : LsK) : List LsF → Prop
  | [] => True
  | f :: r => (1 ≤ f.1 ∧ f.1 ≤ 5) ∧ (2 ≤ f.1 → 480 ≤ f.2.1 ∧ f.2.1 < k.1) ∧ (f.1 = 2 → r = [] ∧ k.2.2.2.1 f.2.1 &&& 7 = nI (f.2.2.2.headD 0) ∧ f.2.2.2.headD 0 < 8) ∧ ls_fok k r
/-- the scopes: each block keeps the names outside of it -/
def ls_sco : List LsF → List Nat → Prop
  | [], L => L = []
  | f :: r, L => if f.1 = 1 then f.2.1 = f.2.2.2.length ∧ (∃ m, f.2.2.2 = L.drop m) ∧ ls_sco r f.2.2.2 else if f.1 = 2 then True else ls_sco r L
/-- the frame of an open expression -/
def ls_xf (T : Nat → Nat) (k : LsK) (pos : Nat) (f : LsF) (r : List LsF) : Prop := 6 ≤ f.1 ∧ f.1 < 12 ∧ 480 ≤ f.2.1 ∧ f.2.1 < k.1 ∧ k.2.2.2.2 f.2.1 = nI f.2.2.1 ∧ f.2.2.1 ≤ pos ∧ (f.1 = 11 → T f.2.2.1 < 6 ∧ ls_nam (T (f.2.2.1 + 1)) ∧ f.2.2.1 + 3 ≤ pos) ∧ (f.1 = 10 → ls_mkd r ≠ none)
def ls_Inv (T : Nat → Nat) (n : Nat) (c : LsC) : Prop := match c with
  | (st, pos, es, pe, fr, L, k) => pos ≤ n ∧ L.length ≤ 8 ∧ (∀ x ∈ L, x < 16) ∧ ls_sco fr L ∧ 480 ≤ k.1 ∧ ls_peok T k pos pe ∧
    (if st = 4 ∨ st = 5 then k.1 + ls_dpe T pe + ls_dfr fr ≤ 480 + 2 * pos + (if st = 4 then 1 else 0) ∧ es ≤ pos ∧ pe.length + es ≤ pos ∧ fr.length ≤ pos + 1 ∧ ∃ f r, fr = f :: r ∧ ls_xf T k pos f r ∧ ls_fok k r
    else k.1 + ls_dfr fr ≤ 480 + 2 * pos ∧ fr.length ≤ pos ∧ pe = [] ∧ ls_fok k fr ∧ (st = 2 → T pos < 6 ∧ ∀ f, fr.head? = some f → f.1 = 1))
def ls_sw (st : Nat) : Nat := if st = 0 then 3 else if st = 1 then 2 else if st = 2 then 2 else if st = 3 then 4 else 0
def ls_fw : List LsF → Nat
  | [] => 0
  | f :: r => (if f.1 = 1 then 0 else 1) + ls_fw r
def ls_mu (n : Nat) (c : LsC) : Nat := match c with
  | (st, pos, _, pe, fr, _, _) => 7 * (n - pos) + pe.length + ls_fw fr + ls_sw st
set_option maxHeartbeats 200000 in
theorem ls_mu_def {n st pos es : Nat} {pe : List LsP} {fr : List LsF} {L : List Nat} {k : LsK} : ls_mu n (st, pos, es, pe, fr, L, k) = 7 * (n - pos) + pe.length + ls_fw fr + ls_sw st := rfl
set_option maxHeartbeats 200000 in
theorem ls_sw_0 : ls_sw 0 = 3 := rfl
set_option maxHeartbeats 200000 in
theorem ls_sw_1 : ls_sw 1 = 2 := rfl
set_option maxHeartbeats 200000 in
theorem ls_sw_2 : ls_sw 2 = 2 := rfl
set_option maxHeartbeats 200000 in
theorem ls_sw_3 : ls_sw 3 = 4 := rfl
set_option maxHeartbeats 200000 in
theorem ls_sw_4 : ls_sw 4 = 0 := rfl
set_option maxHeartbeats 200000 in
theorem ls_sw_5 : ls_sw 5 = 0 := rfl
set_option maxHeartbeats 200000 in
theorem ls_sw_6 : ls_sw 6 = 0 := rfl
set_option maxHeartbeats 200000 in
theorem ls_fw_0 : ls_fw [] = 0 := rfl
set_option maxHeartbeats 200000 in
theorem ls_fw_1 {a b : Nat} {l : List Nat} {r : List LsF} : ls_fw ((1, a, b, l) :: r) = 0 + ls_fw r := rfl
set_option maxHeartbeats 200000 in
theorem ls_fw_2 {a b : Nat} {l : List Nat} {r : List LsF} : ls_fw ((2, a, b, l) :: r) = 1 + ls_fw r := rfl
set_option maxHeartbeats 200000 in
theorem ls_fw_3 {a b : Nat} {l : List Nat} {r : List LsF} : ls_fw ((3, a, b, l) :: r) = 1 + ls_fw r := rfl
set_option maxHeartbeats 200000 in
theorem ls_fw_4 {a b : Nat} {l : List Nat} {r : List LsF} : ls_fw ((4, a, b, l) :: r) = 1 + ls_fw r := rfl
set_option maxHeartbeats 200000 in
theorem ls_fw_5 {a b : Nat} {l : List Nat} {r : List LsF} : ls_fw ((5, a, b, l) :: r) = 1 + ls_fw r := rfl
set_option maxHeartbeats 200000 in
theorem ls_fw_6 {a b : Nat} {l : List Nat} {r : List LsF} : ls_fw ((6, a, b, l) :: r) = 1 + ls_fw r := rfl
set_option maxHeartbeats 200000 in
theorem ls_fw_7 {a b : Nat} {l : List Nat} {r : List LsF} : ls_fw ((7, a, b, l) :: r) = 1 + ls_fw r := rfl
set_option maxHeartbeats 200000 in
theorem ls_fw_8 {a b : Nat} {l : List Nat} {r : List LsF} : ls_fw ((8, a, b, l) :: r) = 1 + ls_fw r := rfl
set_option maxHeartbeats 200000 in
theorem ls_fw_9 {a b : Nat} {l : List Nat} {r : List LsF} : ls_fw ((9, a, b, l) :: r) = 1 + ls_fw r := rfl
set_option maxHeartbeats 200000 in
theorem ls_fw_10 {a b : Nat} {l : List Nat} {r : List LsF} : ls_fw ((10, a, b, l) :: r) = 1 + ls_fw r := rfl
set_option maxHeartbeats 200000 in
theorem ls_fw_11 {a b : Nat} {l : List Nat} {r : List LsF} : ls_fw ((11, a, b, l) :: r) = 1 + ls_fw r := rfl
set_option maxHeartbeats 200000 in
theorem ls_fw_x {i a b : Nat} {l : List Nat} {r : List LsF} (h : i ≠ 1) : ls_fw ((i, a, b, l) :: r) = 1 + ls_fw r := by
  show (if i = 1 then 0 else 1) + _ = _
  rw [if_neg h]
/-- the code only grows: sizes, kinds and places below the size stay -/
def ls_ext (k k' : LsK) : Prop := k.1 ≤ k'.1 ∧ ∀ i, i < k.1 → k'.2.2.2.1 i = k.2.2.2.1 i ∧ k'.2.2.2.2 i = k.2.2.2.2 i ∧ k'.2.1 i = k.2.1 i
set_option maxHeartbeats 200000 in
theorem ls_ext_r (k : LsK) : ls_ext k k := ⟨Nat.le_refl _, fun _ _ => ⟨rfl, rfl, rfl⟩⟩
set_option maxHeartbeats 200000 in
theorem ls_ext_t {a b c : LsK} (h : ls_ext a b) (g : ls_ext b c) : ls_ext a c :=
  ⟨Nat.le_trans h.1 g.1, fun i hi => by
    obtain ⟨h1, h2, h3⟩ := h.2 i hi
    obtain ⟨g1, g2, g3⟩ := g.2 i (Nat.lt_of_lt_of_le hi h.1)
    exact ⟨g1.trans h1, g2.trans h2, g3.trans h3⟩⟩
set_option maxHeartbeats 200000 in
theorem ls_ext_em (k : LsK) (o a d p : Int32) : ls_ext k (ls_em k o a d p) :=
  ⟨Nat.le_succ _, fun i hi => ⟨pk_un (by omega), pk_un (by omega), pk_un (by omega)⟩⟩
set_option maxHeartbeats 200000 in
theorem ls_ext_aim (k : LsK) (j : Nat) : ls_ext k (ls_aim k j) := ⟨Nat.le_refl _, fun _ _ => ⟨rfl, rfl, rfl⟩⟩
set_option maxHeartbeats 200000 in
theorem ls_ext_ex (k : LsK) (j : Nat) : ls_ext k (ls_exits k j) := ⟨Nat.le_refl _, fun _ _ => ⟨rfl, rfl, rfl⟩⟩
set_option maxHeartbeats 200000 in
theorem ls_fok_ext {k k' : LsK} (h : ls_ext k k') : ∀ {fr : List LsF}, ls_fok k fr → ls_fok k' fr
  | [], _ => trivial
  | f :: r, ⟨h1, h2, h3, h4⟩ => ⟨h1, fun g => ⟨(h2 g).1, Nat.lt_of_lt_of_le (h2 g).2 h.1⟩, fun g => ⟨(h3 g).1, by rw [(h.2 f.2.1 (h2 (by omega)).2).1]; exact (h3 g).2.1, (h3 g).2.2⟩, ls_fok_ext h h4⟩
set_option maxHeartbeats 200000 in
theorem ls_fok_1 {k : LsK} {a b : Nat} {l : List Nat} {r : List LsF} (h : ls_fok k r) : ls_fok k ((1, a, b, l) :: r) :=
  ⟨⟨by show 1 ≤ 1; decide, by show 1 ≤ 5; decide⟩, fun h => absurd h (by show ¬ 2 ≤ 1; decide), fun h => absurd h (by show ¬ (1 : Nat) = 2; decide), h⟩
set_option maxHeartbeats 200000 in
theorem ls_fok_j {k : LsK} {j a b : Nat} {l : List Nat} {r : List LsF} (hj : 3 ≤ j ∧ j ≤ 5) (ha : 480 ≤ a ∧ a < k.1) (h : ls_fok k r) : ls_fok k ((j, a, b, l) :: r) :=
  ⟨⟨by show 1 ≤ j; omega, by show j ≤ 5; omega⟩, fun _ => ha, fun h => by have : j = 2 := h; omega, h⟩
set_option maxHeartbeats 200000 in
theorem ls_fok_2 {k : LsK} {a b : Nat} {l : List Nat} (ha : 480 ≤ a ∧ a < k.1) (h : k.2.2.2.1 a &&& 7 = nI (l.headD 0)) (h8 : l.headD 0 < 8) : ls_fok k [(2, a, b, l)] :=
  ⟨⟨by show 1 ≤ 2; decide, by show 2 ≤ 5; decide⟩, fun _ => ha, fun _ => ⟨rfl, h, h8⟩, trivial⟩
set_option maxHeartbeats 200000 in
theorem ls_xf_ext {T : Nat → Nat} {k k' : LsK} {pos pos' : Nat} {f : LsF} {r : List LsF} (h : ls_ext k k') (hp : pos ≤ pos') (g : ls_xf T k pos f r) : ls_xf T k' pos' f r := by
  obtain ⟨g1, g2, g3, g4, g5, g6, g7, g8⟩ := g
  exact ⟨g1, g2, g3, Nat.lt_of_lt_of_le g4 h.1, (h.2 _ g4).2.1.trans g5, by omega, fun q => ⟨(g7 q).1, (g7 q).2.1, by have := (g7 q).2.2; omega⟩, g8⟩
set_option maxHeartbeats 200000 in
theorem ls_peok_ext {T : Nat → Nat} {k k' : LsK} {pos pos' : Nat} {pe : List LsP} (h : k.1 ≤ k'.1) (hp : pos ≤ pos') (g : ls_peok T k pos pe) : ls_peok T k' pos' pe := by
  intro e he
  obtain ⟨g1, g2, g3, g4, g5, g6, g7, g8⟩ := g e he
  exact ⟨g1, by omega, g3, g4, g5, g6, g7, fun a b c => ⟨(g8 a b c).1, by have := (g8 a b c).2; omega⟩⟩
set_option maxHeartbeats 200000 in
theorem ls_peok_nil {T : Nat → Nat} {k : LsK} {pos : Nat} : ls_peok T k pos [] := fun _ h => absurd h (by simp)
set_option maxHeartbeats 200000 in
theorem ls_peok_cons {T : Nat → Nat} {k : LsK} {pos : Nat} {e : LsP} {pe : List LsP} (g : ls_peok T k pos pe) (h : e.1 < 14 ∧ e.2.1 < pos ∧ e.2.2 < 761 ∧ (e.1 = 0 → ls_nam (T e.2.1) ∧ e.2.2 ≤ 3) ∧ (e.1 = 2 → ls_asg (T e.2.1)) ∧ (e.1 = 13 → T e.2.1 = 15 ∨ (22 ≤ T e.2.1 ∧ T e.2.1 ≤ 25)) ∧ (2 < e.1 → e.1 ≠ 13 → ls_lv (T e.2.1) = e.1) ∧ (e.1 ≠ 13 → e.1 ≠ 2 → (T e.2.1 = 41 ∨ T e.2.1 = 42) → 480 ≤ e.2.2 ∧ e.2.2 < k.1)) : ls_peok T k pos (e :: pe) := by
  intro x hx
  rcases List.mem_cons.mp hx with rfl | hx
  · exact h
  · exact g x hx
set_option maxHeartbeats 200000 in
theorem ls_peok_tl {T : Nat → Nat} {k : LsK} {pos : Nat} {e : LsP} {pe : List LsP} (g : ls_peok T k pos (e :: pe)) : ls_peok T k pos pe :=
  fun x hx => g x (List.mem_cons_of_mem _ hx)
set_option maxHeartbeats 200000 in
theorem ls_addr_lt {L : List Nat} {nm : Nat} (h : nm < 16) (hl : L.length ≤ 8) : ls_addr L nm < 24 := by
  induction L with
  | nil => show nm < 24; omega
  | cons x r ih =>
    have hl' : r.length + 1 ≤ 8 := hl
    show (if x = nm then 16 + r.length else ls_addr r nm) < 24
    split
    · omega
    · exact ih (by omega)
set_option maxHeartbeats 200000 in
theorem ls_dfr_le : ∀ fr : List LsF, ls_dfr fr ≤ fr.length
  | [] => Nat.le_refl _
  | f :: r => by
    show (if _ then 1 else 0) + ls_dfr r ≤ r.length + 1
    have := ls_dfr_le r
    split <;> omega
section
variable {T : Nat → Nat} {V : Nat → Int32} {n : Nat} {pos es : Nat} {pe : List LsP} {fr : List LsF} {L : List Nat} {k : LsK} {c' : LsC}
set_option maxHeartbeats 200000 in
theorem ls_inv_r0 (hT : ls_txt T n) (h : ls_Inv T n (0, pos, es, pe, fr, L, k)) (hr : ls_r0 T pos es pe fr L k = .ok c') : ls_Inv T n c' ∧ ls_mu n c' < ls_mu n (0, pos, es, pe, fr, L, k) := by
  obtain ⟨h1, h2, h3, h4, h5, h6, h7⟩ := h
  rw [if_neg (by omega)] at h7
  obtain ⟨a1, a2, a3, a4, a5⟩ := h7
  unfold ls_r0 at hr
  split at hr
  · injection hr with hr; subst hr
    exact ⟨⟨h1, h2, h3, h4, h5, h6, by rw [if_neg (by omega)]; exact ⟨a1, a2, a3, a4, fun h => by omega⟩⟩, by simp only [ls_mu_def, ls_sw_0, ls_sw_1, ls_sw_2, ls_sw_3, ls_sw_4, ls_sw_5, ls_sw_6, ls_fw_0, ls_fw_1, ls_fw_2, ls_fw_3, ls_fw_4, ls_fw_5, ls_fw_6, ls_fw_7, ls_fw_8, ls_fw_9, ls_fw_10, ls_fw_11, List.length_nil, List.length_cons]; omega⟩
  · split at hr
    · split at hr
      · next t6 =>
        injection hr with hr; subst hr
        exact ⟨⟨h1, h2, h3, h4, h5, h6, by rw [if_neg (by omega)]; exact ⟨a1, a2, a3, a4, fun _ => ⟨t6, fun f hf => by simp at hf⟩⟩⟩, by simp only [ls_mu_def, ls_sw_0, ls_sw_1, ls_sw_2, ls_sw_3, ls_sw_4, ls_sw_5, ls_sw_6, ls_fw_0, ls_fw_1, ls_fw_2, ls_fw_3, ls_fw_4, ls_fw_5, ls_fw_6, ls_fw_7, ls_fw_8, ls_fw_9, ls_fw_10, ls_fw_11, List.length_nil, List.length_cons]; omega⟩
      · injection hr with hr; subst hr
        exact ⟨⟨h1, h2, h3, h4, h5, h6, by rw [if_neg (by omega)]; exact ⟨a1, a2, a3, a4, fun h => by omega⟩⟩, by simp only [ls_mu_def, ls_sw_0, ls_sw_1, ls_sw_2, ls_sw_3, ls_sw_4, ls_sw_5, ls_sw_6, ls_fw_0, ls_fw_1, ls_fw_2, ls_fw_3, ls_fw_4, ls_fw_5, ls_fw_6, ls_fw_7, ls_fw_8, ls_fw_9, ls_fw_10, ls_fw_11, List.length_nil, List.length_cons]; omega⟩
    · next fk mo sp l r _ =>
      have same : ls_Inv T n (1, pos, es, pe, (fk, mo, sp, l) :: r, L, k) ∧ ls_mu n (1, pos, es, pe, (fk, mo, sp, l) :: r, L, k) < ls_mu n (0, pos, es, pe, (fk, mo, sp, l) :: r, L, k) :=
        ⟨⟨h1, h2, h3, h4, h5, h6, by rw [if_neg (by omega)]; exact ⟨a1, a2, a3, a4, fun h => by omega⟩⟩, by simp only [ls_mu_def, ls_sw_0, ls_sw_1, ls_sw_2, ls_sw_3, ls_sw_4, ls_sw_5, ls_sw_6, ls_fw_0, ls_fw_1, ls_fw_2, ls_fw_3, ls_fw_4, ls_fw_5, ls_fw_6, ls_fw_7, ls_fw_8, ls_fw_9, ls_fw_10, ls_fw_11, List.length_nil, List.length_cons]; omega⟩
      split at hr
      · next q =>
        subst q
        split at hr
        · next t18 =>
          injection hr with hr; subst hr
          have pn := ls_txt_lt hT (p := pos) (by omega)
          obtain ⟨s1, ⟨m, s2⟩, s3⟩ := (show l.length = l.length ∧ _ from ⟨rfl, (show mo = l.length ∧ (∃ m, l = L.drop m) ∧ ls_sco r l from h4).2⟩)
          have a2' : r.length + 1 ≤ pos := a2
          have a1' : k.1 + (0 + ls_dfr r) ≤ 480 + 2 * pos := a1
          refine ⟨⟨by omega, ?_, ?_, s3, h5, ls_peok_ext (Nat.le_refl _) (by omega) h6, ?_⟩, ?_⟩
          · rw [s2, List.length_drop]; omega
          · intro x hx; rw [s2] at hx; exact h3 x (List.mem_of_mem_drop hx)
          · rw [if_neg (by omega)]; exact ⟨by omega, by omega, a3, a4.2.2.2, fun h => by omega⟩
          · simp only [ls_mu_def, ls_sw_0, ls_sw_1, ls_sw_2, ls_sw_3, ls_sw_4, ls_sw_5, ls_sw_6, ls_fw_0, ls_fw_1, ls_fw_2, ls_fw_3, ls_fw_4, ls_fw_5, ls_fw_6, ls_fw_7, ls_fw_8, ls_fw_9, ls_fw_10, ls_fw_11, List.length_nil, List.length_cons]; omega
        · split at hr
          · next t6 =>
            injection hr with hr; subst hr
            exact ⟨⟨h1, h2, h3, h4, h5, h6, by rw [if_neg (by omega)]; exact ⟨a1, a2, a3, a4, fun _ => ⟨t6, fun f hf => by injection hf with hf; rw [← hf]⟩⟩⟩, by simp only [ls_mu_def, ls_sw_0, ls_sw_1, ls_sw_2, ls_sw_3, ls_sw_4, ls_sw_5, ls_sw_6, ls_fw_0, ls_fw_1, ls_fw_2, ls_fw_3, ls_fw_4, ls_fw_5, ls_fw_6, ls_fw_7, ls_fw_8, ls_fw_9, ls_fw_10, ls_fw_11, List.length_nil, List.length_cons]; omega⟩
          · injection hr with hr; subst hr; exact same
      · injection hr with hr; subst hr; exact same
end
end
section
section
variable {T : Nat → Nat} {V : Nat → Int32} {n : Nat} {pos es : Nat} {pe : List LsP} {fr : List LsF} {L : List Nat} {k : LsK} {c' : LsC}
set_option maxHeartbeats 200000 in
theorem ls_sco_x {f : LsF} (h : ls_sco fr L) (hf : f.1 ≠ 1) (hf2 : f.1 ≠ 2) : ls_sco (f :: fr) L := by
  show (if f.1 = 1 then _ else if f.1 = 2 then _ else _)
  rw [if_neg hf, if_neg hf2]; exact h
set_option maxHeartbeats 200000 in
theorem ls_sco_p {f : LsF} (h : ls_sco (f :: fr) L) (hf : f.1 ≠ 1) (hf2 : f.1 ≠ 2) : ls_sco fr L := by
  have h' : (if f.1 = 1 then _ else if f.1 = 2 then _ else _) := h
  rw [if_neg hf, if_neg hf2] at h'; exact h'
set_option maxHeartbeats 200000 in
/-- into an expression -/
theorem ls_inv_x {p q : Nat} {f : LsF} (hpn : p ≤ n) (h2 : L.length ≤ 8) (h3 : ∀ x ∈ L, x < 16) (h4 : ls_sco fr L) (h5 : 480 ≤ k.1) (hk : k.1 + ls_dfr (f :: fr) ≤ 480 + 2 * p + 1) (hlen : fr.length ≤ p) (hf : ls_xf T k p f fr) (ho : ls_fok k fr) : ls_Inv T n (4, p, p, [], f :: fr, L, k) := by
  refine ⟨hpn, h2, h3, ls_sco_x h4 (by have := hf.1; omega) (by have := hf.1; omega), h5, ls_peok_nil, ?_⟩
  rw [if_pos (Or.inl rfl), if_pos rfl]
  exact ⟨hk, Nat.le_refl _, by show 0 + p ≤ p; omega, by show fr.length + 1 ≤ p + 1; omega, f, fr, rfl, hf, ho⟩
set_option maxHeartbeats 200000 in
theorem ls_xf_tick {o a d : Int32} {p0 p fk : Nat} {r : List LsF} (h5 : 480 ≤ k.1) (h6 : 6 ≤ fk) (h12 : fk < 11) (hp : p0 ≤ p) (h10 : fk = 10 → ls_mkd r ≠ none) : ls_xf T (ls_em k o a d (nI p0)) p (fk, k.1, p0, []) r :=
  ⟨h6, by show fk < 12; omega, h5, Nat.lt_succ_self _, pk_us, hp, fun h => by have : fk = 11 := h; omega, h10⟩
set_option maxHeartbeats 200000 in
theorem ls_inv_hdr {fk : Nat} (hT : ls_txt T n) (hf : 7 ≤ fk ∧ fk ≤ 9) (h : ls_Inv T n (1, pos, es, pe, fr, L, k)) (t : T pos ≠ 72) (hr : ls_hdr T pos fk pe fr L k.1 (ls_em k 1 0 0 (nI pos)) = .ok c') : ls_Inv T n c' ∧ ls_mu n c' < ls_mu n (1, pos, es, pe, fr, L, k) := by
  obtain ⟨h1, h2, h3, h4, h5, h6, h7⟩ := h
  rw [if_neg (by omega)] at h7
  obtain ⟨a1, a2, a3, a4, a5⟩ := h7
  subst a3
  unfold ls_hdr at hr
  split at hr
  · next t15 =>
    injection hr with hr; subst hr
    have p1 := ls_txt_lt hT (p := pos + 1) (by omega)
    refine ⟨ls_inv_x (q := 0) (by omega) h2 h3 h4 (by show 480 ≤ k.1 + 1; omega) ?_ (by omega) (ls_xf_tick h5 (by omega) (by omega) (by omega) (fun h => by omega)) (ls_fok_ext (ls_ext_em ..) a4), ?_⟩
    · show k.1 + 1 + ((if _ then 1 else 0) + ls_dfr fr) ≤ _
      split <;> omega
    · simp only [ls_mu_def, ls_sw_0, ls_sw_1, ls_sw_2, ls_sw_3, ls_sw_4, ls_sw_5, ls_sw_6, ls_fw_0, ls_fw_1, ls_fw_2, ls_fw_3, ls_fw_4, ls_fw_5, ls_fw_6, ls_fw_7, ls_fw_8, ls_fw_9, ls_fw_10, ls_fw_11, List.length_nil, List.length_cons]; rw [ls_fw_x (show fk ≠ 1 by omega)]; omega
  · cases hr
set_option maxHeartbeats 200000 in
theorem ls_inv_r1 (hT : ls_txt T n) (h : ls_Inv T n (1, pos, es, pe, fr, L, k)) (hr : ls_r1 T pos es pe fr L k = .ok c') : ls_Inv T n c' ∧ ls_mu n c' < ls_mu n (1, pos, es, pe, fr, L, k) := by
  have h' := h
  obtain ⟨h1, h2, h3, h4, h5, h6, h7⟩ := h
  rw [if_neg (by omega)] at h7
  obtain ⟨a1, a2, a3, a4, a5⟩ := h7
  subst a3
  -- to state 3, with some code more
  have fin : ∀ (j : Nat) (k' : LsK), 1 ≤ j → pos + j ≤ n → ls_ext k k' → k'.1 ≤ k.1 + 2 * j → ls_Inv T n (3, pos + j, es, [], fr, L, k') ∧ ls_mu n (3, pos + j, es, [], fr, L, k') < ls_mu n (1, pos, es, [], fr, L, k) := by
    intro j k' j1 jn hx hc
    refine ⟨⟨jn, h2, h3, h4, Nat.le_trans h5 hx.1, ls_peok_nil, ?_⟩, ?_⟩
    · rw [if_neg (by omega)]
      exact ⟨by omega, by omega, rfl, ls_fok_ext hx a4, fun h => by omega⟩
    · simp only [ls_mu_def, ls_sw_0, ls_sw_1, ls_sw_2, ls_sw_3, ls_sw_4, ls_sw_5, ls_sw_6, ls_fw_0, ls_fw_1, ls_fw_2, ls_fw_3, ls_fw_4, ls_fw_5, ls_fw_6, ls_fw_7, ls_fw_8, ls_fw_9, ls_fw_10, ls_fw_11, List.length_nil, List.length_cons]; omega
  unfold ls_r1 at hr
  dsimp only at hr
  split at hr
  · next t =>
    injection hr with hr; subst hr
    exact fin 1 _ (by omega) (ls_txt_lt hT (p := pos) (by omega)) (ls_ext_em ..) (by show k.1 + 1 ≤ _; omega)
  split at hr
  · next t =>
    injection hr with hr; subst hr
    have p1 := ls_txt_lt hT (p := pos) (by omega)
    refine ⟨⟨by omega, h2, h3, ?_, by show 480 ≤ k.1 + 1; omega, ls_peok_nil, ?_⟩, ?_⟩
    · show (if (1 : Nat) = 1 then _ else _)
      rw [if_pos rfl]; exact ⟨rfl, ⟨0, rfl⟩, h4⟩
    · rw [if_neg (by omega)]
      refine ⟨by show k.1 + 1 + (0 + ls_dfr fr) ≤ _; omega, by show fr.length + 1 ≤ _; omega, rfl, ls_fok_1 (ls_fok_ext (ls_ext_em ..) a4), fun h => by omega⟩
    · simp only [ls_mu_def, ls_sw_0, ls_sw_1, ls_sw_2, ls_sw_3, ls_sw_4, ls_sw_5, ls_sw_6, ls_fw_0, ls_fw_1, ls_fw_2, ls_fw_3, ls_fw_4, ls_fw_5, ls_fw_6, ls_fw_7, ls_fw_8, ls_fw_9, ls_fw_10, ls_fw_11, List.length_nil, List.length_cons]; omega
  split at hr
  · next t => exact ls_inv_hdr hT ⟨by omega, by omega⟩ h' (by omega) hr
  split at hr
  · next t => exact ls_inv_hdr hT ⟨by omega, by omega⟩ h' (by omega) hr
  split at hr
  · next t => exact ls_inv_hdr hT ⟨by omega, by omega⟩ h' (by omega) hr
  split at hr
  · split at hr
    · cases hr
    · split at hr
      · next t =>
        injection hr with hr; subst hr
        exact fin 2 _ (by omega) (ls_txt_lt hT (p := pos + 1) (by omega)) (ls_ext_t (ls_ext_em ..) (ls_ext_em ..)) (by show k.1 + 1 + 1 ≤ _; omega)
      · cases hr
  split at hr
  · split at hr
    · cases hr
    · split at hr
      · next t =>
        injection hr with hr; subst hr
        exact fin 2 _ (by omega) (ls_txt_lt hT (p := pos + 1) (by omega)) (ls_ext_t (ls_ext_em ..) (ls_ext_em ..)) (by show k.1 + 1 + 1 ≤ _; omega)
      · cases hr
  split at hr
  · next t11 =>
    split at hr
    · cases hr
    · next mq hmk =>
      split at hr
      · next t =>
        injection hr with hr; subst hr
        exact fin 2 _ (by omega) (ls_txt_lt hT (p := pos + 1) (by omega)) (ls_ext_t (ls_ext_em ..) (ls_ext_em ..)) (by show k.1 + 1 + 1 ≤ _; omega)
      · injection hr with hr; subst hr
        have p1 := ls_txt_lt hT (p := pos) (by omega)
        refine ⟨ls_inv_x (q := 0) (by omega) h2 h3 h4 (by show 480 ≤ k.1 + 1; omega) (by show k.1 + 1 + (0 + ls_dfr fr) ≤ _; omega) (by omega) (ls_xf_tick h5 (by omega) (by omega) (by omega) (fun _ => by rw [hmk]; simp)) (ls_fok_ext (ls_ext_em ..) a4), ?_⟩
        simp only [ls_mu_def, ls_sw_0, ls_sw_1, ls_sw_2, ls_sw_3, ls_sw_4, ls_sw_5, ls_sw_6, ls_fw_0, ls_fw_1, ls_fw_2, ls_fw_3, ls_fw_4, ls_fw_5, ls_fw_6, ls_fw_7, ls_fw_8, ls_fw_9, ls_fw_10, ls_fw_11, List.length_nil, List.length_cons]; omega
  · injection hr with hr; subst hr
    refine ⟨ls_inv_x (q := 0) (by omega) h2 h3 h4 (by show 480 ≤ k.1 + 1; omega) (by show k.1 + 1 + (0 + ls_dfr fr) ≤ _; omega) (by omega) (ls_xf_tick h5 (by omega) (by omega) (by omega) (fun h => by omega)) (ls_fok_ext (ls_ext_em ..) a4), ?_⟩
    simp only [ls_mu_def, ls_sw_0, ls_sw_1, ls_sw_2, ls_sw_3, ls_sw_4, ls_sw_5, ls_sw_6, ls_fw_0, ls_fw_1, ls_fw_2, ls_fw_3, ls_fw_4, ls_fw_5, ls_fw_6, ls_fw_7, ls_fw_8, ls_fw_9, ls_fw_10, ls_fw_11, List.length_nil, List.length_cons]; omega
set_option maxHeartbeats 200000 in
theorem ls_par_ok (hT : ls_txt T n) : ∀ f i p L sg q L' sg', ls_par T f i p L sg = .ok (q, L', sg') → L.length = i → i + f ≤ 3 → (∀ x ∈ L, x < 16) → p + 4 ≤ q ∧ q ≤ n ∧ L'.length ≤ 3 ∧ (∀ x ∈ L', x < 16) := by
  intro f
  induction f with
  | zero => intro i p L sg q L' sg' h; cases h
  | succ f ih =>
    intro i p L sg q L' sg' h hL hi hx
    unfold ls_par at h
    split at h
    · split at h
      · next tn =>
        have L1 : ∀ x ∈ (T (p + 1) - 54) :: L, x < 16 := by
          intro x hx'
          rcases List.mem_cons.mp hx' with rfl | hx'
          · have := tn.1.1; have := tn.1.2; omega
          · exact hx x hx'
        split at h
        · split at h
          · obtain ⟨r1, r2, r3, r4⟩ := ih _ _ _ _ _ _ _ h (by show L.length + 1 = _; omega) (by omega) L1
            exact ⟨by omega, r2, r3, r4⟩
          · cases h
        · split at h
          · split at h
            · next t17 =>
              injection h with h
              injection h with e1 e2
              injection e2 with e2 e3
              subst e1 e2
              have p1 := ls_txt_lt hT (p := p + 3) (by omega)
              exact ⟨by omega, by omega, by show L.length + 1 ≤ 3; omega, L1⟩
            · cases h
          · cases h
      · cases h
    · cases h
set_option maxHeartbeats 200000 in
theorem ls_head_ok (hT : ls_txt T n) {q sg : Nat} {L' : List Nat} (h : ls_head T pos = .ok (q, L', sg)) : pos + 5 ≤ q ∧ q ≤ n ∧ L'.length ≤ 3 ∧ (∀ x ∈ L', x < 16) := by
  unfold ls_head at h
  split at h
  · split at h
    · next t17 =>
      injection h with h
      injection h with e1 e2
      injection e2 with e2 e3
      subst e1 e2
      have p1 := ls_txt_lt hT (p := pos + 4) (by omega)
      exact ⟨by omega, by omega, by simp, by simp⟩
    · cases h
  · obtain ⟨r1, r2, r3, r4⟩ := ls_par_ok hT _ _ _ _ _ _ _ _ h rfl (by omega) (by simp)
    exact ⟨by omega, r2, r3, r4⟩
set_option maxHeartbeats 200000 in
theorem ls_k7 : ∀ t : Fin 8, ∀ s : Nat, s < 2 ^ 20 → nI (s * 8 + t.1) &&& 7 = nI t.1 := by
  intro t s hs
  rw [pk_andN (by omega) 3 (by decide)]
  congr 1
  have := t.2
  omega
set_option maxHeartbeats 200000 in
theorem ls_sg_lt : ∀ f i p L sg q L' sg', ls_par T f i p L sg = .ok (q, L', sg') → i + f ≤ 3 → sg' ≤ sg + f * 20496 := by
  intro f
  induction f with
  | zero => intro i p L sg q L' sg' h; cases h
  | succ f ih =>
    intro i p L sg q L' sg' h hi
    have pw : 2 ^ (6 + 3 * i) ≤ 2 ^ 12 := Nat.pow_le_pow_right (by decide) (by omega)
    have mul : ∀ t, t < 6 → t * 2 ^ (6 + 3 * i) ≤ 20480 := fun t ht => by
      have h5 : t ≤ 5 := by omega
      exact Nat.mul_le_mul h5 pw
    unfold ls_par at h
    split at h
    · next t6 =>
      have m := mul _ t6
      split at h
      · split at h
        · split at h
          · have := ih _ _ _ _ _ _ _ h (by omega)
            omega
          · cases h
        · split at h
          · split at h
            · injection h with h
              injection h with e1 e2
              injection e2 with e2 e3
              subst e3
              omega
            · cases h
          · cases h
      · cases h
    · cases h
set_option maxHeartbeats 200000 in
theorem ls_head_sg (tn : ls_nam (T (pos + 1))) {q sg : Nat} {L' : List Nat} (h : ls_head T pos = .ok (q, L', sg)) : sg < 2 ^ 20 := by
  have := tn.2
  unfold ls_head at h
  split at h
  · split at h
    · injection h with h
      injection h with e1 e2
      injection e2 with e2 e3
      subst e3
      omega
    · cases h
  · have := ls_sg_lt _ _ _ _ _ _ _ _ h (by omega)
    omega
set_option maxHeartbeats 200000 in
theorem ls_inv_r2 (hT : ls_txt T n) (h : ls_Inv T n (2, pos, es, pe, fr, L, k)) (hr : ls_r2 T pos es pe fr L k = .ok c') : ls_Inv T n c' ∧ ls_mu n c' < ls_mu n (2, pos, es, pe, fr, L, k) := by
  obtain ⟨h1, h2, h3, h4, h5, h6, h7⟩ := h
  rw [if_neg (by omega)] at h7
  obtain ⟨a1, a2, a3, a4, a5⟩ := h7
  obtain ⟨t6, a6⟩ := a5 rfl
  subst a3
  unfold ls_r2 at hr
  split at hr
  · next tn =>
    have hnm : T (pos + 1) - 54 < 16 := by have := tn.2; omega
    have p1 := ls_txt_lt hT (p := pos + 1) (by have := tn.2; omega)
    split at hr
    · next q =>
      obtain ⟨q1, t15⟩ := q
      subst q1
      split at hr
      · cases hr
      · next p L1 sg hh =>
        injection hr with hr; subst hr
        obtain ⟨r1, r2, r3, r4⟩ := ls_head_ok hT hh
        have sgl := ls_head_sg tn hh
        refine ⟨⟨r2, by omega, r4, ?_, by show 480 ≤ k.1 + 1 + 1; omega, ls_peok_nil, ?_⟩, ?_⟩
        · show (if (1 : Nat) = 1 then _ else _)
          rw [if_pos rfl]
          refine ⟨rfl, ⟨0, rfl⟩, ?_⟩
          show (if (2 : Nat) = 1 then _ else if (2 : Nat) = 2 then True else _)
          rw [if_neg (by decide), if_pos rfl]; trivial
        · rw [if_neg (by omega)]
          have a1' : k.1 + 0 ≤ 480 + 2 * pos := a1
          refine ⟨by show k.1 + 1 + 1 + (0 + (1 + 0)) ≤ _; omega, by show 2 ≤ p; omega, rfl, ls_fok_1 (ls_fok_2 ⟨by show 480 ≤ k.1 + 1; omega, by show k.1 + 1 < k.1 + 1 + 1; omega⟩ ?_ (by show T pos < 8; omega)), fun h => by omega⟩
          show upd _ (k.1 + 1) (nI (sg * 8 + T pos)) (k.1 + 1) &&& 7 = nI (T pos)
          rw [pk_us]
          exact ls_k7 ⟨T pos, by omega⟩ sg sgl
        · simp only [ls_mu_def, ls_sw_0, ls_sw_1, ls_sw_2, ls_sw_3, ls_sw_4, ls_sw_5, ls_sw_6, ls_fw_0, ls_fw_1, ls_fw_2, ls_fw_3, ls_fw_4, ls_fw_5, ls_fw_6, ls_fw_7, ls_fw_8, ls_fw_9, ls_fw_10, ls_fw_11, List.length_nil, List.length_cons]; omega
    · unfold ls_var at hr
      split at hr
      · dsimp only at hr
        split at hr
        · next t21 =>
          injection hr with hr; subst hr
          have p2 := ls_txt_lt hT (p := pos + 2) (by omega)
          have a1' : k.1 + 0 ≤ 480 + 2 * pos := a1
          refine ⟨ls_inv_x (q := 0) (by omega) h2 h3 h4 (by show 480 ≤ k.1 + 1; omega) (by show k.1 + 1 + (0 + 0) ≤ _; omega) (by show 0 ≤ _; omega) ?_ trivial, ?_⟩
          · exact ⟨by show 6 ≤ 11; decide, by show 11 < 12; decide, h5, Nat.lt_succ_self _, pk_us, by show pos ≤ pos + 3; omega, fun _ => ⟨t6, tn, Nat.le_refl _⟩, fun h => absurd h (by show ¬ (11 : Nat) = 10; decide)⟩
          · simp only [ls_mu_def, ls_sw_0, ls_sw_1, ls_sw_2, ls_sw_3, ls_sw_4, ls_sw_5, ls_sw_6, ls_fw_0, ls_fw_1, ls_fw_2, ls_fw_3, ls_fw_4, ls_fw_5, ls_fw_6, ls_fw_7, ls_fw_8, ls_fw_9, ls_fw_10, ls_fw_11, List.length_nil, List.length_cons]; omega
        · split at hr
          · next t20 =>
            injection hr with hr; subst hr
            have p2 := ls_txt_lt hT (p := pos + 2) (by omega)
            have a1' : k.1 + 0 ≤ 480 + 2 * pos := a1
            refine ⟨⟨by omega, h2, h3, h4, by show 480 ≤ k.1 + 1 + 1; omega, ls_peok_nil, ?_⟩, ?_⟩
            · rw [if_neg (by omega)]
              exact ⟨by show k.1 + 1 + 1 + 0 ≤ _; omega, by show 0 ≤ _; omega, rfl, trivial, fun h => by omega⟩
            · simp only [ls_mu_def, ls_sw_0, ls_sw_1, ls_sw_2, ls_sw_3, ls_sw_4, ls_sw_5, ls_sw_6, ls_fw_0, ls_fw_1, ls_fw_2, ls_fw_3, ls_fw_4, ls_fw_5, ls_fw_6, ls_fw_7, ls_fw_8, ls_fw_9, ls_fw_10, ls_fw_11, List.length_nil, List.length_cons]; omega
          · cases hr
      · next fk mo sp l r hno =>
        split at hr
        · next hL =>
          have f1 : fk = 1 := a6 _ rfl
          subst f1
          have L1 : ∀ x ∈ (T (pos + 1) - 54) :: L, x < 16 := by
            intro x hx
            rcases List.mem_cons.mp hx with rfl | hx
            · exact hnm
            · exact h3 x hx
          obtain ⟨s1, ⟨m, s2⟩, s3⟩ := (show mo = l.length ∧ (∃ m, l = L.drop m) ∧ ls_sco r l from h4)
          have sc : ls_sco ((1, mo, sp, l) :: r) ((T (pos + 1) - 54) :: L) := by
            show (if (1 : Nat) = 1 then _ else _)
            rw [if_pos rfl]
            exact ⟨s1, ⟨m + 1, s2⟩, s3⟩
          have a2' : r.length + 1 ≤ pos := a2
          dsimp only at hr
          split at hr
          · next t21 =>
            injection hr with hr; subst hr
            have p2 := ls_txt_lt hT (p := pos + 2) (by omega)
            refine ⟨ls_inv_x (q := 0) (by omega) (by show L.length + 1 ≤ 8; omega) L1 sc (by show 480 ≤ k.1 + 1; omega) (by show k.1 + 1 + (0 + ls_dfr _) ≤ _; omega) (by show r.length + 1 ≤ _; omega) ?_ (ls_fok_ext (ls_ext_em ..) a4), ?_⟩
            · exact ⟨by show 6 ≤ 11; decide, by show 11 < 12; decide, h5, Nat.lt_succ_self _, pk_us, by show pos ≤ pos + 3; omega, fun _ => ⟨t6, tn, Nat.le_refl _⟩, fun h => absurd h (by show ¬ (11 : Nat) = 10; decide)⟩
            · simp only [ls_mu_def, ls_sw_0, ls_sw_1, ls_sw_2, ls_sw_3, ls_sw_4, ls_sw_5, ls_sw_6, ls_fw_0, ls_fw_1, ls_fw_2, ls_fw_3, ls_fw_4, ls_fw_5, ls_fw_6, ls_fw_7, ls_fw_8, ls_fw_9, ls_fw_10, ls_fw_11, List.length_nil, List.length_cons]; omega
          · split at hr
            · next t20 =>
              injection hr with hr; subst hr
              have p2 := ls_txt_lt hT (p := pos + 2) (by omega)
              refine ⟨⟨by omega, by show L.length + 1 ≤ 8; omega, L1, sc, by show 480 ≤ k.1 + 1; omega, ls_peok_nil, ?_⟩, ?_⟩
              · rw [if_neg (by omega)]
                exact ⟨by show k.1 + 1 + ls_dfr _ ≤ _; omega, by show r.length + 1 ≤ _; omega, rfl, ls_fok_ext (ls_ext_em ..) a4, fun h => by omega⟩
              · simp only [ls_mu_def, ls_sw_0, ls_sw_1, ls_sw_2, ls_sw_3, ls_sw_4, ls_sw_5, ls_sw_6, ls_fw_0, ls_fw_1, ls_fw_2, ls_fw_3, ls_fw_4, ls_fw_5, ls_fw_6, ls_fw_7, ls_fw_8, ls_fw_9, ls_fw_10, ls_fw_11, List.length_nil, List.length_cons]; omega
            · cases hr
        · cases hr
  · cases hr
end
end
section
section
variable {T : Nat → Nat} {V : Nat → Int32} {n : Nat} {pos es : Nat} {pe : List LsP} {fr : List LsF} {L : List Nat} {k : LsK} {c' : LsC}
set_option maxHeartbeats 200000 in
theorem ls_sco_m {f : LsF} (hf : f.1 ≠ 1) : ls_sco (f :: fr) L → f.1 ≠ 2 → ls_sco fr L := fun h h2 => ls_sco_p h hf h2
set_option maxHeartbeats 200000 in
theorem ls_inv_r3 (hT : ls_txt T n) (h : ls_Inv T n (3, pos, es, pe, fr, L, k)) (hr : ls_r3 T pos es pe fr L k = .ok c') : ls_Inv T n c' ∧ ls_mu n c' < ls_mu n (3, pos, es, pe, fr, L, k) := by
  obtain ⟨h1, h2, h3, h4, h5, h6, h7⟩ := h
  rw [if_neg (by omega)] at h7
  obtain ⟨a1, a2, a3, a4, a5⟩ := h7
  subst a3
  unfold ls_r3 at hr
  split at hr
  · injection hr with hr; subst hr
    exact ⟨⟨h1, h2, h3, h4, h5, h6, by rw [if_neg (by omega)]; exact ⟨a1, a2, rfl, a4, fun h => by omega⟩⟩, by simp only [ls_mu_def, ls_sw_0, ls_sw_1, ls_sw_2, ls_sw_3, ls_sw_4, ls_sw_5, ls_sw_6, ls_fw_0, ls_fw_1, ls_fw_2, ls_fw_3, ls_fw_4, ls_fw_5, ls_fw_6, ls_fw_7, ls_fw_8, ls_fw_9, ls_fw_10, ls_fw_11, List.length_nil, List.length_cons]; omega⟩
  · next fk mo sp l r =>
    obtain ⟨⟨f1, f5⟩, f2, f3, f4⟩ := a4
    dsimp only at f1 f5 f2 f3
    have a2' : r.length + 1 ≤ pos := a2
    have a1' : k.1 + ((if fk = 5 ∨ fk = 8 ∨ fk = 2 then 1 else 0) + ls_dfr r) ≤ 480 + 2 * pos := a1
    split at hr
    · next q3 =>
      subst q3
      rw [if_neg (by decide)] at a1'
      have sc := ls_sco_p h4 (by show (3 : Nat) ≠ 1; decide) (by show (3 : Nat) ≠ 2; decide)
      split at hr
      · next t7 =>
        injection hr with hr; subst hr
        have p1 := ls_txt_lt hT (p := pos) (by omega)
        refine ⟨⟨by omega, h2, h3, ls_sco_x sc (by show (4 : Nat) ≠ 1; decide) (by show (4 : Nat) ≠ 2; decide), by show 480 ≤ k.1 + 1; omega, ls_peok_nil, ?_⟩, ?_⟩
        · rw [if_neg (by omega)]
          refine ⟨by show k.1 + 1 + (0 + ls_dfr r) ≤ _; omega, by show r.length + 1 ≤ _; omega, rfl, ls_fok_j (by decide) ⟨h5, Nat.lt_succ_self _⟩ (ls_fok_ext (ls_ext_t (ls_ext_em ..) (ls_ext_aim ..)) f4), fun h => by omega⟩
        · simp only [ls_mu_def, ls_sw_0, ls_sw_1, ls_sw_2, ls_sw_3, ls_sw_4, ls_sw_5, ls_sw_6, ls_fw_0, ls_fw_1, ls_fw_2, ls_fw_3, ls_fw_4, ls_fw_5, ls_fw_6, ls_fw_7, ls_fw_8, ls_fw_9, ls_fw_10, ls_fw_11, List.length_nil, List.length_cons]; omega
      · injection hr with hr; subst hr
        refine ⟨⟨h1, h2, h3, sc, h5, ls_peok_nil, ?_⟩, ?_⟩
        · rw [if_neg (by omega)]
          exact ⟨by show k.1 + ls_dfr r ≤ _; omega, by omega, rfl, ls_fok_ext (ls_ext_aim ..) f4, fun h => by omega⟩
        · simp only [ls_mu_def, ls_sw_0, ls_sw_1, ls_sw_2, ls_sw_3, ls_sw_4, ls_sw_5, ls_sw_6, ls_fw_0, ls_fw_1, ls_fw_2, ls_fw_3, ls_fw_4, ls_fw_5, ls_fw_6, ls_fw_7, ls_fw_8, ls_fw_9, ls_fw_10, ls_fw_11, List.length_nil, List.length_cons]; omega
    split at hr
    · next q4 =>
      subst q4
      rw [if_neg (by decide)] at a1'
      injection hr with hr; subst hr
      refine ⟨⟨h1, h2, h3, ls_sco_p h4 (by show (4 : Nat) ≠ 1; decide) (by show (4 : Nat) ≠ 2; decide), h5, ls_peok_nil, ?_⟩, ?_⟩
      · rw [if_neg (by omega)]
        exact ⟨by show k.1 + ls_dfr r ≤ _; omega, by omega, rfl, ls_fok_ext (ls_ext_aim ..) f4, fun h => by omega⟩
      · simp only [ls_mu_def, ls_sw_0, ls_sw_1, ls_sw_2, ls_sw_3, ls_sw_4, ls_sw_5, ls_sw_6, ls_fw_0, ls_fw_1, ls_fw_2, ls_fw_3, ls_fw_4, ls_fw_5, ls_fw_6, ls_fw_7, ls_fw_8, ls_fw_9, ls_fw_10, ls_fw_11, List.length_nil, List.length_cons]; omega
    split at hr
    · next q5 =>
      subst q5
      rw [if_pos (by decide)] at a1'
      injection hr with hr; subst hr
      refine ⟨⟨h1, h2, h3, ls_sco_p h4 (by show (5 : Nat) ≠ 1; decide) (by show (5 : Nat) ≠ 2; decide), by show 480 ≤ k.1 + 1; omega, ls_peok_nil, ?_⟩, ?_⟩
      · rw [if_neg (by omega)]
        exact ⟨by show k.1 + 1 + ls_dfr r ≤ _; omega, by omega, rfl, ls_fok_ext (ls_ext_t (ls_ext_em ..) (ls_ext_ex ..)) f4, fun h => by omega⟩
      · simp only [ls_mu_def, ls_sw_0, ls_sw_1, ls_sw_2, ls_sw_3, ls_sw_4, ls_sw_5, ls_sw_6, ls_fw_0, ls_fw_1, ls_fw_2, ls_fw_3, ls_fw_4, ls_fw_5, ls_fw_6, ls_fw_7, ls_fw_8, ls_fw_9, ls_fw_10, ls_fw_11, List.length_nil, List.length_cons]; omega
    split at hr
    · next q2 =>
      subst q2
      rw [if_pos (by decide)] at a1'
      injection hr with hr; subst hr
      obtain ⟨r0, _, _⟩ := f3 rfl
      subst r0
      refine ⟨⟨h1, by simp, by simp, rfl, by show 480 ≤ k.1 + 1; omega, ls_peok_nil, ?_⟩, ?_⟩
      · rw [if_neg (by omega)]
        exact ⟨by show k.1 + 1 + ls_dfr [] ≤ _; omega, by show 0 ≤ _; omega, rfl, trivial, fun h => by omega⟩
      · simp only [ls_mu_def, ls_sw_0, ls_sw_1, ls_sw_2, ls_sw_3, ls_sw_4, ls_sw_5, ls_sw_6, ls_fw_0, ls_fw_1, ls_fw_2, ls_fw_3, ls_fw_4, ls_fw_5, ls_fw_6, ls_fw_7, ls_fw_8, ls_fw_9, ls_fw_10, ls_fw_11, List.length_nil, List.length_cons]; omega
    · injection hr with hr; subst hr
      exact ⟨⟨h1, h2, h3, h4, h5, h6, by rw [if_neg (by omega)]; exact ⟨a1, a2, rfl, ⟨⟨f1, f5⟩, f2, f3, f4⟩, fun h => by omega⟩⟩, by simp only [ls_mu_def, ls_sw_0, ls_sw_1, ls_sw_2, ls_sw_3, ls_sw_4, ls_sw_5, ls_sw_6, ls_fw_0, ls_fw_1, ls_fw_2, ls_fw_3, ls_fw_4, ls_fw_5, ls_fw_6, ls_fw_7, ls_fw_8, ls_fw_9, ls_fw_10, ls_fw_11, List.length_nil, List.length_cons]; omega⟩
set_option maxHeartbeats 200000 in
theorem ls_inv_r4 (hT : ls_txt T n) (h : ls_Inv T n (4, pos, es, pe, fr, L, k)) (hr : ls_r4 T V pos es pe fr L k = .ok c') : ls_Inv T n c' ∧ ls_mu n c' < ls_mu n (4, pos, es, pe, fr, L, k) := by
  obtain ⟨h1, h2, h3, h4, h5, h6, h7⟩ := h
  rw [if_pos (Or.inl rfl), if_pos rfl] at h7
  obtain ⟨a1, a2, a3, a4, f, r, a5, a6, a7⟩ := h7
  have n140 := hT.1
  -- an operand
  have opd : ∀ (j : Nat) (o a d p : Int32), 1 ≤ j → pos + j ≤ n → ls_Inv T n (5, pos + j, es, pe, fr, L, ls_em k o a d p) ∧ ls_mu n (5, pos + j, es, pe, fr, L, ls_em k o a d p) < ls_mu n (4, pos, es, pe, fr, L, k) := by
    intro j o a d p j1 jn
    refine ⟨⟨jn, h2, h3, h4, by show 480 ≤ k.1 + 1; omega, ls_peok_ext (Nat.le_succ _) (by omega) h6, ?_⟩, by simp only [ls_mu_def, ls_sw_0, ls_sw_1, ls_sw_2, ls_sw_3, ls_sw_4, ls_sw_5, ls_sw_6, ls_fw_0, ls_fw_1, ls_fw_2, ls_fw_3, ls_fw_4, ls_fw_5, ls_fw_6, ls_fw_7, ls_fw_8, ls_fw_9, ls_fw_10, ls_fw_11, List.length_nil, List.length_cons]; omega⟩
    rw [if_pos (Or.inr rfl), if_neg (by decide)]
    exact ⟨by show k.1 + 1 + _ + _ ≤ _; omega, by omega, by omega, by omega, f, r, a5, ls_xf_ext (ls_ext_em ..) (by omega) a6, ls_fok_ext (ls_ext_em ..) a7⟩
  -- a pending part
  have pen : ∀ (j : Nat) (e : LsP) (k' : LsK), 1 ≤ j → pos + j ≤ n → ls_ext k k' → (k'.1 + ls_dpe T [e] ≤ k.1 + 2 * j) → (e.1 < 14 ∧ e.2.1 < pos + j ∧ e.2.2 < 761 ∧ (e.1 = 0 → ls_nam (T e.2.1) ∧ e.2.2 ≤ 3) ∧ (e.1 = 2 → ls_asg (T e.2.1)) ∧ (e.1 = 13 → T e.2.1 = 15 ∨ (22 ≤ T e.2.1 ∧ T e.2.1 ≤ 25)) ∧ (2 < e.1 → e.1 ≠ 13 → ls_lv (T e.2.1) = e.1) ∧ (e.1 ≠ 13 → e.1 ≠ 2 → (T e.2.1 = 41 ∨ T e.2.1 = 42) → 480 ≤ e.2.2 ∧ e.2.2 < k'.1)) → ls_Inv T n (4, pos + j, es, e :: pe, fr, L, k') ∧ ls_mu n (4, pos + j, es, e :: pe, fr, L, k') < ls_mu n (4, pos, es, pe, fr, L, k) := by
    intro j e k' j1 jn hx hd he
    refine ⟨⟨jn, h2, h3, h4, Nat.le_trans h5 hx.1, ls_peok_cons (ls_peok_ext hx.1 (by omega) h6) he, ?_⟩, by simp only [ls_mu_def, ls_sw_0, ls_sw_1, ls_sw_2, ls_sw_3, ls_sw_4, ls_sw_5, ls_sw_6, ls_fw_0, ls_fw_1, ls_fw_2, ls_fw_3, ls_fw_4, ls_fw_5, ls_fw_6, ls_fw_7, ls_fw_8, ls_fw_9, ls_fw_10, ls_fw_11, List.length_nil, List.length_cons]; omega⟩
    rw [if_pos (Or.inl rfl), if_pos rfl]
    have hd' : k'.1 + (ls_dpe T [e]) ≤ k.1 + 2 * j := hd
    have e1 : ls_dpe T (e :: pe) = ls_dpe T [e] + ls_dpe T pe := by simp [ls_dpe]
    exact ⟨by rw [e1]; omega, by omega, by show pe.length + 1 + es ≤ _; omega, by omega, f, r, a5, ls_xf_ext hx (by omega) a6, ls_fok_ext hx a7⟩
  unfold ls_r4 at hr
  split at hr
  · next tn =>
    have tn1 := tn.1
    have tn2 := tn.2
    have p0 := ls_txt_lt hT (p := pos) (by omega)
    have hnm : T pos - 54 < 16 := by omega
    have ha := ls_addr_lt (L := L) hnm h2
    dsimp only at hr
    split at hr
    · next t15 =>
      have p1 := ls_txt_lt hT (p := pos + 1) (by omega)
      split at hr
      · next t16 =>
        injection hr with hr; subst hr
        exact opd 3 _ _ _ _ (by omega) (ls_txt_lt hT (p := pos + 2) (by omega))
      · injection hr with hr; subst hr
        exact pen 2 _ k (by omega) (by omega) (ls_ext_r k) (by simp [ls_dpe]) ⟨by show 0 < 14; omega, by show pos < _; omega, by show 1 < 761; omega, fun _ => ⟨tn, by show 1 ≤ 3; omega⟩, fun h => absurd h (by show (0 : Nat) ≠ 2; decide), fun h => absurd h (by show (0 : Nat) ≠ 13; decide), fun h => absurd h (by show ¬ 2 < 0; decide), fun _ _ h => by dsimp only at h; omega⟩
    · split at hr
      · next st =>
        obtain ⟨_, ta⟩ := st
        have p1 := ls_txt_lt hT (p := pos + 1) (by unfold ls_asg at ta; omega)
        split at hr
        · next t21 =>
          injection hr with hr; subst hr
          exact pen 2 _ k (by omega) (by omega) (ls_ext_r k) (by simp [ls_dpe, t21]) ⟨by show 2 < 14; omega, by show pos + 1 < _; omega, by show ls_addr L (T pos - 54) < 761; omega, fun h => absurd h (by show (2 : Nat) ≠ 0; decide), fun _ => ta, fun h => absurd h (by show (2 : Nat) ≠ 13; decide), fun h => absurd h (by show ¬ 2 < 2; decide), fun _ h => absurd rfl h⟩
        · next t21 =>
          injection hr with hr; subst hr
          exact pen 2 _ _ (by omega) (by omega) (ls_ext_em ..) (by simp [ls_dpe, t21, ls_em]) ⟨by show 2 < 14; omega, by show pos + 1 < _; omega, by show ls_addr L (T pos - 54) < 761; omega, fun h => absurd h (by show (2 : Nat) ≠ 0; decide), fun _ => ta, fun h => absurd h (by show (2 : Nat) ≠ 13; decide), fun h => absurd h (by show ¬ 2 < 2; decide), fun _ h => absurd rfl h⟩
      · injection hr with hr; subst hr
        exact opd 1 _ _ _ _ (by omega) (by omega)
  split at hr
  · next t =>
    injection hr with hr; subst hr
    exact opd 1 _ _ _ _ (by omega) (ls_txt_lt hT (p := pos) (by omega))
  split at hr
  · next t =>
    injection hr with hr; subst hr
    exact opd 1 _ _ _ _ (by omega) (ls_txt_lt hT (p := pos) (by omega))
  split at hr
  · next t =>
    injection hr with hr; subst hr
    exact opd 1 _ _ _ _ (by omega) (ls_txt_lt hT (p := pos) (by omega))
  split at hr
  · next t =>
    injection hr with hr; subst hr
    exact opd 1 _ _ _ _ (by omega) (ls_txt_lt hT (p := pos) (by omega))
  split at hr
  · next t15 =>
    have p0 := ls_txt_lt hT (p := pos) (by omega)
    split at hr
    · next k5 =>
      split at hr
      · next t16 =>
        injection hr with hr; subst hr
        have p2 := ls_txt_lt hT (p := pos + 2) (by omega)
        exact pen 3 _ k (by omega) (by omega) (ls_ext_r k) (by simp [ls_dpe]) ⟨by show 13 < 14; omega, by show pos < _; omega, by show T (pos + 1) < 761; omega, fun h => absurd h (by show (13 : Nat) ≠ 0; decide), fun h => absurd h (by show (13 : Nat) ≠ 2; decide), fun _ => Or.inl t15, fun _ h => absurd rfl h, fun h => absurd rfl h⟩
      · cases hr
    · split at hr
      · cases hr
      · injection hr with hr; subst hr
        exact pen 1 _ k (by omega) (by omega) (ls_ext_r k) (by simp [ls_dpe]) ⟨by show 1 < 14; omega, by show pos < _; omega, by show 0 < 761; omega, fun h => absurd h (by show (1 : Nat) ≠ 0; decide), fun h => absurd h (by show (1 : Nat) ≠ 2; decide), fun h => absurd h (by show (1 : Nat) ≠ 13; decide), fun h => absurd h (by show ¬ 2 < 1; decide), fun _ _ h => by dsimp only at h; omega⟩
  split at hr
  · next tu =>
    injection hr with hr; subst hr
    have p0 := ls_txt_lt hT (p := pos) (by omega)
    exact pen 1 _ k (by omega) (by omega) (ls_ext_r k) (by simp [ls_dpe]) ⟨by show 13 < 14; omega, by show pos < _; omega, by show 0 < 761; omega, fun h => absurd h (by show (13 : Nat) ≠ 0; decide), fun h => absurd h (by show (13 : Nat) ≠ 2; decide), fun _ => Or.inr tu, fun _ h => absurd rfl h, fun h => absurd rfl h⟩
  · cases hr
set_option maxHeartbeats 200000 in
theorem ls_red_ext {lv pl mo : Nat} : ls_ext k (ls_red T pos lv pl mo k) := by
  unfold ls_red
  repeat' split
  · exact ls_ext_em ..
  · exact ls_ext_t (ls_ext_em ..) (ls_ext_em ..)
  · exact ls_ext_em ..
  · exact ls_ext_em ..
  · exact ls_ext_t (ls_ext_em ..) (ls_ext_aim ..)
  · exact ls_ext_em ..
set_option maxHeartbeats 200000 in
theorem ls_red_cs {lv pl mo : Nat} : (ls_red T pos lv pl mo k).1 = k.1 + (if lv = 2 then (if T pl = 21 then 1 else 2) else 1) := by
  unfold ls_red
  by_cases h2 : lv = 2
  · rw [if_pos h2, if_pos h2]
    split <;> rfl
  · rw [if_neg h2, if_neg h2]
    repeat' split
    all_goals rfl
set_option maxHeartbeats 200000 in
theorem ls_inv_end (hT : ls_txt T n) (h : ls_Inv T n (5, pos, es, [], fr, L, k)) (hr : ls_end T pos es fr L k = .ok c') : ls_Inv T n c' ∧ ls_mu n c' < ls_mu n (5, pos, es, [], fr, L, k) := by
  obtain ⟨h1, h2, h3, h4, h5, h6, h7⟩ := h
  rw [if_pos (Or.inr rfl), if_neg (by decide)] at h7
  obtain ⟨a1, a2, a3, a4, f, r, a5, a6, a7⟩ := h7
  subst a5
  obtain ⟨fk, mo, sp, l⟩ := f
  obtain ⟨g1, g2, g3, g4, g5, g6, g7, g8⟩ := a6
  dsimp only at g1 g2 g3 g4 g5 g6 g7 g8
  have sc := ls_sco_p h4 (by show fk ≠ 1; omega) (by show fk ≠ 2; omega)
  have a4' : r.length + 1 ≤ pos + 1 := a4
  have a1' : k.1 + 0 + ((if fk = 5 ∨ fk = 8 ∨ fk = 2 then 1 else 0) + ls_dfr r) ≤ 480 + 2 * pos + 0 := a1
  unfold ls_end at hr
  split at hr
  · cases hr
  dsimp only at hr
  have cnd : ∀ fk' mo', (fk' = 3 ∧ mo' = k.1 ∨ fk' = 5 ∧ mo' = mo ∧ fk = 8) → pos < n → ls_Inv T n (0, pos + 1, es, [], (fk', mo', sp, []) :: r, L, ls_em k 15 0 0 (nI sp)) ∧ ls_mu n (0, pos + 1, es, [], (fk', mo', sp, []) :: r, L, ls_em k 15 0 0 (nI sp)) < ls_mu n (5, pos, es, [], (fk, mo, sp, l) :: r, L, k) := by
    intro fk' mo' hf pn
    refine ⟨⟨by omega, h2, h3, ls_sco_x sc (by show fk' ≠ 1; omega) (by show fk' ≠ 2; omega), by show 480 ≤ k.1 + 1; omega, ls_peok_nil, ?_⟩, ?_⟩
    · rw [if_neg (by omega)]
      refine ⟨?_, by show r.length + 1 ≤ _; omega, rfl, ⟨⟨by show 1 ≤ fk'; omega, by show fk' ≤ 5; omega⟩, fun _ => ⟨by show 480 ≤ mo'; omega, by show mo' < k.1 + 1; omega⟩, fun h => by have : fk' = 2 := h; omega, ls_fok_ext (ls_ext_em ..) a7⟩, fun h => by omega⟩
      show k.1 + 1 + ((if fk' = 5 ∨ fk' = 8 ∨ fk' = 2 then 1 else 0) + ls_dfr r) ≤ _
      split <;> omega
    · simp only [ls_mu_def, ls_sw_0, ls_sw_1, ls_sw_2, ls_sw_3, ls_sw_4, ls_sw_5, ls_sw_6, ls_fw_0, ls_fw_1, ls_fw_2, ls_fw_3, ls_fw_4, ls_fw_5, ls_fw_6, ls_fw_7, ls_fw_8, ls_fw_9, ls_fw_10, ls_fw_11, List.length_nil, List.length_cons]; rw [ls_fw_x (show fk' ≠ 1 by omega), ls_fw_x (show fk ≠ 1 by omega)]; omega
  have fin : ∀ (j : Nat) (o a d p : Int32), 1 ≤ j → pos + j ≤ n → ls_Inv T n (3, pos + j, es, [], r, L, ls_em k o a d p) ∧ ls_mu n (3, pos + j, es, [], r, L, ls_em k o a d p) < ls_mu n (5, pos, es, [], (fk, mo, sp, l) :: r, L, k) := by
    intro j o a d p j1 jn
    refine ⟨⟨jn, h2, h3, sc, by show 480 ≤ k.1 + 1; omega, ls_peok_nil, ?_⟩, ?_⟩
    · rw [if_neg (by omega)]
      exact ⟨by show k.1 + 1 + ls_dfr r ≤ _; omega, by omega, rfl, ls_fok_ext (ls_ext_em ..) a7, fun h => by omega⟩
    · simp only [ls_mu_def, ls_sw_0, ls_sw_1, ls_sw_2, ls_sw_3, ls_sw_4, ls_sw_5, ls_sw_6, ls_fw_0, ls_fw_1, ls_fw_2, ls_fw_3, ls_fw_4, ls_fw_5, ls_fw_6, ls_fw_7, ls_fw_8, ls_fw_9, ls_fw_10, ls_fw_11, List.length_nil, List.length_cons]; rw [ls_fw_x (show fk ≠ 1 by omega)]; omega
  split at hr
  · split at hr
    · next q t =>
      injection hr with hr; subst hr
      exact cnd 3 k.1 (Or.inl ⟨rfl, rfl⟩) (ls_txt_lt hT (p := pos) (by omega))
    · cases hr
  split at hr
  · next q =>
    split at hr
    · next t =>
      injection hr with hr; subst hr
      exact cnd 5 mo (Or.inr ⟨rfl, rfl, q⟩) (ls_txt_lt hT (p := pos) (by omega))
    · cases hr
  split at hr
  · split at hr
    · split at hr
      · next t =>
        injection hr with hr; subst hr
        exact fin 2 _ _ _ _ (by omega) (ls_txt_lt hT (p := pos + 1) (by omega))
      · cases hr
    · cases hr
  split at hr
  · next t =>
    have pn := ls_txt_lt hT (p := pos) (by omega)
    repeat' split at hr
    all_goals (injection hr with hr; subst hr; exact fin 1 _ _ _ _ (by omega) (by omega))
  · cases hr
set_option maxHeartbeats 200000 in
theorem ls_inv_r5 (hT : ls_txt T n) (h : ls_Inv T n (5, pos, es, pe, fr, L, k)) (hr : ls_r5 T pos es pe fr L k = .ok c') : ls_Inv T n c' ∧ ls_mu n c' < ls_mu n (5, pos, es, pe, fr, L, k) := by
  have h' := h
  obtain ⟨h1, h2, h3, h4, h5, h6, h7⟩ := h
  rw [if_pos (Or.inr rfl), if_neg (by decide)] at h7
  obtain ⟨a1, a2, a3, a4, f, r, a5, a6, a7⟩ := h7
  have n140 := hT.1
  have bin : 2 < ls_lv (T pos) → ls_Inv T n (4, pos + 1, es, (ls_lv (T pos), pos, k.1) :: pe, fr, L, if T pos = 41 ∨ T pos = 42 then ls_em k 7 0 (nI (T pos - 41)) (nI pos) else k) ∧ ls_mu n (4, pos + 1, es, (ls_lv (T pos), pos, k.1) :: pe, fr, L, if T pos = 41 ∨ T pos = 42 then ls_em k 7 0 (nI (T pos - 41)) (nI pos) else k) < ls_mu n (5, pos, es, pe, fr, L, k) := by
    intro hl
    have tin := ls_lv_in hl
    have pn := ls_txt_lt hT (p := pos) (by omega)
    have l13 : ls_lv (T pos) < 13 := by have := ls_lv_c (T pos); omega
    have hx : ls_ext k (if T pos = 41 ∨ T pos = 42 then ls_em k 7 0 (nI (T pos - 41)) (nI pos) else k) := by
      split
      · exact ls_ext_em ..
      · exact ls_ext_r k
    have hc : (if T pos = 41 ∨ T pos = 42 then ls_em k 7 0 (nI (T pos - 41)) (nI pos) else k).1 ≤ k.1 + 1 := by
      split
      · exact Nat.le_refl _
      · omega
    have hc2 : (T pos = 41 ∨ T pos = 42) → (if T pos = 41 ∨ T pos = 42 then ls_em k 7 0 (nI (T pos - 41)) (nI pos) else k).1 = k.1 + 1 := fun h => by rw [if_pos h]; rfl
    refine ⟨⟨by omega, h2, h3, h4, Nat.le_trans h5 hx.1, ls_peok_cons (ls_peok_ext hx.1 (by omega) h6) ⟨by show ls_lv (T pos) < 14; omega, by show pos < pos + 1; omega, by show k.1 < 761; omega, fun h => by have : ls_lv (T pos) = 0 := h; omega, fun h => by have : ls_lv (T pos) = 2 := h; omega, fun h => by have : ls_lv (T pos) = 13 := h; omega, fun _ _ => rfl, fun _ _ h => ⟨h5, by have := hc2 h; show k.1 < _; omega⟩⟩, ?_⟩, ?_⟩
    · rw [if_pos (Or.inl rfl), if_pos rfl]
      have e1 : ls_dpe T ((ls_lv (T pos), pos, k.1) :: pe) = 1 + ls_dpe T pe := by
        show (if ls_lv (T pos) = 2 then _ else if ls_lv (T pos) = 1 then 0 else 1) + _ = _
        rw [if_neg (by omega), if_neg (by omega)]
      exact ⟨by rw [e1]; omega, by omega, by show pe.length + 1 + es ≤ _; omega, by omega, f, r, a5, ls_xf_ext hx (by omega) a6, ls_fok_ext hx a7⟩
    · simp only [ls_mu_def, ls_sw_0, ls_sw_1, ls_sw_2, ls_sw_3, ls_sw_4, ls_sw_5, ls_sw_6, ls_fw_0, ls_fw_1, ls_fw_2, ls_fw_3, ls_fw_4, ls_fw_5, ls_fw_6, ls_fw_7, ls_fw_8, ls_fw_9, ls_fw_10, ls_fw_11, List.length_nil, List.length_cons]; omega
  unfold ls_r5 at hr
  dsimp only at hr
  split at hr
  · split at hr
    · next hl =>
      injection hr with hr; subst hr
      exact bin hl
    · exact ls_inv_end hT h' hr
  · next lv pl mo r2 =>
    obtain ⟨p1, p2, p3, p4, p5, p6, p7, p8⟩ := h6 _ (List.mem_cons_self ..)
    dsimp only at p1 p2 p3 p4 p5 p6 p7 p8
    have a3' : r2.length + 1 + es ≤ pos := a3
    have d0 : ls_dpe T ((lv, pl, mo) :: r2) = (if lv = 2 then (if T pl = 21 then 1 else 2) else if lv = 1 then 0 else 1) + ls_dpe T r2 := rfl
    rw [d0] at a1
    split at hr
    · next hle =>
      injection hr with hr; subst hr
      have l2 : 2 ≤ ls_lv (T pos) := by have := ls_lv_c (T pos); omega
      refine ⟨⟨h1, h2, h3, h4, Nat.le_trans h5 ls_red_ext.1, ls_peok_ext ls_red_ext.1 (Nat.le_refl _) (ls_peok_tl h6), ?_⟩, ?_⟩
      · rw [if_pos (Or.inr rfl), if_neg (by decide)]
        refine ⟨?_, a2, by omega, a4, f, r, a5, ls_xf_ext ls_red_ext (Nat.le_refl _) a6, ls_fok_ext ls_red_ext a7⟩
        rw [ls_red_cs]
        rw [if_neg (show ¬ lv = 1 by omega)] at a1
        omega
      · simp only [ls_mu_def, ls_sw_0, ls_sw_1, ls_sw_2, ls_sw_3, ls_sw_4, ls_sw_5, ls_sw_6, ls_fw_0, ls_fw_1, ls_fw_2, ls_fw_3, ls_fw_4, ls_fw_5, ls_fw_6, ls_fw_7, ls_fw_8, ls_fw_9, ls_fw_10, ls_fw_11, List.length_nil, List.length_cons]; omega
    split at hr
    · next hl =>
      injection hr with hr; subst hr
      exact bin hl
    split at hr
    · next t16 =>
      have pn := ls_txt_lt hT (p := pos) (by omega)
      split at hr
      · next q0 =>
        subst q0
        injection hr with hr; subst hr
        simp at a1
        refine ⟨⟨by omega, h2, h3, h4, by show 480 ≤ k.1 + 1; omega, ls_peok_ext (Nat.le_succ _) (by omega) (ls_peok_tl h6), ?_⟩, by simp only [ls_mu_def, ls_sw_0, ls_sw_1, ls_sw_2, ls_sw_3, ls_sw_4, ls_sw_5, ls_sw_6, ls_fw_0, ls_fw_1, ls_fw_2, ls_fw_3, ls_fw_4, ls_fw_5, ls_fw_6, ls_fw_7, ls_fw_8, ls_fw_9, ls_fw_10, ls_fw_11, List.length_nil, List.length_cons]; omega⟩
        rw [if_pos (Or.inr rfl), if_neg (by decide)]
        exact ⟨by show k.1 + 1 + _ + _ ≤ _; omega, by omega, by omega, by omega, f, r, a5, ls_xf_ext (ls_ext_em ..) (by omega) a6, ls_fok_ext (ls_ext_em ..) a7⟩
      · injection hr with hr; subst hr
        refine ⟨⟨by omega, h2, h3, h4, h5, ls_peok_ext (Nat.le_refl _) (by omega) (ls_peok_tl h6), ?_⟩, by simp only [ls_mu_def, ls_sw_0, ls_sw_1, ls_sw_2, ls_sw_3, ls_sw_4, ls_sw_5, ls_sw_6, ls_fw_0, ls_fw_1, ls_fw_2, ls_fw_3, ls_fw_4, ls_fw_5, ls_fw_6, ls_fw_7, ls_fw_8, ls_fw_9, ls_fw_10, ls_fw_11, List.length_nil, List.length_cons]; omega⟩
        rw [if_pos (Or.inr rfl), if_neg (by decide)]
        exact ⟨by omega, by omega, by omega, by omega, f, r, a5, ls_xf_ext (ls_ext_r _) (by omega) a6, a7⟩
    split at hr
    · next t19 =>
      obtain ⟨t19, q0⟩ := t19
      subst q0
      have pn := ls_txt_lt hT (p := pos) (by omega)
      split at hr
      · next m3 =>
        injection hr with hr; subst hr
        refine ⟨⟨by omega, h2, h3, h4, h5, ls_peok_cons (ls_peok_ext (Nat.le_refl _) (by omega) (ls_peok_tl h6)) ⟨p1, by show pl < pos + 1; omega, by show mo + 1 < 761; omega, fun _ => ⟨(p4 rfl).1, by show mo + 1 ≤ 3; omega⟩, fun h => absurd h (by show (0 : Nat) ≠ 2; decide), fun h => absurd h (by show (0 : Nat) ≠ 13; decide), fun h => absurd h (by show ¬ 2 < 0; decide), fun _ _ h => by have := (p4 rfl).1.1; dsimp only at h; omega⟩, ?_⟩, by simp only [ls_mu_def, ls_sw_0, ls_sw_1, ls_sw_2, ls_sw_3, ls_sw_4, ls_sw_5, ls_sw_6, ls_fw_0, ls_fw_1, ls_fw_2, ls_fw_3, ls_fw_4, ls_fw_5, ls_fw_6, ls_fw_7, ls_fw_8, ls_fw_9, ls_fw_10, ls_fw_11, List.length_nil, List.length_cons]; omega⟩
        rw [if_pos (Or.inl rfl), if_pos rfl]
        have e1 : ls_dpe T ((0, pl, mo + 1) :: r2) = 1 + ls_dpe T r2 := rfl
        simp at a1
        exact ⟨by rw [e1]; omega, by omega, by show r2.length + 1 + es ≤ _; omega, by omega, f, r, a5, ls_xf_ext (ls_ext_r _) (by omega) a6, a7⟩
      · cases hr
    · cases hr
end
end
section
/-! The reading as a whole: the pure run, and the component's loop against it -/
def ls_run (T : Nat → Nat) (V : Nat → Int32) : Nat → LsC → Except Nat LsC
  | 0, c => .ok c
  | m + 1, c => if c.1 = 6 then .ok c else match ls_rs T V c with
    | .error e => .error e
    | .ok c' => ls_run T V m c'
set_option maxHeartbeats 200000 in
theorem ls_tok_txt {T V n tc tv} (h : ls_tok T V n tc tv) : ls_txt T n := ⟨h.1, fun p hp => (h.2.1 p hp).1, h.2.2⟩
section
variable {T : Nat → Nat} {V : Nat → Int32} {n : Nat} {pos es : Nat} {pe : List LsP} {fr : List LsF} {L : List Nat} {k : LsK} {c c' : LsC}
set_option maxHeartbeats 200000 in
theorem ls_st6_0 (hr : ls_r0 T pos es pe fr L k = .ok c') : c'.1 ≤ 6 := by
  unfold ls_r0 at hr
  repeat' split at hr
  all_goals (injection hr with hr; subst hr; dsimp only; omega)
set_option maxHeartbeats 200000 in
theorem ls_st6_1 (hr : ls_r1 T pos es pe fr L k = .ok c') : c'.1 ≤ 6 := by
  unfold ls_r1 ls_hdr at hr
  dsimp only at hr
  repeat' split at hr
  all_goals first | cases hr; done | (injection hr with hr; subst hr; dsimp only; omega)
set_option maxHeartbeats 200000 in
theorem ls_st6_2 (hr : ls_r2 T pos es pe fr L k = .ok c') : c'.1 ≤ 6 := by
  unfold ls_r2 ls_var at hr
  dsimp only at hr
  repeat' split at hr
  all_goals first | cases hr; done | (injection hr with hr; subst hr; dsimp only; omega)
set_option maxHeartbeats 200000 in
theorem ls_st6_3 (hr : ls_r3 T pos es pe fr L k = .ok c') : c'.1 ≤ 6 := by
  unfold ls_r3 at hr
  repeat' split at hr
  all_goals (injection hr with hr; subst hr; dsimp only; omega)
set_option maxHeartbeats 2000000 in
theorem ls_st6_4 (hr : ls_r4 T V pos es pe fr L k = .ok c') : c'.1 ≤ 6 := by
  unfold ls_r4 ls_flt at hr
  dsimp only at hr
  split at hr
  · repeat' split at hr
    all_goals (injection hr with hr; subst hr; dsimp only; omega)
  split at hr
  · injection hr with hr; subst hr; dsimp only; omega
  split at hr
  · injection hr with hr; subst hr; dsimp only; omega
  split at hr
  · injection hr with hr; subst hr; dsimp only; omega
  split at hr
  · injection hr with hr; subst hr; dsimp only; omega
  split at hr
  · repeat' split at hr
    all_goals first | cases hr; done | (injection hr with hr; subst hr; dsimp only; omega)
  split at hr
  · injection hr with hr; subst hr; dsimp only; omega
  · cases hr
set_option maxHeartbeats 2000000 in
theorem ls_st6_e (hr : ls_end T pos es fr L k = .ok c') : c'.1 ≤ 6 := by
  unfold ls_end at hr
  repeat' split at hr
  all_goals first | cases hr; done | (injection hr with hr; subst hr; dsimp only; omega)
set_option maxHeartbeats 2000000 in
theorem ls_st6_5 (hr : ls_r5 T pos es pe fr L k = .ok c') : c'.1 ≤ 6 := by
  unfold ls_r5 at hr
  dsimp only at hr
  split at hr
  · split at hr
    · injection hr with hr; subst hr; dsimp only; omega
    · exact ls_st6_e hr
  split at hr
  · injection hr with hr; subst hr; dsimp only; omega
  split at hr
  · injection hr with hr; subst hr; dsimp only; omega
  split at hr
  · split at hr
    · injection hr with hr; subst hr; dsimp only; omega
    · injection hr with hr; subst hr; dsimp only; omega
  unfold ls_flt at hr
  repeat' split at hr
  all_goals first | cases hr; done | (injection hr with hr; subst hr; dsimp only; omega)
set_option maxHeartbeats 200000 in
theorem ls_st6 (hr : ls_rs T V c = .ok c') : c'.1 ≤ 6 := by
  obtain ⟨st, pos, es, pe, fr, L, k⟩ := c
  unfold ls_rs at hr
  dsimp only at hr
  split at hr
  · exact ls_st6_0 hr
  split at hr
  · exact ls_st6_1 hr
  split at hr
  · exact ls_st6_2 hr
  split at hr
  · exact ls_st6_3 hr
  split at hr
  · exact ls_st6_4 hr
  · exact ls_st6_5 hr
set_option maxHeartbeats 200000 in
theorem ls_inv_rs (hT : ls_txt T n) (h6 : c.1 < 6) (h : ls_Inv T n c) (hr : ls_rs T V c = .ok c') : ls_Inv T n c' ∧ ls_mu n c' < ls_mu n c := by
  obtain ⟨st, pos, es, pe, fr, L, k⟩ := c
  unfold ls_rs at hr
  dsimp only at hr h6
  split at hr
  · next q => subst q; exact ls_inv_r0 hT h hr
  split at hr
  · next q => subst q; exact ls_inv_r1 hT h hr
  split at hr
  · next q => subst q; exact ls_inv_r2 hT h hr
  split at hr
  · next q => subst q; exact ls_inv_r3 hT h hr
  split at hr
  · next q => subst q; exact ls_inv_r4 hT h hr
  · have q : st = 5 := by omega
    subst q; exact ls_inv_r5 hT h hr
set_option maxHeartbeats 200000 in
theorem ls_mu0 (h6 : c.1 ≤ 6) (h : ls_Inv T n c) (hm : ls_mu n c = 0) : c.1 = 6 := by
  obtain ⟨st, pos, es, pe, fr, L, k⟩ := c
  obtain ⟨h1, h2, h3, h4, h5, hp, h7⟩ := h
  dsimp only at h6
  by_cases q : st = 4 ∨ st = 5
  · rw [if_pos q] at h7
    obtain ⟨a1, a2, a3, a4, f, r, a5, a6, a7⟩ := h7
    subst a5
    simp only [ls_mu, ls_fw] at hm
    rw [if_neg (show ¬ f.1 = 1 by have := a6.1; omega)] at hm
    omega
  · simp only [ls_mu, ls_sw] at hm
    show st = 6
    repeat' split at hm
    all_goals omega
set_option maxHeartbeats 200000 in
theorem ls_fok_all {g : LsF} : ∀ {fr : List LsF}, ls_fok k fr → g ∈ fr → (1 ≤ g.1 ∧ g.1 ≤ 5) ∧ (2 ≤ g.1 → 480 ≤ g.2.1 ∧ g.2.1 < k.1) ∧ (g.1 = 2 → k.2.2.2.1 g.2.1 &&& 7 = nI (g.2.2.2.headD 0) ∧ g.2.2.2.headD 0 < 8)
  | [], _, h => absurd h (by simp)
  | f :: r, ⟨h1, h2, h3, h4⟩, h => by
    rcases List.mem_cons.mp h with rfl | h
    · exact ⟨h1, h2, fun q => (h3 q).2⟩
    · exact ls_fok_all h4 h
end
section
variable {T : Nat → Nat} {V : Nat → Int32} {n : Nat} {u0 u : SX} {post : SX → Prop} {c : LsC}
set_option maxHeartbeats 200000 in
/-- one step of the component's reading -/
theorem rx_step (h : ls_XR T V n u0 c u) (hI : ls_Inv T n c) (hp : ls_out T V n u0 (ls_rs T V c) post) : match c with
    | (st, _) => (st = 0 → wpX_begin post u) ∧ (st = 1 → wpX_beginStatement post u) ∧ (st = 2 → wpX_beginDeclaration post u) ∧ (st = 3 → wpX_finish post u) ∧ (st = 4 → wpX_readOperand post u) ∧ (st = 5 → wpX_readOperator post u) := by
  obtain ⟨st, pos, es, pe, fr, L, k⟩ := c
  have n140 : n ≤ 140 := by
    obtain ⟨f_tickLimit, f_tokenCount, f_outCount, f_error, f_errorPlace, f_lastKind, f_lastValue, f_codeSize, f_methodCount, f_methodTokens, f_cellCount, f_activeCalls, f_next, f_ticksLeft, f_state, f_pos, f_expressionStart, f_pendingCount, f_frameTop, f_localCount, a_tokenCode, a_tokenValue, a_outKind, a_outValue, a_codeOp, a_codeArg, a_codeKind, a_codePlace, a_methodSign, a_methodStart, a_declared, a_cellKind, a_cellValue, a_callReturn, a_pendingLevel, a_pendingPlace, a_pendingMore, a_frameKind, a_frameMore, a_localName⟩ := u
    obtain ⟨_, _, _, ht, _⟩ := h
    exact ht.1
  have hTT : ls_txt T n := by
    obtain ⟨f_tickLimit, f_tokenCount, f_outCount, f_error, f_errorPlace, f_lastKind, f_lastValue, f_codeSize, f_methodCount, f_methodTokens, f_cellCount, f_activeCalls, f_next, f_ticksLeft, f_state, f_pos, f_expressionStart, f_pendingCount, f_frameTop, f_localCount, a_tokenCode, a_tokenValue, a_outKind, a_outValue, a_codeOp, a_codeArg, a_codeKind, a_codePlace, a_methodSign, a_methodStart, a_declared, a_cellKind, a_cellValue, a_callReturn, a_pendingLevel, a_pendingPlace, a_pendingMore, a_frameKind, a_frameMore, a_localName⟩ := u
    obtain ⟨_, _, _, ht, _⟩ := h
    exact ls_tok_txt ht
  obtain ⟨h1, h2, h3, h4, h5, h6, h7⟩ := hI
  unfold ls_rs at hp
  dsimp only at hp
  refine ⟨fun q => ?_, fun q => ?_, fun q => ?_, fun q => ?_, fun q => ?_, fun q => ?_⟩
  · subst q
    rw [if_pos rfl] at hp
    rw [if_neg (by omega)] at h7
    obtain ⟨a1, a2, a3, a4, a5⟩ := h7
    refine rx_r0 h (by omega) (by omega) (fun f hf h1 => ?_) (fun f hf => ?_) hp
    · cases fr with
      | nil => simp at hf
      | cons g r =>
        injection hf with hf; subst hf
        have h4' : (if g.1 = 1 then g.2.1 = g.2.2.2.length ∧ (∃ m, g.2.2.2 = L.drop m) ∧ ls_sco r g.2.2.2 else _) := h4
        rw [if_pos h1] at h4'
        exact ⟨h4'.1, h4'.2.1⟩
    · have := ls_fok_all a4 (List.mem_of_mem_head? hf)
      omega
  · subst q
    rw [if_neg (by omega), if_pos rfl] at hp
    rw [if_neg (by omega)] at h7
    obtain ⟨a1, a2, a3, a4, a5⟩ := h7
    refine rx_r1 h ⟨h5, by omega⟩ (fun t => ?_) (by omega) (by omega) h2 (by rw [a3]; simp) (fun f hf => ?_) (fun f hf q => ?_) hp
    · have := ls_txt_lt hTT t; omega
    · have := ls_fok_all a4 hf; omega
    · obtain ⟨g1, g2, g3⟩ := ls_fok_all a4 hf
      exact ⟨(g2 (by omega)).2, (g3 q).1, (g3 q).2⟩
  · subst q
    rw [if_neg (by omega), if_neg (by omega), if_pos rfl] at hp
    rw [if_neg (by omega)] at h7
    obtain ⟨a1, a2, a3, a4, a5⟩ := h7
    obtain ⟨t6, a6⟩ := a5 rfl
    have pn := ls_txt_lt hTT (p := pos) (by omega)
    refine rx_r2 h ⟨h5, by omega⟩ (by omega) (by omega) h2 (by rw [a3]; simp) h3 (fun e => ?_) t6 (fun f hf => ?_) hp
    · subst e; exact h4
    · cases fr with
      | nil => simp at hf
      | cons g r =>
        have g1 := a6 f hf
        injection hf with hf; subst hf
        have h4' : (if g.1 = 1 then g.2.1 = g.2.2.2.length ∧ (∃ m, g.2.2.2 = L.drop m) ∧ ls_sco r g.2.2.2 else _) := h4
        rw [if_pos g1] at h4'
        obtain ⟨e1, ⟨m, e2⟩, _⟩ := h4'
        rw [e1, e2, List.length_drop]; omega
  · subst q
    rw [if_neg (by omega), if_neg (by omega), if_neg (by omega), if_pos rfl] at hp
    rw [if_neg (by omega)] at h7
    obtain ⟨a1, a2, a3, a4, a5⟩ := h7
    refine rx_r3 h ⟨h5, ?_⟩ (by omega) (by omega) (fun f hf => ?_) (fun f hf q => ?_) (fun f hf q => ?_) (fun f hf q => ?_) hp
    · omega
    · have := ls_fok_all a4 hf; omega
    · exact (ls_fok_all a4 hf).2.1 q
    · obtain ⟨g1, g2, g3⟩ := ls_fok_all a4 hf
      exact ⟨(g2 (by omega)).2, (g3 q).1, (g3 q).2⟩
    · cases fr with
      | nil => simp at hf
      | cons g r =>
        injection hf with hf; subst hf
        have r0 := (a4.2.2.1 q).1
        subst r0
        have a2' : 1 ≤ pos := a2
        exact ⟨rfl, by omega⟩
  · subst q
    rw [if_neg (by omega), if_neg (by omega), if_neg (by omega), if_neg (by omega), if_pos rfl] at hp
    rw [if_pos (Or.inl rfl), if_pos rfl] at h7
    obtain ⟨a1, a2, a3, a4, f, r, a5, a6, a7⟩ := h7
    exact rx_r4 h ⟨h5, by omega⟩ (fun t => by have := ls_txt_lt hTT t; omega) (by omega) (by omega) h2 (by omega) a2 h3 (fun e he => (h6 e he).1) hp
  · subst q
    rw [if_neg (by omega), if_neg (by omega), if_neg (by omega), if_neg (by omega), if_neg (by omega)] at hp
    rw [if_pos (Or.inr rfl), if_neg (by decide)] at h7
    obtain ⟨a1, a2, a3, a4, f, r, a5, a6, a7⟩ := h7
    refine rx_r5 h ⟨h5, by omega⟩ (fun t => by have := ls_txt_lt hTT t; omega) (fun e he => ?_) h1 (by omega) h2 (by omega) a2 h3 h6 ?_ hp
    · cases pe with
      | nil => simp at he
      | cons e0 r0 =>
        injection he with he; subst he
        have d0 : ls_dpe T (e0 :: r0) = (if e0.1 = 2 then (if T e0.2.1 = 21 then 1 else 2) else if e0.1 = 1 then 0 else 1) + ls_dpe T r0 := rfl
        rw [d0] at a1
        split
        · next q => rw [if_pos q.1, if_neg q.2] at a1; omega
        · omega
    · obtain ⟨fk, mo, sp, l⟩ := f
      obtain ⟨g1, g2, g3, g4, g5, g6, g7, g8⟩ := a6
      refine ⟨fk, mo, sp, l, r, a5, g1, g2, g4, g5, fun q => ⟨(g7 q).1, (g7 q).2.1, by have := (g7 q).2.2; dsimp only at this; omega⟩, g8, fun f hf => ?_, fun f hf q => ?_⟩
      · have := ls_fok_all a7 hf; omega
      · obtain ⟨g1, g2, g3⟩ := ls_fok_all a7 hf
        exact ⟨(g2 (by omega)).2, (g3 q).1, (g3 q).2⟩
end
section
variable {T : Nat → Nat} {V : Nat → Int32} {n : Nat} {u0 u : SX} {post : SX → Prop} {c : LsC}
/-- what the reading leaves behind -/
def ls_rfin (T : Nat → Nat) (V : Nat → Int32) (n : Nat) (u0 : SX) (r : Except Nat LsC) (post : SX → Prop) : Prop := match r with
  | .ok (st, pos, es, pe, fr, L, k) => ∀ u', ls_XR T V n u0 (st, pos, es, pe, fr, L, ls_em k 0 0 0 (nI pos)) u' → post u'
  | .error e => ∀ u', ls_XK T V n u0 e 400 u' → post u'
set_option maxHeartbeats 200000 in
theorem rx_err {e m : Nat} {x : Int32} (h : ls_XK T V n u0 e 400 u) (hp : ∀ u', ls_XK T V n u0 e 400 u' → post u') : match u with
    | (f_tickLimit, f_tokenCount, f_outCount, f_error, f_errorPlace, f_lastKind, f_lastValue, f_codeSize, f_methodCount, f_methodTokens, f_cellCount, f_activeCalls, f_next, f_ticksLeft, f_state, f_pos, f_expressionStart, f_pendingCount, f_frameTop, f_localCount, a_tokenCode, a_tokenValue, a_outKind, a_outValue, a_codeOp, a_codeArg, a_codeKind, a_codePlace, a_methodSign, a_methodStart, a_declared, a_cellKind, a_cellValue, a_callReturn, a_pendingLevel, a_pendingPlace, a_pendingMore, a_frameKind, a_frameMore, a_localName) => wX_readText_48 post (m + 1) x f_tickLimit f_tokenCount f_outCount f_error f_errorPlace f_lastKind f_lastValue f_codeSize f_methodCount f_methodTokens f_cellCount f_activeCalls f_next f_ticksLeft f_state f_pos f_expressionStart f_pendingCount f_frameTop f_localCount a_tokenCode a_tokenValue a_outKind a_outValue a_codeOp a_codeArg a_codeKind a_codePlace a_methodSign a_methodStart a_declared a_cellKind a_cellValue a_callReturn a_pendingLevel a_pendingPlace a_pendingMore a_frameKind a_frameMore a_localName := by
  have K : match u with | (f_tickLimit, f_tokenCount, f_outCount, f_error, f_errorPlace, f_lastKind, f_lastValue, f_codeSize, f_methodCount, f_methodTokens, f_cellCount, f_activeCalls, f_next, f_ticksLeft, f_state, f_pos, f_expressionStart, f_pendingCount, f_frameTop, f_localCount, a_tokenCode, a_tokenValue, a_outKind, a_outValue, a_codeOp, a_codeArg, a_codeKind, a_codePlace, a_methodSign, a_methodStart, a_declared, a_cellKind, a_cellValue, a_callReturn, a_pendingLevel, a_pendingPlace, a_pendingMore, a_frameKind, a_frameMore, a_localName) => wX_readText_153 post f_tickLimit f_tokenCount f_outCount f_error f_errorPlace f_lastKind f_lastValue f_codeSize f_methodCount f_methodTokens f_cellCount f_activeCalls f_next f_ticksLeft f_state f_pos f_expressionStart f_pendingCount f_frameTop f_localCount a_tokenCode a_tokenValue a_outKind a_outValue a_codeOp a_codeArg a_codeKind a_codePlace a_methodSign a_methodStart a_declared a_cellKind a_cellValue a_callReturn a_pendingLevel a_pendingPlace a_pendingMore a_frameKind a_frameMore a_localName := by
    have E : wpX_emit post u 0 0 0 (match u with | (f_tickLimit, f_tokenCount, f_outCount, f_error, f_errorPlace, f_lastKind, f_lastValue, f_codeSize, f_methodCount, f_methodTokens, f_cellCount, f_activeCalls, f_next, f_ticksLeft, f_state, f_pos, f_expressionStart, f_pendingCount, f_frameTop, f_localCount, a_tokenCode, a_tokenValue, a_outKind, a_outValue, a_codeOp, a_codeArg, a_codeKind, a_codePlace, a_methodSign, a_methodStart, a_declared, a_cellKind, a_cellValue, a_callReturn, a_pendingLevel, a_pendingPlace, a_pendingMore, a_frameKind, a_frameMore, a_localName) => f_pos) := kx_emit h hp
    obtain ⟨f_tickLimit, f_tokenCount, f_outCount, f_error, f_errorPlace, f_lastKind, f_lastValue, f_codeSize, f_methodCount, f_methodTokens, f_cellCount, f_activeCalls, f_next, f_ticksLeft, f_state, f_pos, f_expressionStart, f_pendingCount, f_frameTop, f_localCount, a_tokenCode, a_tokenValue, a_outKind, a_outValue, a_codeOp, a_codeArg, a_codeKind, a_codePlace, a_methodSign, a_methodStart, a_declared, a_cellKind, a_cellValue, a_callReturn, a_pendingLevel, a_pendingPlace, a_pendingMore, a_frameKind, a_frameMore, a_localName⟩ := u
    refine kx_emit h fun u' h' => ?_
    obtain ⟨f_tickLimit, f_tokenCount, f_outCount, f_error, f_errorPlace, f_lastKind, f_lastValue, f_codeSize, f_methodCount, f_methodTokens, f_cellCount, f_activeCalls, f_next, f_ticksLeft, f_state, f_pos, f_expressionStart, f_pendingCount, f_frameTop, f_localCount, a_tokenCode, a_tokenValue, a_outKind, a_outValue, a_codeOp, a_codeArg, a_codeKind, a_codePlace, a_methodSign, a_methodStart, a_declared, a_cellKind, a_cellValue, a_callReturn, a_pendingLevel, a_pendingPlace, a_pendingMore, a_frameKind, a_frameMore, a_localName⟩ := u'
    exact hp _ h'
  obtain ⟨f_tickLimit, f_tokenCount, f_outCount, f_error, f_errorPlace, f_lastKind, f_lastValue, f_codeSize, f_methodCount, f_methodTokens, f_cellCount, f_activeCalls, f_next, f_ticksLeft, f_state, f_pos, f_expressionStart, f_pendingCount, f_frameTop, f_localCount, a_tokenCode, a_tokenValue, a_outKind, a_outValue, a_codeOp, a_codeArg, a_codeKind, a_codePlace, a_methodSign, a_methodStart, a_declared, a_cellKind, a_cellValue, a_callReturn, a_pendingLevel, a_pendingPlace, a_pendingMore, a_frameKind, a_frameMore, a_localName⟩ := u
  obtain ⟨hk, h1, ht, h2, hr⟩ := h
  refine br_c (fun _ => K) (fun _ => br_c (fun _ => K) (fun _ => br_f (by rw [h2]; decide) K))
set_option maxHeartbeats 200000 in
theorem rx_loop : ∀ (m : Nat) (c : LsC) (u : SX) (step : Nat), ls_XR T V n u0 c u → ls_Inv T n c → c.1 ≤ 6 → ls_mu n c ≤ m → step + m ≤ 1120 → ls_rfin T V n u0 (ls_run T V m c) post → match u with
    | (f_tickLimit, f_tokenCount, f_outCount, f_error, f_errorPlace, f_lastKind, f_lastValue, f_codeSize, f_methodCount, f_methodTokens, f_cellCount, f_activeCalls, f_next, f_ticksLeft, f_state, f_pos, f_expressionStart, f_pendingCount, f_frameTop, f_localCount, a_tokenCode, a_tokenValue, a_outKind, a_outValue, a_codeOp, a_codeArg, a_codeKind, a_codePlace, a_methodSign, a_methodStart, a_declared, a_cellKind, a_cellValue, a_callReturn, a_pendingLevel, a_pendingPlace, a_pendingMore, a_frameKind, a_frameMore, a_localName) => wX_readText_48 post (m + 1) (nI step) f_tickLimit f_tokenCount f_outCount f_error f_errorPlace f_lastKind f_lastValue f_codeSize f_methodCount f_methodTokens f_cellCount f_activeCalls f_next f_ticksLeft f_state f_pos f_expressionStart f_pendingCount f_frameTop f_localCount a_tokenCode a_tokenValue a_outKind a_outValue a_codeOp a_codeArg a_codeKind a_codePlace a_methodSign a_methodStart a_declared a_cellKind a_cellValue a_callReturn a_pendingLevel a_pendingPlace a_pendingMore a_frameKind a_frameMore a_localName := by
  intro m
  induction m with
  | zero =>
    intro c u step h hI h6 hm hs hp
    have e6 := ls_mu0 h6 hI (by omega)
    obtain ⟨st, pos, es, pe, fr, L, k⟩ := c
    dsimp only at e6
    subst e6
    obtain ⟨h1, h2, h3, h4, h5, h6, h7⟩ := hI
    rw [if_neg (by omega)] at h7
    obtain ⟨f_tickLimit, f_tokenCount, f_outCount, f_error, f_errorPlace, f_lastKind, f_lastValue, f_codeSize, f_methodCount, f_methodTokens, f_cellCount, f_activeCalls, f_next, f_ticksLeft, f_state, f_pos, f_expressionStart, f_pendingCount, f_frameTop, f_localCount, a_tokenCode, a_tokenValue, a_outKind, a_outValue, a_codeOp, a_codeArg, a_codeKind, a_codePlace, a_methodSign, a_methodStart, a_declared, a_cellKind, a_cellValue, a_callReturn, a_pendingLevel, a_pendingPlace, a_pendingMore, a_frameKind, a_frameMore, a_localName⟩ := u
    obtain ⟨hk, hlo, rfl, ht, rfl, rfl, rfl, rfl, rfl, rfl, rfl, rfl, rfl, rfl, rfl, rfl, hes, hP, hF, hN⟩ := h
    have n140 := ht.1
    have K : wX_readText_153 post f_tickLimit (nI n) f_outCount 0 (-1) f_lastKind f_lastValue (nI k.1) f_methodCount f_methodTokens f_cellCount f_activeCalls f_next f_ticksLeft (nI 6) (nI pos) f_expressionStart (nI pe.length) (nI fr.length) (nI L.length) a_tokenCode a_tokenValue a_outKind a_outValue k.2.1 k.2.2.1 k.2.2.2.1 k.2.2.2.2 a_methodSign a_methodStart a_declared a_cellKind a_cellValue a_callReturn a_pendingLevel a_pendingPlace a_pendingMore a_frameKind a_frameMore a_localName := by
      refine hx_emit (by omega) ?_
      exact hp _ ⟨hk, ls_lo_emK hlo h5, rfl, ht, rfl, rfl, rfl, rfl, rfl, rfl, rfl, rfl, rfl, rfl, rfl, rfl, hes, hP, hF, hN⟩
    exact br_c (fun _ => K) (fun _ => br_t rfl K)
  | succ m ih =>
    intro c u step h hI h6 hm hs hp
    by_cases e6 : c.1 = 6
    · have hp' : ls_rfin T V n u0 (.ok c) post := by
        unfold ls_run at hp
        rw [if_pos e6] at hp
        exact hp
      obtain ⟨st, pos, es, pe, fr, L, k⟩ := c
      dsimp only at e6
      subst e6
      obtain ⟨h1, h2, h3, h4, h5, h6, h7⟩ := hI
      rw [if_neg (by omega)] at h7
      obtain ⟨f_tickLimit, f_tokenCount, f_outCount, f_error, f_errorPlace, f_lastKind, f_lastValue, f_codeSize, f_methodCount, f_methodTokens, f_cellCount, f_activeCalls, f_next, f_ticksLeft, f_state, f_pos, f_expressionStart, f_pendingCount, f_frameTop, f_localCount, a_tokenCode, a_tokenValue, a_outKind, a_outValue, a_codeOp, a_codeArg, a_codeKind, a_codePlace, a_methodSign, a_methodStart, a_declared, a_cellKind, a_cellValue, a_callReturn, a_pendingLevel, a_pendingPlace, a_pendingMore, a_frameKind, a_frameMore, a_localName⟩ := u
      obtain ⟨hk, hlo, rfl, ht, rfl, rfl, rfl, rfl, rfl, rfl, rfl, rfl, rfl, rfl, rfl, rfl, hes, hP, hF, hN⟩ := h
      have n140 := ht.1
      have K : wX_readText_153 post f_tickLimit (nI n) f_outCount 0 (-1) f_lastKind f_lastValue (nI k.1) f_methodCount f_methodTokens f_cellCount f_activeCalls f_next f_ticksLeft (nI 6) (nI pos) f_expressionStart (nI pe.length) (nI fr.length) (nI L.length) a_tokenCode a_tokenValue a_outKind a_outValue k.2.1 k.2.2.1 k.2.2.2.1 k.2.2.2.2 a_methodSign a_methodStart a_declared a_cellKind a_cellValue a_callReturn a_pendingLevel a_pendingPlace a_pendingMore a_frameKind a_frameMore a_localName := by
        refine hx_emit (by omega) ?_
        exact hp' _ ⟨hk, ls_lo_emK hlo h5, rfl, ht, rfl, rfl, rfl, rfl, rfl, rfl, rfl, rfl, rfl, rfl, rfl, rfl, hes, hP, hF, hN⟩
      exact br_c (fun _ => K) (fun _ => br_t rfl K)
    · unfold ls_run at hp
      rw [if_neg e6] at hp
      have hTT : ls_txt T n := by
        obtain ⟨f_tickLimit, f_tokenCount, f_outCount, f_error, f_errorPlace, f_lastKind, f_lastValue, f_codeSize, f_methodCount, f_methodTokens, f_cellCount, f_activeCalls, f_next, f_ticksLeft, f_state, f_pos, f_expressionStart, f_pendingCount, f_frameTop, f_localCount, a_tokenCode, a_tokenValue, a_outKind, a_outValue, a_codeOp, a_codeArg, a_codeKind, a_codePlace, a_methodSign, a_methodStart, a_declared, a_cellKind, a_cellValue, a_callReturn, a_pendingLevel, a_pendingPlace, a_pendingMore, a_frameKind, a_frameMore, a_localName⟩ := u
        obtain ⟨st, pos, es, pe, fr, L, k⟩ := c
        obtain ⟨_, _, _, ht, _⟩ := h
        exact ls_tok_txt ht
      have OUT : ls_out T V n u0 (ls_rs T V c) (fun u => match u with | (f_tickLimit, f_tokenCount, f_outCount, f_error, f_errorPlace, f_lastKind, f_lastValue, f_codeSize, f_methodCount, f_methodTokens, f_cellCount, f_activeCalls, f_next, f_ticksLeft, f_state, f_pos, f_expressionStart, f_pendingCount, f_frameTop, f_localCount, a_tokenCode, a_tokenValue, a_outKind, a_outValue, a_codeOp, a_codeArg, a_codeKind, a_codePlace, a_methodSign, a_methodStart, a_declared, a_cellKind, a_cellValue, a_callReturn, a_pendingLevel, a_pendingPlace, a_pendingMore, a_frameKind, a_frameMore, a_localName) => ∀ x, x = nI step + 1 → wX_readText_48 post (m + 1) x f_tickLimit f_tokenCount f_outCount f_error f_errorPlace f_lastKind f_lastValue f_codeSize f_methodCount f_methodTokens f_cellCount f_activeCalls f_next f_ticksLeft f_state f_pos f_expressionStart f_pendingCount f_frameTop f_localCount a_tokenCode a_tokenValue a_outKind a_outValue a_codeOp a_codeArg a_codeKind a_codePlace a_methodSign a_methodStart a_declared a_cellKind a_cellValue a_callReturn a_pendingLevel a_pendingPlace a_pendingMore a_frameKind a_frameMore a_localName) := by
        unfold ls_out
        split
        · next c' hc =>
          intro u' hu'
          rw [hc] at hp
          obtain ⟨i1, i2⟩ := ls_inv_rs hTT (by omega) hI hc
          have G := ih c' u' (step + 1) hu' i1 (ls_st6 hc) (by omega) (by omega) hp
          obtain ⟨f_tickLimit, f_tokenCount, f_outCount, f_error, f_errorPlace, f_lastKind, f_lastValue, f_codeSize, f_methodCount, f_methodTokens, f_cellCount, f_activeCalls, f_next, f_ticksLeft, f_state, f_pos, f_expressionStart, f_pendingCount, f_frameTop, f_localCount, a_tokenCode, a_tokenValue, a_outKind, a_outValue, a_codeOp, a_codeArg, a_codeKind, a_codePlace, a_methodSign, a_methodStart, a_declared, a_cellKind, a_cellValue, a_callReturn, a_pendingLevel, a_pendingPlace, a_pendingMore, a_frameKind, a_frameMore, a_localName⟩ := u'
          exact nm_r (nI_1 step) G
        · next e hc =>
          intro u' hu'
          rw [hc] at hp
          have G := fun x => rx_err (m := m) (x := x) hu' hp
          obtain ⟨f_tickLimit, f_tokenCount, f_outCount, f_error, f_errorPlace, f_lastKind, f_lastValue, f_codeSize, f_methodCount, f_methodTokens, f_cellCount, f_activeCalls, f_next, f_ticksLeft, f_state, f_pos, f_expressionStart, f_pendingCount, f_frameTop, f_localCount, a_tokenCode, a_tokenValue, a_outKind, a_outValue, a_codeOp, a_codeArg, a_codeKind, a_codePlace, a_methodSign, a_methodStart, a_declared, a_cellKind, a_cellValue, a_callReturn, a_pendingLevel, a_pendingPlace, a_pendingMore, a_frameKind, a_frameMore, a_localName⟩ := u'
          exact fun x _ => G x
      have S := rx_step h hI OUT
      obtain ⟨st, pos, es, pe, fr, L, k⟩ := c
      dsimp only at S e6 h6
      obtain ⟨S0, S1, S2, S3, S4, S5⟩ := S
      obtain ⟨f_tickLimit, f_tokenCount, f_outCount, f_error, f_errorPlace, f_lastKind, f_lastValue, f_codeSize, f_methodCount, f_methodTokens, f_cellCount, f_activeCalls, f_next, f_ticksLeft, f_state, f_pos, f_expressionStart, f_pendingCount, f_frameTop, f_localCount, a_tokenCode, a_tokenValue, a_outKind, a_outValue, a_codeOp, a_codeArg, a_codeKind, a_codePlace, a_methodSign, a_methodStart, a_declared, a_cellKind, a_cellValue, a_callReturn, a_pendingLevel, a_pendingPlace, a_pendingMore, a_frameKind, a_frameMore, a_localName⟩ := u
      obtain ⟨hk, hlo, rfl, ht, rfl, rfl, rfl, rfl, rfl, rfl, rfl, rfl, rfl, rfl, rfl, rfl, hes, hP, hF, hN⟩ := h
      refine br_f (nI_ge (b := 1120) (by omega) (by decide)) ?_
      rcases (show st = 0 ∨ st = 1 ∨ st = 2 ∨ st = 3 ∨ st = 4 ∨ st = 5 by omega) with rfl | rfl | rfl | rfl | rfl | rfl
      · exact br_f (by decide) (br_t rfl (br_f (by decide) (br_f (by decide) (br_t rfl (S0 rfl)))))
      · exact br_f (by decide) (br_t rfl (br_f (by decide) (br_f (by decide) (br_f (by decide) (br_t rfl (S1 rfl))))))
      · exact br_f (by decide) (br_t rfl (br_f (by decide) (br_f (by decide) (br_f (by decide) (br_f (by decide) (br_t rfl (S2 rfl)))))))
      · exact br_f (by decide) (br_t rfl (br_f (by decide) (br_f (by decide) (br_f (by decide) (br_f (by decide) (br_f (by decide) (br_t rfl (S3 rfl))))))))
      · exact br_f (by decide) (br_t rfl (br_f (by decide) (br_f (by decide) (br_f (by decide) (br_f (by decide) (br_f (by decide) (br_f (by decide) (br_t rfl (S4 rfl)))))))))
      · exact br_f (by decide) (br_t rfl (br_f (by decide) (br_t (by decide) (S5 rfl))))
end
section
variable {f_tickLimit f_tokenCount f_outCount f_error f_errorPlace f_lastKind f_codeSize f_methodCount f_methodTokens f_cellCount f_activeCalls f_next f_ticksLeft f_state f_pos f_expressionStart f_pendingCount f_frameTop f_localCount : Int32}
variable {f_lastValue : Int64}
variable {a_tokenCode a_tokenValue a_outKind a_codeOp a_codeArg a_codeKind a_codePlace a_methodSign a_methodStart a_declared a_cellKind a_callReturn a_pendingLevel a_pendingPlace a_pendingMore a_frameKind a_frameMore a_localName : Nat → Int32}
variable {a_outValue a_cellValue : Nat → Int64}
variable {T : Nat → Nat} {V : Nat → Int32} {n : Nat} {post : SX → Prop}
set_option maxHeartbeats 200000 in
theorem rx_readText (ht : ls_tok T V n a_tokenCode a_tokenValue)
    (hp : ls_rfin T V n (f_tickLimit, nI n, f_outCount, 0, -1, f_lastKind, f_lastValue, f_codeSize, f_methodCount, f_methodTokens, f_cellCount, f_activeCalls, f_next, f_ticksLeft, f_state, f_pos, f_expressionStart, f_pendingCount, f_frameTop, f_localCount, a_tokenCode, a_tokenValue, a_outKind, a_outValue, a_codeOp, a_codeArg, a_codeKind, a_codePlace, a_methodSign, a_methodStart, a_declared, a_cellKind, a_cellValue, a_callReturn, a_pendingLevel, a_pendingPlace, a_pendingMore, a_frameKind, a_frameMore, a_localName) (ls_run T V 1120 (0, 0, 0, [], [], [], (480, a_codeOp, a_codeArg, a_codeKind, a_codePlace))) post) : wpX_readText post (f_tickLimit, nI n, f_outCount, 0, -1, f_lastKind, f_lastValue, f_codeSize, f_methodCount, f_methodTokens, f_cellCount, f_activeCalls, f_next, f_ticksLeft, f_state, f_pos, f_expressionStart, f_pendingCount, f_frameTop, f_localCount, a_tokenCode, a_tokenValue, a_outKind, a_outValue, a_codeOp, a_codeArg, a_codeKind, a_codePlace, a_methodSign, a_methodStart, a_declared, a_cellKind, a_cellValue, a_callReturn, a_pendingLevel, a_pendingPlace, a_pendingMore, a_frameKind, a_frameMore, a_localName) := by
  unfold wpX_readText
  dsimp only
  have n140 := ht.1
  refine nm_e (nm_e ⟨1121, ?_⟩)
  refine rx_loop (u0 := (f_tickLimit, nI n, f_outCount, 0, -1, f_lastKind, f_lastValue, f_codeSize, f_methodCount, f_methodTokens, f_cellCount, f_activeCalls, f_next, f_ticksLeft, f_state, f_pos, f_expressionStart, f_pendingCount, f_frameTop, f_localCount, a_tokenCode, a_tokenValue, a_outKind, a_outValue, a_codeOp, a_codeArg, a_codeKind, a_codePlace, a_methodSign, a_methodStart, a_declared, a_cellKind, a_cellValue, a_callReturn, a_pendingLevel, a_pendingPlace, a_pendingMore, a_frameKind, a_frameMore, a_localName)) 1120 (0, 0, 0, [], [], [], (480, a_codeOp, a_codeArg, a_codeKind, a_codePlace)) (f_tickLimit, nI n, f_outCount, 0, -1, f_lastKind, f_lastValue, 480, f_methodCount, f_methodTokens, f_cellCount, f_activeCalls, f_next, f_ticksLeft, 0, 0, f_expressionStart, 0, 0, 0, a_tokenCode, a_tokenValue, a_outKind, a_outValue, a_codeOp, a_codeArg, a_codeKind, a_codePlace, a_methodSign, a_methodStart, a_declared, a_cellKind, a_cellValue, a_callReturn, a_pendingLevel, a_pendingPlace, a_pendingMore, upd a_frameKind 0 0, upd a_frameMore 0 0, a_localName) 0 ?_ ?_ (by show 0 ≤ 6; decide) ?_ (by decide) hp
  · exact ⟨rfl, fun i hi => ⟨rfl, rfl, rfl, rfl⟩, rfl, ht, rfl, rfl, rfl, rfl, rfl, rfl, rfl, rfl, rfl, rfl, rfl, rfl, (fun h => by omega), trivial, pk_us, trivial⟩
  · refine ⟨by omega, by simp, by simp, rfl, by show 480 ≤ 480; decide, ls_peok_nil, ?_⟩
    rw [if_neg (by omega)]
    exact ⟨by show 480 + 0 ≤ 480 + 2 * 0; decide, by simp, rfl, trivial, fun h => by omega⟩
  · simp only [ls_mu_def, ls_sw_0, ls_sw_1, ls_sw_2, ls_sw_3, ls_sw_4, ls_sw_5, ls_sw_6, ls_fw_0, ls_fw_1, ls_fw_2, ls_fw_3, ls_fw_4, ls_fw_5, ls_fw_6, ls_fw_7, ls_fw_8, ls_fw_9, ls_fw_10, ls_fw_11, List.length_nil, List.length_cons]; omega
end
end
section
/-! The reference's reading, as a pure step a token. A state: what is needed, what is open (kind, names outside),
   the open parentheses (arguments), flag, count, the expression's place, the names (as tokens, inner ones first) -/
abbrev LsY := Nat × List (Nat × Nat) × List Nat × Nat × Nat × Nat × List Nat
def ls_yfin (t : Nat) : List (Nat × Nat) → Bool × List (Nat × Nat)
  | [] => (false, [])
  | e :: r => if e.1 = 2 ∨ 3 < e.1 then (if e.1 = 4 ∧ t = 7 then (true, e :: r) else ls_yfin t r) else (false, e :: r)
def ls_yins : List (Nat × Nat) → Bool
  | [] => false
  | e :: r => if e.1 = 3 then false else if e.1 = 2 then true else ls_yins r
def ls_ybot : List (Nat × Nat) → Bool
  | [] => false
  | [e] => decide (e.1 = 3)
  | _ :: g :: r => ls_ybot (g :: r)
def ls_ysc : List (Nat × Nat) → Option Nat
  | [] => none
  | e :: r => if e.1 = 1 ∨ e.1 = 3 then some e.2 else ls_ysc r
def ls_yopd (t nm : Nat) (C : List (Nat × Nat)) (O : List Nat) (ct fu : Nat) (N : List Nat) : Option LsY :=
  if 22 ≤ t ∧ t ≤ 25 then some (4, C, O, 0, ct, fu, N)
  else if t = 15 then some (15, C, 0 :: O, 0, ct, fu, N)
  else if t = 13 ∨ t = 14 ∨ 54 ≤ t then some (5, C, O, if ls_nam t then nm else 0, ct, fu, N)
  else none
def ls_yaft (t fl : Nat) (C : List (Nat × Nat)) (O : List Nat) (ct fu : Nat) (N : List Nat) : Option LsY :=
  if 2 < ls_lv t then some (4, C, O, 0, ct, fu, N)
  else if ls_asg t then (if fl = 2 then some (3, C, O, 0, ct, fu, N) else none)
  else if t = 15 then (if 0 < fl then some (17, C, 1 :: O, 0, ct, fu, N) else none)
  else match O with
    | [] => none
    | o :: r => if t = 16 then some (5, C, r, 0, ct, fu, N) else if t = 19 ∧ 0 < o ∧ o < 3 then some (3, C, (o + 1) :: r, 0, ct, fu, N) else none
def ls_ywith (nd t : Nat) (C : List (Nat × Nat)) (O : List Nat) (fl ct fu : Nat) (N : List Nat) : Option LsY :=
  if nd = 5 ∧ O = [] ∧ (t = 20 ∧ (fu = 20 ∨ fu = 11) ∨ t = 16 ∧ (fu = 6 ∨ fu = 8 ∨ fu = 12)) then some (if t = 20 then 0 else if fu = 12 then 6 else 1, C, O, 0, ct, fu, N)
  else if 32 < ct + 1 then none
  else if nd = 5 then ls_yaft t fl C O (ct + 1) fu N
  else if nd = 16 then (if t = 16 then some (4, C, O, 0, ct + 1, fu, N) else none)
  else if nd = 17 ∧ t = 16 then some (5, C, O.tail, 0, ct + 1, fu, N)
  else if nd = 15 ∧ t < 5 then some (16, C, O.tail, 0, ct + 1, fu, N)
  else ls_yopd t (if nd = 4 then 1 else 2) C O (ct + 1) fu N
def ls_ycl (C : List (Nat × Nat)) (O : List Nat) (fl ct fu : Nat) (N : List Nat) : Option LsY := match C with
  | [] => none
  | e :: r => match r with
    | [] => some (0, [], O, fl, ct, fu, N.drop (N.length - e.2))
    | g :: r2 => if g.1 = 3 then some (0, r2, O, fl, ct, fu, N.drop (N.length - g.2)) else some (0, g :: r2, O, fl, ct, fu, N.drop (N.length - e.2))
def ls_ybeg (list : Bool) (t : Nat) (C : List (Nat × Nat)) (O : List Nat) (fl ct fu : Nat) (N : List Nat) : Option LsY :=
  if t = 20 then some (0, C, O, fl, ct, fu, N)
  else if t < 6 then (if list then some (8, C, O, fl, ct, fu, N) else none)
  else if t = 17 then some (0, (1, N.length) :: C, O, fl, ct, fu, N)
  else if t = 18 then (if list then ls_ycl C O fl ct fu N else none)
  else if t = 6 then some (2, (4, N.length) :: C, O, fl, ct, 6, N)
  else if t = 8 then some (2, (2, N.length) :: C, O, fl, ct, 8, N)
  else if t = 12 then some (2, C, O, fl, ct, 12, N)
  else if t = 9 ∨ t = 10 then (if ls_yins C then some (6, C, O, fl, ct, t, N) else none)
  else if t = 11 then (if ls_ybot C then some (7, C, O, fl, ct, 11, N) else none)
  else ls_ywith 3 t C O fl 0 20 N
def ls_ydec (nd t : Nat) (C : List (Nat × Nat)) (O : List Nat) (fl ct fu : Nat) (N : List Nat) : Option LsY :=
  if ls_nam t then
    match ls_ysc C with
    | none => some (nd, C, O, fl, ct, fu, N)
    | some a => if t ∈ N.take (N.length - a) ∨ N.length = 8 then none else some (nd, C, O, fl, ct, fu, t :: N)
  else none
def ls_yhd (nd t : Nat) (C : List (Nat × Nat)) (O : List Nat) (fl ct fu : Nat) (N : List Nat) : Option LsY :=
  if nd = 8 then ls_ydec 9 t C O fl ct fu N
  else if nd = 9 then
    (if t = 15 ∧ C = [] then some (10, [(3, N.length)], [], fl, 0, 20, N)
     else if t = 20 then some (0, C, O, fl, 0, 20, N)
     else if t = 21 then some (3, C, O, fl, 0, 20, N) else none)
  else if (nd = 10 ∨ nd = 13) ∧ t = 16 then some (14, C, O, fl, ct, fu, N)
  else if nd = 10 ∨ nd = 11 then (if t < 6 then some (12, C, O, fl, ct, fu, N) else none)
  else if nd = 12 then ls_ydec 13 t C O fl ct fu N
  else if nd = 13 then (if t = 19 ∧ N.length < 3 then some (11, C, O, fl, ct, fu, N) else none)
  else if t = 17 then some (0, (1, N.length) :: C, O, fl, ct, fu, N) else none
def ls_yg (y : LsY) (t : Nat) : Option LsY := match y with
  | (nd, C, O, fl, ct, fu, N) =>
    if nd = 0 then
      match ls_yfin t C with
      | (true, C1) => some (1, (5, (C1.headD (0, 0)).2) :: C1.tail, O, fl, ct, fu, N)
      | (false, C1) => ls_ybeg true t C1 O fl ct fu N
    else if nd = 1 then ls_ybeg false t C O fl ct fu N
    else if nd = 7 ∧ t ≠ 20 then ls_ywith 3 t C O fl 0 fu N
    else if nd = 3 ∨ nd = 4 ∨ nd = 5 ∨ 15 ≤ nd then ls_ywith nd t C O fl ct fu N
    else if nd = 2 then (if t = 15 then some (3, C, O, fl, 0, fu, N) else none)
    else if nd = 6 ∨ nd = 7 then (if t = 20 then some (0, C, O, fl, ct, fu, N) else none)
    else ls_yhd nd t C O fl ct fu N
def ls_StC (a b : Nat → Int32) : List (Nat × Nat) → Prop
  | [] => True
  | e :: r => a r.length = nI e.1 ∧ b r.length = nI e.2 ∧ ls_StC a b r
set_option maxHeartbeats 200000 in
theorem ls_StC_up {a b : Nat → Int32} {j : Nat} {x y : Int32} : ∀ {C : List (Nat × Nat)}, C.length ≤ j → ls_StC a b C → ls_StC (upd a j x) (upd b j y) C
  | [], _, _ => trivial
  | e :: r, h, ⟨h1, h2, h3⟩ => by
    have h' : r.length + 1 ≤ j := h
    exact ⟨by rw [pk_un (by omega)]; exact h1, by rw [pk_un (by omega)]; exact h2, ls_StC_up (by omega) h3⟩
set_option maxHeartbeats 200000 in
theorem ls_StC_up1 {a b : Nat → Int32} {j : Nat} {x : Int32} : ∀ {C : List (Nat × Nat)}, C.length ≤ j → ls_StC a b C → ls_StC (upd a j x) b C
  | [], _, _ => trivial
  | e :: r, h, ⟨h1, h2, h3⟩ => by
    have h' : r.length + 1 ≤ j := h
    exact ⟨by rw [pk_un (by omega)]; exact h1, h2, ls_StC_up1 (by omega) h3⟩
def ls_ykept (v : SY) : (Int32 × Int32 × Int32 × Int32 × Int32 × Int32 × Int32 × Int32 × Int32 × Int32 × Int32 × Int32 × Int32 × Int32 × Int32 × Int64) × ((Nat → Int32) × (Nat → Int64) × (Nat → Int32) × (Nat → Int32) × (Nat → Int32) × (Nat → Int32) × (Nat → Int32) × (Nat → Int32)) × ((Nat → Int32) × (Nat → Int32) × (Nat → Int64) × (Nat → Int32) × (Nat → Int64) × (Nat → Int32) × (Nat → Int32) × (Nat → Int32) × (Nat → Int32) × (Nat → Int64)) := match v with
  | (f_most, f_n, f_stored, f_nm, f_nEnv, f_base, f_ns, f_no, f_nc, f_pc, f_mode, f_err, f_errAt, f_ticks, f_calls, f_outs, f_resK, f_part, f_resV, f_cnt, f_full, f_flag, f_need, a_tk, a_tv, a_tp, a_mName, a_mKind, a_mCount, a_mPar, a_mAt, a_vName, a_vDecl, a_vKind, a_vVal, a_sk, a_sv, a_oKind, a_oAt, a_oArgs, a_cKind, a_cA, a_cB, a_outK, a_outV) => ((f_most, f_n, f_stored, f_nm, f_base, f_ns, f_pc, f_mode, f_err, f_errAt, f_ticks, f_calls, f_outs, f_resK, f_part, f_resV), (a_tk, a_tv, a_tp, a_mName, a_mKind, a_mCount, a_mPar, a_mAt), (a_vDecl, a_vKind, a_vVal, a_sk, a_sv, a_oKind, a_oAt, a_cB, a_outK, a_outV))
/-- the bounds that keep every index within -/
def ls_yb (y : LsY) : Prop := match y with
  | (nd, C, O, fl, ct, fu, N) => nd < 18 ∧ C.length < 699 ∧ O.length < 399 ∧ N.length ≤ 8 ∧ (nd = 5 → fl < 3) ∧ ((nd = 3 ∨ nd = 4 ∨ nd = 5 ∨ 15 ≤ nd) → ct < 200) ∧ ((nd = 2 ∨ nd = 3 ∨ nd = 4 ∨ nd = 5 ∨ nd = 7 ∨ 15 ≤ nd) → fu < 100) ∧ (∀ e ∈ C, 1 ≤ e.1 ∧ e.1 ≤ 5 ∧ e.2 ≤ 8) ∧ (∀ x ∈ N, x < 100) ∧ (∀ x ∈ O, x ≤ 3)
def ls_YR (v0 : SY) (y : LsY) (v : SY) : Prop := match y with
  | (nd, C, O, fl, ct, fu, N) => match v with
    | (f_most, f_n, f_stored, f_nm, f_nEnv, f_base, f_ns, f_no, f_nc, f_pc, f_mode, f_err, f_errAt, f_ticks, f_calls, f_outs, f_resK, f_part, f_resV, f_cnt, f_full, f_flag, f_need, a_tk, a_tv, a_tp, a_mName, a_mKind, a_mCount, a_mPar, a_mAt, a_vName, a_vDecl, a_vKind, a_vVal, a_sk, a_sv, a_oKind, a_oAt, a_oArgs, a_cKind, a_cA, a_cB, a_outK, a_outV) => ((f_most, f_n, f_stored, f_nm, f_base, f_ns, f_pc, f_mode, f_err, f_errAt, f_ticks, f_calls, f_outs, f_resK, f_part, f_resV), (a_tk, a_tv, a_tp, a_mName, a_mKind, a_mCount, a_mPar, a_mAt), (a_vDecl, a_vKind, a_vVal, a_sk, a_sv, a_oKind, a_oAt, a_cB, a_outK, a_outV)) = ls_ykept v0 ∧ f_need = nI nd ∧ f_nc = nI C.length ∧ f_no = nI O.length ∧ f_flag = nI fl ∧ f_cnt = nI ct ∧ f_full = nI fu ∧ f_nEnv = nI N.length ∧ ls_StC a_cKind a_cA C ∧ ls_StN a_oArgs O ∧ ls_StN a_vName N
def ls_yout (v0 : SY) (r : Option LsY) (post : Int32 → SY → Prop) : Prop := match r with
  | some y => ∀ v', ls_YR v0 y v' → post 1 v'
  | none => ∀ v', ls_ykept v' = ls_ykept v0 → post 0 v'
end
section
set_option maxHeartbeats 200000 in
theorem ls_yout_nar {v0 : SY} {r : Option LsY} {post : Int32 → SY → Prop} (h : ls_yout v0 r post) : ls_yout v0 r (fun r_9 u => match u with | (f_most, f_n, f_stored, f_nm, f_nEnv, f_base, f_ns, f_no, f_nc, f_pc, f_mode, f_err, f_errAt, f_ticks, f_calls, f_outs, f_resK, f_part, f_resV, f_cnt, f_full, f_flag, f_need, a_tk, a_tv, a_tp, a_mName, a_mKind, a_mCount, a_mPar, a_mAt, a_vName, a_vDecl, a_vKind, a_vVal, a_sk, a_sv, a_oKind, a_oAt, a_oArgs, a_cKind, a_cA, a_cB, a_outK, a_outV) => narrow .boolean (.int r_9) = .int r_9 ∧ post r_9 (f_most, f_n, f_stored, f_nm, f_nEnv, f_base, f_ns, f_no, f_nc, f_pc, f_mode, f_err, f_errAt, f_ticks, f_calls, f_outs, f_resK, f_part, f_resV, f_cnt, f_full, f_flag, f_need, a_tk, a_tv, a_tp, a_mName, a_mKind, a_mCount, a_mPar, a_mAt, a_vName, a_vDecl, a_vKind, a_vVal, a_sk, a_sv, a_oKind, a_oAt, a_oArgs, a_cKind, a_cA, a_cB, a_outK, a_outV)) := by
  cases r with
  | none =>
    intro v' hv
    obtain ⟨f_most, f_n, f_stored, f_nm, f_nEnv, f_base, f_ns, f_no, f_nc, f_pc, f_mode, f_err, f_errAt, f_ticks, f_calls, f_outs, f_resK, f_part, f_resV, f_cnt, f_full, f_flag, f_need, a_tk, a_tv, a_tp, a_mName, a_mKind, a_mCount, a_mPar, a_mAt, a_vName, a_vDecl, a_vKind, a_vVal, a_sk, a_sv, a_oKind, a_oAt, a_oArgs, a_cKind, a_cA, a_cB, a_outK, a_outV⟩ := v'
    exact ⟨rfl, h _ hv⟩
  | some y =>
    intro v' hv
    obtain ⟨f_most, f_n, f_stored, f_nm, f_nEnv, f_base, f_ns, f_no, f_nc, f_pc, f_mode, f_err, f_errAt, f_ticks, f_calls, f_outs, f_resK, f_part, f_resV, f_cnt, f_full, f_flag, f_need, a_tk, a_tv, a_tp, a_mName, a_mKind, a_mCount, a_mPar, a_mAt, a_vName, a_vDecl, a_vKind, a_vVal, a_sk, a_sv, a_oKind, a_oAt, a_oArgs, a_cKind, a_cA, a_cB, a_outK, a_outV⟩ := v'
    exact ⟨rfl, h _ hv⟩
set_option maxHeartbeats 200000 in
theorem ls_yn {t w : Nat} (ht : t < 100) (hw : w < 100) : nI t = nI w ↔ t = w := nI_eq (by omega) (by omega)
set_option maxHeartbeats 200000 in
theorem ls_yl {t w : Nat} (ht : t < 1000) (hw : w < 1000) : nI t ≤ nI w ↔ t ≤ w := nI_leI (by omega) (by omega)
set_option maxHeartbeats 200000 in
theorem ls_ylt {t w : Nat} (ht : t < 1000) (hw : w < 1000) : nI t < nI w ↔ t < w := nI_ltI (by omega) (by omega)
section
variable {f_most f_n f_stored f_nm f_nEnv f_base f_ns f_no f_nc f_pc f_mode f_err f_errAt f_ticks f_calls f_outs f_resK f_part f_cnt f_full f_flag f_need : Int32}
variable {f_resV : Int64}
variable {a_tk a_tp a_mName a_mKind a_mCount a_mPar a_mAt a_vName a_vDecl a_vKind a_sk a_oKind a_oAt a_oArgs a_cKind a_cA a_cB a_outK : Nat → Int32}
variable {a_tv a_vVal a_sv a_outV : Nat → Int64}
variable {v0 : SY} {post : Int32 → SY → Prop} {q : Int32 → Prop} {t nm nd ct fu fl : Nat} {C : List (Nat × Nat)} {O N : List Nat}
set_option maxHeartbeats 200000 in
theorem hy_level (ht : t < 100) (hq : q (nI (ls_lv t - 2))) : wpY_level q (f_most, f_n, f_stored, f_nm, f_nEnv, f_base, f_ns, f_no, f_nc, f_pc, f_mode, f_err, f_errAt, f_ticks, f_calls, f_outs, f_resK, f_part, f_resV, f_cnt, f_full, f_flag, f_need, a_tk, a_tv, a_tp, a_mName, a_mKind, a_mCount, a_mPar, a_mAt, a_vName, a_vDecl, a_vKind, a_vVal, a_sk, a_sv, a_oKind, a_oAt, a_oArgs, a_cKind, a_cA, a_cB, a_outK, a_outV) (nI t) := by
  have W : ∀ w v, w < 100 → nI (ls_lv w - 2) = v → nI t = nI w → q v := fun w v hw hv h => by
    have := (ls_yn ht hw).mp h
    subst this
    rw [← hv]; exact hq
  have R : ∀ v, ls_lv t - 2 = v → q (nI v) := fun v h => by rw [← h]; exact hq
  refine br_c (W 42 _ (by decide) rfl) (fun n42 => br_c (W 41 _ (by decide) rfl) (fun n41 => br_c (W 30 _ (by decide) rfl) (fun n30 => br_c (W 31 _ (by decide) rfl) (fun n31 => br_c (W 29 _ (by decide) rfl) (fun n29 => br_c (W 39 _ (by decide) rfl) (fun n39 => br_c (W 40 _ (by decide) rfl) (fun n40 => ?_)))))))
  have a42 : t ≠ 42 := fun e => n42 ((ls_yn ht (by decide)).mpr e)
  have a41 : t ≠ 41 := fun e => n41 ((ls_yn ht (by decide)).mpr e)
  have a30 : t ≠ 30 := fun e => n30 ((ls_yn ht (by decide)).mpr e)
  have a31 : t ≠ 31 := fun e => n31 ((ls_yn ht (by decide)).mpr e)
  have a29 : t ≠ 29 := fun e => n29 ((ls_yn ht (by decide)).mpr e)
  have a39 : t ≠ 39 := fun e => n39 ((ls_yn ht (by decide)).mpr e)
  have a40 : t ≠ 40 := fun e => n40 ((ls_yn ht (by decide)).mpr e)
  have L85 : ¬ (35 ≤ t ∧ t ≤ 38) → ¬ (32 ≤ t ∧ t ≤ 34) → wY_level_85 q (nI t) f_most f_n f_stored f_nm f_nEnv f_base f_ns f_no f_nc f_pc f_mode f_err f_errAt f_ticks f_calls f_outs f_resK f_part f_resV f_cnt f_full f_flag f_need a_tk a_tv a_tp a_mName a_mKind a_mCount a_mPar a_mAt a_vName a_vDecl a_vKind a_vVal a_sk a_sv a_oKind a_oAt a_oArgs a_cKind a_cA a_cB a_outK a_outV := by
    intro h1 h2
    refine br_c (W 24 _ (by decide) rfl) (fun n24 => br_c (W 25 _ (by decide) rfl) (fun n25 => ?_))
    have a24 : t ≠ 24 := fun e => n24 ((ls_yn ht (by decide)).mpr e)
    have a25 : t ≠ 25 := fun e => n25 ((ls_yn ht (by decide)).mpr e)
    refine br_c (fun h => R 0 ?_) (fun h => br_c (fun h2 => R 0 ?_) (fun h2 => R 10 ?_))
    · have := (ls_ylt (w := 26) (by omega) (by decide)).mp h
      unfold ls_lv; simp only [a42, a41, a30, a31, a29, a39, a40, a24, a25, h1, h2, if_false]; rw [if_neg (by omega)]
    · have := (ls_ylt (t := 28) (by decide) (by omega)).mp h2
      unfold ls_lv; simp only [a42, a41, a30, a31, a29, a39, a40, a24, a25, if_false]; repeat rw [if_neg (by omega)]
    · have g1 := mt (ls_ylt (w := 26) (by omega) (by decide)).mpr h
      have g2 := mt (ls_ylt (t := 28) (by decide) (by omega)).mpr h2
      unfold ls_lv; simp only [a42, a41, a30, a31, a29, a39, a40, a24, a25, if_false]; rw [if_neg (by omega), if_neg (by omega), if_pos (by omega)]
  have L70 : ¬ (35 ≤ t ∧ t ≤ 38) → wY_level_70 q (nI t) f_most f_n f_stored f_nm f_nEnv f_base f_ns f_no f_nc f_pc f_mode f_err f_errAt f_ticks f_calls f_outs f_resK f_part f_resV f_cnt f_full f_flag f_need a_tk a_tv a_tp a_mName a_mKind a_mCount a_mPar a_mAt a_vName a_vDecl a_vKind a_vVal a_sk a_sv a_oKind a_oAt a_oArgs a_cKind a_cA a_cB a_outK a_outV := by
    intro h1
    refine br_c (fun h => L85 h1 ?_) (fun h => br_c (fun h2 => L85 h1 ?_) (fun h2 => R 8 ?_))
    · have := (ls_ylt (w := 32) (by omega) (by decide)).mp h; omega
    · have := (ls_ylt (t := 34) (by decide) (by omega)).mp h2; omega
    · have g1 := mt (ls_ylt (w := 32) (by omega) (by decide)).mpr h
      have g2 := mt (ls_ylt (t := 34) (by decide) (by omega)).mpr h2
      unfold ls_lv; simp only [a42, a41, a30, a31, a29, a39, a40, if_false]; rw [if_neg h1, if_pos (by omega)]
  refine br_c (fun h => L70 ?_) (fun h => br_c (fun h2 => L70 ?_) (fun h2 => R 7 ?_))
  · have := (ls_ylt (w := 35) (by omega) (by decide)).mp h; omega
  · have := (ls_ylt (t := 38) (by decide) (by omega)).mp h2; omega
  · have g1 := mt (ls_ylt (w := 35) (by omega) (by decide)).mpr h
    have g2 := mt (ls_ylt (t := 38) (by decide) (by omega)).mpr h2
    unfold ls_lv; simp only [a42, a41, a30, a31, a29, a39, a40, if_false]; rw [if_pos (by omega)]
set_option maxHeartbeats 200000 in
theorem hy_isAssign (ht : t < 100) (h1 : ls_asg t → q 1) (h0 : ¬ ls_asg t → q 0) : wpY_isAssign q (f_most, f_n, f_stored, f_nm, f_nEnv, f_base, f_ns, f_no, f_nc, f_pc, f_mode, f_err, f_errAt, f_ticks, f_calls, f_outs, f_resK, f_part, f_resV, f_cnt, f_full, f_flag, f_need, a_tk, a_tv, a_tp, a_mName, a_mKind, a_mCount, a_mPar, a_mAt, a_vName, a_vDecl, a_vKind, a_vVal, a_sk, a_sv, a_oKind, a_oAt, a_oArgs, a_cKind, a_cA, a_cB, a_outK, a_outV) (nI t) := by
  refine br_c (fun h => h1 (Or.inl ((ls_yn ht (by decide)).mp h))) (fun h => br_c (fun h2 => h0 ?_) (fun h2 => br_c (fun h3 => h0 ?_) (fun h3 => h1 ?_)))
  · have e := mt (ls_yn (w := 21) ht (by decide)).mpr h
    have := (ls_ylt (w := 43) (by omega) (by decide)).mp h2; unfold ls_asg; omega
  · have e := mt (ls_yn (w := 21) ht (by decide)).mpr h
    have := (ls_yl (t := 54) (by decide) (by omega)).mp h3; unfold ls_asg; omega
  · have g2 := mt (ls_ylt (w := 43) (by omega) (by decide)).mpr h2
    have g3 := mt (ls_yl (t := 54) (by decide) (by omega)).mpr h3
    exact Or.inr ⟨by omega, by omega⟩
set_option maxHeartbeats 200000 in
theorem hy_isSign (ht : t < 100) (h1 : (22 ≤ t ∧ t ≤ 25) → q 1) (h0 : ¬ (22 ≤ t ∧ t ≤ 25) → q 0) : wpY_isSign q (f_most, f_n, f_stored, f_nm, f_nEnv, f_base, f_ns, f_no, f_nc, f_pc, f_mode, f_err, f_errAt, f_ticks, f_calls, f_outs, f_resK, f_part, f_resV, f_cnt, f_full, f_flag, f_need, a_tk, a_tv, a_tp, a_mName, a_mKind, a_mCount, a_mPar, a_mAt, a_vName, a_vDecl, a_vKind, a_vVal, a_sk, a_sv, a_oKind, a_oAt, a_oArgs, a_cKind, a_cA, a_cB, a_outK, a_outV) (nI t) := by
  have W : ∀ w, 22 ≤ w ∧ w ≤ 25 → nI t = nI w → q 1 := fun w hw h => h1 (by have := (ls_yn ht (by omega)).mp h; omega)
  refine br_c (W 22 (by decide)) (fun n22 => br_c (W 23 (by decide)) (fun n23 => br_c (W 24 (by decide)) (fun n24 => br_c (W 25 (by decide)) (fun n25 => h0 ?_))))
  have a22 : t ≠ 22 := fun e => n22 ((ls_yn ht (by decide)).mpr e)
  have a23 : t ≠ 23 := fun e => n23 ((ls_yn ht (by decide)).mpr e)
  have a24 : t ≠ 24 := fun e => n24 ((ls_yn ht (by decide)).mpr e)
  have a25 : t ≠ 25 := fun e => n25 ((ls_yn ht (by decide)).mpr e)
  omega
set_option maxHeartbeats 200000 in
theorem hy_isName (ht : t < 100) (h1 : ls_nam t → q 1) (h0 : ¬ ls_nam t → q 0) : wpY_isName q (f_most, f_n, f_stored, f_nm, f_nEnv, f_base, f_ns, f_no, f_nc, f_pc, f_mode, f_err, f_errAt, f_ticks, f_calls, f_outs, f_resK, f_part, f_resV, f_cnt, f_full, f_flag, f_need, a_tk, a_tv, a_tp, a_mName, a_mKind, a_mCount, a_mPar, a_mAt, a_vName, a_vDecl, a_vKind, a_vVal, a_sk, a_sv, a_oKind, a_oAt, a_oArgs, a_cKind, a_cA, a_cB, a_outK, a_outV) (nI t) := by
  refine br_c (fun h => h0 ?_) (fun h => br_c (fun h2 => h0 ?_) (fun h2 => h1 ?_))
  · have := (ls_ylt (w := 54) (by omega) (by decide)).mp h; unfold ls_nam; omega
  · have := (ls_yl (t := 70) (by decide) (by omega)).mp h2; unfold ls_nam; omega
  · have g1 := mt (ls_ylt (w := 54) (by omega) (by decide)).mpr h
    have g2 := mt (ls_yl (t := 70) (by decide) (by omega)).mpr h2
    exact ⟨by omega, by omega⟩
set_option maxHeartbeats 200000 in
theorem hy_opd {x : Int32} (hk : ((f_most, f_n, f_stored, f_nm, f_base, f_ns, f_pc, f_mode, f_err, f_errAt, f_ticks, f_calls, f_outs, f_resK, f_part, f_resV), (a_tk, a_tv, a_tp, a_mName, a_mKind, a_mCount, a_mPar, a_mAt), (a_vDecl, a_vKind, a_vVal, a_sk, a_sv, a_oKind, a_oAt, a_cB, a_outK, a_outV)) = ls_ykept v0) (hC : ls_StC a_cKind a_cA C) (hO : ls_StN a_oArgs O) (hN : ls_StN a_vName N) (bO : O.length < 399) (ht : t < 100)
    (hp : ls_yout v0 (ls_yopd t nm C O ct fu N) post) : wpY_operand post (f_most, f_n, f_stored, f_nm, nI N.length, f_base, f_ns, nI O.length, nI C.length, f_pc, f_mode, f_err, f_errAt, f_ticks, f_calls, f_outs, f_resK, f_part, f_resV, nI ct, nI fu, 0, x, a_tk, a_tv, a_tp, a_mName, a_mKind, a_mCount, a_mPar, a_mAt, a_vName, a_vDecl, a_vKind, a_vVal, a_sk, a_sv, a_oKind, a_oAt, a_oArgs, a_cKind, a_cA, a_cB, a_outK, a_outV) (nI t) (nI nm) := by
  unfold wpY_operand
  dsimp only
  unfold ls_yopd at hp
  refine hy_isSign ht (fun s => ?_) (fun s => ?_)
  · rw [if_pos s] at hp
    exact br_f (by decide) (hp _ ⟨hk, rfl, rfl, rfl, rfl, rfl, rfl, rfl, hC, hO, hN⟩)
  · rw [if_neg s] at hp
    refine br_t rfl ?_
    by_cases t15 : t = 15
    · rw [if_pos t15] at hp
      refine br_t ((ls_yn ht (by decide)).mpr t15) (nm_r (nI_1 _) ⟨vp_in_nI (by omega) (by decide), nm_r (by rw [nI_clamp (by omega), show vp_nar .byte 0 = nI 0 from ls_vnb (n := 0) (by decide)]) ?_⟩)
      exact hp _ ⟨hk, rfl, rfl, rfl, rfl, rfl, rfl, rfl, hC, ls_StN_push 0 hO, hN⟩
    · rw [if_neg t15] at hp
      refine br_f (mt (ls_yn ht (by decide)).mp t15) ?_
      have F : ∀ f : Nat, (if ls_nam t then nm else 0) = f → wY_operand_64 post (nI t) f_most f_n f_stored f_nm (nI N.length) f_base f_ns (nI O.length) (nI C.length) f_pc f_mode f_err f_errAt f_ticks f_calls f_outs f_resK f_part f_resV (nI ct) (nI fu) (nI f) 5 a_tk a_tv a_tp a_mName a_mKind a_mCount a_mPar a_mAt a_vName a_vDecl a_vKind a_vVal a_sk a_sv a_oKind a_oAt a_oArgs a_cKind a_cA a_cB a_outK a_outV := by
        intro f hf
        rw [hf] at hp
        have Y1 : (t = 13 ∨ t = 14 ∨ 54 ≤ t) → post 1 (f_most, f_n, f_stored, f_nm, nI N.length, f_base, f_ns, nI O.length, nI C.length, f_pc, f_mode, f_err, f_errAt, f_ticks, f_calls, f_outs, f_resK, f_part, f_resV, nI ct, nI fu, nI f, 5, a_tk, a_tv, a_tp, a_mName, a_mKind, a_mCount, a_mPar, a_mAt, a_vName, a_vDecl, a_vKind, a_vVal, a_sk, a_sv, a_oKind, a_oAt, a_oArgs, a_cKind, a_cA, a_cB, a_outK, a_outV) := fun h => by
          rw [if_pos h] at hp
          exact hp _ ⟨hk, rfl, rfl, rfl, rfl, rfl, rfl, rfl, hC, hO, hN⟩
        refine br_c (fun h => Y1 (Or.inl ((ls_yn ht (by decide)).mp h))) (fun n13 => br_c (fun h => Y1 (Or.inr (Or.inl ((ls_yn ht (by decide)).mp h)))) (fun n14 => br_c (fun h => ?_) (fun h => Y1 (Or.inr (Or.inr ?_)))))
        · have a13 : t ≠ 13 := fun e => n13 ((ls_yn ht (by decide)).mpr e)
          have a14 : t ≠ 14 := fun e => n14 ((ls_yn ht (by decide)).mpr e)
          have := (ls_ylt (w := 54) (by omega) (by decide)).mp h
          rw [if_neg (by omega)] at hp
          exact hp _ hk
        · have := mt (ls_ylt (w := 54) (by omega) (by decide)).mpr h
          omega
      refine hy_isName ht (fun n => br_f (by decide) (F nm (if_pos n))) (fun n => br_t rfl (F 0 (if_neg n)))
set_option maxHeartbeats 200000 in
theorem hy_aft (hk : ((f_most, f_n, f_stored, f_nm, f_base, f_ns, f_pc, f_mode, f_err, f_errAt, f_ticks, f_calls, f_outs, f_resK, f_part, f_resV), (a_tk, a_tv, a_tp, a_mName, a_mKind, a_mCount, a_mPar, a_mAt), (a_vDecl, a_vKind, a_vVal, a_sk, a_sv, a_oKind, a_oAt, a_cB, a_outK, a_outV)) = ls_ykept v0) (hC : ls_StC a_cKind a_cA C) (hO : ls_StN a_oArgs O) (hN : ls_StN a_vName N) (bO : O.length < 399) (ho : ∀ x ∈ O, x ≤ 3) (ht : t < 100) (hfl : fl < 3)
    (hp : ls_yout v0 (ls_yaft t fl C O ct fu N) post) : wpY_afterOperand post (f_most, f_n, f_stored, f_nm, nI N.length, f_base, f_ns, nI O.length, nI C.length, f_pc, f_mode, f_err, f_errAt, f_ticks, f_calls, f_outs, f_resK, f_part, f_resV, nI ct, nI fu, 0, nI 5, a_tk, a_tv, a_tp, a_mName, a_mKind, a_mCount, a_mPar, a_mAt, a_vName, a_vDecl, a_vKind, a_vVal, a_sk, a_sv, a_oKind, a_oAt, a_oArgs, a_cKind, a_cA, a_cB, a_outK, a_outV) (nI t) (nI fl) := by
  unfold wpY_afterOperand
  dsimp only
  unfold ls_yaft at hp
  have lvl : ls_lv t < 13 := by have := ls_lv_c t; omega
  refine hy_level ht ?_
  by_cases l2 : 2 < ls_lv t
  · rw [if_pos l2] at hp
    exact br_f (nI_nle (by omega) (by omega)) (hp _ ⟨hk, rfl, rfl, rfl, rfl, rfl, rfl, rfl, hC, hO, hN⟩)
  rw [if_neg l2] at hp
  refine br_t (by rw [show ls_lv t - 2 = 0 by omega]; decide) ?_
  refine hy_isAssign ht (fun a => br_f (by decide) ?_) (fun a => br_t rfl ?_)
  · rw [if_pos a] at hp
    by_cases f2 : fl = 2
    · rw [if_pos f2] at hp
      exact br_t ((ls_yn (by omega) (by decide)).mpr f2) (hp _ ⟨hk, rfl, rfl, rfl, rfl, rfl, rfl, rfl, hC, hO, hN⟩)
    · rw [if_neg f2] at hp
      exact br_f (mt (ls_yn (w := 2) (by omega) (by decide)).mp f2) (hp _ hk)
  rw [if_neg a] at hp
  by_cases t15 : t = 15
  · rw [if_pos t15] at hp
    refine br_t ((ls_yn ht (by decide)).mpr t15) (nm_r (nI_1 _) ⟨vp_in_nI (by omega) (by decide), nm_r (by rw [nI_clamp (by omega), show vp_nar .byte 1 = nI 1 from ls_vnb (n := 1) (by decide)]) ?_⟩)
    by_cases f0 : 0 < fl
    · rw [if_pos f0] at hp
      exact br_f (nI_nle f0 (by omega)) (hp _ ⟨hk, rfl, rfl, rfl, rfl, rfl, rfl, rfl, hC, ls_StN_push 1 hO, hN⟩)
    · rw [if_neg f0] at hp
      have f0 : fl = 0 := by omega
      subst f0
      exact br_t (by decide) (hp _ hk)
  rw [if_neg t15] at hp
  refine br_f (mt (ls_yn ht (by decide)).mp t15) ?_
  cases O with
  | nil => exact br_t rfl (hp _ hk)
  | cons o r =>
    dsimp only at hp
    have bO' : r.length + 1 < 399 := bO
    have o3 := ho o (List.mem_cons_self ..)
    refine br_f (nI_ne0 (n := r.length + 1) (by omega) (by omega)) ?_
    by_cases t16 : t = 16
    · rw [if_pos t16] at hp
      exact br_t ((ls_yn ht (by decide)).mpr t16) (nm_r (nI_pred r.length) (hp _ ⟨hk, rfl, rfl, rfl, rfl, rfl, rfl, rfl, hC, hO.2, hN⟩))
    rw [if_neg t16] at hp
    refine br_f (mt (ls_yn ht (by decide)).mp t16) ?_
    by_cases t19 : t = 19
    · refine br_t ((ls_yn ht (by decide)).mpr t19) ?_
      have ei : nI (o :: r : List Nat).length - 1 = nI r.length := nI_pred r.length
      rw [ei]
      have iv : vp_in (nI r.length) 400 := vp_in_nI (by omega) (by decide)
      refine ⟨iv, ?_⟩
      rw [nI_clamp (by omega), hO.1]
      by_cases o0 : 0 < o
      · refine br_f (nI_nle o0 (by omega)) ⟨iv, iv, nm_r (by rw [nI_1, ls_vnb2 (by omega)]) ?_⟩
        by_cases o4 : o < 3
        · rw [if_pos ⟨t19, o0, o4⟩] at hp
          exact br_f (nI_ge (b := 3) o4 (by decide)) (hp _ ⟨hk, rfl, rfl, rfl, rfl, rfl, rfl, rfl, hC, ⟨pk_us, ls_StN_up (Nat.le_refl _) hO.2⟩, hN⟩)
        · rw [if_neg (fun h => o4 h.2.2)] at hp
          exact br_t (nI_le (a := 3) (by omega) (by omega)) (hp _ hk)
      · rw [if_neg (fun h => o0 h.2.1)] at hp
        have o0 : o = 0 := by omega
        subst o0
        exact br_t (by decide) (hp _ hk)
    · rw [if_neg (fun h => t19 h.1)] at hp
      exact br_f (mt (ls_yn ht (by decide)).mp t19) (hp _ hk)
end
end
section
section
variable {f_most f_n f_stored f_nm f_nEnv f_base f_ns f_no f_nc f_pc f_mode f_err f_errAt f_ticks f_calls f_outs f_resK f_part f_cnt f_full f_flag f_need : Int32}
variable {f_resV : Int64}
variable {a_tk a_tp a_mName a_mKind a_mCount a_mPar a_mAt a_vName a_vDecl a_vKind a_sk a_oKind a_oAt a_oArgs a_cKind a_cA a_cB a_outK : Nat → Int32}
variable {a_tv a_vVal a_sv a_outV : Nat → Int64}
variable {v0 : SY} {post : Int32 → SY → Prop} {q : Int32 → Prop} {t nm nd ct fu fl : Nat} {C : List (Nat × Nat)} {O N : List Nat}
set_option maxHeartbeats 200000 in
theorem hy_with115 (hk : ((f_most, f_n, f_stored, f_nm, f_base, f_ns, f_pc, f_mode, f_err, f_errAt, f_ticks, f_calls, f_outs, f_resK, f_part, f_resV), (a_tk, a_tv, a_tp, a_mName, a_mKind, a_mCount, a_mPar, a_mAt), (a_vDecl, a_vKind, a_vVal, a_sk, a_sv, a_oKind, a_oAt, a_cB, a_outK, a_outV)) = ls_ykept v0) (hC : ls_StC a_cKind a_cA C) (hO : ls_StN a_oArgs O) (hN : ls_StN a_vName N) (bO : O.length < 399) (ho : ∀ x ∈ O, x ≤ 3) (ht : t < 100) (hfl : nd = 5 → fl < 3) (hct : ct < 200) (hnd : nd < 18) (hO1 : nd = 15 ∨ nd = 17 → O ≠ [])
    (hno : ¬ (nd = 5 ∧ O = [] ∧ (t = 20 ∧ (fu = 20 ∨ fu = 11) ∨ t = 16 ∧ (fu = 6 ∨ fu = 8 ∨ fu = 12)))) (hp : ls_yout v0 (ls_ywith nd t C O fl ct fu N) post) : wY_within_115 post (nI t) (nI nd) (nI fl) f_most f_n f_stored f_nm (nI N.length) f_base f_ns (nI O.length) (nI C.length) f_pc f_mode f_err f_errAt f_ticks f_calls f_outs f_resK f_part f_resV (nI ct) (nI fu) 0 (nI nd) a_tk a_tv a_tp a_mName a_mKind a_mCount a_mPar a_mAt a_vName a_vDecl a_vKind a_vVal a_sk a_sv a_oKind a_oAt a_oArgs a_cKind a_cA a_cB a_outK a_outV := by
  unfold ls_ywith at hp
  rw [if_neg hno] at hp
  unfold wY_within_115
  rw [nI_1]
  refine nm_e ?_
  have ND : ∀ w, w < 100 → nd ≠ w → ¬ nI nd = nI w := fun w hw h => mt (ls_yn (by omega) hw).mp h
  by_cases c32 : 32 < ct + 1
  · rw [if_pos c32] at hp
    exact br_f (nI_ge (a := 32) c32 (by omega)) (hp _ hk)
  rw [if_neg c32] at hp
  refine br_t (nI_le (b := 32) (by omega) (by decide)) ?_
  by_cases q5 : nd = 5
  · subst q5
    rw [if_pos rfl] at hp
    exact br_t rfl (hy_aft hk hC hO hN bO ho ht (hfl rfl) (ls_yout_nar hp))
  rw [if_neg q5] at hp
  refine br_f (ND 5 (by decide) q5) ?_
  by_cases q16 : nd = 16
  · subst q16
    rw [if_pos rfl] at hp
    refine br_t rfl ?_
    by_cases t16 : t = 16
    · rw [if_pos t16] at hp
      exact br_t ((ls_yn ht (by decide)).mpr t16) (hp _ ⟨hk, rfl, rfl, rfl, rfl, rfl, rfl, rfl, hC, hO, hN⟩)
    · rw [if_neg t16] at hp
      exact br_f (mt (ls_yn ht (by decide)).mp t16) (hp _ hk)
  rw [if_neg q16] at hp
  refine br_f (ND 16 (by decide) q16) ?_
  have TL : O ≠ [] → nI O.length - 1 = nI O.tail.length ∧ ls_StN a_oArgs O.tail := fun h => by
    cases O with
    | nil => exact absurd rfl h
    | cons o r => exact ⟨nI_pred r.length, hO.2⟩
  have OP : ls_yout v0 (ls_yopd t (if nd = 4 then 1 else 2) C O (ct + 1) fu N) post → wY_within_226 post (nI t) (nI nd) f_most f_n f_stored f_nm (nI N.length) f_base f_ns (nI O.length) (nI C.length) f_pc f_mode f_err f_errAt f_ticks f_calls f_outs f_resK f_part f_resV (nI (ct + 1)) (nI fu) 0 (nI nd) a_tk a_tv a_tp a_mName a_mKind a_mCount a_mPar a_mAt a_vName a_vDecl a_vKind a_vVal a_sk a_sv a_oKind a_oAt a_oArgs a_cKind a_cA a_cB a_outK a_outV := by
    intro hp
    by_cases q4 : nd = 4
    · rw [if_pos q4] at hp
      exact br_t (by rw [q4]; rfl) (hy_opd hk hC hO hN bO ht (ls_yout_nar hp))
    · rw [if_neg q4] at hp
      exact br_f (ND 4 (by decide) q4) (hy_opd hk hC hO hN bO ht (ls_yout_nar hp))
  have W197 : ls_yout v0 (if nd = 15 ∧ t < 5 then some (16, C, O.tail, 0, ct + 1, fu, N) else ls_yopd t (if nd = 4 then 1 else 2) C O (ct + 1) fu N) post → wY_within_197 post (nI t) (nI nd) f_most f_n f_stored f_nm (nI N.length) f_base f_ns (nI O.length) (nI C.length) f_pc f_mode f_err f_errAt f_ticks f_calls f_outs f_resK f_part f_resV (nI (ct + 1)) (nI fu) 0 (nI nd) a_tk a_tv a_tp a_mName a_mKind a_mCount a_mPar a_mAt a_vName a_vDecl a_vKind a_vVal a_sk a_sv a_oKind a_oAt a_oArgs a_cKind a_cA a_cB a_outK a_outV := by
    intro hp
    by_cases q15 : nd = 15
    · refine br_t (by rw [q15]; rfl) ?_
      by_cases t5 : t < 5
      · rw [if_pos ⟨q15, t5⟩] at hp
        obtain ⟨e1, e2⟩ := TL (hO1 (Or.inl q15))
        exact br_f (nI_ge (b := 5) t5 (by decide)) (nm_r e1 (hp _ ⟨hk, rfl, rfl, rfl, rfl, rfl, rfl, rfl, hC, e2, hN⟩))
      · rw [if_neg (fun h => t5 h.2)] at hp
        exact br_t (nI_le (a := 5) (by omega) (by omega)) (OP hp)
    · rw [if_neg (fun h => q15 h.1)] at hp
      exact br_f (ND 15 (by decide) q15) (OP hp)
  by_cases q17 : nd = 17
  · refine br_t (by rw [q17]; rfl) ?_
    by_cases t16 : t = 16
    · rw [if_pos ⟨q17, t16⟩] at hp
      obtain ⟨e1, e2⟩ := TL (hO1 (Or.inr q17))
      exact br_t ((ls_yn ht (by decide)).mpr t16) (nm_r e1 (hp _ ⟨hk, rfl, rfl, rfl, rfl, rfl, rfl, rfl, hC, e2, hN⟩))
    · rw [if_neg (fun h => t16 h.2)] at hp
      exact br_f (mt (ls_yn ht (by decide)).mp t16) (W197 hp)
  · rw [if_neg (fun h => q17 h.1)] at hp
    exact br_f (ND 17 (by decide) q17) (W197 hp)
set_option maxHeartbeats 200000 in
theorem hy_with (hk : ((f_most, f_n, f_stored, f_nm, f_base, f_ns, f_pc, f_mode, f_err, f_errAt, f_ticks, f_calls, f_outs, f_resK, f_part, f_resV), (a_tk, a_tv, a_tp, a_mName, a_mKind, a_mCount, a_mPar, a_mAt), (a_vDecl, a_vKind, a_vVal, a_sk, a_sv, a_oKind, a_oAt, a_cB, a_outK, a_outV)) = ls_ykept v0) (hC : ls_StC a_cKind a_cA C) (hO : ls_StN a_oArgs O) (hN : ls_StN a_vName N) (bO : O.length < 399) (ho : ∀ x ∈ O, x ≤ 3) (ht : t < 100) (hfl : nd = 5 → fl < 3) (hct : ct < 200) (hnd : nd < 18) (hfu : fu < 100) (hO1 : nd = 15 ∨ nd = 17 → O ≠ [])
    (hp : ls_yout v0 (ls_ywith nd t C O fl ct fu N) post) : wpY_within post (f_most, f_n, f_stored, f_nm, nI N.length, f_base, f_ns, nI O.length, nI C.length, f_pc, f_mode, f_err, f_errAt, f_ticks, f_calls, f_outs, f_resK, f_part, f_resV, nI ct, nI fu, nI fl, nI nd, a_tk, a_tv, a_tp, a_mName, a_mKind, a_mCount, a_mPar, a_mAt, a_vName, a_vDecl, a_vKind, a_vVal, a_sk, a_sv, a_oKind, a_oAt, a_oArgs, a_cKind, a_cA, a_cB, a_outK, a_outV) (nI t) := by
  have K : ¬ (nd = 5 ∧ O = [] ∧ (t = 20 ∧ (fu = 20 ∨ fu = 11) ∨ t = 16 ∧ (fu = 6 ∨ fu = 8 ∨ fu = 12))) → wY_within_115 post (nI t) (nI nd) (nI fl) f_most f_n f_stored f_nm (nI N.length) f_base f_ns (nI O.length) (nI C.length) f_pc f_mode f_err f_errAt f_ticks f_calls f_outs f_resK f_part f_resV (nI ct) (nI fu) 0 (nI nd) a_tk a_tv a_tp a_mName a_mKind a_mCount a_mPar a_mAt a_vName a_vDecl a_vKind a_vVal a_sk a_sv a_oKind a_oAt a_oArgs a_cKind a_cA a_cB a_outK a_outV :=
    fun h => hy_with115 hk hC hO hN bO ho ht hfl hct hnd hO1 h hp
  have ND : ∀ w, w < 100 → nd ≠ w → ¬ nI nd = nI w := fun w hw h => mt (ls_yn (by omega) hw).mp h
  have FU : ∀ w, w < 100 → fu ≠ w → ¬ nI fu = nI w := fun w hw h => mt (ls_yn (by omega) hw).mp h
  unfold wpY_within
  dsimp only
  by_cases q5 : nd = 5
  · refine br_t (by rw [q5]; rfl) ?_
    cases O with
    | nil =>
      refine br_t rfl ?_
      have D84 : (t = 20 ∧ (fu = 20 ∨ fu = 11) ∨ t = 16 ∧ (fu = 6 ∨ fu = 8 ∨ fu = 12)) → wY_within_84 post (nI t) f_most f_n f_stored f_nm (nI N.length) f_base f_ns (nI 0) (nI C.length) f_pc f_mode f_err f_errAt f_ticks f_calls f_outs f_resK f_part f_resV (nI ct) (nI fu) 0 (nI nd) a_tk a_tv a_tp a_mName a_mKind a_mCount a_mPar a_mAt a_vName a_vDecl a_vKind a_vVal a_sk a_sv a_oKind a_oAt a_oArgs a_cKind a_cA a_cB a_outK a_outV := by
        intro h
        unfold ls_ywith at hp
        rw [if_pos ⟨q5, rfl, h⟩] at hp
        by_cases t20 : t = 20
        · rw [if_pos t20] at hp
          exact br_t ((ls_yn ht (by decide)).mpr t20) (hp _ ⟨hk, rfl, rfl, rfl, rfl, rfl, rfl, rfl, hC, hO, hN⟩)
        · rw [if_neg t20] at hp
          refine br_f (mt (ls_yn ht (by decide)).mp t20) ?_
          by_cases f12 : fu = 12
          · rw [if_pos f12] at hp
            exact br_t ((ls_yn hfu (by decide)).mpr f12) (hp _ ⟨hk, rfl, rfl, rfl, rfl, rfl, rfl, rfl, hC, hO, hN⟩)
          · rw [if_neg f12] at hp
            exact br_f (FU 12 (by decide) f12) (hp _ ⟨hk, rfl, rfl, rfl, rfl, rfl, rfl, rfl, hC, hO, hN⟩)
      have D51 : ¬ (t = 20 ∧ (fu = 20 ∨ fu = 11)) → wY_within_51 post (nI t) (nI nd) (nI fl) f_most f_n f_stored f_nm (nI N.length) f_base f_ns (nI 0) (nI C.length) f_pc f_mode f_err f_errAt f_ticks f_calls f_outs f_resK f_part f_resV (nI ct) (nI fu) 0 (nI nd) a_tk a_tv a_tp a_mName a_mKind a_mCount a_mPar a_mAt a_vName a_vDecl a_vKind a_vVal a_sk a_sv a_oKind a_oAt a_oArgs a_cKind a_cA a_cB a_outK a_outV := by
        intro h
        refine br_c (fun t16 => ?_) (fun t16 => K ?_)
        · have t16 := (ls_yn ht (by decide)).mp t16
          refine br_c (fun f => D84 (Or.inr ⟨t16, Or.inl ((ls_yn hfu (by decide)).mp f)⟩)) (fun f6 => br_c (fun f => D84 (Or.inr ⟨t16, Or.inr (Or.inl ((ls_yn hfu (by decide)).mp f))⟩)) (fun f8 => br_c (fun f => D84 (Or.inr ⟨t16, Or.inr (Or.inr ((ls_yn hfu (by decide)).mp f))⟩)) (fun f12 => K ?_)))
          intro ⟨_, _, g⟩
          rcases g with g | ⟨_, g | g | g⟩
          · exact h g
          · exact f6 ((ls_yn hfu (by decide)).mpr g)
          · exact f8 ((ls_yn hfu (by decide)).mpr g)
          · exact f12 ((ls_yn hfu (by decide)).mpr g)
        · intro ⟨_, _, g⟩
          rcases g with g | ⟨g, _⟩
          · exact h g
          · exact t16 ((ls_yn ht (by decide)).mpr g)
      refine br_c (fun t20 => ?_) (fun t20 => D51 (fun h => t20 ((ls_yn ht (by decide)).mpr h.1)))
      have t20 := (ls_yn ht (by decide)).mp t20
      refine br_c (fun f => D84 (Or.inl ⟨t20, Or.inl ((ls_yn hfu (by decide)).mp f)⟩)) (fun f20 => br_c (fun f => D84 (Or.inl ⟨t20, Or.inr ((ls_yn hfu (by decide)).mp f)⟩)) (fun f11 => D51 ?_))
      intro ⟨_, g⟩
      rcases g with g | g
      · exact f20 ((ls_yn hfu (by decide)).mpr g)
      · exact f11 ((ls_yn hfu (by decide)).mpr g)
    | cons o r =>
      exact br_f (nI_ne0 (n := r.length + 1) (by omega) (by have : r.length + 1 < 399 := bO; omega)) (K (fun h => List.cons_ne_nil _ _ h.2.1))
  · exact br_f (ND 5 (by decide) q5) (K (fun h => q5 h.1))
set_option maxHeartbeats 200000 in
theorem hy_open {k : Nat} {p : SY → Prop} (hk5 : k < 100) (bC : C.length < 699) (bN : N.length ≤ 8)
    (hp : p (f_most, f_n, f_stored, f_nm, nI N.length, f_base, f_ns, f_no, nI (C.length + 1), f_pc, f_mode, f_err, f_errAt, f_ticks, f_calls, f_outs, f_resK, f_part, f_resV, f_cnt, f_full, f_flag, f_need, a_tk, a_tv, a_tp, a_mName, a_mKind, a_mCount, a_mPar, a_mAt, a_vName, a_vDecl, a_vKind, a_vVal, a_sk, a_sv, a_oKind, a_oAt, a_oArgs, upd a_cKind C.length (nI k), upd a_cA C.length (nI N.length), a_cB, a_outK, a_outV)) : wpY_openStatement p (f_most, f_n, f_stored, f_nm, nI N.length, f_base, f_ns, f_no, nI C.length, f_pc, f_mode, f_err, f_errAt, f_ticks, f_calls, f_outs, f_resK, f_part, f_resV, f_cnt, f_full, f_flag, f_need, a_tk, a_tv, a_tp, a_mName, a_mKind, a_mCount, a_mPar, a_mAt, a_vName, a_vDecl, a_vKind, a_vVal, a_sk, a_sv, a_oKind, a_oAt, a_oArgs, a_cKind, a_cA, a_cB, a_outK, a_outV) (nI k) := by
  have iv : vp_in (nI C.length) 700 := vp_in_nI (by omega) (by decide)
  have ei : (nI C.length).toNatClampNeg = C.length := nI_clamp (by omega)
  exact ⟨iv, nm_r (by rw [ei, ls_vnb2 (by omega)]) (nm_r (nI_1 _) ⟨iv, nm_r (by rw [ei, ls_vns2 (by omega)]) hp⟩)⟩
set_option maxHeartbeats 200000 in
theorem hy_inside (hC : ls_StC a_cKind a_cA C) (bC : C.length < 699) (hc : ∀ e ∈ C, 1 ≤ e.1 ∧ e.1 ≤ 5 ∧ e.2 ≤ 8) (h1 : ls_yins C = true → q 1) (h0 : ls_yins C = false → q 0) : wpY_inside q (f_most, f_n, f_stored, f_nm, f_nEnv, f_base, f_ns, f_no, nI C.length, f_pc, f_mode, f_err, f_errAt, f_ticks, f_calls, f_outs, f_resK, f_part, f_resV, f_cnt, f_full, f_flag, f_need, a_tk, a_tv, a_tp, a_mName, a_mKind, a_mCount, a_mPar, a_mAt, a_vName, a_vDecl, a_vKind, a_vVal, a_sk, a_sv, a_oKind, a_oAt, a_oArgs, a_cKind, a_cA, a_cB, a_outK, a_outV) 2 := by
  have H : ∀ (D : List (Nat × Nat)), D.length < 699 → ls_StC a_cKind a_cA D → (∀ e ∈ D, 1 ≤ e.1 ∧ e.1 ≤ 5 ∧ e.2 ≤ 8) → ls_yins D = ls_yins C → ∀ x : Int32, (D = [] → x = -1) → (∀ e r, D = e :: r → x = nI r.length) → wY_inside_7 q 2 f_most f_n f_stored f_nm f_nEnv f_base f_ns f_no (nI C.length) f_pc f_mode f_err f_errAt f_ticks f_calls f_outs f_resK f_part f_resV f_cnt f_full f_flag f_need a_tk a_tv a_tp a_mName a_mKind a_mCount a_mPar a_mAt a_vName a_vDecl a_vKind a_vVal a_sk a_sv a_oKind a_oAt a_oArgs a_cKind a_cA a_cB a_outK a_outV (D.length + 1) x := by
    intro D
    induction D with
    | nil =>
      intro _ _ _ e x hx _
      rw [hx rfl]
      exact br_t (by decide) (h0 e.symm)
    | cons e r ih =>
      intro hl hS hd he x _ hx
      have hl' : r.length + 1 < 699 := hl
      rw [hx e r rfl]
      obtain ⟨d1, d2, d3⟩ := hd e (List.mem_cons_self ..)
      have iv : vp_in (nI r.length) 700 := vp_in_nI (by omega) (by decide)
      refine br_f (nI_pos (by omega)) ⟨iv, ?_⟩
      rw [nI_clamp (by omega), hS.1]
      by_cases q3 : e.1 = 3
      · exact br_t ((ls_yn (by omega) (by decide)).mpr q3) (h0 (by rw [← he]; simp [ls_yins, q3]))
      · refine br_f (mt (ls_yn (w := 3) (by omega) (by decide)).mp q3) ⟨iv, ?_⟩
        by_cases q2 : e.1 = 2
        · exact br_t ((ls_yn (by omega) (by decide)).mpr q2) (h1 (by rw [← he]; simp [ls_yins, q2]))
        · refine br_f (mt (ls_yn (w := 2) (by omega) (by decide)).mp q2) (nm_e ?_)
          refine ih (by omega) hS.2.2 (fun e he => hd e (List.mem_cons_of_mem _ he)) (by rw [← he]; simp [ls_yins, q3, q2]) _ (fun hr => ?_) (fun g r2 hr => ?_)
          · subst hr; decide
          · subst hr; exact pk_m1 r2.length
  refine nm_e ⟨_, H C bC hC hc rfl _ (fun h => ?_) (fun e r h => ?_)⟩
  · subst h; decide
  · subst h; exact nI_pred r.length
set_option maxHeartbeats 200000 in
theorem hy_bot (hC : ls_StC a_cKind a_cA C) (hc : ∀ e ∈ C, 1 ≤ e.1 ∧ e.1 ≤ 5 ∧ e.2 ≤ 8) (hne : C ≠ []) : a_cKind 0 = 3 ↔ ls_ybot C = true := by
  induction C with
  | nil => exact absurd rfl hne
  | cons e r ih =>
    cases r with
    | nil =>
      have h0 : a_cKind 0 = nI e.1 := hC.1
      obtain ⟨d1, d2, d3⟩ := hc e (List.mem_cons_self ..)
      rw [h0]
      show nI e.1 = nI 3 ↔ decide (e.1 = 3) = true
      rw [ls_yn (by omega) (by decide)]; simp
    | cons g r2 => exact ih hC.2.2 (fun e he => hc e (List.mem_cons_of_mem _ he)) (List.cons_ne_nil _ _)
end
end
section
section
variable {f_most f_n f_stored f_nm f_nEnv f_base f_ns f_no f_nc f_pc f_mode f_err f_errAt f_ticks f_calls f_outs f_resK f_part f_cnt f_full f_flag f_need : Int32}
variable {f_resV : Int64}
variable {a_tk a_tp a_mName a_mKind a_mCount a_mPar a_mAt a_vName a_vDecl a_vKind a_sk a_oKind a_oAt a_oArgs a_cKind a_cA a_cB a_outK : Nat → Int32}
variable {a_tv a_vVal a_sv a_outV : Nat → Int64}
variable {v0 : SY} {post : Int32 → SY → Prop} {q : Int32 → Prop} {t nm nd ct fu fl : Nat} {C : List (Nat × Nat)} {O N : List Nat}
set_option maxHeartbeats 200000 in
theorem ls_StN_dropTo {a : Nat → Int32} {M : List Nat} {x : Nat} (h : ls_StN a M) (hx : x ≤ M.length) : ls_StN a (M.drop (M.length - x)) ∧ (M.drop (M.length - x)).length = x :=
  ⟨ls_StN_drop _ h, by rw [List.length_drop]; omega⟩
set_option maxHeartbeats 200000 in
theorem hy_beg (list : Bool) (hk : ((f_most, f_n, f_stored, f_nm, f_base, f_ns, f_pc, f_mode, f_err, f_errAt, f_ticks, f_calls, f_outs, f_resK, f_part, f_resV), (a_tk, a_tv, a_tp, a_mName, a_mKind, a_mCount, a_mPar, a_mAt), (a_vDecl, a_vKind, a_vVal, a_sk, a_sv, a_oKind, a_oAt, a_cB, a_outK, a_outV)) = ls_ykept v0) (hC : ls_StC a_cKind a_cA C) (hO : ls_StN a_oArgs O) (hN : ls_StN a_vName N) (bC : C.length < 699) (bO : O.length < 399) (bN : N.length ≤ 8) (hc : ∀ e ∈ C, 1 ≤ e.1 ∧ e.1 ≤ 5 ∧ e.2 ≤ 8) (hcN : ∀ e ∈ C, e.2 ≤ N.length) (ho : ∀ x ∈ O, x ≤ 3) (ht : t < 100) (nd : Nat) (hnd : nd = if list then 0 else 1)
    (hp : ls_yout v0 (ls_ybeg list t C O fl ct fu N) post) : wpY_begins post (f_most, f_n, f_stored, f_nm, nI N.length, f_base, f_ns, nI O.length, nI C.length, f_pc, f_mode, f_err, f_errAt, f_ticks, f_calls, f_outs, f_resK, f_part, f_resV, nI ct, nI fu, nI fl, nI nd, a_tk, a_tv, a_tp, a_mName, a_mKind, a_mCount, a_mPar, a_mAt, a_vName, a_vDecl, a_vKind, a_vVal, a_sk, a_sv, a_oKind, a_oAt, a_oArgs, a_cKind, a_cA, a_cB, a_outK, a_outV) (nI t) := by
  have TN : ∀ w, w < 100 → t ≠ w → ¬ nI t = nI w := fun w hw h => mt (ls_yn ht hw).mp h
  have TE : ∀ w, w < 100 → t = w → nI t = nI w := fun w hw h => by rw [h]
  have M : ∀ z : Nat, (z = if list then 1 else 0) → wY_begins_12 post (nI t) (nI z) f_most f_n f_stored f_nm (nI N.length) f_base f_ns (nI O.length) (nI C.length) f_pc f_mode f_err f_errAt f_ticks f_calls f_outs f_resK f_part f_resV (nI ct) (nI fu) (nI fl) (nI nd) a_tk a_tv a_tp a_mName a_mKind a_mCount a_mPar a_mAt a_vName a_vDecl a_vKind a_vVal a_sk a_sv a_oKind a_oAt a_oArgs a_cKind a_cA a_cB a_outK a_outV := by
    intro z hz
    unfold ls_ybeg at hp
    by_cases t20 : t = 20
    · rw [if_pos t20] at hp
      exact br_t (TE 20 (by decide) t20) (hp _ ⟨hk, rfl, rfl, rfl, rfl, rfl, rfl, rfl, hC, hO, hN⟩)
    rw [if_neg t20] at hp
    refine br_f (TN 20 (by decide) t20) ?_
    by_cases t6 : t < 6
    · rw [if_pos t6] at hp
      refine br_f (nI_ge (b := 6) t6 (by decide)) (br_f (nI_ge (b := 6) t6 (by decide)) ?_)
      cases list with
      | true =>
        have : z = 1 := hz
        subst this
        exact ⟨rfl, hp _ ⟨hk, rfl, rfl, rfl, rfl, rfl, rfl, rfl, hC, hO, hN⟩⟩
      | false =>
        have : z = 0 := hz
        subst this
        exact ⟨rfl, hp _ hk⟩
    rw [if_neg t6] at hp
    have g6 : (6 : Int32) ≤ nI t := nI_le (a := 6) (by omega) (by omega)
    refine br_t g6 (br_t g6 ?_)
    by_cases t17 : t = 17
    · rw [if_pos t17] at hp
      refine br_t (TE 17 (by decide) t17) (hy_open (k := 1) (by decide) bC bN ?_)
      exact br_t (TE 17 (by decide) t17) (hp _ ⟨hk, rfl, rfl, rfl, rfl, rfl, rfl, rfl, ⟨pk_us, pk_us, ls_StC_up (Nat.le_refl _) hC⟩, hO, hN⟩)
    rw [if_neg t17] at hp
    refine br_f (TN 17 (by decide) t17) (br_f (TN 17 (by decide) t17) ?_)
    by_cases t18 : t = 18
    · rw [if_pos t18] at hp
      refine br_t (TE 18 (by decide) t18) ?_
      cases list with
      | false =>
        have : z = 0 := hz
        subst this
        exact br_t rfl (hp _ hk)
      | true =>
        have : z = 1 := hz
        subst this
        refine br_f (by decide) ?_
        rw [if_pos rfl] at hp
        unfold ls_ycl at hp
        cases C with
        | nil => exact br_t rfl (hp _ hk)
        | cons e r =>
          dsimp only at hp
          have bC' : r.length + 1 < 699 := bC
          refine br_f (nI_ne0 (n := r.length + 1) (by omega) (by omega)) (nm_r (nI_pred r.length) ?_)
          rw [show nI (e :: r : List (Nat × Nat)).length - 1 = nI r.length from nI_pred r.length]
          refine ⟨vp_in_nI (by omega) (by decide), ?_⟩
          rw [nI_clamp (by omega)]
          refine nm_r hC.2.1 ?_
          obtain ⟨s1, s2⟩ := ls_StN_dropTo hN (hcN e (List.mem_cons_self ..))
          cases r with
          | nil =>
            refine br_t (by decide) (hp _ ⟨hk, rfl, rfl, rfl, rfl, rfl, rfl, ?_, trivial, hO, s1⟩)
            rw [s2]
          | cons g r2 =>
            dsimp only at hp
            have bC2 : r2.length + 1 + 1 < 699 := bC'
            refine br_f (nI_nle (n := r2.length + 1) (by omega) (by omega)) ?_
            rw [show nI (g :: r2 : List (Nat × Nat)).length - 1 = nI r2.length from nI_pred r2.length]
            have iv : vp_in (nI r2.length) 700 := vp_in_nI (by omega) (by decide)
            refine ⟨iv, ?_⟩
            rw [nI_clamp (by omega), hC.2.2.1]
            obtain ⟨d1, d2, d3⟩ := hc g (by simp)
            by_cases q3 : g.1 = 3
            · rw [if_pos q3] at hp
              refine br_t ((ls_yn (by omega) (by decide)).mpr q3) (nm_e ⟨iv, ?_⟩)
              refine nm_r hC.2.2.2.1 ?_
              obtain ⟨s3, s4⟩ := ls_StN_dropTo hN (hcN g (by simp))
              refine hp _ ⟨hk, rfl, rfl, rfl, rfl, rfl, rfl, ?_, hC.2.2.2.2, hO, s3⟩
              rw [s4]
            · rw [if_neg q3] at hp
              refine br_f (mt (ls_yn (w := 3) (by omega) (by decide)).mp q3) (hp _ ⟨hk, rfl, rfl, rfl, rfl, rfl, rfl, ?_, hC.2.2, hO, s1⟩)
              rw [s2]
    rw [if_neg t18] at hp
    refine br_f (TN 18 (by decide) t18) ?_
    by_cases t6 : t = 6
    · rw [if_pos t6] at hp
      refine br_t (TE 6 (by decide) t6) (br_f (TN 12 (by decide) (by omega)) (br_t (TE 6 (by decide) t6) (hy_open (k := 4) (by decide) bC bN ?_)))
      subst t6
      exact hp _ ⟨hk, rfl, rfl, rfl, rfl, rfl, rfl, rfl, ⟨pk_us, pk_us, ls_StC_up (Nat.le_refl _) hC⟩, hO, hN⟩
    rw [if_neg t6] at hp
    refine br_f (TN 6 (by decide) t6) ?_
    by_cases t8 : t = 8
    · rw [if_pos t8] at hp
      refine br_t (TE 8 (by decide) t8) (br_f (TN 12 (by decide) (by omega)) (br_f (TN 6 (by decide) t6) (hy_open (k := 2) (by decide) bC bN ?_)))
      subst t8
      exact hp _ ⟨hk, rfl, rfl, rfl, rfl, rfl, rfl, rfl, ⟨pk_us, pk_us, ls_StC_up (Nat.le_refl _) hC⟩, hO, hN⟩
    rw [if_neg t8] at hp
    refine br_f (TN 8 (by decide) t8) ?_
    by_cases t12 : t = 12
    · rw [if_pos t12] at hp
      refine br_t (TE 12 (by decide) t12) (br_t (TE 12 (by decide) t12) ?_)
      subst t12
      exact hp _ ⟨hk, rfl, rfl, rfl, rfl, rfl, rfl, rfl, hC, hO, hN⟩
    rw [if_neg t12] at hp
    refine br_f (TN 12 (by decide) t12) ?_
    by_cases t910 : t = 9 ∨ t = 10
    · rw [if_pos t910] at hp
      refine br_f (TN 11 (by decide) (by omega)) ?_
      have I : wY_begins_233 post f_most f_n f_stored f_nm (nI N.length) f_base f_ns (nI O.length) (nI C.length) f_pc f_mode f_err f_errAt f_ticks f_calls f_outs f_resK f_part f_resV (nI ct) (nI t) (nI fl) (nI 6) a_tk a_tv a_tp a_mName a_mKind a_mCount a_mPar a_mAt a_vName a_vDecl a_vKind a_vVal a_sk a_sv a_oKind a_oAt a_oArgs a_cKind a_cA a_cB a_outK a_outV := by
        refine hy_inside hC bC hc (fun i => ⟨rfl, ?_⟩) (fun i => ⟨rfl, ?_⟩)
        · rw [if_pos i] at hp
          exact hp _ ⟨hk, rfl, rfl, rfl, rfl, rfl, rfl, rfl, hC, hO, hN⟩
        · rw [if_neg (by rw [i]; simp)] at hp
          exact hp _ hk
      rcases t910 with h | h
      · exact br_t (TE 9 (by decide) h) I
      · exact br_f (TN 9 (by decide) (by omega)) (br_t (TE 10 (by decide) h) I)
    rw [if_neg t910] at hp
    have B213 : ∀ z0 : Nat, (t = 11 → z0 = 7) → wY_begins_213 post (nI t) (nI z0) f_most f_n f_stored f_nm (nI N.length) f_base f_ns (nI O.length) (nI C.length) f_pc f_mode f_err f_errAt f_ticks f_calls f_outs f_resK f_part f_resV (nI ct) (nI fu) (nI fl) (nI 0) a_tk a_tv a_tp a_mName a_mKind a_mCount a_mPar a_mAt a_vName a_vDecl a_vKind a_vVal a_sk a_sv a_oKind a_oAt a_oArgs a_cKind a_cA a_cB a_outK a_outV := by
      intro z0 hz0
      refine br_f (TN 9 (by decide) (by omega)) (br_f (TN 10 (by decide) (by omega)) ?_)
      by_cases t11 : t = 11
      · rw [if_pos t11] at hp
        have := hz0 t11
        subst this
        refine br_t (TE 11 (by decide) t11) ?_
        by_cases c0 : C = []
        · subst c0
          exact br_t (by decide) (hp _ hk)
        · have c1 : 0 < C.length := List.length_pos_iff.mpr c0
          refine br_f (nI_nle c1 (by omega)) (br_c (fun h => ?_) (fun h => ?_))
          · rw [if_pos ((hy_bot hC hc c0).mp h)] at hp
            subst t11
            exact hp _ ⟨hk, rfl, rfl, rfl, rfl, rfl, rfl, rfl, hC, hO, hN⟩
          · rw [if_neg (fun g => h ((hy_bot hC hc c0).mpr g))] at hp
            exact hp _ hk
      · rw [if_neg t11] at hp
        refine br_f (TN 11 (by decide) t11) ?_
        exact hy_with (nd := 3) (ct := 0) (fu := 20) hk hC hO hN bO ho ht (fun h => by omega) (by decide) (by decide) (by decide) (fun h => by omega) (ls_yout_nar hp)
    exact br_c (fun h => B213 7 (fun _ => rfl)) (fun h => B213 6 (fun e => absurd (TE 11 (by decide) e) h))
  unfold wpY_begins
  dsimp only
  cases list with
  | true =>
    have : nd = 0 := hnd
    subst this
    exact br_t rfl (M 1 rfl)
  | false =>
    have : nd = 1 := hnd
    subst this
    exact br_f (by decide) (M 0 rfl)
set_option maxHeartbeats 200000 in
theorem hy_declares (hk : ((f_most, f_n, f_stored, f_nm, f_base, f_ns, f_pc, f_mode, f_err, f_errAt, f_ticks, f_calls, f_outs, f_resK, f_part, f_resV), (a_tk, a_tv, a_tp, a_mName, a_mKind, a_mCount, a_mPar, a_mAt), (a_vDecl, a_vKind, a_vVal, a_sk, a_sv, a_oKind, a_oAt, a_cB, a_outK, a_outV)) = ls_ykept v0) (hC : ls_StC a_cKind a_cA C) (hO : ls_StN a_oArgs O) (hN : ls_StN a_vName N) (bC : C.length < 699) (bN : N.length ≤ 8) (hc : ∀ e ∈ C, 1 ≤ e.1 ∧ e.1 ≤ 5 ∧ e.2 ≤ 8) (hcN : ∀ e ∈ C, e.2 ≤ N.length) (hx : ∀ x ∈ N, x < 100) (ht : t < 100) (tn : ls_nam t)
    (hp : ls_yout v0 (ls_ydec nd t C O fl ct fu N) post) : wpY_declares post (f_most, f_n, f_stored, f_nm, nI N.length, f_base, f_ns, nI O.length, nI C.length, f_pc, f_mode, f_err, f_errAt, f_ticks, f_calls, f_outs, f_resK, f_part, f_resV, nI ct, nI fu, nI fl, nI nd, a_tk, a_tv, a_tp, a_mName, a_mKind, a_mCount, a_mPar, a_mAt, a_vName, a_vDecl, a_vKind, a_vVal, a_sk, a_sv, a_oKind, a_oAt, a_oArgs, a_cKind, a_cA, a_cB, a_outK, a_outV) (nI t) := by
  unfold ls_ydec at hp
  rw [if_pos tn] at hp
  have key : ∀ (M : List Nat), ls_StN a_vName M → ∀ i, i < M.length → ∃ x, a_vName i = nI x ∧ x ∈ M ∧ M.take (M.length - i) = M.take (M.length - (i + 1)) ++ [x] := by
    intro M
    induction M with
    | nil => intro _ i hi; exact absurd hi (by simp)
    | cons z r ih =>
      intro hS i hi
      obtain ⟨s1, s2⟩ := hS
      have hi' : i < r.length + 1 := hi
      by_cases q : i = r.length
      · subst q
        refine ⟨z, s1, by simp, ?_⟩
        show (z :: r).take (r.length + 1 - r.length) = (z :: r).take (r.length + 1 - (r.length + 1)) ++ [z]
        rw [show r.length + 1 - r.length = 1 by omega, show r.length + 1 - (r.length + 1) = 0 by omega]; rfl
      · obtain ⟨x, h1, h2, h3⟩ := ih s2 i (by omega)
        refine ⟨x, h1, List.mem_cons_of_mem _ h2, ?_⟩
        have e : (z :: r).length - i = (r.length - i) + 1 := by show r.length + 1 - i = _; omega
        have e' : (z :: r).length - (i + 1) = (r.length - (i + 1)) + 1 := by show r.length + 1 - (i + 1) = _; omega
        rw [e, e', List.take_succ_cons, List.take_succ_cons, h3]; rfl
  have SCAN : ∀ a, ls_ysc C = some a → a ≤ N.length → ∀ d i, i + d = N.length → a ≤ i → (t ∈ N.take (N.length - a) ↔ t ∈ N.take (N.length - i)) → wY_declares_50 post (nI t) f_most f_n f_stored f_nm (nI N.length) f_base f_ns (nI O.length) (nI C.length) f_pc f_mode f_err f_errAt f_ticks f_calls f_outs f_resK f_part f_resV (nI ct) (nI fu) (nI fl) (nI nd) a_tk a_tv a_tp a_mName a_mKind a_mCount a_mPar a_mAt a_vName a_vDecl a_vKind a_vVal a_sk a_sv a_oKind a_oAt a_oArgs a_cKind a_cA a_cB a_outK a_outV (d + 1) (nI i) := by
    intro a ha haN
    rw [ha] at hp
    dsimp only at hp
    intro d
    induction d with
    | zero =>
      intro i hi hai hq
      have e : N.take (N.length - i) = [] := by rw [show N.length - i = 0 by omega]; rfl
      rw [e] at hq
      have nin : ¬ t ∈ N.take (N.length - a) := fun h => by have := hq.mp h; simp at this
      refine br_t (nI_le (by omega) (by omega)) ?_
      by_cases n8 : N.length = 8
      · rw [if_pos (Or.inr n8)] at hp
        exact br_t (by rw [n8]; rfl) (hp _ hk)
      · rw [if_neg (fun h => h.elim nin n8)] at hp
        refine br_f (mt (ls_yn (w := 8) (by omega) (by decide)).mp n8) (nm_r (nI_1 _) ⟨vp_in_nI (by omega) (by decide), nm_r (by rw [nI_clamp (by omega), ls_vnb2 (by omega)]) ?_⟩)
        exact hp _ ⟨hk, rfl, rfl, rfl, rfl, rfl, rfl, rfl, hC, hO, ls_StN_push t hN⟩
    | succ d ih =>
      intro i hi hai hq
      obtain ⟨x, k1, k2, k3⟩ := key N hN i (by omega)
      have hx1 := hx x k2
      refine br_f (nI_ge (by omega) (by omega)) ⟨vp_in_nI (by omega) (by decide), ?_⟩
      rw [nI_clamp (by omega), k1]
      by_cases z : x = t
      · subst z
        rw [if_pos (Or.inl (hq.mpr (by rw [k3]; simp)))] at hp
        exact br_t rfl (hp _ hk)
      · refine br_f (mt (ls_yn (by omega) (by omega)).mp z) (nm_r (nI_1 i) (ih (i + 1) (by omega) (by omega) ?_))
        rw [hq, k3]
        simp only [List.mem_append, List.mem_singleton]
        exact ⟨fun h => h.elim id (fun e => absurd e.symm z), Or.inl⟩
  have H : ∀ (D : List (Nat × Nat)), D.length < 699 → ls_StC a_cKind a_cA D → (∀ e ∈ D, 1 ≤ e.1 ∧ e.1 ≤ 5 ∧ e.2 ≤ 8) → (∀ e ∈ D, e.2 ≤ N.length) → ls_ysc D = ls_ysc C → ∀ x : Int32, (D = [] → x = -1) → (∀ e r, D = e :: r → x = nI r.length) → wY_declares_7 post (nI t) f_most f_n f_stored f_nm (nI N.length) f_base f_ns (nI O.length) (nI C.length) f_pc f_mode f_err f_errAt f_ticks f_calls f_outs f_resK f_part f_resV (nI ct) (nI fu) (nI fl) (nI nd) a_tk a_tv a_tp a_mName a_mKind a_mCount a_mPar a_mAt a_vName a_vDecl a_vKind a_vVal a_sk a_sv a_oKind a_oAt a_oArgs a_cKind a_cA a_cB a_outK a_outV (D.length + 1) x := by
    intro D
    induction D with
    | nil =>
      intro _ _ _ _ e x hx _
      rw [hx rfl]
      rw [← e] at hp
      exact br_t (by decide) (br_f (by decide) (hp _ ⟨hk, rfl, rfl, rfl, rfl, rfl, rfl, rfl, hC, hO, hN⟩))
    | cons e r ih =>
      intro hl hS hd hdN he x _ hx
      have hl' : r.length + 1 < 699 := hl
      rw [hx e r rfl]
      obtain ⟨d1, d2, d3⟩ := hd e (List.mem_cons_self ..)
      have iv : vp_in (nI r.length) 700 := vp_in_nI (by omega) (by decide)
      refine br_f (nI_pos (by omega)) ⟨iv, ?_⟩
      rw [nI_clamp (by omega), hS.1]
      have F : (e.1 = 1 ∨ e.1 = 3) → wY_declares_37 post (nI t) (nI r.length) f_most f_n f_stored f_nm (nI N.length) f_base f_ns (nI O.length) (nI C.length) f_pc f_mode f_err f_errAt f_ticks f_calls f_outs f_resK f_part f_resV (nI ct) (nI fu) (nI fl) (nI nd) a_tk a_tv a_tp a_mName a_mKind a_mCount a_mPar a_mAt a_vName a_vDecl a_vKind a_vVal a_sk a_sv a_oKind a_oAt a_oArgs a_cKind a_cA a_cB a_outK a_outV := by
        intro h13
        have es : ls_ysc C = some e.2 := by rw [← he]; simp [ls_ysc, h13]
        refine br_t (nI_pos' (by omega)) ⟨iv, ?_⟩
        rw [nI_clamp (by omega)]
        refine nm_r hS.2.1 ⟨_, SCAN e.2 es (hdN e (List.mem_cons_self ..)) (N.length - e.2) e.2 (by have := hdN e (List.mem_cons_self ..); omega) (Nat.le_refl _) Iff.rfl⟩
      by_cases q1 : e.1 = 1
      · exact br_t ((ls_yn (by omega) (by decide)).mpr q1) (F (Or.inl q1))
      · refine br_f (mt (ls_yn (w := 1) (by omega) (by decide)).mp q1) ⟨iv, ?_⟩
        by_cases q3 : e.1 = 3
        · exact br_t ((ls_yn (by omega) (by decide)).mpr q3) (F (Or.inr q3))
        · refine br_f (mt (ls_yn (w := 3) (by omega) (by decide)).mp q3) (nm_e ?_)
          refine ih (by omega) hS.2.2 (fun e he => hd e (List.mem_cons_of_mem _ he)) (fun e he => hdN e (List.mem_cons_of_mem _ he)) (by rw [← he]; simp [ls_ysc, q3, q1]) _ (fun hr => ?_) (fun g r2 hr => ?_)
          · subst hr; decide
          · subst hr; exact pk_m1 r2.length
  refine nm_e ⟨_, H C bC hC hc hcN rfl _ (fun h => ?_) (fun e r h => ?_)⟩
  · subst h; decide
  · subst h; exact nI_pred r.length
end
end
section
section
variable {f_most f_n f_stored f_nm f_nEnv f_base f_ns f_no f_nc f_pc f_mode f_err f_errAt f_ticks f_calls f_outs f_resK f_part f_cnt f_full f_flag f_need : Int32}
variable {f_resV : Int64}
variable {a_tk a_tp a_mName a_mKind a_mCount a_mPar a_mAt a_vName a_vDecl a_vKind a_sk a_oKind a_oAt a_oArgs a_cKind a_cA a_cB a_outK : Nat → Int32}
variable {a_tv a_vVal a_sv a_outV : Nat → Int64}
variable {v0 : SY} {post : Int32 → SY → Prop} {q : Int32 → Prop} {t nm nd ct fu fl : Nat} {C : List (Nat × Nat)} {O N : List Nat}
set_option maxHeartbeats 200000 in
theorem ls_yout_bool {v0 : SY} {r : Option LsY} {post : Int32 → SY → Prop} (h : ls_yout v0 r post) : ls_yout v0 r (fun r_9 u => match u with | (f_most, f_n, f_stored, f_nm, f_nEnv, f_base, f_ns, f_no, f_nc, f_pc, f_mode, f_err, f_errAt, f_ticks, f_calls, f_outs, f_resK, f_part, f_resV, f_cnt, f_full, f_flag, f_need, a_tk, a_tv, a_tp, a_mName, a_mKind, a_mCount, a_mPar, a_mAt, a_vName, a_vDecl, a_vKind, a_vVal, a_sk, a_sv, a_oKind, a_oAt, a_oArgs, a_cKind, a_cA, a_cB, a_outK, a_outV) => ((r_9 = 0 → post 0 (f_most, f_n, f_stored, f_nm, f_nEnv, f_base, f_ns, f_no, f_nc, f_pc, f_mode, f_err, f_errAt, f_ticks, f_calls, f_outs, f_resK, f_part, f_resV, f_cnt, f_full, f_flag, f_need, a_tk, a_tv, a_tp, a_mName, a_mKind, a_mCount, a_mPar, a_mAt, a_vName, a_vDecl, a_vKind, a_vVal, a_sk, a_sv, a_oKind, a_oAt, a_oArgs, a_cKind, a_cA, a_cB, a_outK, a_outV)) ∧ (¬ r_9 = 0 → post 1 (f_most, f_n, f_stored, f_nm, f_nEnv, f_base, f_ns, f_no, f_nc, f_pc, f_mode, f_err, f_errAt, f_ticks, f_calls, f_outs, f_resK, f_part, f_resV, f_cnt, f_full, f_flag, f_need, a_tk, a_tv, a_tp, a_mName, a_mKind, a_mCount, a_mPar, a_mAt, a_vName, a_vDecl, a_vKind, a_vVal, a_sk, a_sv, a_oKind, a_oAt, a_oArgs, a_cKind, a_cA, a_cB, a_outK, a_outV)))) := by
  cases r with
  | none =>
    intro v' hv
    obtain ⟨f_most, f_n, f_stored, f_nm, f_nEnv, f_base, f_ns, f_no, f_nc, f_pc, f_mode, f_err, f_errAt, f_ticks, f_calls, f_outs, f_resK, f_part, f_resV, f_cnt, f_full, f_flag, f_need, a_tk, a_tv, a_tp, a_mName, a_mKind, a_mCount, a_mPar, a_mAt, a_vName, a_vDecl, a_vKind, a_vVal, a_sk, a_sv, a_oKind, a_oAt, a_oArgs, a_cKind, a_cA, a_cB, a_outK, a_outV⟩ := v'
    exact br_t rfl (h _ hv)
  | some y =>
    intro v' hv
    obtain ⟨f_most, f_n, f_stored, f_nm, f_nEnv, f_base, f_ns, f_no, f_nc, f_pc, f_mode, f_err, f_errAt, f_ticks, f_calls, f_outs, f_resK, f_part, f_resV, f_cnt, f_full, f_flag, f_need, a_tk, a_tv, a_tp, a_mName, a_mKind, a_mCount, a_mPar, a_mAt, a_vName, a_vDecl, a_vKind, a_vVal, a_sk, a_sv, a_oKind, a_oAt, a_oArgs, a_cKind, a_cA, a_cB, a_outK, a_outV⟩ := v'
    exact br_f (by decide) (h _ hv)
set_option maxHeartbeats 200000 in
theorem hy_hd (hk : ((f_most, f_n, f_stored, f_nm, f_base, f_ns, f_pc, f_mode, f_err, f_errAt, f_ticks, f_calls, f_outs, f_resK, f_part, f_resV), (a_tk, a_tv, a_tp, a_mName, a_mKind, a_mCount, a_mPar, a_mAt), (a_vDecl, a_vKind, a_vVal, a_sk, a_sv, a_oKind, a_oAt, a_cB, a_outK, a_outV)) = ls_ykept v0) (hC : ls_StC a_cKind a_cA C) (hO : ls_StN a_oArgs O) (hN : ls_StN a_vName N) (bC : C.length < 699) (bN : N.length ≤ 8) (hc : ∀ e ∈ C, 1 ≤ e.1 ∧ e.1 ≤ 5 ∧ e.2 ≤ 8) (hcN : ∀ e ∈ C, e.2 ≤ N.length) (hx : ∀ x ∈ N, x < 100) (ht : t < 100) (hnd : 8 ≤ nd ∧ nd ≤ 14)
    (hp : ls_yout v0 (ls_yhd nd t C O fl ct fu N) post) : wpY_header post (f_most, f_n, f_stored, f_nm, nI N.length, f_base, f_ns, nI O.length, nI C.length, f_pc, f_mode, f_err, f_errAt, f_ticks, f_calls, f_outs, f_resK, f_part, f_resV, nI ct, nI fu, nI fl, nI nd, a_tk, a_tv, a_tp, a_mName, a_mKind, a_mCount, a_mPar, a_mAt, a_vName, a_vDecl, a_vKind, a_vVal, a_sk, a_sv, a_oKind, a_oAt, a_oArgs, a_cKind, a_cA, a_cB, a_outK, a_outV) (nI t) := by
  have TN : ∀ w, w < 100 → t ≠ w → ¬ nI t = nI w := fun w hw h => mt (ls_yn ht hw).mp h
  have TE : ∀ w, w < 100 → t = w → nI t = nI w := fun w hw h => by rw [h]
  have ND : ∀ w, w < 100 → nd ≠ w → ¬ nI nd = nI w := fun w hw h => mt (ls_yn (by omega) hw).mp h
  have NE : ∀ w, w < 100 → nd = w → nI nd = nI w := fun w hw h => by rw [h]
  have DEC : ∀ nd' : Nat, ls_yout v0 (ls_ydec nd' t C O fl ct fu N) post → wpY_isName (fun r_207 => (((r_207 = 0 → (post 0 (f_most, f_n, f_stored, f_nm, nI N.length, f_base, f_ns, nI O.length, nI C.length, f_pc, f_mode, f_err, f_errAt, f_ticks, f_calls, f_outs, f_resK, f_part, f_resV, nI ct, nI fu, nI fl, nI nd', a_tk, a_tv, a_tp, a_mName, a_mKind, a_mCount, a_mPar, a_mAt, a_vName, a_vDecl, a_vKind, a_vVal, a_sk, a_sv, a_oKind, a_oAt, a_oArgs, a_cKind, a_cA, a_cB, a_outK, a_outV))) ∧ (¬ r_207 = 0 → (wpY_declares (fun r_9 u => match u with | (f_most, f_n, f_stored, f_nm, f_nEnv, f_base, f_ns, f_no, f_nc, f_pc, f_mode, f_err, f_errAt, f_ticks, f_calls, f_outs, f_resK, f_part, f_resV, f_cnt, f_full, f_flag, f_need, a_tk, a_tv, a_tp, a_mName, a_mKind, a_mCount, a_mPar, a_mAt, a_vName, a_vDecl, a_vKind, a_vVal, a_sk, a_sv, a_oKind, a_oAt, a_oArgs, a_cKind, a_cA, a_cB, a_outK, a_outV) => ((r_9 = 0 → post 0 (f_most, f_n, f_stored, f_nm, f_nEnv, f_base, f_ns, f_no, f_nc, f_pc, f_mode, f_err, f_errAt, f_ticks, f_calls, f_outs, f_resK, f_part, f_resV, f_cnt, f_full, f_flag, f_need, a_tk, a_tv, a_tp, a_mName, a_mKind, a_mCount, a_mPar, a_mAt, a_vName, a_vDecl, a_vKind, a_vVal, a_sk, a_sv, a_oKind, a_oAt, a_oArgs, a_cKind, a_cA, a_cB, a_outK, a_outV)) ∧ (¬ r_9 = 0 → post 1 (f_most, f_n, f_stored, f_nm, f_nEnv, f_base, f_ns, f_no, f_nc, f_pc, f_mode, f_err, f_errAt, f_ticks, f_calls, f_outs, f_resK, f_part, f_resV, f_cnt, f_full, f_flag, f_need, a_tk, a_tv, a_tp, a_mName, a_mKind, a_mCount, a_mPar, a_mAt, a_vName, a_vDecl, a_vKind, a_vVal, a_sk, a_sv, a_oKind, a_oAt, a_oArgs, a_cKind, a_cA, a_cB, a_outK, a_outV)))) (f_most, f_n, f_stored, f_nm, nI N.length, f_base, f_ns, nI O.length, nI C.length, f_pc, f_mode, f_err, f_errAt, f_ticks, f_calls, f_outs, f_resK, f_part, f_resV, nI ct, nI fu, nI fl, nI nd', a_tk, a_tv, a_tp, a_mName, a_mKind, a_mCount, a_mPar, a_mAt, a_vName, a_vDecl, a_vKind, a_vVal, a_sk, a_sv, a_oKind, a_oAt, a_oArgs, a_cKind, a_cA, a_cB, a_outK, a_outV) (nI t)))))) (f_most, f_n, f_stored, f_nm, nI N.length, f_base, f_ns, nI O.length, nI C.length, f_pc, f_mode, f_err, f_errAt, f_ticks, f_calls, f_outs, f_resK, f_part, f_resV, nI ct, nI fu, nI fl, nI nd', a_tk, a_tv, a_tp, a_mName, a_mKind, a_mCount, a_mPar, a_mAt, a_vName, a_vDecl, a_vKind, a_vVal, a_sk, a_sv, a_oKind, a_oAt, a_oArgs, a_cKind, a_cA, a_cB, a_outK, a_outV) (nI t) := by
    intro nd' hp
    refine hy_isName ht (fun n => br_f (by decide) ?_) (fun n => br_t rfl ?_)
    · exact hy_declares hk hC hO hN bC bN hc hcN hx ht n (ls_yout_bool hp)
    · unfold ls_ydec at hp
      rw [if_neg n] at hp
      exact hp _ hk
  unfold wpY_header
  dsimp only
  unfold ls_yhd at hp
  by_cases q8 : nd = 8
  · rw [if_pos q8] at hp
    exact br_t (NE 8 (by decide) q8) (DEC 9 hp)
  rw [if_neg q8] at hp
  refine br_f (ND 8 (by decide) q8) ?_
  by_cases q9 : nd = 9
  · rw [if_pos q9] at hp
    refine br_t (NE 9 (by decide) q9) ?_
    have H79 : ∀ z0 : Nat, (t = 20 → z0 = 0) → (t = 21 → z0 = 3) → (t = 15 → z0 = 10) → wY_header_79 post (nI t) (nI z0) f_most f_n f_stored f_nm (nI N.length) f_base f_ns (nI O.length) (nI C.length) f_pc f_mode f_err f_errAt f_ticks f_calls f_outs f_resK f_part f_resV 0 20 (nI fl) (nI nd) a_tk a_tv a_tp a_mName a_mKind a_mCount a_mPar a_mAt a_vName a_vDecl a_vKind a_vVal a_sk a_sv a_oKind a_oAt a_oArgs a_cKind a_cA a_cB a_outK a_outV := by
      intro z0 z20 z21 z15
      have H107 : ¬ (t = 15 ∧ C = []) → wY_header_107 post (nI t) f_most f_n f_stored f_nm (nI N.length) f_base f_ns (nI O.length) (nI C.length) f_pc f_mode f_err f_errAt f_ticks f_calls f_outs f_resK f_part f_resV 0 20 (nI fl) (nI z0) a_tk a_tv a_tp a_mName a_mKind a_mCount a_mPar a_mAt a_vName a_vDecl a_vKind a_vVal a_sk a_sv a_oKind a_oAt a_oArgs a_cKind a_cA a_cB a_outK a_outV := by
        intro h
        rw [if_neg h] at hp
        by_cases t20 : t = 20
        · rw [if_pos t20] at hp
          have := z20 t20; subst this
          exact br_t (TE 20 (by decide) t20) (hp _ ⟨hk, rfl, rfl, rfl, rfl, rfl, rfl, rfl, hC, hO, hN⟩)
        · rw [if_neg t20] at hp
          refine br_f (TN 20 (by decide) t20) ?_
          by_cases t21 : t = 21
          · rw [if_pos t21] at hp
            have := z21 t21; subst this
            exact br_t (TE 21 (by decide) t21) (hp _ ⟨hk, rfl, rfl, rfl, rfl, rfl, rfl, rfl, hC, hO, hN⟩)
          · rw [if_neg t21] at hp
            exact br_f (TN 21 (by decide) t21) (hp _ hk)
      by_cases t15 : t = 15
      · refine br_t (TE 15 (by decide) t15) ?_
        cases C with
        | nil =>
          rw [if_pos ⟨t15, rfl⟩] at hp
          have := z15 t15; subst this
          refine br_t rfl (hy_open (C := []) (k := 3) (by decide) (by decide) bN ?_)
          exact hp _ ⟨hk, rfl, rfl, rfl, rfl, rfl, rfl, rfl, ⟨pk_us, pk_us, trivial⟩, trivial, hN⟩
        | cons e r => exact br_f (nI_ne0 (n := r.length + 1) (by omega) (by have : r.length + 1 < 699 := bC; omega)) (H107 (fun h => List.cons_ne_nil _ _ h.2))
      · exact br_f (TN 15 (by decide) t15) (H107 (fun h => t15 h.1))
    by_cases t20 : t = 20
    · exact br_t (TE 20 (by decide) t20) (H79 0 (fun _ => rfl) (fun h => by omega) (fun h => by omega))
    · refine br_f (TN 20 (by decide) t20) ?_
      by_cases t21 : t = 21
      · exact br_t (TE 21 (by decide) t21) (H79 3 (fun h => by omega) (fun _ => rfl) (fun h => by omega))
      · exact br_f (TN 21 (by decide) t21) (H79 10 (fun h => by omega) (fun h => by omega) (fun _ => rfl))
  rw [if_neg q9] at hp
  refine br_f (ND 9 (by decide) q9) ?_
  have S14 : (nd = 10 ∨ nd = 13) → t = 16 → post 1 (f_most, f_n, f_stored, f_nm, nI N.length, f_base, f_ns, nI O.length, nI C.length, f_pc, f_mode, f_err, f_errAt, f_ticks, f_calls, f_outs, f_resK, f_part, f_resV, nI ct, nI fu, nI fl, 14, a_tk, a_tv, a_tp, a_mName, a_mKind, a_mCount, a_mPar, a_mAt, a_vName, a_vDecl, a_vKind, a_vVal, a_sk, a_sv, a_oKind, a_oAt, a_oArgs, a_cKind, a_cA, a_cB, a_outK, a_outV) := fun h1 h2 => by
    rw [if_pos ⟨h1, h2⟩] at hp
    exact hp _ ⟨hk, rfl, rfl, rfl, rfl, rfl, rfl, rfl, hC, hO, hN⟩
  have H157 : ¬ ((nd = 10 ∨ nd = 13) ∧ t = 16) → wY_header_157 post (nI t) (nI nd) f_most f_n f_stored f_nm (nI N.length) f_base f_ns (nI O.length) (nI C.length) f_pc f_mode f_err f_errAt f_ticks f_calls f_outs f_resK f_part f_resV (nI ct) (nI fu) (nI fl) (nI nd) a_tk a_tv a_tp a_mName a_mKind a_mCount a_mPar a_mAt a_vName a_vDecl a_vKind a_vVal a_sk a_sv a_oKind a_oAt a_oArgs a_cKind a_cA a_cB a_outK a_outV := by
    intro h
    rw [if_neg h] at hp
    have H169 : (nd = 10 ∨ nd = 11) → wY_header_169 post (nI t) f_most f_n f_stored f_nm (nI N.length) f_base f_ns (nI O.length) (nI C.length) f_pc f_mode f_err f_errAt f_ticks f_calls f_outs f_resK f_part f_resV (nI ct) (nI fu) (nI fl) (nI nd) a_tk a_tv a_tp a_mName a_mKind a_mCount a_mPar a_mAt a_vName a_vDecl a_vKind a_vVal a_sk a_sv a_oKind a_oAt a_oArgs a_cKind a_cA a_cB a_outK a_outV := by
      intro h1
      rw [if_pos h1] at hp
      by_cases t6 : t < 6
      · rw [if_pos t6] at hp
        exact br_f (nI_ge (b := 6) t6 (by decide)) (hp _ ⟨hk, rfl, rfl, rfl, rfl, rfl, rfl, rfl, hC, hO, hN⟩)
      · rw [if_neg t6] at hp
        exact br_t (nI_le (a := 6) (by omega) (by omega)) (hp _ hk)
    by_cases q10 : nd = 10
    · exact br_t (NE 10 (by decide) q10) (H169 (Or.inl q10))
    refine br_f (ND 10 (by decide) q10) ?_
    by_cases q11 : nd = 11
    · exact br_t (NE 11 (by decide) q11) (H169 (Or.inr q11))
    rw [if_neg (fun h => h.elim q10 q11)] at hp
    refine br_f (ND 11 (by decide) q11) ?_
    by_cases q12 : nd = 12
    · rw [if_pos q12] at hp
      exact br_t (NE 12 (by decide) q12) (DEC 13 hp)
    rw [if_neg q12] at hp
    refine br_f (ND 12 (by decide) q12) ?_
    by_cases q13 : nd = 13
    · rw [if_pos q13] at hp
      refine br_t (NE 13 (by decide) q13) ?_
      by_cases t19 : t = 19
      · refine br_t (TE 19 (by decide) t19) ?_
        by_cases n3 : N.length < 3
        · rw [if_pos ⟨t19, n3⟩] at hp
          exact br_f (nI_ge (b := 3) n3 (by decide)) (hp _ ⟨hk, rfl, rfl, rfl, rfl, rfl, rfl, rfl, hC, hO, hN⟩)
        · rw [if_neg (fun h => n3 h.2)] at hp
          exact br_t (nI_le (a := 3) (by omega) (by omega)) (hp _ hk)
      · rw [if_neg (fun h => t19 h.1)] at hp
        exact br_f (TN 19 (by decide) t19) (hp _ hk)
    rw [if_neg q13] at hp
    refine br_f (ND 13 (by decide) q13) (hy_open (k := 1) (by decide) bC bN ?_)
    by_cases t17 : t = 17
    · rw [if_pos t17] at hp
      exact br_t (TE 17 (by decide) t17) (hp _ ⟨hk, rfl, rfl, rfl, rfl, rfl, rfl, rfl, ⟨pk_us, pk_us, ls_StC_up (Nat.le_refl _) hC⟩, hO, hN⟩)
    · rw [if_neg t17] at hp
      exact br_f (TN 17 (by decide) t17) (hp _ hk)
  have H137 : ¬ (nd = 10 ∧ t = 16) → wY_header_137 post (nI t) (nI nd) f_most f_n f_stored f_nm (nI N.length) f_base f_ns (nI O.length) (nI C.length) f_pc f_mode f_err f_errAt f_ticks f_calls f_outs f_resK f_part f_resV (nI ct) (nI fu) (nI fl) (nI nd) a_tk a_tv a_tp a_mName a_mKind a_mCount a_mPar a_mAt a_vName a_vDecl a_vKind a_vVal a_sk a_sv a_oKind a_oAt a_oArgs a_cKind a_cA a_cB a_outK a_outV := by
    intro h
    by_cases q13 : nd = 13
    · refine br_t (NE 13 (by decide) q13) ?_
      by_cases t16 : t = 16
      · exact br_t (TE 16 (by decide) t16) (S14 (Or.inr q13) t16)
      · exact br_f (TN 16 (by decide) t16) (H157 (fun h => t16 h.2))
    · exact br_f (ND 13 (by decide) q13) (H157 (fun g => g.1.elim (fun a => h ⟨a, g.2⟩) q13))
  by_cases q10 : nd = 10
  · refine br_t (NE 10 (by decide) q10) ?_
    by_cases t16 : t = 16
    · exact br_t (TE 16 (by decide) t16) (S14 (Or.inl q10) t16)
    · exact br_f (TN 16 (by decide) t16) (H137 (fun h => t16 h.2))
  · exact br_f (ND 10 (by decide) q10) (H137 (fun h => q10 h.1))
set_option maxHeartbeats 200000 in
theorem hy_finished {p : Int32 → SY → Prop} {x : Int32} (hx : ∀ e ∈ C, 1 ≤ e.1 ∧ e.1 ≤ 5 ∧ e.2 ≤ 8) (hC : ls_StC a_cKind a_cA C) (bC : C.length < 699) (ht : t < 100) (hxt : x = nI t ∨ (x = -1 ∧ t = 99))
    (h1 : ∀ D, ls_yfin t C = (true, D) → ls_StC a_cKind a_cA D → D.length ≤ C.length → p 1 (f_most, f_n, f_stored, f_nm, f_nEnv, f_base, f_ns, f_no, nI D.length, f_pc, f_mode, f_err, f_errAt, f_ticks, f_calls, f_outs, f_resK, f_part, f_resV, f_cnt, f_full, f_flag, f_need, a_tk, a_tv, a_tp, a_mName, a_mKind, a_mCount, a_mPar, a_mAt, a_vName, a_vDecl, a_vKind, a_vVal, a_sk, a_sv, a_oKind, a_oAt, a_oArgs, a_cKind, a_cA, a_cB, a_outK, a_outV)) (h0 : ∀ D, ls_yfin t C = (false, D) → ls_StC a_cKind a_cA D → D.length ≤ C.length → p 0 (f_most, f_n, f_stored, f_nm, f_nEnv, f_base, f_ns, f_no, nI D.length, f_pc, f_mode, f_err, f_errAt, f_ticks, f_calls, f_outs, f_resK, f_part, f_resV, f_cnt, f_full, f_flag, f_need, a_tk, a_tv, a_tp, a_mName, a_mKind, a_mCount, a_mPar, a_mAt, a_vName, a_vDecl, a_vKind, a_vVal, a_sk, a_sv, a_oKind, a_oAt, a_oArgs, a_cKind, a_cA, a_cB, a_outK, a_outV)) : wpY_finished p (f_most, f_n, f_stored, f_nm, f_nEnv, f_base, f_ns, f_no, nI C.length, f_pc, f_mode, f_err, f_errAt, f_ticks, f_calls, f_outs, f_resK, f_part, f_resV, f_cnt, f_full, f_flag, f_need, a_tk, a_tv, a_tp, a_mName, a_mKind, a_mCount, a_mPar, a_mAt, a_vName, a_vDecl, a_vKind, a_vVal, a_sk, a_sv, a_oKind, a_oAt, a_oArgs, a_cKind, a_cA, a_cB, a_outK, a_outV) x := by
  have H : ∀ D : List (Nat × Nat), ls_StC a_cKind a_cA D → D.length ≤ C.length → (∀ e ∈ D, 1 ≤ e.1 ∧ e.1 ≤ 5 ∧ e.2 ≤ 8) → ls_yfin t D = ls_yfin t C → wY_finished_0 p x f_most f_n f_stored f_nm f_nEnv f_base f_ns f_no f_pc f_mode f_err f_errAt f_ticks f_calls f_outs f_resK f_part f_resV f_cnt f_full f_flag f_need a_tk a_tv a_tp a_mName a_mKind a_mCount a_mPar a_mAt a_vName a_vDecl a_vKind a_vVal a_sk a_sv a_oKind a_oAt a_oArgs a_cKind a_cA a_cB a_outK a_outV (D.length + 1) (nI D.length) := by
    intro D
    induction D with
    | nil => intro _ _ _ e; exact br_t (by decide) (h0 [] e.symm trivial (by simp))
    | cons e r ih =>
      intro hS hl hd he
      have hl' : r.length + 1 ≤ C.length := hl
      obtain ⟨d1, d2, d3⟩ := hd e (List.mem_cons_self ..)
      have iv : vp_in (nI r.length) 700 := vp_in_nI (by omega) (by decide)
      have ei : nI (e :: r : List (Nat × Nat)).length - 1 = nI r.length := nI_pred r.length
      have K : (e.1 = 2 ∨ 3 < e.1) → wY_finished_37 p (wY_finished_0 p x f_most f_n f_stored f_nm f_nEnv f_base f_ns f_no f_pc f_mode f_err f_errAt f_ticks f_calls f_outs f_resK f_part f_resV f_cnt f_full f_flag f_need a_tk a_tv a_tp a_mName a_mKind a_mCount a_mPar a_mAt a_vName a_vDecl a_vKind a_vVal a_sk a_sv a_oKind a_oAt a_oArgs a_cKind a_cA a_cB a_outK a_outV (r.length + 1)) x f_most f_n f_stored f_nm f_nEnv f_base f_ns f_no (nI (e :: r : List (Nat × Nat)).length) f_pc f_mode f_err f_errAt f_ticks f_calls f_outs f_resK f_part f_resV f_cnt f_full f_flag f_need a_tk a_tv a_tp a_mName a_mKind a_mCount a_mPar a_mAt a_vName a_vDecl a_vKind a_vVal a_sk a_sv a_oKind a_oAt a_oArgs a_cKind a_cA a_cB a_outK a_outV := by
        intro h23
        unfold wY_finished_37
        rw [ei]
        refine ⟨iv, ?_⟩
        rw [nI_clamp (by omega), hS.1]
        have GO : ¬ (e.1 = 4 ∧ t = 7) → wY_finished_0 p x f_most f_n f_stored f_nm f_nEnv f_base f_ns f_no f_pc f_mode f_err f_errAt f_ticks f_calls f_outs f_resK f_part f_resV f_cnt f_full f_flag f_need a_tk a_tv a_tp a_mName a_mKind a_mCount a_mPar a_mAt a_vName a_vDecl a_vKind a_vVal a_sk a_sv a_oKind a_oAt a_oArgs a_cKind a_cA a_cB a_outK a_outV (r.length + 1) (nI r.length) := fun h =>
          ih hS.2.2 (by omega) (fun e he => hd e (List.mem_cons_of_mem _ he)) (by rw [← he]; simp only [ls_yfin]; rw [if_pos h23, if_neg h])
        by_cases q4 : e.1 = 4
        · refine br_t ((ls_yn (by omega) (by decide)).mpr q4) ?_
          by_cases t7 : t = 7
          · refine br_t ?_ (h1 (e :: r) (by rw [← he]; simp only [ls_yfin]; rw [if_pos h23, if_pos ⟨q4, t7⟩]) hS hl)
            rcases hxt with h | ⟨_, h⟩
            · rw [h, t7]; rfl
            · omega
          · refine br_f ?_ (nm_e (GO (fun h => t7 h.2)))
            rcases hxt with h | ⟨h, _⟩
            · rw [h]; exact mt (ls_yn (w := 7) ht (by decide)).mp t7
            · rw [h]; decide
        · exact br_f (mt (ls_yn (w := 4) (by omega) (by decide)).mp q4) (nm_e (GO (fun h => q4 h.1)))
      have Z : ¬ (e.1 = 2 ∨ 3 < e.1) → p 0 (f_most, f_n, f_stored, f_nm, f_nEnv, f_base, f_ns, f_no, nI (e :: r : List (Nat × Nat)).length, f_pc, f_mode, f_err, f_errAt, f_ticks, f_calls, f_outs, f_resK, f_part, f_resV, f_cnt, f_full, f_flag, f_need, a_tk, a_tv, a_tp, a_mName, a_mKind, a_mCount, a_mPar, a_mAt, a_vName, a_vDecl, a_vKind, a_vVal, a_sk, a_sv, a_oKind, a_oAt, a_oArgs, a_cKind, a_cA, a_cB, a_outK, a_outV) := fun h =>
        h0 (e :: r) (by rw [← he]; simp only [ls_yfin]; rw [if_neg h]) hS hl
      refine br_f (nI_nle (n := r.length + 1) (by omega) (by omega)) ?_
      rw [ei]
      refine ⟨iv, ?_⟩
      rw [nI_clamp (by omega), hS.1]
      by_cases q2 : e.1 = 2
      · exact br_t ((ls_yn (by omega) (by decide)).mpr q2) (K (Or.inl q2))
      · refine br_f (mt (ls_yn (w := 2) (by omega) (by decide)).mp q2) ⟨iv, ?_⟩
        by_cases q3 : 3 < e.1
        · exact br_f (nI_ge (a := 3) q3 (by omega)) (K (Or.inr q3))
        · exact br_t (nI_le (b := 3) (by omega) (by decide)) (Z (fun h => h.elim q2 q3))
  exact ⟨_, H C hC (Nat.le_refl _) hx rfl⟩
end
section
variable {v0 v : SY} {post : Int32 → SY → Prop} {t : Nat}
set_option maxHeartbeats 200000 in
theorem ls_yfin_sub {t : Nat} : ∀ {C D : List (Nat × Nat)} {b : Bool}, ls_yfin t C = (b, D) → (∀ e ∈ D, e ∈ C) ∧ (b = true → D ≠ [])
  | [], D, b, h => by
    have h' : (false, ([] : List (Nat × Nat))) = (b, D) := h
    injection h' with h1 h2
    subst h1 h2
    exact ⟨fun e he => he, fun h => by cases h⟩
  | e :: r, D, b, h => by
    have h' : (if e.1 = 2 ∨ 3 < e.1 then (if e.1 = 4 ∧ t = 7 then (true, e :: r) else ls_yfin t r) else (false, e :: r)) = (b, D) := h
    split at h'
    · split at h'
      · injection h' with h1 h2
        subst h1 h2
        exact ⟨fun e he => he, fun _ => List.cons_ne_nil _ _⟩
      · obtain ⟨i1, i2⟩ := ls_yfin_sub h'
        exact ⟨fun e he => List.mem_cons_of_mem _ (i1 e he), i2⟩
    · injection h' with h1 h2
      subst h1 h2
      exact ⟨fun e he => he, fun h => by cases h⟩
set_option maxHeartbeats 200000 in
theorem hy_goesOn {nd fl ct fu : Nat} {C : List (Nat × Nat)} {O N : List Nat} {nx : Int32} (h : ls_YR v0 (nd, C, O, fl, ct, fu, N) v) (hb : ls_yb (nd, C, O, fl, ct, fu, N)) (hcN : ∀ e ∈ C, e.2 ≤ N.length) (hO1 : nd = 15 ∨ nd = 17 → O ≠ []) (ht : t < 90) (hp : ls_yout v0 (ls_yg (nd, C, O, fl, ct, fu, N) t) post) : wpY_goesOn post v (nI t) nx := by
  obtain ⟨f_most, f_n, f_stored, f_nm, f_nEnv, f_base, f_ns, f_no, f_nc, f_pc, f_mode, f_err, f_errAt, f_ticks, f_calls, f_outs, f_resK, f_part, f_resV, f_cnt, f_full, f_flag, f_need, a_tk, a_tv, a_tp, a_mName, a_mKind, a_mCount, a_mPar, a_mAt, a_vName, a_vDecl, a_vKind, a_vVal, a_sk, a_sv, a_oKind, a_oAt, a_oArgs, a_cKind, a_cA, a_cB, a_outK, a_outV⟩ := v
  obtain ⟨hk, rfl, rfl, rfl, rfl, rfl, rfl, rfl, hC, hO, hN⟩ := h
  obtain ⟨b1, bC, bO, bN, bfl, bct, bfu, hc, hx, ho⟩ := hb
  have TN : ∀ w, w < 100 → t ≠ w → ¬ nI t = nI w := fun w hw h => mt (ls_yn (by omega) hw).mp h
  have TE : ∀ w, w < 100 → t = w → nI t = nI w := fun w hw h => by rw [h]
  have ND : ∀ w, w < 100 → nd ≠ w → ¬ nI nd = nI w := fun w hw h => mt (ls_yn (by omega) hw).mp h
  have NE : ∀ w, w < 100 → nd = w → nI nd = nI w := fun w hw h => by rw [h]
  unfold wpY_goesOn
  dsimp only
  unfold ls_yg at hp
  dsimp only at hp
  by_cases q0 : nd = 0
  · subst q0
    rw [if_pos rfl] at hp
    refine br_t rfl ?_
    refine hy_finished hc hC bC (by omega) (Or.inl rfl) (fun D hD hS hl => ?_) (fun D hD hS hl => ?_)
    · rw [hD] at hp
      dsimp only at hp
      obtain ⟨s1, s2⟩ := ls_yfin_sub hD
      cases D with
      | nil => exact absurd rfl (s2 rfl)
      | cons e r =>
        have hl' : r.length + 1 ≤ C.length := hl
        refine br_f (by decide) ?_
        rw [show nI (e :: r : List (Nat × Nat)).length - 1 = nI r.length from nI_pred r.length]
        refine ⟨vp_in_nI (by omega) (by decide), nm_r (by rw [nI_clamp (by omega), show vp_nar .byte 5 = nI 5 from ls_vnb (n := 5) (by decide)]) ?_⟩
        exact hp _ ⟨hk, rfl, rfl, rfl, rfl, rfl, rfl, rfl, ⟨pk_us, hS.2.1, ls_StC_up1 (Nat.le_refl _) hS.2.2⟩, hO, hN⟩
    · rw [hD] at hp
      dsimp only at hp
      obtain ⟨s1, s2⟩ := ls_yfin_sub hD
      refine br_t rfl (br_t rfl ?_)
      exact hy_beg true hk hS hO hN (by omega) bO bN (fun e he => hc e (s1 e he)) (fun e he => hcN e (s1 e he)) ho (by omega) 0 rfl (ls_yout_nar hp)
  rw [if_neg q0] at hp
  refine br_f (ND 0 (by decide) q0) (br_f (ND 0 (by decide) q0) ?_)
  by_cases q1 : nd = 1
  · subst q1
    rw [if_pos rfl] at hp
    refine br_t rfl ?_
    exact hy_beg false hk hC hO hN bC bO bN hc hcN ho (by omega) 1 rfl (ls_yout_nar hp)
  rw [if_neg q1] at hp
  refine br_f (ND 1 (by decide) q1) ?_
  have W3 : fu < 100 → ∀ c : Nat, c < 200 → ls_yout v0 (ls_ywith 3 t C O fl c fu N) post → wY_goesOn_80 post (nI t) f_most f_n f_stored f_nm (nI N.length) f_base f_ns (nI O.length) (nI C.length) f_pc f_mode f_err f_errAt f_ticks f_calls f_outs f_resK f_part f_resV (nI c) (nI fu) (nI fl) 3 a_tk a_tv a_tp a_mName a_mKind a_mCount a_mPar a_mAt a_vName a_vDecl a_vKind a_vVal a_sk a_sv a_oKind a_oAt a_oArgs a_cKind a_cA a_cB a_outK a_outV := fun bfu c c200 hp =>
    br_t rfl (hy_with (nd := 3) hk hC hO hN bO ho (by omega) (fun h => by omega) c200 (by decide) bfu (fun h => by omega) (ls_yout_nar hp))
  have G80 : ¬ (nd = 7 ∧ t ≠ 20) → wY_goesOn_80 post (nI t) f_most f_n f_stored f_nm (nI N.length) f_base f_ns (nI O.length) (nI C.length) f_pc f_mode f_err f_errAt f_ticks f_calls f_outs f_resK f_part f_resV (nI ct) (nI fu) (nI fl) (nI nd) a_tk a_tv a_tp a_mName a_mKind a_mCount a_mPar a_mAt a_vName a_vDecl a_vKind a_vVal a_sk a_sv a_oKind a_oAt a_oArgs a_cKind a_cA a_cB a_outK a_outV := by
    intro h7
    rw [if_neg h7] at hp
    have G113 : (nd = 3 ∨ nd = 4 ∨ nd = 5 ∨ 15 ≤ nd) → wY_goesOn_113 post (nI t) f_most f_n f_stored f_nm (nI N.length) f_base f_ns (nI O.length) (nI C.length) f_pc f_mode f_err f_errAt f_ticks f_calls f_outs f_resK f_part f_resV (nI ct) (nI fu) (nI fl) (nI nd) a_tk a_tv a_tp a_mName a_mKind a_mCount a_mPar a_mAt a_vName a_vDecl a_vKind a_vVal a_sk a_sv a_oKind a_oAt a_oArgs a_cKind a_cA a_cB a_outK a_outV := by
      intro h
      rw [if_pos h] at hp
      exact hy_with hk hC hO hN bO ho (by omega) bfl (bct h) b1 (bfu (by omega)) hO1 (ls_yout_nar hp)
    by_cases q3 : nd = 3
    · exact br_t (NE 3 (by decide) q3) (G113 (Or.inl q3))
    refine br_f (ND 3 (by decide) q3) ?_
    by_cases q4 : nd = 4
    · exact br_t (NE 4 (by decide) q4) (G113 (Or.inr (Or.inl q4)))
    refine br_f (ND 4 (by decide) q4) ?_
    by_cases q5 : nd = 5
    · exact br_t (NE 5 (by decide) q5) (G113 (Or.inr (Or.inr (Or.inl q5))))
    refine br_f (ND 5 (by decide) q5) ?_
    by_cases q15 : 15 ≤ nd
    · exact br_f (nI_nlt (b := 15) q15 (by omega)) (G113 (Or.inr (Or.inr (Or.inr q15))))
    rw [if_neg (by omega)] at hp
    refine br_t (nI_lt (b := 15) (by omega) (by decide)) ?_
    by_cases q2 : nd = 2
    · rw [if_pos q2] at hp
      refine br_t (NE 2 (by decide) q2) ?_
      by_cases t15 : t = 15
      · rw [if_pos t15] at hp
        exact br_t (TE 15 (by decide) t15) (hp _ ⟨hk, rfl, rfl, rfl, rfl, rfl, rfl, rfl, hC, hO, hN⟩)
      · rw [if_neg t15] at hp
        exact br_f (TN 15 (by decide) t15) (hp _ hk)
    rw [if_neg q2] at hp
    refine br_f (ND 2 (by decide) q2) ?_
    have G167 : (nd = 6 ∨ nd = 7) → wY_goesOn_167 post (nI t) f_most f_n f_stored f_nm (nI N.length) f_base f_ns (nI O.length) (nI C.length) f_pc f_mode f_err f_errAt f_ticks f_calls f_outs f_resK f_part f_resV (nI ct) (nI fu) (nI fl) (nI nd) a_tk a_tv a_tp a_mName a_mKind a_mCount a_mPar a_mAt a_vName a_vDecl a_vKind a_vVal a_sk a_sv a_oKind a_oAt a_oArgs a_cKind a_cA a_cB a_outK a_outV := by
      intro h
      rw [if_pos h] at hp
      by_cases t20 : t = 20
      · rw [if_pos t20] at hp
        exact br_t (TE 20 (by decide) t20) (hp _ ⟨hk, rfl, rfl, rfl, rfl, rfl, rfl, rfl, hC, hO, hN⟩)
      · rw [if_neg t20] at hp
        exact br_f (TN 20 (by decide) t20) (hp _ hk)
    by_cases q6 : nd = 6
    · exact br_t (NE 6 (by decide) q6) (G167 (Or.inl q6))
    refine br_f (ND 6 (by decide) q6) ?_
    by_cases q7 : nd = 7
    · exact br_t (NE 7 (by decide) q7) (G167 (Or.inr q7))
    rw [if_neg (fun h => h.elim q6 q7)] at hp
    refine br_f (ND 7 (by decide) q7) ?_
    exact hy_hd hk hC hO hN bC bN hc hcN hx (by omega) ⟨by omega, by omega⟩ (ls_yout_nar hp)
  by_cases q7 : nd = 7
  · refine br_t (NE 7 (by decide) q7) ?_
    by_cases t20 : t = 20
    · exact br_t (TE 20 (by decide) t20) (G80 (fun h => h.2 t20))
    · rw [if_pos ⟨q7, t20⟩] at hp
      exact br_f (TN 20 (by decide) t20) (W3 (bfu (by omega)) 0 (by decide) hp)
  · exact br_f (ND 7 (by decide) q7) (G80 (fun h => q7 h.1))
end
end
section
/-! The reference's reading as a whole -/
def ls_yv (T : Nat → Nat) (n : Nat) : Nat → Nat → LsY → Option Nat
  | 0, _, y => if y.1 = 0 ∧ (ls_yfin 99 y.2.1).2 = [] then none else some n
  | f + 1, i, y => match ls_yg y (T i) with
    | none => some i
    | some y' => ls_yv T n f (i + 1) y'
/-- the names outside fall towards the bottom; a method stands at the bottom alone -/
def ls_ymo : List (Nat × Nat) → Prop
  | [] => True
  | e :: r => (∀ x ∈ r, x.2 ≤ e.2) ∧ (e.1 = 3 → r = []) ∧ ls_ymo r
def ls_yok (i : Nat) (y : LsY) : Prop := match y with
  | (nd, C, O, fl, ct, fu, N) => nd < 18 ∧ C.length ≤ i ∧ O.length ≤ i ∧ N.length ≤ 8 ∧ (nd = 5 → fl < 3) ∧ ((nd = 3 ∨ nd = 4 ∨ nd = 5 ∨ 15 ≤ nd) → ct ≤ i) ∧ ((nd = 2 ∨ nd = 3 ∨ nd = 4 ∨ nd = 5 ∨ nd = 7 ∨ 15 ≤ nd) → fu < 100) ∧ (∀ e ∈ C, 1 ≤ e.1 ∧ e.1 ≤ 5 ∧ e.2 ≤ N.length) ∧ (∀ x ∈ N, x < 100) ∧ (∀ x ∈ O, x ≤ 3) ∧ (nd = 15 ∨ nd = 17 → O ≠ []) ∧ ls_ymo C
set_option maxHeartbeats 200000 in
theorem ls_yok_b {i : Nat} {y : LsY} (h : ls_yok i y) (hi : i < 190) : ls_yb y := by
  obtain ⟨nd, C, O, fl, ct, fu, N⟩ := y
  obtain ⟨h1, h2, h3, h4, h5, h6, h7, h8, h9, h10, h11, h12⟩ := h
  exact ⟨h1, by omega, by omega, h4, h5, fun h => by have := h6 h; omega, h7, fun e he => by have := h8 e he; omega, h9, h10⟩
section
variable {t i nd ct fu fl nm : Nat} {C : List (Nat × Nat)} {O N : List Nat} {y' : LsY}
set_option maxHeartbeats 200000 in
theorem ls_yok_opd (h2 : C.length ≤ i + 1) (h3 : O.length ≤ i) (h4 : N.length ≤ 8) (hn : nm < 3) (h6 : ct ≤ i + 1) (h7 : fu < 100) (h8 : ∀ e ∈ C, 1 ≤ e.1 ∧ e.1 ≤ 5 ∧ e.2 ≤ N.length) (h9 : ∀ x ∈ N, x < 100) (h10 : ∀ x ∈ O, x ≤ 3) (hm : ls_ymo C) (h : ls_yopd t nm C O ct fu N = some y') : ls_yok (i + 1) y' := by
  unfold ls_yopd at h
  split at h
  · injection h with h; subst h
    exact ⟨by decide, h2, by omega, h4, (fun _ => by decide), (fun _ => h6), (fun _ => h7), h8, h9, h10, fun h => by omega, hm⟩
  split at h
  · injection h with h; subst h
    exact ⟨by decide, h2, by show O.length + 1 ≤ _; omega, h4, (fun _ => by decide), (fun _ => h6), (fun _ => h7), h8, h9, fun x hx => by rcases List.mem_cons.mp hx with rfl | hx; decide; exact h10 x hx, fun _ => List.cons_ne_nil _ _, hm⟩
  split at h
  · injection h with h; subst h
    exact ⟨by decide, h2, by omega, h4, (fun _ => by split <;> omega), (fun _ => h6), (fun _ => h7), h8, h9, h10, fun h => by omega, hm⟩
  · cases h
set_option maxHeartbeats 200000 in
theorem ls_yok_aft (h2 : C.length ≤ i + 1) (h3 : O.length ≤ i) (h4 : N.length ≤ 8) (h6 : ct ≤ i + 1) (h7 : fu < 100) (h8 : ∀ e ∈ C, 1 ≤ e.1 ∧ e.1 ≤ 5 ∧ e.2 ≤ N.length) (h9 : ∀ x ∈ N, x < 100) (h10 : ∀ x ∈ O, x ≤ 3) (hm : ls_ymo C) (h : ls_yaft t fl C O ct fu N = some y') : ls_yok (i + 1) y' := by
  unfold ls_yaft at h
  split at h
  · injection h with h; subst h
    exact ⟨by decide, h2, by omega, h4, (fun _ => by decide), (fun _ => h6), (fun _ => h7), h8, h9, h10, fun h => by omega, hm⟩
  split at h
  · split at h
    · injection h with h; subst h
      exact ⟨by decide, h2, by omega, h4, (fun _ => by decide), (fun _ => h6), (fun _ => h7), h8, h9, h10, fun h => by omega, hm⟩
    · cases h
  split at h
  · split at h
    · injection h with h; subst h
      exact ⟨by decide, h2, by show O.length + 1 ≤ _; omega, h4, (fun _ => by decide), (fun _ => h6), (fun _ => h7), h8, h9, fun x hx => by rcases List.mem_cons.mp hx with rfl | hx; decide; exact h10 x hx, fun _ => List.cons_ne_nil _ _, hm⟩
    · cases h
  split at h
  · cases h
  · next o r =>
    have h3' : r.length + 1 ≤ i := h3
    split at h
    · injection h with h; subst h
      exact ⟨by decide, h2, by omega, h4, (fun _ => by decide), (fun _ => h6), (fun _ => h7), h8, h9, fun x hx => h10 x (List.mem_cons_of_mem _ hx), fun h => by omega, hm⟩
    split at h
    · next q =>
      injection h with h; subst h
      exact ⟨by decide, h2, by show r.length + 1 ≤ _; omega, h4, (fun _ => by decide), (fun _ => h6), (fun _ => h7), h8, h9, fun x hx => by rcases List.mem_cons.mp hx with rfl | hx; omega; exact h10 x (List.mem_cons_of_mem _ hx), fun h => by omega, hm⟩
    · cases h
set_option maxHeartbeats 200000 in
theorem ls_yok_with (h2 : C.length ≤ i + 1) (h3 : O.length ≤ i) (h4 : N.length ≤ 8) (h6 : ct ≤ i) (h7 : fu < 100) (h8 : ∀ e ∈ C, 1 ≤ e.1 ∧ e.1 ≤ 5 ∧ e.2 ≤ N.length) (h9 : ∀ x ∈ N, x < 100) (h10 : ∀ x ∈ O, x ≤ 3) (hm : ls_ymo C) (h : ls_ywith nd t C O fl ct fu N = some y') : ls_yok (i + 1) y' := by
  have htl : O.tail.length ≤ i ∧ ∀ x ∈ O.tail, x ≤ 3 := by
    cases O with
    | nil => exact ⟨by simp, by simp⟩
    | cons o r => exact ⟨by have : r.length + 1 ≤ i := h3; show r.length ≤ i; omega, fun x hx => h10 x (List.mem_cons_of_mem _ hx)⟩
  unfold ls_ywith at h
  split at h
  · injection h with h; subst h
    exact ⟨by (repeat' split) <;> decide, h2, by omega, h4, (fun _ => by decide), (fun _ => by omega), (fun _ => h7), h8, h9, h10, fun h => by revert h; (repeat' split) <;> omega, hm⟩
  split at h
  · cases h
  split at h
  · exact ls_yok_aft h2 h3 h4 (by omega) h7 h8 h9 h10 hm h
  split at h
  · split at h
    · injection h with h; subst h
      exact ⟨by decide, h2, by omega, h4, (fun _ => by decide), (fun _ => by omega), (fun _ => h7), h8, h9, h10, fun h => by omega, hm⟩
    · cases h
  split at h
  · injection h with h; subst h
    exact ⟨by decide, h2, by omega, h4, (fun _ => by decide), (fun _ => by omega), (fun _ => h7), h8, h9, htl.2, fun h => by omega, hm⟩
  split at h
  · injection h with h; subst h
    exact ⟨by decide, h2, by omega, h4, (fun _ => by decide), (fun _ => by omega), (fun _ => h7), h8, h9, htl.2, fun h => by omega, hm⟩
  · exact ls_yok_opd h2 h3 h4 (by split <;> omega) (by omega) h7 h8 h9 h10 hm h
set_option maxHeartbeats 200000 in
theorem ls_yok_beg {list : Bool} (h2 : C.length ≤ i) (h3 : O.length ≤ i) (h4 : N.length ≤ 8) (h8 : ∀ e ∈ C, 1 ≤ e.1 ∧ e.1 ≤ 5 ∧ e.2 ≤ N.length) (h9 : ∀ x ∈ N, x < 100) (h10 : ∀ x ∈ O, x ≤ 3) (hm : ls_ymo C) (ht : t < 100) (h : ls_ybeg list t C O fl ct fu N = some y') : ls_yok (i + 1) y' := by
  have op : ∀ k fu', (1 ≤ k ∧ k ≤ 5) ∧ k ≠ 3 → ∀ nd, (nd = 2 → fu' < 100) → (nd = 0 ∨ nd = 2) → ls_yok (i + 1) (nd, (k, N.length) :: C, O, fl, ct, fu', N) := fun k fu' hk nd hfu hnd =>
    ⟨by omega, by show C.length + 1 ≤ _; omega, by omega, h4, (fun h => by omega), (fun h => by omega), (fun h => hfu (by omega)), fun e he => by rcases List.mem_cons.mp he with rfl | he; exact ⟨hk.1.1, hk.1.2, Nat.le_refl _⟩; exact h8 e he, h9, h10, fun h => by omega, ⟨fun x hx => (h8 x hx).2.2, fun h => absurd h hk.2, hm⟩⟩
  have st : ∀ fu' nd, (nd = 2 ∨ nd = 7 → fu' < 100) → (nd = 0 ∨ nd = 8 ∨ nd = 2 ∨ nd = 6 ∨ nd = 7) → ls_yok (i + 1) (nd, C, O, fl, ct, fu', N) := fun fu' nd hfu hnd =>
    ⟨by omega, by omega, by omega, h4, (fun h => by omega), (fun h => by omega), (fun h => hfu (by omega)), h8, h9, h10, fun h => by omega, hm⟩
  unfold ls_ybeg at h
  split at h
  · injection h with h; subst h; exact st fu 0 (fun h => by omega) (by decide)
  split at h
  · split at h
    · injection h with h; subst h; exact st fu 8 (fun h => by omega) (by decide)
    · cases h
  split at h
  · injection h with h; subst h; exact op 1 fu (by decide) 0 (fun h => by omega) (by decide)
  split at h
  · split at h
    · unfold ls_ycl at h
      split at h
      · cases h
      · next e r =>
        have dl : ∀ a, (N.drop (N.length - a)).length ≤ 8 ∧ ∀ x ∈ N.drop (N.length - a), x < 100 := fun a => ⟨by rw [List.length_drop]; omega, fun x hx => h9 x (List.mem_of_mem_drop hx)⟩
        have h2' : r.length + 1 ≤ i := h2
        split at h
        · injection h with h; subst h
          exact ⟨by decide, by simp, by omega, (dl _).1, (fun h => by omega), (fun h => by omega), (fun h => by omega), by simp, (dl _).2, h10, fun h => by omega, trivial⟩
        · next g r2 =>
          have h2'' : r2.length + 1 + 1 ≤ i := h2'
          obtain ⟨mo1, mo2, mo3, mo4, mo5⟩ := hm
          split at h
          · next q3 =>
            injection h with h; subst h
            have r20 := mo4 q3
            subst r20
            exact ⟨by decide, by simp, by omega, (dl _).1, (fun h => by omega), (fun h => by omega), (fun h => by omega), by simp, (dl _).2, h10, fun h => by omega, trivial⟩
          · injection h with h; subst h
            refine ⟨by decide, by show r2.length + 1 ≤ _; omega, by omega, (dl _).1, (fun h => by omega), (fun h => by omega), (fun h => by omega), fun x hx => ?_, (dl _).2, h10, fun h => by omega, mo3, mo4, mo5⟩
            have a := h8 x (List.mem_cons_of_mem _ hx)
            have b := mo1 x hx
            have c := (h8 e (List.mem_cons_self ..)).2.2
            rw [List.length_drop]; omega
    · cases h
  split at h
  · injection h with h; subst h; exact op 4 6 (by decide) 2 (fun _ => by decide) (by decide)
  split at h
  · injection h with h; subst h; exact op 2 8 (by decide) 2 (fun _ => by decide) (by decide)
  split at h
  · injection h with h; subst h; exact st 12 2 (fun _ => by decide) (by decide)
  split at h
  · split at h
    · injection h with h; subst h; exact st t 6 (fun h => by omega) (by decide)
    · cases h
  split at h
  · split at h
    · injection h with h; subst h; exact st 11 7 (fun _ => by decide) (by decide)
    · cases h
  · exact ls_yok_with (by omega) h3 h4 (by omega) (by decide) h8 h9 h10 hm h
set_option maxHeartbeats 200000 in
theorem ls_yfin_mo : ∀ {C D : List (Nat × Nat)} {b : Bool}, ls_yfin t C = (b, D) → ls_ymo C → ls_ymo D ∧ D.length ≤ C.length
  | [], D, b, h, hm => by
    have h' : (false, ([] : List (Nat × Nat))) = (b, D) := h
    injection h' with h1 h2
    subst h1 h2
    exact ⟨hm, Nat.le_refl _⟩
  | e :: r, D, b, h, hm => by
    have h' : (if e.1 = 2 ∨ 3 < e.1 then (if e.1 = 4 ∧ t = 7 then (true, e :: r) else ls_yfin t r) else (false, e :: r)) = (b, D) := h
    split at h'
    · split at h'
      · injection h' with h1 h2
        subst h1 h2
        exact ⟨hm, Nat.le_refl _⟩
      · obtain ⟨i1, i2⟩ := ls_yfin_mo h' hm.2.2
        exact ⟨i1, by show D.length ≤ r.length + 1; omega⟩
    · injection h' with h1 h2
      subst h1 h2
      exact ⟨hm, Nat.le_refl _⟩
set_option maxHeartbeats 200000 in
theorem ls_yok_dec (h2 : C.length ≤ i) (h3 : O.length ≤ i) (h4 : N.length ≤ 8) (h8 : ∀ e ∈ C, 1 ≤ e.1 ∧ e.1 ≤ 5 ∧ e.2 ≤ N.length) (h9 : ∀ x ∈ N, x < 100) (h10 : ∀ x ∈ O, x ≤ 3) (hm : ls_ymo C) (hnd : nd = 9 ∨ nd = 13) (h : ls_ydec nd t C O fl ct fu N = some y') : ls_yok (i + 1) y' := by
  unfold ls_ydec at h
  split at h
  · next tn =>
    split at h
    · injection h with h; subst h
      exact ⟨by omega, by omega, by omega, h4, (fun h => by omega), (fun h => by omega), (fun h => by omega), h8, h9, h10, fun h => by omega, hm⟩
    · split at h
      · cases h
      · next hno =>
        injection h with h; subst h
        have n8 : N.length ≠ 8 := fun e => hno (Or.inr e)
        refine ⟨by omega, by omega, by omega, by show N.length + 1 ≤ 8; omega, (fun h => by omega), (fun h => by omega), (fun h => by omega), fun e he => ?_, fun x hx => ?_, h10, fun h => by omega, hm⟩
        · have := h8 e he
          exact ⟨this.1, this.2.1, by show e.2 ≤ N.length + 1; omega⟩
        · rcases List.mem_cons.mp hx with rfl | hx
          · have := tn.2; omega
          · exact h9 x hx
  · cases h
set_option maxHeartbeats 200000 in
theorem ls_yok_yg {y : LsY} (hy : ls_yok i y) (ht : t < 90) (h : ls_yg y t = some y') : ls_yok (i + 1) y' := by
  obtain ⟨nd, C, O, fl, ct, fu, N⟩ := y
  obtain ⟨h1, h2, h3, h4, h5, h6, h7, h8, h9, h10, h11, h12⟩ := hy
  unfold ls_yg at h
  dsimp only at h
  split at h
  · split at h
    · next C1 hf =>
      injection h with h; subst h
      obtain ⟨s1, s2⟩ := ls_yfin_sub hf
      obtain ⟨m1, m2⟩ := ls_yfin_mo hf h12
      cases C1 with
      | nil => exact absurd rfl (s2 rfl)
      | cons e r =>
        have m2' : r.length + 1 ≤ C.length := m2
        refine ⟨by decide, by show r.length + 1 ≤ _; omega, by omega, h4, (fun h => by omega), (fun h => by omega), (fun h => by omega), fun x hx => ?_, h9, h10, fun h => by omega, ⟨m1.1, fun h => absurd h (by show (5 : Nat) ≠ 3; decide), m1.2.2⟩⟩
        rcases List.mem_cons.mp hx with rfl | hx
        · exact ⟨by show 1 ≤ 5; decide, by show 5 ≤ 5; decide, (h8 e (s1 e (List.mem_cons_self ..))).2.2⟩
        · exact h8 x (s1 x (List.mem_cons_of_mem _ hx))
    · next C1 hf =>
      obtain ⟨s1, s2⟩ := ls_yfin_sub hf
      obtain ⟨m1, m2⟩ := ls_yfin_mo hf h12
      exact ls_yok_beg (by omega) h3 h4 (fun e he => h8 e (s1 e he)) h9 h10 m1 (by omega) h
  split at h
  · exact ls_yok_beg h2 h3 h4 h8 h9 h10 h12 (by omega) h
  split at h
  · next q => exact ls_yok_with (by omega) h3 h4 (by omega) (h7 (by omega)) h8 h9 h10 h12 h
  split at h
  · next q => exact ls_yok_with (by omega) h3 h4 (h6 q) (h7 (by omega)) h8 h9 h10 h12 h
  split at h
  · next q =>
    split at h
    · injection h with h; subst h
      exact ⟨by decide, by omega, by omega, h4, (fun h => by omega), (fun h => by omega), (fun _ => h7 (by omega)), h8, h9, h10, fun h => by omega, h12⟩
    · cases h
  split at h
  · split at h
    · injection h with h; subst h
      exact ⟨by decide, by omega, by omega, h4, (fun h => by omega), (fun h => by omega), (fun h => by omega), h8, h9, h10, fun h => by omega, h12⟩
    · cases h
  have st : ∀ nd' ct' fu', (nd' = 3 → ct' ≤ i ∧ fu' < 100) → (nd' = 0 ∨ nd' = 3 ∨ 8 ≤ nd' ∧ nd' < 15) → ls_yok (i + 1) (nd', C, O, fl, ct', fu', N) := fun nd' ct' fu' hf hn =>
    ⟨by omega, by omega, by omega, h4, (fun h => by omega), (fun h => by have := hf (by omega); omega), (fun h => (hf (by omega)).2), h8, h9, h10, fun h => by omega, h12⟩
  unfold ls_yhd at h
  split at h
  · exact ls_yok_dec h2 h3 h4 h8 h9 h10 h12 (by decide) h
  split at h
  · split at h
    · next q =>
      injection h with h; subst h
      exact ⟨by decide, by show 1 ≤ _; omega, by simp, h4, (fun h => by omega), (fun h => by omega), (fun h => by omega), fun e he => by rw [List.mem_singleton] at he; subst he; exact ⟨by show 1 ≤ 3; decide, by show 3 ≤ 5; decide, Nat.le_refl _⟩, h9, by simp, fun h => by omega, ⟨by simp, fun _ => rfl, trivial⟩⟩
    split at h
    · injection h with h; subst h; exact st 0 0 20 (fun h => by omega) (by decide)
    split at h
    · injection h with h; subst h; exact st 3 0 20 (fun _ => ⟨by omega, by decide⟩) (by decide)
    · cases h
  split at h
  · injection h with h; subst h; exact st 14 ct fu (fun h => by omega) (by decide)
  split at h
  · split at h
    · injection h with h; subst h; exact st 12 ct fu (fun h => by omega) (by decide)
    · cases h
  split at h
  · exact ls_yok_dec h2 h3 h4 h8 h9 h10 h12 (by decide) h
  split at h
  · split at h
    · injection h with h; subst h; exact st 11 ct fu (fun h => by omega) (by decide)
    · cases h
  split at h
  · injection h with h; subst h
    exact ⟨by decide, by show C.length + 1 ≤ _; omega, by omega, h4, (fun h => by omega), (fun h => by omega), (fun h => by omega), fun e he => by rcases List.mem_cons.mp he with rfl | he; exact ⟨by show 1 ≤ 1; decide, by show 1 ≤ 5; decide, Nat.le_refl _⟩; exact h8 e he, h9, h10, fun h => by omega, ⟨fun x hx => (h8 x hx).2.2, fun h => absurd h (by show (1 : Nat) ≠ 3; decide), h12⟩⟩
  · cases h
end
/-- what the reference's reading answers -/
def ls_yfo (v0 : SY) (n : Nat) (r : Option Nat) (post : Int32 → SY → Prop) : Prop := match r with
  | none => ∀ v', ls_ykept v' = ls_ykept v0 → post (-1) v'
  | some e => ∀ v', ls_ykept v' = ls_ykept v0 → post (nI e) v'
section
variable {f_most f_n f_stored f_nm f_nEnv f_base f_ns f_no f_nc f_pc f_mode f_err f_errAt f_ticks f_calls f_outs f_resK f_part f_cnt f_full f_flag f_need : Int32}
variable {f_resV : Int64}
variable {a_tk a_tp a_mName a_mKind a_mCount a_mPar a_mAt a_vName a_vDecl a_vKind a_sk a_oKind a_oAt a_oArgs a_cKind a_cA a_cB a_outK : Nat → Int32}
variable {a_tv a_vVal a_sv a_outV : Nat → Int64}
variable {v0 : SY} {post : Int32 → SY → Prop} {T : Nat → Nat} {n : Nat}
set_option maxHeartbeats 200000 in
theorem hy_end {y : LsY} {v : SY} (h : ls_YR v0 y v) (hy : ls_yok n y) (hn : n ≤ 140) (etk : ∀ v' : SY, ls_ykept v' = ls_ykept v0 → match v' with | (f_most, f_n, f_stored, f_nm, f_nEnv, f_base, f_ns, f_no, f_nc, f_pc, f_mode, f_err, f_errAt, f_ticks, f_calls, f_outs, f_resK, f_part, f_resV, f_cnt, f_full, f_flag, f_need, a_tk, a_tv, a_tp, a_mName, a_mKind, a_mCount, a_mPar, a_mAt, a_vName, a_vDecl, a_vKind, a_vVal, a_sk, a_sv, a_oKind, a_oAt, a_oArgs, a_cKind, a_cA, a_cB, a_outK, a_outV) => f_n = nI n) (hp : ls_yfo v0 n (ls_yv T n 0 n y) post) : match v with | (f_most, f_n, f_stored, f_nm, f_nEnv, f_base, f_ns, f_no, f_nc, f_pc, f_mode, f_err, f_errAt, f_ticks, f_calls, f_outs, f_resK, f_part, f_resV, f_cnt, f_full, f_flag, f_need, a_tk, a_tv, a_tp, a_mName, a_mKind, a_mCount, a_mPar, a_mAt, a_vName, a_vDecl, a_vKind, a_vVal, a_sk, a_sv, a_oKind, a_oAt, a_oArgs, a_cKind, a_cA, a_cB, a_outK, a_outV) => ((f_need = 0 → wpY_finished (fun r_5 u => match u with | (f_most, f_n, f_stored, f_nm, f_nEnv, f_base, f_ns, f_no, f_nc, f_pc, f_mode, f_err, f_errAt, f_ticks, f_calls, f_outs, f_resK, f_part, f_resV, f_cnt, f_full, f_flag, f_need, a_tk, a_tv, a_tp, a_mName, a_mKind, a_mCount, a_mPar, a_mAt, a_vName, a_vDecl, a_vKind, a_vVal, a_sk, a_sv, a_oKind, a_oAt, a_oArgs, a_cKind, a_cA, a_cB, a_outK, a_outV) => wY_faulty_86 post f_most f_n f_stored f_nm f_nEnv f_base f_ns f_no f_nc f_pc f_mode f_err f_errAt f_ticks f_calls f_outs f_resK f_part f_resV f_cnt f_full f_flag f_need a_tk a_tv a_tp a_mName a_mKind a_mCount a_mPar a_mAt a_vName a_vDecl a_vKind a_vVal a_sk a_sv a_oKind a_oAt a_oArgs a_cKind a_cA a_cB a_outK a_outV) (f_most, f_n, f_stored, f_nm, f_nEnv, f_base, f_ns, f_no, f_nc, f_pc, f_mode, f_err, f_errAt, f_ticks, f_calls, f_outs, f_resK, f_part, f_resV, f_cnt, f_full, f_flag, f_need, a_tk, a_tv, a_tp, a_mName, a_mKind, a_mCount, a_mPar, a_mAt, a_vName, a_vDecl, a_vKind, a_vVal, a_sk, a_sv, a_oKind, a_oAt, a_oArgs, a_cKind, a_cA, a_cB, a_outK, a_outV) (-1)) ∧ (¬ f_need = 0 → wY_faulty_86 post f_most f_n f_stored f_nm f_nEnv f_base f_ns f_no f_nc f_pc f_mode f_err f_errAt f_ticks f_calls f_outs f_resK f_part f_resV f_cnt f_full f_flag f_need a_tk a_tv a_tp a_mName a_mKind a_mCount a_mPar a_mAt a_vName a_vDecl a_vKind a_vVal a_sk a_sv a_oKind a_oAt a_oArgs a_cKind a_cA a_cB a_outK a_outV)) := by
  obtain ⟨nd, C, O, fl, ct, fu, N⟩ := y
  have hb := ls_yok_b hy (by omega)
  have e1 := etk v h.1
  obtain ⟨f_most, f_n, f_stored, f_nm, f_nEnv, f_base, f_ns, f_no, f_nc, f_pc, f_mode, f_err, f_errAt, f_ticks, f_calls, f_outs, f_resK, f_part, f_resV, f_cnt, f_full, f_flag, f_need, a_tk, a_tv, a_tp, a_mName, a_mKind, a_mCount, a_mPar, a_mAt, a_vName, a_vDecl, a_vKind, a_vVal, a_sk, a_sv, a_oKind, a_oAt, a_oArgs, a_cKind, a_cA, a_cB, a_outK, a_outV⟩ := v
  dsimp only at e1
  subst e1
  obtain ⟨hk, rfl, rfl, rfl, rfl, rfl, rfl, rfl, hC, hO, hN⟩ := h
  obtain ⟨b1, bC, bO, bN, bfl, bct, bfu, hc, hx, ho⟩ := hb
  unfold ls_yv at hp
  dsimp only at hp ⊢
  by_cases q0 : nd = 0
  · subst q0
    refine br_t rfl ?_
    have K : ∀ D : List (Nat × Nat), (ls_yfin 99 C).2 = D → D.length ≤ C.length → wY_faulty_86 post f_most (nI n) f_stored f_nm (nI N.length) f_base f_ns (nI O.length) (nI D.length) f_pc f_mode f_err f_errAt f_ticks f_calls f_outs f_resK f_part f_resV (nI ct) (nI fu) (nI fl) (nI 0) a_tk a_tv a_tp a_mName a_mKind a_mCount a_mPar a_mAt a_vName a_vDecl a_vKind a_vVal a_sk a_sv a_oKind a_oAt a_oArgs a_cKind a_cA a_cB a_outK a_outV := by
      intro D hD hl
      refine br_t rfl ?_
      rw [hD] at hp
      cases D with
      | nil =>
        rw [if_pos ⟨rfl, rfl⟩] at hp
        exact br_t rfl (hp _ hk)
      | cons e r =>
        rw [if_neg (fun h => List.cons_ne_nil _ _ h.2)] at hp
        have hl' : r.length + 1 ≤ C.length := hl
        exact br_f (nI_ne0 (n := r.length + 1) (by omega) (by omega)) (hp _ hk)
    exact hy_finished hc hC bC (by decide) (Or.inr ⟨rfl, rfl⟩) (fun D hD hS hl => K D (by rw [hD]) hl) (fun D hD hS hl => K D (by rw [hD]) hl)
  · rw [if_neg (fun h => q0 h.1)] at hp
    have q : ¬ nI nd = 0 := mt (ls_yn (w := 0) (by omega) (by decide)).mp q0
    exact br_f q (br_f q (hp _ hk))
set_option maxHeartbeats 200000 in
theorem hy_loop (hn : n ≤ 140) (hT : ∀ p, p < n → T p < 72) (etk : ∀ v' : SY, ls_ykept v' = ls_ykept v0 → match v' with | (f_most, f_n, f_stored, f_nm, f_nEnv, f_base, f_ns, f_no, f_nc, f_pc, f_mode, f_err, f_errAt, f_ticks, f_calls, f_outs, f_resK, f_part, f_resV, f_cnt, f_full, f_flag, f_need, a_tk, a_tv, a_tp, a_mName, a_mKind, a_mCount, a_mPar, a_mAt, a_vName, a_vDecl, a_vKind, a_vVal, a_sk, a_sv, a_oKind, a_oAt, a_oArgs, a_cKind, a_cA, a_cB, a_outK, a_outV) => f_n = nI n ∧ ∀ p, p < n → a_tk p = nI (T p)) : ∀ f i y v, i + f = n → ls_YR v0 y v → ls_yok i y → ls_yfo v0 n (ls_yv T n f i y) post → match v with | (f_most, f_n, f_stored, f_nm, f_nEnv, f_base, f_ns, f_no, f_nc, f_pc, f_mode, f_err, f_errAt, f_ticks, f_calls, f_outs, f_resK, f_part, f_resV, f_cnt, f_full, f_flag, f_need, a_tk, a_tv, a_tp, a_mName, a_mKind, a_mCount, a_mPar, a_mAt, a_vName, a_vDecl, a_vKind, a_vVal, a_sk, a_sv, a_oKind, a_oAt, a_oArgs, a_cKind, a_cA, a_cB, a_outK, a_outV) => wY_faulty_22 post (f + 1) (nI i) f_most f_n f_stored f_nm f_nEnv f_base f_ns f_no f_nc f_pc f_mode f_err f_errAt f_ticks f_calls f_outs f_resK f_part f_resV f_cnt f_full f_flag f_need a_tk a_tv a_tp a_mName a_mKind a_mCount a_mPar a_mAt a_vName a_vDecl a_vKind a_vVal a_sk a_sv a_oKind a_oAt a_oArgs a_cKind a_cA a_cB a_outK a_outV := by
  intro f
  induction f with
  | zero =>
    intro i y v hi h hy hp
    have e : i = n := by omega
    subst e
    have K := hy_end h hy hn (fun v' h' => by have := etk v' h'; obtain ⟨f_most, f_n, f_stored, f_nm, f_nEnv, f_base, f_ns, f_no, f_nc, f_pc, f_mode, f_err, f_errAt, f_ticks, f_calls, f_outs, f_resK, f_part, f_resV, f_cnt, f_full, f_flag, f_need, a_tk, a_tv, a_tp, a_mName, a_mKind, a_mCount, a_mPar, a_mAt, a_vName, a_vDecl, a_vKind, a_vVal, a_sk, a_sv, a_oKind, a_oAt, a_oArgs, a_cKind, a_cA, a_cB, a_outK, a_outV⟩ := v'; exact this.1) hp
    have e1 := etk v h.1
    obtain ⟨f_most, f_n, f_stored, f_nm, f_nEnv, f_base, f_ns, f_no, f_nc, f_pc, f_mode, f_err, f_errAt, f_ticks, f_calls, f_outs, f_resK, f_part, f_resV, f_cnt, f_full, f_flag, f_need, a_tk, a_tv, a_tp, a_mName, a_mKind, a_mCount, a_mPar, a_mAt, a_vName, a_vDecl, a_vKind, a_vVal, a_sk, a_sv, a_oKind, a_oAt, a_oArgs, a_cKind, a_cA, a_cB, a_outK, a_outV⟩ := v
    dsimp only at e1 K ⊢
    obtain ⟨rfl, e2⟩ := e1
    exact br_t (nI_le (by omega) (by omega)) K
  | succ f ih =>
    intro i y v hi h hy hp
    obtain ⟨nd, C, O, fl, ct, fu, N⟩ := y
    have hb := ls_yok_b hy (by omega)
    have Ti := hT i (by omega)
    have hO1 := hy.2.2.2.2.2.2.2.2.2.2.1
    have hcN : ∀ e ∈ C, e.2 ≤ N.length := fun e he => (hy.2.2.2.2.2.2.2.1 e he).2.2
    have OUT : ls_yout v0 (ls_yg (nd, C, O, fl, ct, fu, N) (T i)) (fun r_53 u => match u with | (f_most, f_n, f_stored, f_nm, f_nEnv, f_base, f_ns, f_no, f_nc, f_pc, f_mode, f_err, f_errAt, f_ticks, f_calls, f_outs, f_resK, f_part, f_resV, f_cnt, f_full, f_flag, f_need, a_tk, a_tv, a_tp, a_mName, a_mKind, a_mCount, a_mPar, a_mAt, a_vName, a_vDecl, a_vKind, a_vVal, a_sk, a_sv, a_oKind, a_oAt, a_oArgs, a_cKind, a_cA, a_cB, a_outK, a_outV) => ((r_53 = 0 → post (nI i) (f_most, f_n, f_stored, f_nm, f_nEnv, f_base, f_ns, f_no, f_nc, f_pc, f_mode, f_err, f_errAt, f_ticks, f_calls, f_outs, f_resK, f_part, f_resV, f_cnt, f_full, f_flag, f_need, a_tk, a_tv, a_tp, a_mName, a_mKind, a_mCount, a_mPar, a_mAt, a_vName, a_vDecl, a_vKind, a_vVal, a_sk, a_sv, a_oKind, a_oAt, a_oArgs, a_cKind, a_cA, a_cB, a_outK, a_outV)) ∧ (¬ r_53 = 0 → ∀ x, x = nI i + 1 → wY_faulty_22 post (f + 1) x f_most f_n f_stored f_nm f_nEnv f_base f_ns f_no f_nc f_pc f_mode f_err f_errAt f_ticks f_calls f_outs f_resK f_part f_resV f_cnt f_full f_flag f_need a_tk a_tv a_tp a_mName a_mKind a_mCount a_mPar a_mAt a_vName a_vDecl a_vKind a_vVal a_sk a_sv a_oKind a_oAt a_oArgs a_cKind a_cA a_cB a_outK a_outV))) := by
      unfold ls_yv at hp
      unfold ls_yout
      split
      · next y' hy' =>
        intro v' hv'
        rw [hy'] at hp
        have G := ih (i + 1) y' v' (by omega) hv' (ls_yok_yg hy (by omega) hy') hp
        obtain ⟨f_most, f_n, f_stored, f_nm, f_nEnv, f_base, f_ns, f_no, f_nc, f_pc, f_mode, f_err, f_errAt, f_ticks, f_calls, f_outs, f_resK, f_part, f_resV, f_cnt, f_full, f_flag, f_need, a_tk, a_tv, a_tp, a_mName, a_mKind, a_mCount, a_mPar, a_mAt, a_vName, a_vDecl, a_vKind, a_vVal, a_sk, a_sv, a_oKind, a_oAt, a_oArgs, a_cKind, a_cA, a_cB, a_outK, a_outV⟩ := v'
        exact br_f (by decide) (nm_r (nI_1 i) G)
      · next hy' =>
        intro v' hv'
        rw [hy'] at hp
        have G := hp v' hv'
        obtain ⟨f_most, f_n, f_stored, f_nm, f_nEnv, f_base, f_ns, f_no, f_nc, f_pc, f_mode, f_err, f_errAt, f_ticks, f_calls, f_outs, f_resK, f_part, f_resV, f_cnt, f_full, f_flag, f_need, a_tk, a_tv, a_tp, a_mName, a_mKind, a_mCount, a_mPar, a_mAt, a_vName, a_vDecl, a_vKind, a_vVal, a_sk, a_sv, a_oKind, a_oAt, a_oArgs, a_cKind, a_cA, a_cB, a_outK, a_outV⟩ := v'
        exact br_t rfl G
    have GO := fun nx => hy_goesOn (nx := nx) h hb hcN hO1 (by omega) OUT
    have e1 := etk v h.1
    obtain ⟨f_most, f_n, f_stored, f_nm, f_nEnv, f_base, f_ns, f_no, f_nc, f_pc, f_mode, f_err, f_errAt, f_ticks, f_calls, f_outs, f_resK, f_part, f_resV, f_cnt, f_full, f_flag, f_need, a_tk, a_tv, a_tp, a_mName, a_mKind, a_mCount, a_mPar, a_mAt, a_vName, a_vDecl, a_vKind, a_vVal, a_sk, a_sv, a_oKind, a_oAt, a_oArgs, a_cKind, a_cA, a_cB, a_outK, a_outV⟩ := v
    dsimp only at e1 ⊢
    obtain ⟨rfl, e2⟩ := e1
    refine br_f (nI_ge (by omega) (by omega)) ⟨vp_in_nI (by omega) (by decide), ?_⟩
    rw [nI_clamp (by omega), e2 i (by omega), nI_1]
    refine br_c (fun _ => ?_) (fun h => ⟨?_, ?_⟩)
    · exact GO _
    · have : i + 1 < n := by
        apply Decidable.byContradiction
        intro hh
        exact h (nI_le (by omega) (by omega))
      exact vp_in_nI (by omega) (by decide)
    · exact GO _
set_option maxHeartbeats 200000 in
theorem ls_i32 (x : Int32) : ∃ j : Nat, x = nI j := ⟨x.toBitVec.toNat, by
  apply Int32.toBitVec_inj.mp
  show x.toBitVec = BitVec.ofNat 32 x.toBitVec.toNat
  rw [BitVec.ofNat_toNat]; simp⟩
set_option maxHeartbeats 200000 in
theorem hy_faulty (hn : n ≤ 140) (hT : ∀ p, p < n → T p < 72) (etk : ∀ p, p < n → a_tk p = nI (T p))
    (hp : ∀ fl ct fu, ls_yfo (f_most, nI n, f_stored, f_nm, f_nEnv, f_base, f_ns, f_no, f_nc, f_pc, f_mode, f_err, f_errAt, f_ticks, f_calls, f_outs, f_resK, f_part, f_resV, f_cnt, f_full, f_flag, f_need, a_tk, a_tv, a_tp, a_mName, a_mKind, a_mCount, a_mPar, a_mAt, a_vName, a_vDecl, a_vKind, a_vVal, a_sk, a_sv, a_oKind, a_oAt, a_oArgs, a_cKind, a_cA, a_cB, a_outK, a_outV) n (ls_yv T n n 0 (0, [], [], fl, ct, fu, [])) post) : wpY_faulty post (f_most, nI n, f_stored, f_nm, f_nEnv, f_base, f_ns, f_no, f_nc, f_pc, f_mode, f_err, f_errAt, f_ticks, f_calls, f_outs, f_resK, f_part, f_resV, f_cnt, f_full, f_flag, f_need, a_tk, a_tv, a_tp, a_mName, a_mKind, a_mCount, a_mPar, a_mAt, a_vName, a_vDecl, a_vKind, a_vVal, a_sk, a_sv, a_oKind, a_oAt, a_oArgs, a_cKind, a_cA, a_cB, a_outK, a_outV) := by
  obtain ⟨fl, hfl⟩ := ls_i32 f_flag
  obtain ⟨ct, hct⟩ := ls_i32 f_cnt
  obtain ⟨fu, hfu⟩ := ls_i32 f_full
  unfold wpY_faulty
  dsimp only
  refine ⟨n + 1, ?_⟩
  have K := hy_loop (v0 := (f_most, nI n, f_stored, f_nm, f_nEnv, f_base, f_ns, f_no, f_nc, f_pc, f_mode, f_err, f_errAt, f_ticks, f_calls, f_outs, f_resK, f_part, f_resV, f_cnt, f_full, f_flag, f_need, a_tk, a_tv, a_tp, a_mName, a_mKind, a_mCount, a_mPar, a_mAt, a_vName, a_vDecl, a_vKind, a_vVal, a_sk, a_sv, a_oKind, a_oAt, a_oArgs, a_cKind, a_cA, a_cB, a_outK, a_outV)) (post := post) (T := T) (n := n) hn hT (fun v' hv' => ?_) n 0 (0, [], [], fl, ct, fu, []) (f_most, nI n, f_stored, f_nm, 0, f_base, f_ns, 0, 0, f_pc, f_mode, f_err, f_errAt, f_ticks, f_calls, f_outs, f_resK, f_part, f_resV, f_cnt, f_full, f_flag, 0, a_tk, a_tv, a_tp, a_mName, a_mKind, a_mCount, a_mPar, a_mAt, a_vName, a_vDecl, a_vKind, a_vVal, a_sk, a_sv, a_oKind, a_oAt, a_oArgs, a_cKind, a_cA, a_cB, a_outK, a_outV) (by omega) ⟨rfl, rfl, rfl, rfl, hfl, hct, hfu, rfl, trivial, trivial, trivial⟩ ⟨by decide, by simp, by simp, by simp, fun h => by omega, fun h => by omega, fun h => by omega, by simp, by simp, by simp, fun h => by omega, trivial⟩ (hp fl ct fu)
  · exact K
  · obtain ⟨f_most, f_n, f_stored, f_nm, f_nEnv, f_base, f_ns, f_no, f_nc, f_pc, f_mode, f_err, f_errAt, f_ticks, f_calls, f_outs, f_resK, f_part, f_resV, f_cnt, f_full, f_flag, f_need, a_tk, a_tv, a_tp, a_mName, a_mKind, a_mCount, a_mPar, a_mAt, a_vName, a_vDecl, a_vKind, a_vVal, a_sk, a_sv, a_oKind, a_oAt, a_oArgs, a_cKind, a_cA, a_cB, a_outK, a_outV⟩ := v'
    injection hv' with h1 h2
    injection h2 with h2 h3
    injection h1 with _ h1
    injection h1 with h1 _
    injection h2 with h2 _
    exact ⟨h1, fun p hp => by rw [h2]; exact etk p hp⟩
end
end
section
/-! Both readings agree: a relation between the component's configuration and the reference's state -/
def ls_kk (k : Nat) : Nat := if k = 1 then 1 else if k = 2 then 3 else if k = 3 ∨ k = 7 then 4 else if k = 4 then 5 else 2
def ls_rc : List LsF → List (Nat × Nat) → Prop
  | [], C => C = []
  | f :: r, C => if f.1 = 6 ∨ 9 ≤ f.1 then ls_rc r C else ∃ a D, C = (ls_kk f.1, a) :: D ∧ (f.1 = 1 → a = f.2.1) ∧ (f.1 = 2 → a = 0) ∧ ls_rc r D
def ls_os : List LsP → List Nat
  | [] => []
  | e :: r => if e.1 = 0 then e.2.2 :: ls_os r else if e.1 = 1 then 0 :: ls_os r else ls_os r
def ls_fu (fk : Nat) : Nat := if fk = 7 then 6 else if fk = 8 then 8 else if fk = 9 then 12 else if fk = 10 then 11 else 20
def ls_nd4 (pe : List LsP) : Nat := match pe with
  | [] => 3
  | e :: _ => if e.1 = 0 then (if e.2.2 = 1 then 17 else 3) else if e.1 = 1 then 15 else if e.1 = 2 then 3 else 4
def ls_m54 (L : List Nat) : List Nat := L.map (· + 54)
/-- a method stands below a block alone -/
def ls_mb : List LsF → Prop
  | [] => True
  | f :: r => (ls_fk r = 2 → f.1 = 1) ∧ ls_mb r
def ls_al (T : Nat → Nat) (n : Nat) (c : LsC) (y : LsY) : Prop := match c with
  | (st, pos, es, pe, fr, L, _) => ls_mb fr ∧ match y with
    | (nd, C, O, fl, ct, fu, N) =>
      if st = 4 ∨ st = 5 then
        pos ≤ es + 32 ∧ (∀ e ∈ pe, e.1 = 0 → 1 ≤ e.2.2) ∧
        (if st = 5 then y = (5, C, ls_os pe, fl, pos - es, ls_fu (ls_fk fr), ls_m54 L) ∧ ls_rc fr C ∧ (0 < fl → T pos ≠ 15) ∧ (fl = 2 → ¬ ls_asg (T pos))
         else ∃ C', ls_rc fr C' ∧ (ls_nd4 pe = 15 → 6 ≤ T pos) ∧ (ls_nd4 pe = 17 → T pos ≠ 16) ∧ (∃ fl', ls_yg y (T pos) = ls_ywith (ls_nd4 pe) (T pos) C' (ls_os pe) fl' (pos - es) (ls_fu (ls_fk fr)) (ls_m54 L)) ∧ (T pos = 72 → ls_yv T n 0 n y = some n))
      else if st = 6 then ls_yv T n (n - pos) pos y = none
      else O = [] ∧ (if st = 3 then nd = 0 ∧ (if ls_fk fr = 2 then C = [] ∧ N = [] else ls_rc fr C ∧ N = ls_m54 L)
        else nd = (if 3 ≤ ls_fk fr then 1 else 0) ∧ ls_fk fr ≠ 2 ∧ ls_rc fr C ∧ N = ls_m54 L ∧ (st = 1 → ls_fk fr < 3 → 6 ≤ T pos ∧ (fr ≠ [] → T pos ≠ 18) ∧ (fr = [] → T pos ≠ 72)))
/-- the reference's answer from here on -/
def ls_yc (T : Nat → Nat) (n : Nat) (c : LsC) (y : LsY) : Option Nat := ls_yv T n (n - c.2.1) c.2.1 y
/-- an expression that is already too long -/
def ls_doom (c : LsC) : Prop := (c.1 = 4 ∨ c.1 = 5) ∧ c.2.2.1 + 32 < c.2.1
/-- what one step of the reading owes -/
def ls_ag (T : Nat → Nat) (n : Nat) (c : LsC) (y : LsY) (r : Except Nat LsC) : Prop := match r with
  | .error e => ls_yc T n c y = some e
  | .ok c' => (∃ y', ls_al T n c' y' ∧ ls_yc T n c' y' = ls_yc T n c y) ∨ (ls_doom c' ∧ ls_yc T n c y = some (c'.2.2.1 + 32))
section
variable {T : Nat → Nat} {n : Nat} {p : Nat} {y y' : LsY}
set_option maxHeartbeats 200000 in
theorem ls_yv_step (hp : p < n) (h : ls_yg y (T p) = some y') : ls_yv T n (n - p) p y = ls_yv T n (n - (p + 1)) (p + 1) y' := by
  rw [show n - p = (n - (p + 1)) + 1 by omega]
  show (match ls_yg y (T p) with | none => some p | some y' => _) = _
  rw [h]
set_option maxHeartbeats 200000 in
theorem ls_yv_bad (hT : ls_txt T n) (hp : p ≤ n) (h : T p ≠ 72 → ls_yg y (T p) = none) (h0 : T p = 72 → ls_yv T n 0 n y = some n) : ls_yv T n (n - p) p y = some p := by
  by_cases q : T p = 72
  · have : p = n := by
      apply Decidable.byContradiction
      intro hh
      have := hT.2.1 p (by omega)
      omega
    subst this
    rw [Nat.sub_self]
    exact h0 q
  · have pn := ls_txt_lt hT q
    rw [show n - p = (n - (p + 1)) + 1 by omega]
    show (match ls_yg y (T p) with | none => some p | some y' => _) = _
    rw [h q]
set_option maxHeartbeats 200000 in
theorem ls_yv_0 {nd : Nat} {C : List (Nat × Nat)} {O : List Nat} {fl ct fu : Nat} {N : List Nat} (h : nd ≠ 0) : ls_yv T n 0 n (nd, C, O, fl, ct, fu, N) = some n := by
  show (if nd = 0 ∧ _ then _ else _) = _
  rw [if_neg (fun q => h q.1)]
set_option maxHeartbeats 200000 in
theorem ls_yg_w {nd t : Nat} {C : List (Nat × Nat)} {O : List Nat} {fl ct fu : Nat} {N : List Nat} (h : nd = 3 ∨ nd = 4 ∨ nd = 5 ∨ 15 ≤ nd) : ls_yg (nd, C, O, fl, ct, fu, N) t = ls_ywith nd t C O fl ct fu N := by
  show (if nd = 0 then _ else if nd = 1 then _ else if nd = 7 ∧ t ≠ 20 then _ else if nd = 3 ∨ nd = 4 ∨ nd = 5 ∨ 15 ≤ nd then _ else _) = _
  rw [if_neg (by omega), if_neg (by omega), if_neg (by omega), if_pos h]
set_option maxHeartbeats 200000 in
theorem ls_m54_len (L : List Nat) : (ls_m54 L).length = L.length := by simp [ls_m54]
set_option maxHeartbeats 200000 in
theorem ls_fk_nil : ls_fk [] = 0 := rfl
set_option maxHeartbeats 200000 in
theorem ls_yfin_n {t : Nat} {C : List (Nat × Nat)} (h : ∀ e r, C = e :: r → e.1 = 1 ∨ e.1 = 3) : ls_yfin t C = (false, C) := by
  cases C with
  | nil => rfl
  | cons e r =>
    show (if e.1 = 2 ∨ 3 < e.1 then _ else _) = _
    have := h e r rfl
    rw [if_neg (by omega)]
set_option maxHeartbeats 200000 in
/-- the top of what is open, where a list of statements goes on -/
theorem ls_rc_top {fr : List LsF} {C : List (Nat × Nat)} (h : ls_rc fr C) (hf : ls_fk fr < 3) (h2 : ls_fk fr ≠ 2) (h0 : ∀ f ∈ fr, 1 ≤ f.1) : ∀ e r, C = e :: r → e.1 = 1 ∨ e.1 = 3 := by
  intro e r hC
  cases fr with
  | nil =>
    have h' : C = [] := h
    rw [h'] at hC; cases hC
  | cons f r2 =>
    have f1 : 1 ≤ f.1 := h0 f (List.mem_cons_self ..)
    have hf' : f.1 < 3 := hf
    have h2' : f.1 ≠ 2 := h2
    have e1 : f.1 = 1 := by omega
    have h' : (if f.1 = 6 ∨ 9 ≤ f.1 then ls_rc r2 C else ∃ a D, C = (ls_kk f.1, a) :: D ∧ (f.1 = 1 → a = f.2.1) ∧ (f.1 = 2 → a = 0) ∧ ls_rc r2 D) := h
    rw [if_neg (by omega)] at h'
    obtain ⟨a, D, hD, _⟩ := h'
    rw [hD] at hC
    injection hC with hC _
    rw [← hC, e1]
    exact Or.inl rfl
set_option maxHeartbeats 200000 in
theorem ls_rc_cons {f : LsF} {r : List LsF} {C : List (Nat × Nat)} (hf : ¬ (f.1 = 6 ∨ 9 ≤ f.1)) (h : ls_rc (f :: r) C) : ∃ a D, C = (ls_kk f.1, a) :: D ∧ (f.1 = 1 → a = f.2.1) ∧ (f.1 = 2 → a = 0) ∧ ls_rc r D := by
  have h' : (if f.1 = 6 ∨ 9 ≤ f.1 then ls_rc r C else ∃ a D, C = (ls_kk f.1, a) :: D ∧ (f.1 = 1 → a = f.2.1) ∧ (f.1 = 2 → a = 0) ∧ ls_rc r D) := h
  rw [if_neg hf] at h'
  exact h'
set_option maxHeartbeats 200000 in
theorem ls_rc_mk {f : LsF} {r : List LsF} {D : List (Nat × Nat)} {a : Nat} (hf : ¬ (f.1 = 6 ∨ 9 ≤ f.1)) (h1 : f.1 = 1 → a = f.2.1) (h2 : f.1 = 2 → a = 0) (h : ls_rc r D) : ls_rc (f :: r) ((ls_kk f.1, a) :: D) := by
  show (if f.1 = 6 ∨ 9 ≤ f.1 then _ else _)
  rw [if_neg hf]
  exact ⟨a, D, rfl, h1, h2, h⟩
set_option maxHeartbeats 200000 in
theorem ls_rc_skip {f : LsF} {r : List LsF} {C : List (Nat × Nat)} (hf : f.1 = 6 ∨ 9 ≤ f.1) : ls_rc (f :: r) C ↔ ls_rc r C := by
  show (if f.1 = 6 ∨ 9 ≤ f.1 then _ else _) ↔ _
  rw [if_pos hf]
set_option maxHeartbeats 200000 in
/-- a loop is open in both or in none -/
theorem ls_rc_loop {k : LsK} : ∀ {fr : List LsF} {C : List (Nat × Nat)}, ls_rc fr C → ls_fok k fr → (ls_loop fr = none ↔ ls_yins C = false)
  | [], C, h, _ => by
    have h' : C = [] := h
    subst h'
    exact ⟨fun _ => rfl, fun _ => rfl⟩
  | f :: r, C, h, ⟨⟨f1, f5⟩, f2, f3, f4⟩ => by
    obtain ⟨a, D, hD, _, _, hr⟩ := ls_rc_cons (by omega) h
    subst hD
    have ih := ls_rc_loop hr f4
    show (if f.1 = 5 then some f.2.1 else ls_loop r) = none ↔ (if ls_kk f.1 = 3 then false else if ls_kk f.1 = 2 then true else ls_yins D) = false
    by_cases q5 : f.1 = 5
    · rw [if_pos q5, q5]
      exact ⟨fun h => (by cases h), fun h => (by cases h)⟩
    · rw [if_neg q5]
      by_cases q2 : f.1 = 2
      · rw [q2]
        obtain ⟨r0, _⟩ := f3 q2
        subst r0
        exact ⟨fun _ => rfl, fun _ => rfl⟩
      · have e3 : ls_kk f.1 ≠ 3 := by unfold ls_kk; (repeat' split) <;> omega
        have e2 : ls_kk f.1 ≠ 2 := by unfold ls_kk; (repeat' split) <;> omega
        rw [if_neg e3, if_neg e2]
        exact ih
set_option maxHeartbeats 200000 in
theorem ls_rc_bot {k : LsK} : ∀ {fr : List LsF} {C : List (Nat × Nat)}, ls_rc fr C → ls_fok k fr → (ls_mkd fr = none ↔ ls_ybot C = false)
  | [], C, h, _ => by
    have h' : C = [] := h
    subst h'
    exact ⟨fun _ => rfl, fun _ => rfl⟩
  | [f], C, h, ⟨⟨f1, f5⟩, f2, f3, f4⟩ => by
    obtain ⟨a, D, hD, _, _, hr⟩ := ls_rc_cons (by omega) h
    have hD2 : D = [] := hr
    subst hD2 hD
    show (if f.1 = 2 then some (f.2.2.2.headD 0) else none) = none ↔ decide (ls_kk f.1 = 3) = false
    by_cases q2 : f.1 = 2
    · rw [if_pos q2, q2]
      exact ⟨fun h => (by cases h), fun h => (by cases h)⟩
    · have e3 : ls_kk f.1 ≠ 3 := by unfold ls_kk; (repeat' split) <;> omega
      rw [if_neg q2]
      exact ⟨fun _ => decide_eq_false e3, fun _ => rfl⟩
  | f :: g :: r, C, h, ⟨⟨f1, f5⟩, f2, f3, f4⟩ => by
    obtain ⟨a, D, hD, _, _, hr⟩ := ls_rc_cons (by omega) h
    have ih := ls_rc_bot hr f4
    obtain ⟨⟨g1, g5⟩, _⟩ := f4
    obtain ⟨b, E, hE, _⟩ := ls_rc_cons (f := g) (by omega) hr
    subst hD hE
    exact ih
end
end
section
section
variable {T : Nat → Nat} {V : Nat → Int32} {n : Nat} {pos es : Nat} {pe : List LsP} {fr : List LsF} {L : List Nat} {k : LsK} {y : LsY}
set_option maxHeartbeats 200000 in
/-- the reference's state at the head of a statement -/
theorem ls_al_s {st : Nat} (hst : st = 0 ∨ st = 1 ∨ st = 2) (h : ls_al T n (st, pos, es, pe, fr, L, k) y) : ∃ C fl ct fu, y = (if 3 ≤ ls_fk fr then 1 else 0, C, [], fl, ct, fu, ls_m54 L) ∧ ls_mb fr ∧ ls_fk fr ≠ 2 ∧ ls_rc fr C ∧ (st = 1 → ls_fk fr < 3 → 6 ≤ T pos ∧ (fr ≠ [] → T pos ≠ 18) ∧ (fr = [] → T pos ≠ 72)) := by
  obtain ⟨nd, C, O, fl, ct, fu, N⟩ := y
  obtain ⟨hm, h⟩ := h
  have h' : (if st = 4 ∨ st = 5 then _ else if st = 6 then _ else _) := h
  rw [if_neg (by omega), if_neg (by omega)] at h'
  obtain ⟨rfl, h'⟩ := h'
  rw [if_neg (by omega)] at h'
  obtain ⟨rfl, h2, h3, rfl, h5⟩ := h'
  exact ⟨C, fl, ct, fu, rfl, hm, h2, h3, h5⟩
set_option maxHeartbeats 200000 in
theorem ls_al_mk {st C fl ct fu} (hst : st = 0 ∨ st = 1 ∨ st = 2) (hm : ls_mb fr) (h2 : ls_fk fr ≠ 2) (h3 : ls_rc fr C) (h5 : st = 1 → ls_fk fr < 3 → 6 ≤ T pos ∧ (fr ≠ [] → T pos ≠ 18) ∧ (fr = [] → T pos ≠ 72)) : ls_al T n (st, pos, es, pe, fr, L, k) (if 3 ≤ ls_fk fr then 1 else 0, C, [], fl, ct, fu, ls_m54 L) := by
  refine ⟨hm, ?_⟩
  show (if st = 4 ∨ st = 5 then _ else if st = 6 then _ else _)
  rw [if_neg (by omega), if_neg (by omega)]
  refine ⟨rfl, ?_⟩
  rw [if_neg (by omega)]
  exact ⟨rfl, h2, h3, rfl, h5⟩
set_option maxHeartbeats 200000 in
theorem ls_al_3 {C fl ct fu} (hm : ls_mb fr) (h2 : ls_fk fr ≠ 2) (h3 : ls_rc fr C) : ls_al T n (3, pos, es, pe, fr, L, k) (0, C, [], fl, ct, fu, ls_m54 L) := by
  unfold ls_al
  dsimp only
  rw [if_neg (by decide), if_neg (by decide), if_pos rfl, if_neg h2]
  exact ⟨hm, rfl, rfl, h3, rfl⟩
set_option maxHeartbeats 200000 in
theorem ls_mb_c {f : LsF} (h : ls_mb fr) (h2 : ls_fk fr ≠ 2) : ls_mb (f :: fr) := ⟨fun e => absurd e h2, h⟩
set_option maxHeartbeats 200000 in
theorem ls_mb_2 {f : LsF} (h : ls_mb (f :: fr)) (h1 : f.1 ≠ 1) : ls_fk fr ≠ 2 := fun e => h1 (h.1 e)
set_option maxHeartbeats 200000 in
/-- what the reference does at a statement's first token -/
theorem ls_yg_s {C fl ct fu} {t : Nat} {N : List Nat} (h2 : ls_fk fr ≠ 2) (h3 : ls_rc fr C) (h0 : ∀ f ∈ fr, 1 ≤ f.1) : ls_yg (if 3 ≤ ls_fk fr then 1 else 0, C, [], fl, ct, fu, N) t = ls_ybeg (decide (ls_fk fr < 3)) t C [] fl ct fu N := by
  by_cases q : 3 ≤ ls_fk fr
  · rw [if_pos q, decide_eq_false (by omega)]; rfl
  · rw [if_neg q, decide_eq_true (by omega)]
    show (match ls_yfin t C with | (true, C1) => _ | (false, C1) => _) = _
    rw [ls_yfin_n (ls_rc_top h3 (by omega) h2 h0)]
set_option maxHeartbeats 200000 in
theorem ls_fok_1le {fr : List LsF} (h : ls_fok k fr) : ∀ f ∈ fr, 1 ≤ f.1 := fun f hf => (ls_fok_all h hf).1.1
set_option maxHeartbeats 200000 in
theorem ls_drop_l {l : List Nat} {m : Nat} (h : l = L.drop m) : (ls_m54 L).drop ((ls_m54 L).length - l.length) = ls_m54 l := by
  unfold ls_m54
  rw [List.length_map, ← List.map_drop]
  congr 1
  rw [h, List.length_drop]
  by_cases q : m ≤ L.length
  · rw [show L.length - (L.length - m) = m by omega]
  · rw [show L.length - (L.length - m) = L.length by omega, List.drop_length, List.drop_of_length_le (by omega)]
set_option maxHeartbeats 200000 in
theorem ls_ag0 (hT : ls_txt T n) (hI : ls_Inv T n (0, pos, es, pe, fr, L, k)) (h : ls_al T n (0, pos, es, pe, fr, L, k) y) : ls_ag T n (0, pos, es, pe, fr, L, k) y (ls_r0 T pos es pe fr L k) := by
  obtain ⟨C, fl, ct, fu, rfl, hm, h2, h3, _⟩ := ls_al_s (Or.inl rfl) h
  obtain ⟨i1, i2, i3, i4, i5, i6, i7⟩ := hI
  rw [if_neg (by omega)] at i7
  obtain ⟨a1, a2, a3, a4, a5⟩ := i7
  unfold ls_r0
  by_cases e : T pos = 72 ∧ fr = []
  · rw [if_pos e]
    obtain ⟨e1, e2⟩ := e
    subst e2
    have hC : C = [] := h3
    subst hC
    refine Or.inl ⟨_, ?_, rfl⟩
    refine ⟨hm, ?_⟩
    dsimp only
    rw [if_neg (by decide), if_pos rfl]
    have : pos = n := by
      apply Decidable.byContradiction
      intro hh
      have := hT.2.1 pos (by omega)
      omega
    subst this
    rw [Nat.sub_self]; rfl
  · rw [if_neg e]
    cases fr with
    | nil =>
      dsimp only
      by_cases t6 : T pos < 6
      · rw [if_pos t6]
        exact Or.inl ⟨_, ls_al_mk (Or.inr (Or.inr rfl)) hm h2 h3 (fun h => by omega), rfl⟩
      · rw [if_neg t6]
        exact Or.inl ⟨_, ls_al_mk (Or.inr (Or.inl rfl)) hm h2 h3 (fun _ _ => ⟨by omega, fun h => absurd rfl h, fun _ h => e ⟨h, rfl⟩⟩), rfl⟩
    | cons f r =>
      obtain ⟨fk, mo, sp, l⟩ := f
      dsimp only
      have hf1 := ls_fok_1le a4 _ (List.mem_cons_self ..)
      dsimp only at hf1
      by_cases q1 : fk = 1
      · subst q1
        rw [if_pos rfl]
        by_cases t18 : T pos = 18
        · rw [if_pos t18]
          have pn := ls_txt_lt hT (p := pos) (by omega)
          obtain ⟨a, D, hD, ha, _, hr⟩ := ls_rc_cons (f := (1, mo, sp, l)) (by show ¬ ((1 : Nat) = 6 ∨ 9 ≤ 1); decide) h3
          have ha := ha rfl
          dsimp only at ha
          subst ha hD
          obtain ⟨s1, ⟨m, s2⟩, s3⟩ := (show a = l.length ∧ (∃ m, l = L.drop m) ∧ ls_sco r l from i4)
          have G : ls_yg (if 3 ≤ ls_fk ((1, a, sp, l) :: r) then 1 else 0, (ls_kk 1, a) :: D, [], fl, ct, fu, ls_m54 L) (T pos) = ls_ycl ((1, a) :: D) [] fl ct fu (ls_m54 L) := by
            rw [ls_yg_s h2 h3 (ls_fok_1le a4), t18]; rfl
          refine Or.inl ?_
          by_cases rm : ls_fk r = 2
          · cases r with
            | nil => exact absurd rm (by show (0 : Nat) ≠ 2; decide)
            | cons g r2 =>
              have g2 : g.1 = 2 := rm
              obtain ⟨r20, _⟩ := a4.2.2.2.2.2.1 g2
              subst r20
              obtain ⟨b, E, hE, _, hb, hr2⟩ := ls_rc_cons (f := g) (by omega) hr
              have hb := hb g2
              have hE2 : E = [] := hr2
              subst hE hE2 hb
              refine ⟨(0, [], [], fl, ct, fu, []), ?_, ?_⟩
              · unfold ls_al
                dsimp only
                rw [if_neg (by decide), if_neg (by decide), if_pos rfl, if_pos rm]
                exact ⟨hm.2, rfl, rfl, rfl, rfl⟩
              · refine (ls_yv_step pn ?_).symm
                rw [G, g2]
                show some (0, [], [], fl, ct, fu, (ls_m54 L).drop ((ls_m54 L).length - 0)) = _
                rw [Nat.sub_zero, List.drop_length]
          · refine ⟨(0, D, [], fl, ct, fu, ls_m54 l), ls_al_3 hm.2 rm hr, ?_⟩
            refine (ls_yv_step pn ?_).symm
            rw [G]
            have dl := ls_drop_l (L := L) s2
            rw [← s1] at dl
            cases r with
            | nil =>
              have hD : D = [] := hr
              subst hD
              show some (0, [], [], fl, ct, fu, (ls_m54 L).drop ((ls_m54 L).length - a)) = _
              rw [dl]
            | cons g r2 =>
              have g2 : g.1 ≠ 2 := rm
              have gk := a4.2.2.2.1
              obtain ⟨b, E, hE, _, _, hr2⟩ := ls_rc_cons (f := g) (by omega) hr
              subst hE
              have e3 : ls_kk g.1 ≠ 3 := by unfold ls_kk; (repeat' split) <;> omega
              show (if ls_kk g.1 = 3 then _ else some (0, (ls_kk g.1, b) :: E, [], fl, ct, fu, (ls_m54 L).drop ((ls_m54 L).length - a))) = _
              rw [if_neg e3, dl]
        · rw [if_neg t18]
          by_cases t6 : T pos < 6
          · rw [if_pos t6]
            exact Or.inl ⟨_, ls_al_mk (Or.inr (Or.inr rfl)) hm h2 h3 (fun h => by omega), rfl⟩
          · rw [if_neg t6]
            exact Or.inl ⟨_, ls_al_mk (Or.inr (Or.inl rfl)) hm h2 h3 (fun _ _ => ⟨by omega, fun _ => t18, fun h => absurd h (List.cons_ne_nil _ _)⟩), rfl⟩
      · rw [if_neg q1]
        have h2' : fk ≠ 2 := h2
        refine Or.inl ⟨_, ls_al_mk (Or.inr (Or.inl rfl)) hm h2 h3 (fun _ h => ?_), rfl⟩
        have : fk < 3 := h
        omega
set_option maxHeartbeats 200000 in
theorem ls_yg_0 {C : List (Nat × Nat)} {fl ct fu t : Nat} {O N : List Nat} {a : Nat} {kd : Nat} (h : kd = 2 ∨ kd = 5 ∨ (kd = 4 ∧ t ≠ 7)) : ls_yfin t ((kd, a) :: C) = ls_yfin t C := by
  show (if kd = 2 ∨ 3 < kd then (if kd = 4 ∧ t = 7 then _ else _) else _) = _
  rw [if_pos (by omega), if_neg (by omega)]
set_option maxHeartbeats 200000 in
theorem ls_yv_pop (hT : ls_txt T n) (hp : pos ≤ n) {C : List (Nat × Nat)} {fl ct fu : Nat} {O N : List Nat} {a : Nat} {kd : Nat} (h : kd = 2 ∨ kd = 5 ∨ (kd = 4 ∧ T pos ≠ 7)) : ls_yv T n (n - pos) pos (0, (kd, a) :: C, O, fl, ct, fu, N) = ls_yv T n (n - pos) pos (0, C, O, fl, ct, fu, N) := by
  by_cases q : pos = n
  · subst q
    rw [Nat.sub_self]
    show (if (0 : Nat) = 0 ∧ (ls_yfin 99 ((kd, a) :: C)).2 = [] then _ else _) = (if (0 : Nat) = 0 ∧ (ls_yfin 99 C).2 = [] then _ else _)
    rw [ls_yg_0 (C := C) (fl := 0) (ct := 0) (fu := 0) (O := []) (N := []) (t := 99) (by omega)]
  · rw [show n - pos = (n - (pos + 1)) + 1 by omega]
    show (match ls_yg _ (T pos) with | none => some pos | some y' => _) = (match ls_yg _ (T pos) with | none => some pos | some y' => _)
    have e : ls_yg (0, (kd, a) :: C, O, fl, ct, fu, N) (T pos) = ls_yg (0, C, O, fl, ct, fu, N) (T pos) := by
      show (match ls_yfin (T pos) ((kd, a) :: C) with | (true, C1) => _ | (false, C1) => _) = (match ls_yfin (T pos) C with | (true, C1) => _ | (false, C1) => _)
      rw [ls_yg_0 (C := C) (fl := 0) (ct := 0) (fu := 0) (O := []) (N := []) h]
    rw [e]
set_option maxHeartbeats 200000 in
theorem ls_ag3 (hT : ls_txt T n) (hI : ls_Inv T n (3, pos, es, pe, fr, L, k)) (h : ls_al T n (3, pos, es, pe, fr, L, k) y) : ls_ag T n (3, pos, es, pe, fr, L, k) y (ls_r3 T pos es pe fr L k) := by
  obtain ⟨nd, C, O, fl, ct, fu, N⟩ := y
  unfold ls_al at h
  dsimp only at h
  rw [if_neg (by decide), if_neg (by decide), if_pos rfl] at h
  obtain ⟨hm, rfl, rfl, h'⟩ := h
  obtain ⟨i1, i2, i3, i4, i5, i6, i7⟩ := hI
  rw [if_neg (by omega)] at i7
  obtain ⟨a1, a2, a3, a4, a5⟩ := i7
  unfold ls_r3
  cases fr with
  | nil =>
    rw [if_neg (by decide)] at h'
    obtain ⟨h3, rfl⟩ := h'
    exact Or.inl ⟨_, ls_al_mk (st := 0) (fr := []) (Or.inl rfl) trivial (by decide) h3 (fun h => by omega), rfl⟩
  | cons f r =>
    obtain ⟨fk, mo, sp, l⟩ := f
    obtain ⟨⟨f1, f5⟩, f2, f3, f4⟩ := a4
    dsimp only at f1 f5 f2 f3 ⊢
    by_cases q2 : fk = 2
    · subst q2
      rw [if_pos (show ls_fk ((2, mo, sp, l) :: r) = 2 from rfl)] at h'
      obtain ⟨rfl, rfl⟩ := h'
      obtain ⟨r0, _⟩ := f3 rfl
      subst r0
      rw [if_neg (by decide), if_neg (by decide), if_neg (by decide), if_pos rfl]
      exact Or.inl ⟨_, ls_al_3 (fr := []) (L := []) trivial (by decide) rfl, rfl⟩
    · rw [if_neg (show ¬ ls_fk ((fk, mo, sp, l) :: r) = 2 from q2)] at h'
      obtain ⟨h3, rfl⟩ := h'
      obtain ⟨a, D, hD, ha, _, hr⟩ := ls_rc_cons (f := (fk, mo, sp, l)) (by dsimp only; omega) h3
      dsimp only at hD ha
      subst hD
      have hrm : fk ≠ 1 → ls_fk r ≠ 2 := fun h => ls_mb_2 hm h
      by_cases q3 : fk = 3
      · subst q3
        rw [if_pos rfl]
        by_cases t7 : T pos = 7
        · rw [if_pos t7]
          have pn := ls_txt_lt hT (p := pos) (by omega)
          refine Or.inl ⟨(1, (5, a) :: D, [], fl, ct, fu, ls_m54 L), ls_al_mk (st := 0) (fr := (4, k.1, sp, []) :: r) (Or.inl rfl) (ls_mb_c hm.2 (hrm (by decide))) (by show (4 : Nat) ≠ 2; decide) (ls_rc_mk (f := (4, k.1, sp, [])) (by show ¬ ((4 : Nat) = 6 ∨ 9 ≤ 4); decide) (fun h => absurd h (by show (4 : Nat) ≠ 1; decide)) (fun h => absurd h (by show (4 : Nat) ≠ 2; decide)) hr) (fun h => by omega), ?_⟩
          refine (ls_yv_step pn ?_).symm
          rw [t7]; rfl
        · rw [if_neg t7]
          exact Or.inl ⟨_, ls_al_3 (fl := fl) (ct := ct) (fu := fu) hm.2 (hrm (by decide)) hr, (ls_yv_pop hT i1 (kd := 4) (Or.inr (Or.inr ⟨rfl, t7⟩))).symm⟩
      rw [if_neg q3]
      by_cases q4 : fk = 4
      · subst q4
        rw [if_pos rfl]
        exact Or.inl ⟨_, ls_al_3 hm.2 (hrm (by decide)) hr, (ls_yv_pop hT i1 (kd := 5) (Or.inr (Or.inl rfl))).symm⟩
      rw [if_neg q4]
      by_cases q5 : fk = 5
      · subst q5
        rw [if_pos rfl]
        exact Or.inl ⟨_, ls_al_3 hm.2 (hrm (by decide)) hr, (ls_yv_pop hT i1 (kd := 2) (Or.inl rfl)).symm⟩
      rw [if_neg q5, if_neg q2]
      have q1 : fk = 1 := by omega
      subst q1
      exact Or.inl ⟨_, ls_al_mk (st := 0) (fr := (1, mo, sp, l) :: r) (Or.inl rfl) hm (by show (1 : Nat) ≠ 2; decide) h3 (fun h => by omega), rfl⟩
end
end
section
section
variable {T : Nat → Nat} {V : Nat → Int32} {n : Nat} {pos es : Nat} {pe : List LsP} {fr : List LsF} {L : List Nat} {k : LsK} {y : LsY}
set_option maxHeartbeats 200000 in
theorem ls_ypos : pos < n → n - pos = (n - (pos + 1)) + 1 := fun h => by omega
set_option maxHeartbeats 200000 in
/-- an expression begins, the reference stands ready for it -/
theorem ls_al_4 {C : List (Nat × Nat)} {p : Nat} {f : LsF} {y' : LsY} (hm : ls_mb fr) (h2 : ls_fk fr ≠ 2) (h3 : ls_rc (f :: fr) C) (hy : ∃ fl', ls_yg y' (T p) = ls_ywith 3 (T p) C [] fl' 0 (ls_fu f.1) (ls_m54 L)) (h72 : T p = 72 → ls_yv T n 0 n y' = some n) : ls_al T n (4, p, p, [], f :: fr, L, k) y' := by
  obtain ⟨nd, C0, O, fl, ct, fu, N⟩ := y'
  unfold ls_al
  dsimp only
  rw [if_pos (Or.inl rfl), if_neg (by decide)]
  refine ⟨ls_mb_c hm h2, by omega, by simp, C, h3, fun h => absurd h (by show (3 : Nat) ≠ 15; decide), fun h => absurd h (by show (3 : Nat) ≠ 17; decide), ?_, h72⟩
  rw [Nat.sub_self]
  exact hy
set_option maxHeartbeats 200000 in
theorem ls_ag_hdr {fl ct : Nat} {fk : Nat} {k1 : LsK} {cs : Nat} (hT : ls_txt T n) (hm : ls_mb fr) (h2 : ls_fk fr ≠ 2) (hfk : fk = 7 ∨ fk = 8 ∨ fk = 9) (hn : pos < n) (C' : List (Nat × Nat)) (hrc : ls_rc ((fk, cs, pos, []) :: fr) C') (hy : ls_yg y (T pos) = some (2, C', [], fl, ct, ls_fu fk, ls_m54 L)) : ls_ag T n (1, pos, es, pe, fr, L, k) y (ls_hdr T pos fk [] fr L cs k1) := by
  unfold ls_hdr
  by_cases t15 : T (pos + 1) = 15
  · rw [if_pos t15]
    have p1 := ls_txt_lt hT (p := pos + 1) (by omega)
    refine Or.inl ⟨(3, C', [], fl, 0, ls_fu fk, ls_m54 L), ls_al_4 hm h2 hrc ⟨fl, ls_yg_w (Or.inl rfl)⟩ (fun _ => ls_yv_0 (by decide)), ?_⟩
    refine ((ls_yv_step hn hy).trans (ls_yv_step p1 ?_)).symm
    rw [t15]; rfl
  · rw [if_neg t15]
    refine (ls_yv_step hn hy).trans (ls_yv_bad hT (by omega) (fun _ => ?_) (fun _ => ls_yv_0 (by decide)))
    show (if T (pos + 1) = 15 then _ else _) = none
    rw [if_neg t15]
set_option maxHeartbeats 200000 in
theorem ls_ag1 (hT : ls_txt T n) (hI : ls_Inv T n (1, pos, es, pe, fr, L, k)) (h : ls_al T n (1, pos, es, pe, fr, L, k) y) : ls_ag T n (1, pos, es, pe, fr, L, k) y (ls_r1 T pos es pe fr L k) := by
  obtain ⟨C, fl, ct, fu, rfl, hm, h2, h3, hs⟩ := ls_al_s (Or.inr (Or.inl rfl)) h
  obtain ⟨i1, i2, i3, i4, i5, i6, i7⟩ := hI
  rw [if_neg (by omega)] at i7
  obtain ⟨a1, a2, a3, a4, a5⟩ := i7
  subst a3
  have G := fun t => ls_yg_s (t := t) (fl := fl) (ct := ct) (fu := fu) (N := ls_m54 L) h2 h3 (ls_fok_1le a4)
  unfold ls_r1
  dsimp only
  by_cases t20 : T pos = 20
  · rw [if_pos t20]
    refine Or.inl ⟨_, ls_al_3 (fl := fl) (ct := ct) (fu := fu) hm h2 h3, (ls_yv_step (ls_txt_lt hT (p := pos) (by omega)) ?_).symm⟩
    rw [G, t20]; rfl
  rw [if_neg t20]
  by_cases t17 : T pos = 17
  · rw [if_pos t17]
    refine Or.inl ⟨(0, (1, L.length) :: C, [], fl, ct, fu, ls_m54 L), ls_al_mk (st := 0) (fr := (1, L.length, pos, L) :: fr) (Or.inl rfl) (ls_mb_c hm h2) (by show (1 : Nat) ≠ 2; decide) (ls_rc_mk (f := (1, L.length, pos, L)) (by show ¬ ((1 : Nat) = 6 ∨ 9 ≤ 1); decide) (fun _ => rfl) (fun h => absurd h (by show (1 : Nat) ≠ 2; decide)) h3) (fun h => by omega), (ls_yv_step (ls_txt_lt hT (p := pos) (by omega)) ?_).symm⟩
    rw [G, t17]
    show some (0, (1, (ls_m54 L).length) :: C, [], fl, ct, fu, ls_m54 L) = _
    rw [ls_m54_len]
  rw [if_neg t17]
  by_cases t6 : T pos = 6
  · rw [if_pos t6]
    refine ls_ag_hdr (fl := fl) (ct := ct) hT hm h2 (Or.inl rfl) (ls_txt_lt hT (by omega)) ((4, (ls_m54 L).length) :: C) (ls_rc_mk (f := (7, k.1, pos, [])) (by show ¬ ((7 : Nat) = 6 ∨ 9 ≤ 7); decide) (fun h => absurd h (by show (7 : Nat) ≠ 1; decide)) (fun h => absurd h (by show (7 : Nat) ≠ 2; decide)) h3) ?_
    rw [G, t6]; rfl
  rw [if_neg t6]
  by_cases t8 : T pos = 8
  · rw [if_pos t8]
    refine ls_ag_hdr (fl := fl) (ct := ct) hT hm h2 (Or.inr (Or.inl rfl)) (ls_txt_lt hT (by omega)) ((2, (ls_m54 L).length) :: C) (ls_rc_mk (f := (8, k.1, pos, [])) (by show ¬ ((8 : Nat) = 6 ∨ 9 ≤ 8); decide) (fun h => absurd h (by show (8 : Nat) ≠ 1; decide)) (fun h => absurd h (by show (8 : Nat) ≠ 2; decide)) h3) ?_
    rw [G, t8]; rfl
  rw [if_neg t8]
  by_cases t12 : T pos = 12
  · rw [if_pos t12]
    refine ls_ag_hdr (fl := fl) (ct := ct) hT hm h2 (Or.inr (Or.inr rfl)) (ls_txt_lt hT (by omega)) C ((ls_rc_skip (f := (9, k.1, pos, [])) (Or.inr (by show 9 ≤ 9; decide))).mpr h3) ?_
    rw [G, t12]; rfl
  rw [if_neg t12]
  -- break and continue
  have LJ : ∀ t, (t = 9 ∨ t = 10) → T pos = t → ∀ k2 : LsK, (ls_loop fr = none → ls_yc T n (1, pos, es, [], fr, L, k) (if 3 ≤ ls_fk fr then 1 else 0, C, [], fl, ct, fu, ls_m54 L) = some pos) ∧ (ls_loop fr ≠ none → ls_ag T n (1, pos, es, [], fr, L, k) (if 3 ≤ ls_fk fr then 1 else 0, C, [], fl, ct, fu, ls_m54 L) (if T (pos + 1) = 20 then .ok (3, pos + 2, es, [], fr, L, k2) else .error (pos + 1))) := by
    intro t ht htp k2
    have pn := ls_txt_lt hT (p := pos) (by omega)
    have E : ls_yg (if 3 ≤ ls_fk fr then 1 else 0, C, [], fl, ct, fu, ls_m54 L) (T pos) = if ls_yins C then some (6, C, [], fl, ct, t, ls_m54 L) else none := by
      rw [G, htp]
      rcases ht with rfl | rfl <;> rfl
    refine ⟨fun hl => ?_, fun hl => ?_⟩
    · refine ls_yv_bad (p := pos) hT i1 (fun _ => ?_) (fun h => by omega)
      rw [E, (ls_rc_loop h3 a4).mp hl]; rfl
    · have yi : ls_yins C = true := by
        cases hc : ls_yins C with
        | true => rfl
        | false => exact absurd ((ls_rc_loop h3 a4).mpr hc) hl
      rw [yi, if_pos rfl] at E
      by_cases s : T (pos + 1) = 20
      · rw [if_pos s]
        have p1 := ls_txt_lt hT (p := pos + 1) (by omega)
        refine Or.inl ⟨_, ls_al_3 (fl := fl) (ct := ct) (fu := t) hm h2 h3, ((ls_yv_step pn E).trans (ls_yv_step p1 ?_)).symm⟩
        rw [s]; rfl
      · rw [if_neg s]
        refine (ls_yv_step pn E).trans (ls_yv_bad hT (by omega) (fun _ => ?_) (fun _ => ls_yv_0 (by decide)))
        show (if T (pos + 1) = 20 then _ else _) = none
        rw [if_neg s]
  by_cases t9 : T pos = 9
  · rw [if_pos t9]
    obtain ⟨l1, l2⟩ := LJ 9 (Or.inl rfl) t9 (ls_em (ls_em k 1 0 0 (nI pos)) 14 0 0 (nI pos))
    cases hl : ls_loop fr with
    | none => exact l1 hl
    | some m => exact l2 (by rw [hl]; simp)
  rw [if_neg t9]
  by_cases t10 : T pos = 10
  · rw [if_pos t10]
    cases hl : ls_loop fr with
    | none => exact (LJ 10 (Or.inr rfl) t10 k).1 hl
    | some m => exact (LJ 10 (Or.inr rfl) t10 _).2 (by rw [hl]; simp)
  rw [if_neg t10]
  by_cases t11 : T pos = 11
  · rw [if_pos t11]
    have pn := ls_txt_lt hT (p := pos) (by omega)
    have E : ls_yg (if 3 ≤ ls_fk fr then 1 else 0, C, [], fl, ct, fu, ls_m54 L) (T pos) = if ls_ybot C then some (7, C, [], fl, ct, 11, ls_m54 L) else none := by
      rw [G, t11]; rfl
    cases hl : ls_mkd fr with
    | none =>
      refine ls_yv_bad (p := pos) hT i1 (fun _ => ?_) (fun h => by omega)
      rw [E, (ls_rc_bot h3 a4).mp hl]; rfl
    | some m =>
      dsimp only
      have yi : ls_ybot C = true := by
        cases hc : ls_ybot C with
        | true => rfl
        | false => rw [(ls_rc_bot h3 a4).mpr hc] at hl; cases hl
      rw [yi, if_pos rfl] at E
      by_cases s : T (pos + 1) = 20
      · rw [if_pos s]
        have p1 := ls_txt_lt hT (p := pos + 1) (by omega)
        refine Or.inl ⟨_, ls_al_3 (fl := fl) (ct := ct) (fu := 11) hm h2 h3, ((ls_yv_step pn E).trans (ls_yv_step p1 ?_)).symm⟩
        rw [s]; rfl
      · rw [if_neg s]
        refine Or.inl ⟨(7, C, [], fl, ct, 11, ls_m54 L), ls_al_4 hm h2 ((ls_rc_skip (f := (10, k.1, pos, [])) (Or.inr (by show 9 ≤ 10; decide))).mpr h3) ⟨fl, ?_⟩ (fun _ => ls_yv_0 (by decide)), (ls_yv_step pn E).symm⟩
        show (if (7 : Nat) = 7 ∧ T (pos + 1) ≠ 20 then _ else _) = _
        rw [if_pos ⟨rfl, s⟩]; rfl
  rw [if_neg t11]
  -- an expression
  refine Or.inl ⟨_, ls_al_4 (C := C) hm h2 ((ls_rc_skip (f := (6, k.1, pos, [])) (Or.inl rfl)).mpr h3) ⟨fl, ?_⟩ (fun h72 => ?_), rfl⟩
  · rw [G]
    unfold ls_ybeg
    rw [if_neg t20]
    by_cases u6 : T pos < 6
    · have f3 : ¬ ls_fk fr < 3 := fun h => by have := (hs rfl h).1; omega
      rw [if_pos u6, decide_eq_false f3, if_neg (by decide)]
      show none = ls_ywith 3 (T pos) C [] fl 0 20 (ls_m54 L)
      unfold ls_ywith ls_yopd
      rw [if_neg (by omega), if_neg (by omega), if_neg (by omega), if_neg (by omega), if_neg (by omega), if_neg (by omega), if_neg (by omega), if_neg (by omega), if_neg (by omega)]
    · rw [if_neg u6, if_neg t17]
      by_cases t18 : T pos = 18
      · rw [if_pos t18]
        have e2 : ls_ywith 3 (T pos) C [] fl 0 20 (ls_m54 L) = none := by
          rw [t18]; rfl
        show _ = ls_ywith 3 (T pos) C [] fl 0 20 (ls_m54 L)
        rw [e2]
        by_cases f3 : ls_fk fr < 3
        · rw [decide_eq_true f3, if_pos rfl]
          have fr0 : fr = [] := by
            cases fr with
            | nil => rfl
            | cons f r => exact absurd t18 ((hs rfl f3).2.1 (List.cons_ne_nil _ _))
          subst fr0
          have hC : C = [] := h3
          subst hC
          rfl
        · rw [decide_eq_false f3]; rfl
      · rw [if_neg t18, if_neg t6, if_neg t8, if_neg t12, if_neg (by omega), if_neg t11]
        rfl
  · by_cases f3 : ls_fk fr < 3
    · rw [if_neg (by omega)]
      have fr0 : fr ≠ [] := fun h => (hs rfl f3).2.2 h h72
      show (if (0 : Nat) = 0 ∧ (ls_yfin 99 C).2 = [] then _ else _) = _
      rw [ls_yfin_n (ls_rc_top h3 f3 h2 (ls_fok_1le a4)), if_neg]
      intro ⟨_, hc⟩
      cases fr with
      | nil => exact fr0 rfl
      | cons f r =>
        have f15 := a4.1
        obtain ⟨a, D, hD, _⟩ := ls_rc_cons (f := f) (by omega) h3
        rw [hD] at hc
        cases hc
    · rw [if_pos (by omega)]
      exact ls_yv_0 (by decide)
end
end
section
section
variable {T : Nat → Nat} {V : Nat → Int32} {n : Nat} {pos es : Nat} {pe : List LsP} {fr : List LsF} {L : List Nat} {k : LsK} {y : LsY}
set_option maxHeartbeats 200000 in
theorem ls_mem54 {t : Nat} (h : 54 ≤ t) : t ∈ ls_m54 L ↔ t - 54 ∈ L := by
  unfold ls_m54
  rw [List.mem_map]
  constructor
  · rintro ⟨a, ha, rfl⟩
    rwa [show a + 54 - 54 = a by omega]
  · intro h2
    exact ⟨t - 54, h2, by omega⟩
set_option maxHeartbeats 200000 in
theorem ls_take54 (m : Nat) : (ls_m54 L).take m = ls_m54 (L.take m) := by
  unfold ls_m54
  rw [List.map_take]
set_option maxHeartbeats 200000 in
theorem ls_cons54 {t : Nat} (h : 54 ≤ t) : t :: ls_m54 L = ls_m54 ((t - 54) :: L) := by
  show t :: _ = (t - 54 + 54) :: _
  rw [show t - 54 + 54 = t by omega]; rfl
set_option maxHeartbeats 200000 in
theorem ls_ag_par (hT : ls_txt T n) {fl : Nat} : ∀ f i p L sg nd, i + f = 3 → L.length = i → p ≤ n → (nd = 10 ∧ T p ≠ 16 ∨ nd = 11) → match ls_par T f i p L sg with
    | .error e => 0 < f → ls_yv T n (n - p) p (nd, [(3, 0)], [], fl, 0, 20, ls_m54 L) = some e
    | .ok (q, L', _) => q ≤ n ∧ ls_yv T n (n - p) p (nd, [(3, 0)], [], fl, 0, 20, ls_m54 L) = ls_yv T n (n - q) q (0, [(1, L'.length), (3, 0)], [], fl, 0, 20, ls_m54 L') := by
  intro f
  induction f with
  | zero => intro i p L sg nd _ _ _ _; unfold ls_par; exact fun h => by omega
  | succ f ih =>
    intro i p L sg nd hi hL hp hnd
    have g1 : ∀ t, t ≠ 16 ∨ nd = 11 → ls_yg (nd, [(3, 0)], [], fl, 0, 20, ls_m54 L) t = if t < 6 then some (12, [(3, 0)], [], fl, 0, 20, ls_m54 L) else none := by
      intro t ht
      rcases hnd with ⟨rfl, h16⟩ | rfl
      · show (if ((10 : Nat) = 10 ∨ (10 : Nat) = 13) ∧ t = 16 then _ else _) = _
        rw [if_neg (fun h => by omega)]; rfl
      · rfl
    have g0 := g1 (T p) (by omega)
    have nd0 : nd ≠ 0 := by omega
    unfold ls_par
    by_cases t6 : T p < 6
    · rw [if_pos t6]
      rw [if_pos t6] at g0
      have pn := ls_txt_lt hT (p := p) (by omega)
      have s1 := ls_yv_step pn g0
      have d1 : ∀ t, ls_yg (12, [(3, 0)], [], fl, 0, 20, ls_m54 L) t = ls_ydec 13 t [(3, 0)] [] fl 0 20 (ls_m54 L) := fun t => rfl
      by_cases tn : ls_nam (T (p + 1)) ∧ ¬ (T (p + 1) - 54) ∈ L
      · rw [if_pos tn]
        have t54 := tn.1.1
        have t70 := tn.1.2
        have p1 := ls_txt_lt hT (p := p + 1) (by omega)
        have d2 : ls_yg (12, [(3, 0)], [], fl, 0, 20, ls_m54 L) (T (p + 1)) = some (13, [(3, 0)], [], fl, 0, 20, ls_m54 ((T (p + 1) - 54) :: L)) := by
          rw [d1]
          unfold ls_ydec
          rw [if_pos tn.1]
          show (if T (p + 1) ∈ (ls_m54 L).take ((ls_m54 L).length - 0) ∨ (ls_m54 L).length = 8 then none else some (13, _, _, _, _, _, T (p + 1) :: ls_m54 L)) = _
          rw [if_neg, ls_cons54 t54]
          intro h
          rcases h with h | h
          · rw [Nat.sub_zero, List.take_length, ls_mem54 t54] at h
            exact tn.2 h
          · rw [ls_m54_len] at h
            omega
        have s2 := s1.trans (ls_yv_step p1 d2)
        have d3 : ∀ t, ls_yg (13, [(3, 0)], [], fl, 0, 20, ls_m54 ((T (p + 1) - 54) :: L)) t = if t = 16 then some (14, [(3, 0)], [], fl, 0, 20, ls_m54 ((T (p + 1) - 54) :: L)) else if t = 19 ∧ (ls_m54 ((T (p + 1) - 54) :: L)).length < 3 then some (11, [(3, 0)], [], fl, 0, 20, ls_m54 ((T (p + 1) - 54) :: L)) else none := by
          intro t
          show (if ((13 : Nat) = 10 ∨ (13 : Nat) = 13) ∧ t = 16 then _ else _) = _
          by_cases h : t = 16
          · rw [if_pos ⟨Or.inr rfl, h⟩, if_pos h]
          · rw [if_neg (fun g => h g.2), if_neg h]; rfl
        have len1 : (ls_m54 ((T (p + 1) - 54) :: L)).length = i + 1 := by rw [ls_m54_len]; show L.length + 1 = _; omega
        by_cases t19 : T (p + 2) = 19
        · rw [if_pos t19]
          have p2 := ls_txt_lt hT (p := p + 2) (by omega)
          by_cases i3 : i + 1 < 3
          · rw [if_pos i3]
            have s3 := s2.trans (ls_yv_step p2 (show ls_yg _ (T (p + 2)) = some (11, [(3, 0)], [], fl, 0, 20, ls_m54 ((T (p + 1) - 54) :: L)) by
              rw [d3, if_neg (by omega), if_pos ⟨t19, by omega⟩]))
            have I := ih (i + 1) (p + 3) ((T (p + 1) - 54) :: L) (sg + 16 + T p * 2 ^ (6 + 3 * i)) 11 (by omega) (by show L.length + 1 = _; omega) (by omega) (Or.inr rfl)
            revert I
            cases ls_par T f (i + 1) (p + 3) ((T (p + 1) - 54) :: L) (sg + 16 + T p * 2 ^ (6 + 3 * i)) with
            | error e => exact fun I _ => s3.trans (I (by omega))
            | ok r => exact fun I => ⟨I.1, s3.trans I.2⟩
          · rw [if_neg i3]
            exact fun _ => s2.trans (ls_yv_bad (p := p + 2) hT (by omega) (fun _ => by rw [d3, if_neg (by omega), if_neg (by omega)]) (fun _ => ls_yv_0 (by decide)))
        · rw [if_neg t19]
          by_cases t16 : T (p + 2) = 16
          · rw [if_pos t16]
            have p2 := ls_txt_lt hT (p := p + 2) (by omega)
            have s3 := s2.trans (ls_yv_step p2 (show ls_yg _ (T (p + 2)) = some (14, [(3, 0)], [], fl, 0, 20, ls_m54 ((T (p + 1) - 54) :: L)) by
              rw [d3, if_pos t16]))
            by_cases t17 : T (p + 3) = 17
            · rw [if_pos t17]
              have p3 := ls_txt_lt hT (p := p + 3) (by omega)
              refine ⟨by omega, s3.trans (ls_yv_step p3 ?_)⟩
              rw [t17]
              show some (0, (1, (ls_m54 ((T (p + 1) - 54) :: L)).length) :: [(3, 0)], [], fl, 0, 20, ls_m54 ((T (p + 1) - 54) :: L)) = _
              rw [ls_m54_len]
            · rw [if_neg t17]
              refine fun _ => s3.trans (ls_yv_bad (p := p + 3) hT (by omega) (fun _ => ?_) (fun _ => ls_yv_0 (by decide)))
              show (if T (p + 3) = 17 then _ else none) = none
              rw [if_neg t17]
          · rw [if_neg t16]
            exact fun _ => s2.trans (ls_yv_bad (p := p + 2) hT (by omega) (fun _ => by rw [d3, if_neg t16, if_neg (by omega)]) (fun _ => ls_yv_0 (by decide)))
      · rw [if_neg tn]
        refine fun _ => s1.trans (ls_yv_bad (p := p + 1) hT (by omega) (fun _ => ?_) (fun _ => ls_yv_0 (by decide)))
        rw [d1]
        unfold ls_ydec
        by_cases nm : ls_nam (T (p + 1))
        · rw [if_pos nm]
          show (if T (p + 1) ∈ (ls_m54 L).take ((ls_m54 L).length - 0) ∨ (ls_m54 L).length = 8 then none else _) = none
          rw [if_pos]
          refine Or.inl ?_
          rw [Nat.sub_zero, List.take_length, ls_mem54 nm.1]
          exact Decidable.byContradiction fun h => tn ⟨nm, h⟩
        · rw [if_neg nm]
    · rw [if_neg t6]
      rw [if_neg t6] at g0
      exact fun _ => ls_yv_bad (p := p) hT hp (fun _ => g0) (fun _ => ls_yv_0 nd0)
set_option maxHeartbeats 200000 in
theorem ls_ag2 (hT : ls_txt T n) (hI : ls_Inv T n (2, pos, es, pe, fr, L, k)) (h : ls_al T n (2, pos, es, pe, fr, L, k) y) : ls_ag T n (2, pos, es, pe, fr, L, k) y (ls_r2 T pos es pe fr L k) := by
  obtain ⟨C, fl, ct, fu, rfl, hm, h2, h3, hs⟩ := ls_al_s (Or.inr (Or.inr rfl)) h
  obtain ⟨i1, i2, i3, i4, i5, i6, i7⟩ := hI
  rw [if_neg (by omega)] at i7
  obtain ⟨a1, a2, a3, a4, a5⟩ := i7
  obtain ⟨t6, a6⟩ := a5 rfl
  subst a3
  have pn := ls_txt_lt hT (p := pos) (by omega)
  have fk3 : ls_fk fr < 3 := by
    cases fr with
    | nil => exact (by decide : (0 : Nat) < 3)
    | cons f r => have := a6 f rfl; show f.1 < 3; omega
  have G : ls_yg (if 3 ≤ ls_fk fr then 1 else 0, C, [], fl, ct, fu, ls_m54 L) (T pos) = some (8, C, [], fl, ct, fu, ls_m54 L) := by
    rw [ls_yg_s h2 h3 (ls_fok_1le a4), decide_eq_true fk3]
    unfold ls_ybeg
    rw [if_neg (by omega), if_pos t6, if_pos rfl]
  have s1 := ls_yv_step pn G
  have d1 : ∀ t, ls_yg (8, C, [], fl, ct, fu, ls_m54 L) t = ls_ydec 9 t C [] fl ct fu (ls_m54 L) := fun t => rfl
  have d9 : ∀ (t : Nat) (N : List Nat), ls_yg (9, C, [], fl, ct, fu, N) t = if t = 15 ∧ C = [] then some (10, [(3, N.length)], [], fl, 0, 20, N) else if t = 20 then some (0, C, [], fl, 0, 20, N) else if t = 21 then some (3, C, [], fl, 0, 20, N) else none := fun t N => rfl
  unfold ls_r2
  by_cases tn : ls_nam (T (pos + 1))
  · rw [if_pos tn]
    have t54 := tn.1
    have t70 := tn.2
    have p1 := ls_txt_lt hT (p := pos + 1) (by omega)
    cases fr with
    | nil =>
      have hC : C = [] := h3
      subst hC
      have hL : L = [] := i4
      subst hL
      have d2 : ls_yg (8, [], [], fl, ct, fu, ls_m54 []) (T (pos + 1)) = some (9, [], [], fl, ct, fu, ls_m54 []) := by
        rw [d1]; unfold ls_ydec; rw [if_pos tn]; rfl
      have s2 := s1.trans (ls_yv_step p1 d2)
      by_cases t15 : T (pos + 2) = 15
      · rw [if_pos (show ([] : List LsF) = [] ∧ T (pos + 2) = 15 from ⟨rfl, t15⟩)]
        have p2 := ls_txt_lt hT (p := pos + 2) (by omega)
        have s3 := s2.trans (ls_yv_step p2 (show ls_yg _ (T (pos + 2)) = some (10, [(3, 0)], [], fl, 0, 20, ls_m54 []) by
          rw [d9, if_pos ⟨t15, rfl⟩]; rfl))
        have AL : ∀ (p : Nat) (L1 : List Nat) (k1 : LsK) (r : LsF) (hr : r.1 = 2), ls_al T n (0, p, es, [], [(1, L1.length, p, L1), r], L1, k1) (0, [(1, L1.length), (3, 0)], [], fl, 0, 20, ls_m54 L1) := by
          intro p L1 k1 r hr
          refine ls_al_mk (st := 0) (fr := [(1, L1.length, p, L1), r]) (Or.inl rfl) ⟨fun _ => rfl, fun h => absurd h (by decide), trivial⟩ (by show (1 : Nat) ≠ 2; decide) ?_ (fun h => by omega)
          refine ls_rc_mk (f := (1, L1.length, p, L1)) (by show ¬ ((1 : Nat) = 6 ∨ 9 ≤ 1); decide) (fun _ => rfl) (fun h => absurd h (by show (1 : Nat) ≠ 2; decide)) ?_
          have := ls_rc_mk (f := r) (r := []) (D := []) (a := 0) (by omega) (fun h => by omega) (fun _ => rfl) rfl
          rw [hr] at this
          exact this
        unfold ls_head
        by_cases t16 : T (pos + 3) = 16
        · rw [if_pos t16]
          have p3 := ls_txt_lt hT (p := pos + 3) (by omega)
          have s4 := s3.trans (ls_yv_step p3 (show ls_yg _ (T (pos + 3)) = some (14, [(3, 0)], [], fl, 0, 20, ls_m54 []) by
            rw [t16]; rfl))
          by_cases t17 : T (pos + 4) = 17
          · rw [if_pos t17]
            have p4 := ls_txt_lt hT (p := pos + 4) (by omega)
            refine Or.inl ⟨_, AL (pos + 5) [] _ _ rfl, (s4.trans (ls_yv_step p4 ?_)).symm⟩
            rw [t17]; rfl
          · rw [if_neg t17]
            refine s4.trans (ls_yv_bad (p := pos + 4) hT (by omega) (fun _ => ?_) (fun _ => ls_yv_0 (by decide)))
            show (if T (pos + 4) = 17 then _ else none) = none
            rw [if_neg t17]
        · rw [if_neg t16]
          have P := ls_ag_par hT (fl := fl) 3 0 (pos + 3) [] (T (pos + 1) - 54) 10 rfl rfl (by omega) (Or.inl ⟨rfl, t16⟩)
          revert P
          cases ls_par T 3 0 (pos + 3) [] (T (pos + 1) - 54) with
          | error e => exact fun P => s3.trans (P (by decide))
          | ok r =>
            obtain ⟨q, L1, sg⟩ := r
            exact fun P => Or.inl ⟨_, AL q L1 _ _ rfl, (s3.trans P.2).symm⟩
      · rw [if_neg (show ¬ (([] : List LsF) = [] ∧ T (pos + 2) = 15) from fun h => t15 h.2)]
        unfold ls_var
        dsimp only
        by_cases t21 : T (pos + 2) = 21
        · rw [if_pos t21]
          have p2 := ls_txt_lt hT (p := pos + 2) (by omega)
          refine Or.inl ⟨(3, [], [], fl, 0, 20, ls_m54 []), ls_al_4 trivial (by decide) ((ls_rc_skip (f := (11, k.1, pos, [])) (Or.inr (by show 9 ≤ 11; decide))).mpr rfl) ⟨fl, ls_yg_w (Or.inl rfl)⟩ (fun _ => ls_yv_0 (by decide)), (s2.trans (ls_yv_step p2 ?_)).symm⟩
          rw [d9, if_neg (fun h => t15 h.1), if_neg (show ¬ T (pos + 2) = 20 by omega), if_pos t21]
        · rw [if_neg t21]
          by_cases t20 : T (pos + 2) = 20
          · rw [if_pos t20]
            have p2 := ls_txt_lt hT (p := pos + 2) (by omega)
            refine Or.inl ⟨(0, [], [], fl, 0, 20, ls_m54 []), ls_al_mk (st := 0) (fr := []) (Or.inl rfl) trivial (by decide) rfl (fun h => by omega), (s2.trans (ls_yv_step p2 ?_)).symm⟩
            rw [d9, if_neg (fun h => t15 h.1), if_pos t20]
          · rw [if_neg t20]
            refine s2.trans (ls_yv_bad (p := pos + 2) hT (by omega) (fun _ => ?_) (fun _ => ls_yv_0 (by decide)))
            rw [d9, if_neg (fun h => t15 h.1), if_neg t20, if_neg t21]
    | cons f r =>
      obtain ⟨fk, mo, sp, l⟩ := f
      have f1 : fk = 1 := a6 _ rfl
      subst f1
      rw [if_neg (show ¬ ((1, mo, sp, l) :: r = [] ∧ T (pos + 2) = 15) from fun h => List.cons_ne_nil _ _ h.1)]
      obtain ⟨a, D, hD, ha, _, hr⟩ := ls_rc_cons (f := (1, mo, sp, l)) (by show ¬ ((1 : Nat) = 6 ∨ 9 ≤ 1); decide) h3
      have ha := ha rfl
      dsimp only at ha hD
      subst ha hD
      have cne : ∀ t, ¬ (t = 15 ∧ (ls_kk 1, a) :: D = []) := fun t h => List.cons_ne_nil _ _ h.2
      have d2 : ls_yg (8, (ls_kk 1, a) :: D, [], fl, ct, fu, ls_m54 L) (T (pos + 1)) = if T (pos + 1) ∈ (ls_m54 L).take ((ls_m54 L).length - a) ∨ (ls_m54 L).length = 8 then none else some (9, (ls_kk 1, a) :: D, [], fl, ct, fu, T (pos + 1) :: ls_m54 L) := by
        rw [d1]; unfold ls_ydec; rw [if_pos tn]; rfl
      unfold ls_var
      dsimp only
      by_cases hl : L.length < 8 ∧ ¬ (T (pos + 1) - 54) ∈ L.take (L.length - a)
      · rw [if_pos hl]
        rw [if_neg, ls_cons54 t54] at d2
        rotate_left
        · intro h
          rcases h with h | h
          · rw [ls_m54_len, ls_take54, ls_mem54 t54] at h
            exact hl.2 h
          · rw [ls_m54_len] at h
            omega
        have s2 := s1.trans (ls_yv_step p1 d2)
        by_cases t21 : T (pos + 2) = 21
        · rw [if_pos t21]
          have p2 := ls_txt_lt hT (p := pos + 2) (by omega)
          refine Or.inl ⟨(3, (ls_kk 1, a) :: D, [], fl, 0, 20, ls_m54 ((T (pos + 1) - 54) :: L)), ls_al_4 hm h2 ((ls_rc_skip (f := (11, k.1, pos, [])) (Or.inr (by show 9 ≤ 11; decide))).mpr h3) ⟨fl, ls_yg_w (Or.inl rfl)⟩ (fun _ => ls_yv_0 (by decide)), (s2.trans (ls_yv_step p2 ?_)).symm⟩
          rw [d9, if_neg (cne _), if_neg (show ¬ T (pos + 2) = 20 by omega), if_pos t21]
        · rw [if_neg t21]
          by_cases t20 : T (pos + 2) = 20
          · rw [if_pos t20]
            have p2 := ls_txt_lt hT (p := pos + 2) (by omega)
            refine Or.inl ⟨(0, (ls_kk 1, a) :: D, [], fl, 0, 20, ls_m54 ((T (pos + 1) - 54) :: L)), ls_al_mk (st := 0) (fr := (1, a, sp, l) :: r) (Or.inl rfl) hm h2 h3 (fun h => by omega), (s2.trans (ls_yv_step p2 ?_)).symm⟩
            rw [d9, if_neg (cne _), if_pos t20]
          · rw [if_neg t20]
            refine s2.trans (ls_yv_bad (p := pos + 2) hT (by omega) (fun _ => ?_) (fun _ => ls_yv_0 (by decide)))
            rw [d9, if_neg (cne _), if_neg t20, if_neg t21]
      · rw [if_neg hl]
        refine s1.trans (ls_yv_bad (p := pos + 1) hT (by omega) (fun _ => ?_) (fun _ => ls_yv_0 (by decide)))
        rw [d2, if_pos]
        rw [ls_m54_len, ls_take54, ls_mem54 t54]
        by_cases l8 : L.length < 8
        · exact Or.inl (Decidable.byContradiction fun h => hl ⟨l8, h⟩)
        · exact Or.inr (by omega)
  · rw [if_neg tn]
    refine s1.trans (ls_yv_bad (p := pos + 1) hT (by omega) (fun _ => ?_) (fun _ => ls_yv_0 (by decide)))
    rw [d1]; unfold ls_ydec; rw [if_neg tn]
end
end
section
section
variable {T : Nat → Nat} {V : Nat → Int32} {n : Nat} {pos es : Nat} {pe : List LsP} {fr : List LsF} {L : List Nat} {k : LsK} {y : LsY}
/-- where a step within an expression leads -/
def ls_shp (pos es : Nat) (r : Except Nat LsC) : Prop := match r with
  | .ok c => (c.1 = 4 ∨ c.1 = 5) ∧ c.2.2.1 = es ∧ pos ≤ c.2.1
  | .error e => ∃ p, pos ≤ p ∧ e = if es + 32 < p then es + 32 else p
set_option maxHeartbeats 200000 in
theorem ls_shp_f {p : Nat} (h : pos ≤ p) : ls_shp pos es (ls_flt es p) := ⟨p, h, rfl⟩
set_option maxHeartbeats 200000 in
theorem ls_shp4 : ls_shp (pos + 1) es (ls_r4 T V pos es pe fr L k) ∨ ls_r4 T V pos es pe fr L k = ls_flt es pos := by
  have K : ∀ st p (pe' : List LsP) (k' : LsK), (st = 4 ∨ st = 5) → pos + 1 ≤ p → ls_shp (pos + 1) es (.ok (st, p, es, pe', fr, L, k')) := fun st p pe' k' h1 h2 => ⟨h1, rfl, h2⟩
  unfold ls_r4
  split
  · dsimp only
    split
    · split
      · exact Or.inl (K _ _ _ _ (by decide) (by omega))
      · exact Or.inl (K _ _ _ _ (by decide) (by omega))
    · split
      · split
        · exact Or.inl (K _ _ _ _ (by decide) (by omega))
        · exact Or.inl (K _ _ _ _ (by decide) (by omega))
      · exact Or.inl (K _ _ _ _ (by decide) (by omega))
  split
  · exact Or.inl (K _ _ _ _ (by decide) (by omega))
  split
  · exact Or.inl (K _ _ _ _ (by decide) (by omega))
  split
  · exact Or.inl (K _ _ _ _ (by decide) (by omega))
  split
  · exact Or.inl (K _ _ _ _ (by decide) (by omega))
  split
  · split
    · split
      · exact Or.inl (K _ _ _ _ (by decide) (by omega))
      · exact Or.inl (ls_shp_f (by omega))
    · split
      · exact Or.inl (ls_shp_f (by omega))
      · exact Or.inl (K _ _ _ _ (by decide) (by omega))
  split
  · exact Or.inl (K _ _ _ _ (by decide) (by omega))
  · exact Or.inr rfl
set_option maxHeartbeats 200000 in
theorem ls_shp5 (h : es + 32 < pos) : ls_shp pos es (ls_r5 T pos es pe fr L k) := by
  have K : ∀ st p (pe' : List LsP) (k' : LsK), (st = 4 ∨ st = 5) → pos ≤ p → ls_shp pos es (.ok (st, p, es, pe', fr, L, k')) := fun st p pe' k' h1 h2 => ⟨h1, rfl, h2⟩
  unfold ls_r5
  dsimp only
  split
  · split
    · exact K _ _ _ _ (by decide) (by omega)
    · unfold ls_end
      rw [if_pos h]
      exact ⟨pos, Nat.le_refl _, by rw [if_pos h]⟩
  · split
    · exact K _ _ _ _ (by decide) (by omega)
    split
    · exact K _ _ _ _ (by decide) (by omega)
    split
    · split
      · exact K _ _ _ _ (by decide) (by omega)
      · exact K _ _ _ _ (by decide) (by omega)
    split
    · split
      · exact K _ _ _ _ (by decide) (by omega)
      · exact ls_shp_f (Nat.le_refl _)
    · exact ls_shp_f (Nat.le_refl _)
set_option maxHeartbeats 200000 in
theorem ls_doomed (hT : ls_txt T n) : ∀ (m : Nat) (c : LsC), ls_doom c → ls_Inv T n c → ls_mu n c ≤ m → ls_run T V m c = .error (c.2.2.1 + 32) := by
  intro m
  induction m with
  | zero =>
    intro c hd hI hm
    have := ls_mu0 (by have := hd.1; omega) hI (by omega)
    have := hd.1
    omega
  | succ m ih =>
    intro c hd hI hm
    unfold ls_run
    rw [if_neg (by have := hd.1; omega)]
    have S : ls_shp c.2.1 c.2.2.1 (ls_rs T V c) := by
      obtain ⟨st, pos, es, pe, fr, L, k⟩ := c
      obtain ⟨h1, h2⟩ := hd
      dsimp only at h1 h2
      show ls_shp pos es (ls_rs T V (st, pos, es, pe, fr, L, k))
      unfold ls_rs
      dsimp only
      rw [if_neg (by omega), if_neg (by omega), if_neg (by omega), if_neg (by omega)]
      rcases h1 with rfl | rfl
      · rw [if_pos rfl]
        rcases ls_shp4 (T := T) (V := V) (pos := pos) (es := es) (pe := pe) (fr := fr) (L := L) (k := k) with h | h
        · revert h
          cases ls_r4 T V pos es pe fr L k with
          | ok c => exact fun h => ⟨h.1, h.2.1, by have := h.2.2; omega⟩
          | error e => exact fun ⟨p, h, h'⟩ => ⟨p, by omega, h'⟩
        · rw [h]; exact ls_shp_f (Nat.le_refl _)
      · rw [if_neg (by decide)]
        exact ls_shp5 h2
    cases hr : ls_rs T V c with
    | error e =>
      rw [hr] at S
      obtain ⟨p, h1, h2⟩ := S
      have := hd.2
      rw [if_pos (by omega)] at h2
      rw [h2]
    | ok c' =>
      rw [hr] at S
      obtain ⟨h1, h2, h3⟩ := S
      obtain ⟨j1, j2⟩ := ls_inv_rs hT (by have := hd.1; omega) hI hr
      have := hd.2
      have G := ih c' ⟨h1, by omega⟩ j1 (by omega)
      dsimp only
      rw [G, h2]
set_option maxHeartbeats 200000 in
theorem ls_yw_long {nd t fl fu : Nat} {C : List (Nat × Nat)} {O N : List Nat} (h : nd ≠ 5 ∨ (t ≠ 20 ∧ t ≠ 16) ∨ O ≠ []) : ls_ywith nd t C O fl 32 fu N = none := by
  unfold ls_ywith
  rw [if_neg, if_pos (by decide)]
  intro ⟨h1, h2, h3⟩
  rcases h with h | h | h
  · exact h h1
  · omega
  · exact h h2
set_option maxHeartbeats 200000 in
theorem ls_nd4_in : ls_nd4 pe = 3 ∨ ls_nd4 pe = 4 ∨ ls_nd4 pe = 15 ∨ ls_nd4 pe = 17 := by
  unfold ls_nd4
  split
  · exact Or.inl rfl
  · (repeat' split) <;> decide
set_option maxHeartbeats 200000 in
theorem ls_al4 {p : Nat} {C : List (Nat × Nat)} {fl : Nat} (hm : ls_mb fr) (hp : p ≤ es + 32) (hc : ∀ e ∈ pe, e.1 = 0 → 1 ≤ e.2.2) (h3 : ls_rc fr C) (c15 : ls_nd4 pe = 15 → 6 ≤ T p) (c17 : ls_nd4 pe = 17 → T p ≠ 16) : ls_al T n (4, p, es, pe, fr, L, k) (ls_nd4 pe, C, ls_os pe, fl, p - es, ls_fu (ls_fk fr), ls_m54 L) := by
  unfold ls_al
  dsimp only
  rw [if_pos (Or.inl rfl), if_neg (by decide)]
  refine ⟨hm, hp, hc, C, h3, c15, c17, ⟨fl, ls_yg_w ?_⟩, fun _ => ls_yv_0 ?_⟩
  · have := ls_nd4_in (pe := pe); omega
  · have := ls_nd4_in (pe := pe); omega
set_option maxHeartbeats 200000 in
theorem ls_al5 {p : Nat} {C : List (Nat × Nat)} {fl : Nat} (hm : ls_mb fr) (hp : p ≤ es + 32) (hc : ∀ e ∈ pe, e.1 = 0 → 1 ≤ e.2.2) (h3 : ls_rc fr C) (f1 : 0 < fl → T p ≠ 15) (f2 : fl = 2 → ¬ ls_asg (T p)) : ls_al T n (5, p, es, pe, fr, L, k) (5, C, ls_os pe, fl, p - es, ls_fu (ls_fk fr), ls_m54 L) := by
  unfold ls_al
  dsimp only
  rw [if_pos (Or.inr rfl), if_pos rfl]
  exact ⟨hm, hp, hc, rfl, h3, f1, f2⟩
set_option maxHeartbeats 200000 in
theorem ls_ag4 (hT : ls_txt T n) (hI : ls_Inv T n (4, pos, es, pe, fr, L, k)) (h : ls_al T n (4, pos, es, pe, fr, L, k) y) : ls_ag T n (4, pos, es, pe, fr, L, k) y (ls_r4 T V pos es pe fr L k) := by
  obtain ⟨nd, C0, O, fl0, ct, fu, N⟩ := y
  unfold ls_al at h
  dsimp only at h
  rw [if_pos (Or.inl rfl), if_neg (by decide)] at h
  obtain ⟨hm, hp32, hc, C, h3, c15, c17, ⟨fl, hy⟩, h72⟩ := h
  obtain ⟨i1, i2, i3, i4, i5, i6, i7⟩ := hI
  rw [if_pos (Or.inl rfl), if_pos rfl] at i7
  obtain ⟨a1, a2, a3, a4, f, r, a5, a6, a7⟩ := i7
  have nd4 := ls_nd4_in (pe := pe)
  by_cases long : pos = es + 32
  · -- its 33rd token
    have B : ls_yc T n (4, pos, es, pe, fr, L, k) (nd, C0, O, fl0, ct, fu, N) = some pos := by
      refine ls_yv_bad (p := pos) hT i1 (fun _ => ?_) h72
      rw [hy, show pos - es = 32 by omega]
      exact ls_yw_long (Or.inl (by omega))
    rcases ls_shp4 (T := T) (V := V) (pos := pos) (es := es) (pe := pe) (fr := fr) (L := L) (k := k) with S | S
    · revert S
      cases ls_r4 T V pos es pe fr L k with
      | ok c =>
        intro ⟨s1, s2, s3⟩
        refine Or.inr ⟨⟨s1, by omega⟩, ?_⟩
        rw [B, s2, long]
      | error e =>
        intro ⟨p, s1, s2⟩
        rw [if_pos (by omega)] at s2
        show ls_yc T n _ _ = some e
        rw [B, s2, long]
    · rw [S]
      show ls_yc T n _ _ = some (if es + 32 < pos then es + 32 else pos)
      rw [B, if_neg (by omega)]
  have ct32 : ¬ 32 < (pos - es) + 1 := by omega
  -- the first token as an operand
  have OPD : ¬ (ls_nd4 pe = 17 ∧ T pos = 16) → ¬ (ls_nd4 pe = 15 ∧ T pos < 5) → ls_yg (nd, C0, O, fl0, ct, fu, N) (T pos) = ls_yopd (T pos) (if ls_nd4 pe = 4 then 1 else 2) C (ls_os pe) (pos - es + 1) (ls_fu (ls_fk fr)) (ls_m54 L) := by
    intro h1 h2
    rw [hy]
    unfold ls_ywith
    rw [if_neg (by omega), if_neg ct32, if_neg (by omega), if_neg (by omega), if_neg h1, if_neg h2]
  have hn17 : ¬ (ls_nd4 pe = 17 ∧ T pos = 16) := fun h => c17 h.1 h.2
  have hn15 : ¬ (ls_nd4 pe = 15 ∧ T pos < 5) := fun h => by have := c15 h.1; omega
  have OP := OPD hn17 hn15
  have sub1 : pos - es + 1 = (pos + 1) - es := by omega
  have sub2 : pos - es + 1 + 1 = (pos + 2) - es := by omega
  have sub3 : pos - es + 1 + 1 + 1 = (pos + 3) - es := by omega
  unfold ls_r4
  by_cases tn : ls_nam (T pos)
  · rw [if_pos tn]
    have t54 := tn.1
    have t70 := tn.2
    have pn := ls_txt_lt hT (p := pos) (by omega)
    have E1 : ls_yg (nd, C0, O, fl0, ct, fu, N) (T pos) = some (5, C, ls_os pe, if ls_nd4 pe = 4 then 1 else 2, pos - es + 1, ls_fu (ls_fk fr), ls_m54 L) := by
      rw [OP]; unfold ls_yopd
      rw [if_neg (by omega), if_neg (by omega), if_pos (by omega), if_pos tn]
    have s1 := ls_yv_step pn E1
    have nm0 : 0 < (if ls_nd4 pe = 4 then 1 else 2) := by split <;> decide
    have g2 : ∀ t, ls_yg (5, C, ls_os pe, if ls_nd4 pe = 4 then 1 else 2, pos - es + 1, ls_fu (ls_fk fr), ls_m54 L) t = ls_ywith 5 t C (ls_os pe) (if ls_nd4 pe = 4 then 1 else 2) (pos - es + 1) (ls_fu (ls_fk fr)) (ls_m54 L) := fun t => ls_yg_w (Or.inr (Or.inr (Or.inl rfl)))
    dsimp only
    -- the second token comes too late
    have LATE : pos + 1 = es + 32 → T (pos + 1) ≠ 20 → T (pos + 1) ≠ 16 → ls_yc T n (4, pos, es, pe, fr, L, k) (nd, C0, O, fl0, ct, fu, N) = some (es + 32) := by
      intro hl h20 h16
      refine s1.trans ((ls_yv_bad (p := pos + 1) hT (by omega) (fun _ => ?_) (fun _ => ls_yv_0 (by decide))).trans (by rw [hl]))
      rw [g2, show pos - es + 1 = 32 by omega]
      exact ls_yw_long (Or.inr (Or.inl ⟨h20, h16⟩))
    by_cases t15 : T (pos + 1) = 15
    · rw [if_pos t15]
      have p1 := ls_txt_lt hT (p := pos + 1) (by omega)
      by_cases l1 : pos + 1 = es + 32
      · have B := LATE l1 (by omega) (by omega)
        by_cases t16 : T (pos + 2) = 16
        · rw [if_pos t16]
          exact Or.inr ⟨⟨Or.inr rfl, by show es + 32 < pos + 3; omega⟩, B⟩
        · rw [if_neg t16]
          exact Or.inr ⟨⟨Or.inl rfl, by show es + 32 < pos + 2; omega⟩, B⟩
      have E2 : ls_yg (5, C, ls_os pe, if ls_nd4 pe = 4 then 1 else 2, pos - es + 1, ls_fu (ls_fk fr), ls_m54 L) (T (pos + 1)) = some (17, C, 1 :: ls_os pe, 0, pos - es + 1 + 1, ls_fu (ls_fk fr), ls_m54 L) := by
        rw [g2]; unfold ls_ywith ls_yaft
        rw [if_neg (by omega), if_neg (by omega), if_pos rfl, if_neg (by rw [t15]; decide), if_neg (by rw [t15]; decide), if_pos t15, if_pos nm0]
      have s2 := s1.trans (ls_yv_step p1 E2)
      by_cases t16 : T (pos + 2) = 16
      · rw [if_pos t16]
        have p2 := ls_txt_lt hT (p := pos + 2) (by omega)
        have g3 : ∀ t, ls_yg (17, C, 1 :: ls_os pe, 0, pos - es + 1 + 1, ls_fu (ls_fk fr), ls_m54 L) t = ls_ywith 17 t C (1 :: ls_os pe) 0 (pos - es + 1 + 1) (ls_fu (ls_fk fr)) (ls_m54 L) := fun t => ls_yg_w (Or.inr (Or.inr (Or.inr (by decide))))
        by_cases l2 : pos + 2 = es + 32
        · refine Or.inr ⟨⟨Or.inr rfl, by show es + 32 < pos + 3; omega⟩, ?_⟩
          refine s2.trans ((ls_yv_bad (p := pos + 2) hT (by omega) (fun _ => ?_) (fun _ => ls_yv_0 (by decide))).trans (by rw [l2]))
          rw [g3, show pos - es + 1 + 1 = 32 by omega]
          exact ls_yw_long (Or.inl (by decide))
        · have E3 : ls_yg (17, C, 1 :: ls_os pe, 0, pos - es + 1 + 1, ls_fu (ls_fk fr), ls_m54 L) (T (pos + 2)) = some (5, C, ls_os pe, 0, (pos + 3) - es, ls_fu (ls_fk fr), ls_m54 L) := by
            rw [g3]; unfold ls_ywith
            rw [if_neg (by omega), if_neg (by omega), if_neg (by decide), if_neg (by decide), if_pos ⟨rfl, t16⟩, sub3]; rfl
          exact Or.inl ⟨_, ls_al5 (fl := 0) hm (by omega) hc h3 (fun h => by omega) (fun h => by omega), (s2.trans (ls_yv_step p2 E3)).symm⟩
      · rw [if_neg t16]
        refine Or.inl ⟨_, ls_al4 (pe := (0, pos, 1) :: pe) (fl := 0) hm (by omega) (fun e he => ?_) h3 (fun h => absurd h (by show (17 : Nat) ≠ 15; decide)) (fun _ => t16), ?_⟩
        · rcases List.mem_cons.mp he with rfl | he
          · exact fun _ => Nat.le_refl _
          · exact hc e he
        · refine Eq.trans ?_ s2.symm
          rw [sub2]; rfl
    rw [if_neg t15]
    have stq : ls_starts pe = true ↔ ls_nd4 pe ≠ 4 := by
      unfold ls_starts ls_nd4
      cases pe with
      | nil => simp
      | cons e r =>
        dsimp only
        constructor
        · intro h
          have h := of_decide_eq_true h
          (repeat' split) <;> omega
        · intro h
          apply decide_eq_true
          revert h
          (repeat' split) <;> omega
    by_cases st : ls_starts pe = true ∧ ls_asg (T (pos + 1))
    · rw [if_pos st]
      have n4 := stq.mp st.1
      have ta := st.2
      have p1 := ls_txt_lt hT (p := pos + 1) (by unfold ls_asg at ta; omega)
      have ALR : ∀ k' : LsK, ls_ag T n (4, pos, es, pe, fr, L, k) (nd, C0, O, fl0, ct, fu, N) (.ok (4, pos + 2, es, (2, pos + 1, ls_addr L (T pos - 54)) :: pe, fr, L, k')) := by
        intro k'
        by_cases l1 : pos + 1 = es + 32
        · exact Or.inr ⟨⟨Or.inl rfl, by show es + 32 < pos + 2; omega⟩, LATE l1 (by unfold ls_asg at ta; omega) (by unfold ls_asg at ta; omega)⟩
        have lv2 : ¬ 2 < ls_lv (T (pos + 1)) := by have := ls_lv_c (T (pos + 1)); unfold ls_asg at ta; omega
        have E2 : ls_yg (5, C, ls_os pe, if ls_nd4 pe = 4 then 1 else 2, pos - es + 1, ls_fu (ls_fk fr), ls_m54 L) (T (pos + 1)) = some (3, C, ls_os pe, 0, pos - es + 1 + 1, ls_fu (ls_fk fr), ls_m54 L) := by
          rw [g2, if_neg n4]; unfold ls_ywith ls_yaft
          rw [if_neg (by unfold ls_asg at ta; omega), if_neg (by omega), if_pos rfl, if_neg lv2, if_pos ta, if_pos rfl]
        have s2 := s1.trans (ls_yv_step p1 E2)
        refine Or.inl ⟨_, ls_al4 (pe := (2, pos + 1, ls_addr L (T pos - 54)) :: pe) (fl := 0) hm (by omega) (fun e he => ?_) h3 (fun h => absurd h (by show (3 : Nat) ≠ 15; decide)) (fun h => absurd h (by show (3 : Nat) ≠ 17; decide)), ?_⟩
        · rcases List.mem_cons.mp he with rfl | he
          · exact fun h => absurd h (by show (2 : Nat) ≠ 0; decide)
          · exact hc e he
        · refine Eq.trans ?_ s2.symm
          rw [sub2]; rfl
      by_cases t21 : T (pos + 1) = 21
      · rw [if_pos t21]; exact ALR _
      · rw [if_neg t21]; exact ALR _
    · rw [if_neg st]
      refine Or.inl ⟨_, ls_al5 (fl := if ls_nd4 pe = 4 then 1 else 2) hm (by omega) hc h3 (fun _ => t15) (fun h2 ha => st ⟨stq.mpr (fun h4 => ?_), ha⟩), ?_⟩
      · rw [if_pos h4] at h2; cases h2
      · refine Eq.trans ?_ s1.symm
        rw [sub1]; rfl
  rw [if_neg tn]
  -- a literal
  have LIT : (T pos = 70 ∨ T pos = 71 ∨ T pos = 13 ∨ T pos = 14) → ∀ k' : LsK, ls_ag T n (4, pos, es, pe, fr, L, k) (nd, C0, O, fl0, ct, fu, N) (.ok (5, pos + 1, es, pe, fr, L, k')) := by
    intro ht k'
    have pn := ls_txt_lt hT (p := pos) (by omega)
    refine Or.inl ⟨_, ls_al5 (fl := 0) hm (by omega) hc h3 (fun h => by omega) (fun h => by omega), (ls_yv_step pn ?_).symm⟩
    rw [OP]; unfold ls_yopd
    rw [if_neg (by omega), if_neg (by omega), if_pos (by omega), if_neg tn, sub1]
  by_cases t70 : T pos = 70
  · rw [if_pos t70]; exact LIT (Or.inl t70) _
  rw [if_neg t70]
  by_cases t71 : T pos = 71
  · rw [if_pos t71]; exact LIT (Or.inr (Or.inl t71)) _
  rw [if_neg t71]
  by_cases t13 : T pos = 13
  · rw [if_pos t13]; exact LIT (Or.inr (Or.inr (Or.inl t13))) _
  rw [if_neg t13]
  by_cases t14 : T pos = 14
  · rw [if_pos t14]; exact LIT (Or.inr (Or.inr (Or.inr t14))) _
  rw [if_neg t14]
  by_cases t15 : T pos = 15
  · rw [if_pos t15]
    have pn := ls_txt_lt hT (p := pos) (by omega)
    have E1 : ls_yg (nd, C0, O, fl0, ct, fu, N) (T pos) = some (15, C, 0 :: ls_os pe, 0, pos - es + 1, ls_fu (ls_fk fr), ls_m54 L) := by
      rw [OP]; unfold ls_yopd
      rw [if_neg (by omega), if_pos t15]
    have s1 := ls_yv_step pn E1
    have g2 : ∀ t, ls_yg (15, C, 0 :: ls_os pe, 0, pos - es + 1, ls_fu (ls_fk fr), ls_m54 L) t = ls_ywith 15 t C (0 :: ls_os pe) 0 (pos - es + 1) (ls_fu (ls_fk fr)) (ls_m54 L) := fun t => ls_yg_w (Or.inr (Or.inr (Or.inr (by decide))))
    have LATE : pos + 1 = es + 32 → ls_yc T n (4, pos, es, pe, fr, L, k) (nd, C0, O, fl0, ct, fu, N) = some (es + 32) := by
      intro hl
      refine s1.trans ((ls_yv_bad (p := pos + 1) hT (by omega) (fun _ => ?_) (fun _ => ls_yv_0 (by decide))).trans (by rw [hl]))
      rw [g2, show pos - es + 1 = 32 by omega]
      exact ls_yw_long (Or.inl (by decide))
    by_cases k5 : T (pos + 1) < 5
    · rw [if_pos k5]
      have p1 := ls_txt_lt hT (p := pos + 1) (by omega)
      by_cases l1 : pos + 1 = es + 32
      · have B := LATE l1
        by_cases t16 : T (pos + 2) = 16
        · rw [if_pos t16]
          exact Or.inr ⟨⟨Or.inl rfl, by show es + 32 < pos + 3; omega⟩, B⟩
        · rw [if_neg t16]
          show ls_yc T n _ _ = some (if es + 32 < pos + 2 then es + 32 else pos + 2)
          rw [if_pos (by omega)]; exact B
      have E2 : ls_yg (15, C, 0 :: ls_os pe, 0, pos - es + 1, ls_fu (ls_fk fr), ls_m54 L) (T (pos + 1)) = some (16, C, ls_os pe, 0, pos - es + 1 + 1, ls_fu (ls_fk fr), ls_m54 L) := by
        rw [g2]; unfold ls_ywith
        rw [if_neg (by omega), if_neg (by omega), if_neg (by decide), if_neg (by decide), if_neg (by omega), if_pos ⟨rfl, k5⟩]; rfl
      have s2 := s1.trans (ls_yv_step p1 E2)
      have g3 : ∀ t, ls_yg (16, C, ls_os pe, 0, pos - es + 1 + 1, ls_fu (ls_fk fr), ls_m54 L) t = ls_ywith 16 t C (ls_os pe) 0 (pos - es + 1 + 1) (ls_fu (ls_fk fr)) (ls_m54 L) := fun t => ls_yg_w (Or.inr (Or.inr (Or.inr (by decide))))
      have LATE2 : pos + 2 = es + 32 → ls_yc T n (4, pos, es, pe, fr, L, k) (nd, C0, O, fl0, ct, fu, N) = some (es + 32) := by
        intro hl
        refine s2.trans ((ls_yv_bad (p := pos + 2) hT (by omega) (fun _ => ?_) (fun _ => ls_yv_0 (by decide))).trans (by rw [hl]))
        rw [g3, show pos - es + 1 + 1 = 32 by omega]
        exact ls_yw_long (Or.inl (by decide))
      by_cases t16 : T (pos + 2) = 16
      · rw [if_pos t16]
        by_cases l2 : pos + 2 = es + 32
        · exact Or.inr ⟨⟨Or.inl rfl, by show es + 32 < pos + 3; omega⟩, LATE2 l2⟩
        have p2 := ls_txt_lt hT (p := pos + 2) (by omega)
        have E3 : ls_yg (16, C, ls_os pe, 0, pos - es + 1 + 1, ls_fu (ls_fk fr), ls_m54 L) (T (pos + 2)) = some (4, C, ls_os pe, 0, (pos + 3) - es, ls_fu (ls_fk fr), ls_m54 L) := by
          rw [g3]; unfold ls_ywith
          rw [if_neg (by omega), if_neg (by omega), if_neg (by decide), if_pos rfl, if_pos t16, sub3]
        refine Or.inl ⟨_, ls_al4 (pe := (13, pos, T (pos + 1)) :: pe) (fl := 0) hm (by omega) (fun e he => ?_) h3 (fun h => absurd h (by show (4 : Nat) ≠ 15; decide)) (fun h => absurd h (by show (4 : Nat) ≠ 17; decide)), ?_⟩
        · rcases List.mem_cons.mp he with rfl | he
          · exact fun h => absurd h (by show (13 : Nat) ≠ 0; decide)
          · exact hc e he
        · exact (s2.trans (ls_yv_step p2 E3)).symm
      · rw [if_neg t16]
        show ls_yc T n _ _ = some (if es + 32 < pos + 2 then es + 32 else pos + 2)
        rw [if_neg (by omega)]
        refine s2.trans (ls_yv_bad (p := pos + 2) hT (by omega) (fun _ => ?_) (fun _ => ls_yv_0 (by decide)))
        rw [g3]; unfold ls_ywith
        rw [if_neg (by omega)]
        by_cases c : 32 < pos - es + 1 + 1 + 1
        · rw [if_pos c]
        · rw [if_neg c, if_neg (by decide), if_pos rfl, if_neg t16]
    · rw [if_neg k5]
      by_cases k6 : T (pos + 1) = 5
      · rw [if_pos k6]
        show ls_yc T n _ _ = some (if es + 32 < pos + 1 then es + 32 else pos + 1)
        rw [if_neg (by omega)]
        refine s1.trans (ls_yv_bad (p := pos + 1) hT (by omega) (fun _ => ?_) (fun _ => ls_yv_0 (by decide)))
        rw [g2]; unfold ls_ywith ls_yopd
        rw [if_neg (by omega)]
        by_cases c : 32 < pos - es + 1 + 1
        · rw [if_pos c]
        · rw [if_neg c, if_neg (by decide), if_neg (by decide), if_neg (by omega), if_neg (by omega), if_neg (by omega), if_neg (by omega), if_neg (by omega)]
      · rw [if_neg k6]
        refine Or.inl ⟨_, ls_al4 (pe := (1, pos, 0) :: pe) (fl := 0) hm (by omega) (fun e he => ?_) h3 (fun _ => by omega) (fun h => absurd h (by show (15 : Nat) ≠ 17; decide)), ?_⟩
        · rcases List.mem_cons.mp he with rfl | he
          · exact fun h => absurd h (by show (1 : Nat) ≠ 0; decide)
          · exact hc e he
        · refine Eq.trans ?_ s1.symm
          rw [sub1]; rfl
  rw [if_neg t15]
  by_cases tu : 22 ≤ T pos ∧ T pos ≤ 25
  · rw [if_pos tu]
    have pn := ls_txt_lt hT (p := pos) (by omega)
    refine Or.inl ⟨_, ls_al4 (pe := (13, pos, 0) :: pe) (fl := 0) hm (by omega) (fun e he => ?_) h3 (fun h => absurd h (by show (4 : Nat) ≠ 15; decide)) (fun h => absurd h (by show (4 : Nat) ≠ 17; decide)), (ls_yv_step pn ?_).symm⟩
    · rcases List.mem_cons.mp he with rfl | he
      · exact fun h => absurd h (by show (13 : Nat) ≠ 0; decide)
      · exact hc e he
    · rw [OP]; unfold ls_yopd
      rw [if_pos tu, sub1]; rfl
  · rw [if_neg tu]
    show ls_yc T n _ _ = some (if es + 32 < pos then es + 32 else pos)
    rw [if_neg (by omega)]
    refine ls_yv_bad (p := pos) hT i1 (fun h => ?_) h72
    rw [OP]; unfold ls_yopd
    have := hT.2.1 pos (ls_txt_lt hT h)
    have tn' : ¬ (54 ≤ T pos ∧ T pos < 70) := tn
    rw [if_neg tu, if_neg t15, if_neg (by omega)]
end
end
section
section
variable {T : Nat → Nat} {V : Nat → Int32} {n : Nat} {pos es : Nat} {pe : List LsP} {fr : List LsF} {L : List Nat} {k : LsK} {y : LsY}
set_option maxHeartbeats 200000 in
theorem ls_os_red {e : LsP} (h : 2 ≤ e.1) : ls_os (e :: pe) = ls_os pe := by
  show (if e.1 = 0 then _ else if e.1 = 1 then _ else _) = _
  rw [if_neg (by omega), if_neg (by omega)]
set_option maxHeartbeats 200000 in
/-- no token but the closing ones ends the expression -/
theorem ls_yaft_none {t fl ct fu : Nat} {C : List (Nat × Nat)} {O N : List Nat} (h1 : ¬ 2 < ls_lv t) (h2 : fl = 2 → ¬ ls_asg t) (h3 : 0 < fl → t ≠ 15) (h4 : ∀ o r, O = o :: r → t ≠ 16 ∧ ¬ (t = 19 ∧ 0 < o ∧ o < 3)) : ls_yaft t fl C O ct fu N = none := by
  unfold ls_yaft
  rw [if_neg h1]
  by_cases a : ls_asg t
  · rw [if_pos a, if_neg (fun e => h2 e a)]
  · rw [if_neg a]
    by_cases t15 : t = 15
    · rw [if_pos t15, if_neg (fun h => h3 h t15)]
    · rw [if_neg t15]
      cases O with
      | nil => rfl
      | cons o r =>
        obtain ⟨g1, g2⟩ := h4 o r rfl
        show (if t = 16 then _ else if t = 19 ∧ 0 < o ∧ o < 3 then _ else none) = none
        rw [if_neg g1, if_neg g2]
set_option maxHeartbeats 200000 in
theorem ls_ag5 (hT : ls_txt T n) (hI : ls_Inv T n (5, pos, es, pe, fr, L, k)) (h : ls_al T n (5, pos, es, pe, fr, L, k) y) : ls_ag T n (5, pos, es, pe, fr, L, k) y (ls_r5 T pos es pe fr L k) := by
  obtain ⟨nd, C, O, fl, ct, fu, N⟩ := y
  unfold ls_al at h
  dsimp only at h
  rw [if_pos (Or.inr rfl), if_pos rfl] at h
  obtain ⟨hm, hp32, hc, hy, h3, f15, f2⟩ := h
  rw [hy]
  obtain ⟨i1, i2, i3, i4, i5, i6, i7⟩ := hI
  rw [if_pos (Or.inr rfl), if_neg (by decide)] at i7
  obtain ⟨a1, a2, a3, a4, f, r, a5, a6, a7⟩ := i7
  have g : ∀ t, ls_yg (5, C, ls_os pe, fl, pos - es, ls_fu (ls_fk fr), ls_m54 L) t = ls_ywith 5 t C (ls_os pe) fl (pos - es) (ls_fu (ls_fk fr)) (ls_m54 L) := fun t => ls_yg_w (Or.inr (Or.inr (Or.inl rfl)))
  have sub1 : pos - es + 1 = (pos + 1) - es := by omega
  -- a token that the reference does not take here
  have BAD : ¬ (ls_os pe = [] ∧ (T pos = 20 ∧ (ls_fu (ls_fk fr) = 20 ∨ ls_fu (ls_fk fr) = 11) ∨ T pos = 16 ∧ (ls_fu (ls_fk fr) = 6 ∨ ls_fu (ls_fk fr) = 8 ∨ ls_fu (ls_fk fr) = 12))) → ¬ 2 < ls_lv (T pos) → (∀ o r, ls_os pe = o :: r → T pos ≠ 16 ∧ ¬ (T pos = 19 ∧ 0 < o ∧ o < 3)) → ls_yc T n (5, pos, es, pe, fr, L, k) (5, C, ls_os pe, fl, pos - es, ls_fu (ls_fk fr), ls_m54 L) = some pos := by
    intro h1 h2 h4
    refine ls_yv_bad (p := pos) hT i1 (fun _ => ?_) (fun _ => ls_yv_0 (by decide))
    rw [g]; unfold ls_ywith
    rw [if_neg (fun q => h1 q.2)]
    by_cases c : 32 < pos - es + 1
    · rw [if_pos c]
    · rw [if_neg c, if_pos rfl]
      exact ls_yaft_none h2 f2 f15 h4
  -- the 33rd token
  have LATE : pos = es + 32 → (T pos ≠ 20 ∧ T pos ≠ 16) ∨ ls_os pe ≠ [] → ls_yc T n (5, pos, es, pe, fr, L, k) (5, C, ls_os pe, fl, pos - es, ls_fu (ls_fk fr), ls_m54 L) = some (es + 32) := by
    intro hl h
    refine (ls_yv_bad (p := pos) hT i1 (fun _ => ?_) (fun _ => ls_yv_0 (by decide))).trans (by rw [hl])
    rw [g, show pos - es = 32 by omega]
    exact ls_yw_long (Or.inr h)
  have BIN : 2 < ls_lv (T pos) → ∀ k' : LsK, ls_ag T n (5, pos, es, pe, fr, L, k) (5, C, ls_os pe, fl, pos - es, ls_fu (ls_fk fr), ls_m54 L) (.ok (4, pos + 1, es, (ls_lv (T pos), pos, k.1) :: pe, fr, L, k')) := by
    intro hl k'
    have tin := ls_lv_in hl
    have pn := ls_txt_lt hT (p := pos) (by omega)
    by_cases l : pos = es + 32
    · exact Or.inr ⟨⟨Or.inl rfl, by show es + 32 < pos + 1; omega⟩, LATE l (Or.inl ⟨by omega, by omega⟩)⟩
    have n4 : ls_nd4 ((ls_lv (T pos), pos, k.1) :: pe) = 4 := by
      show (if ls_lv (T pos) = 0 then _ else if ls_lv (T pos) = 1 then 15 else if ls_lv (T pos) = 2 then 3 else 4) = 4
      rw [if_neg (by omega), if_neg (by omega), if_neg (by omega)]
    refine Or.inl ⟨_, ls_al4 (pe := (ls_lv (T pos), pos, k.1) :: pe) (fl := 0) hm (by omega) (fun e he => ?_) h3 (fun h => by omega) (fun h => by omega), (ls_yv_step pn ?_).symm⟩
    · rcases List.mem_cons.mp he with rfl | he
      · intro h
        have : ls_lv (T pos) = 0 := h
        omega
      · exact hc e he
    · rw [n4, ls_os_red (by show 2 ≤ ls_lv (T pos); omega), g]; unfold ls_ywith ls_yaft
      rw [if_neg (by omega), if_neg (by omega), if_pos rfl, if_pos hl, sub1]
  unfold ls_r5
  dsimp only
  cases pe with
  | nil =>
    dsimp only
    by_cases hl : 2 < ls_lv (T pos)
    · rw [if_pos hl]; exact BIN hl _
    rw [if_neg hl]
    subst a5
    obtain ⟨fk, mo, sp, l⟩ := f
    obtain ⟨x1, x2, x3, x4, x5, x6, x7, x8⟩ := a6
    dsimp only at x1 x2
    have fr2 : ls_fk r ≠ 2 := ls_mb_2 hm (by show fk ≠ 1; omega)
    unfold ls_end
    rw [if_neg (by omega)]
    dsimp only
    have e0 : ls_os [] = [] := rfl
    have BAD' : (∀ w, (T pos = 20 ∧ (w = 20 ∨ w = 11) ∨ T pos = 16 ∧ (w = 6 ∨ w = 8 ∨ w = 12)) → w ≠ ls_fu fk) → ls_yc T n (5, pos, es, [], (fk, mo, sp, l) :: r, L, k) (5, C, ls_os [], fl, pos - es, ls_fu (ls_fk ((fk, mo, sp, l) :: r)), ls_m54 L) = some pos := by
      intro hw
      exact BAD (fun h => hw _ h.2 rfl) hl (fun o r h => by cases h)
    -- the reference at the closing token
    have CL : ∀ nd', (T pos = 20 ∧ (ls_fu fk = 20 ∨ ls_fu fk = 11) ∨ T pos = 16 ∧ (ls_fu fk = 6 ∨ ls_fu fk = 8 ∨ ls_fu fk = 12)) → nd' = (if T pos = 20 then 0 else if ls_fu fk = 12 then 6 else 1) → ls_yg (5, C, ls_os [], fl, pos - es, ls_fu (ls_fk ((fk, mo, sp, l) :: r)), ls_m54 L) (T pos) = some (nd', C, [], 0, pos - es, ls_fu fk, ls_m54 L) := by
      intro nd' h hn
      rw [g]; unfold ls_ywith
      rw [if_pos ⟨rfl, rfl, h⟩, hn]; rfl
    by_cases q7 : fk = 7
    · subst q7
      rw [if_pos rfl]
      by_cases t16 : T pos = 16
      · rw [if_pos t16]
        have pn := ls_txt_lt hT (p := pos) (by omega)
        obtain ⟨a, D, hD, _, _, hr⟩ := ls_rc_cons (f := (7, mo, sp, l)) (by show ¬ ((7 : Nat) = 6 ∨ 9 ≤ 7); decide) h3
        subst hD
        refine Or.inl ⟨(1, (4, a) :: D, [], 0, pos - es, 6, ls_m54 L), ls_al_mk (st := 0) (fr := (3, k.1, sp, []) :: r) (Or.inl rfl) (ls_mb_c hm.2 fr2) (by show (3 : Nat) ≠ 2; decide) (ls_rc_mk (f := (3, k.1, sp, [])) (by show ¬ ((3 : Nat) = 6 ∨ 9 ≤ 3); decide) (fun h => absurd h (by show (3 : Nat) ≠ 1; decide)) (fun h => absurd h (by show (3 : Nat) ≠ 2; decide)) hr) (fun h => by omega), (ls_yv_step pn (CL 1 (Or.inr ⟨t16, Or.inl rfl⟩) (by rw [if_neg (by omega)]; rfl))).symm⟩
      · rw [if_neg t16]
        exact BAD' (fun w h => by show w ≠ 6; omega)
    rw [if_neg q7]
    by_cases q8 : fk = 8
    · subst q8
      rw [if_pos rfl]
      by_cases t16 : T pos = 16
      · rw [if_pos t16]
        have pn := ls_txt_lt hT (p := pos) (by omega)
        obtain ⟨a, D, hD, _, _, hr⟩ := ls_rc_cons (f := (8, mo, sp, l)) (by show ¬ ((8 : Nat) = 6 ∨ 9 ≤ 8); decide) h3
        subst hD
        refine Or.inl ⟨(1, (2, a) :: D, [], 0, pos - es, 8, ls_m54 L), ls_al_mk (st := 0) (fr := (5, mo, sp, []) :: r) (Or.inl rfl) (ls_mb_c hm.2 fr2) (by show (5 : Nat) ≠ 2; decide) (ls_rc_mk (f := (5, mo, sp, [])) (by show ¬ ((5 : Nat) = 6 ∨ 9 ≤ 5); decide) (fun h => absurd h (by show (5 : Nat) ≠ 1; decide)) (fun h => absurd h (by show (5 : Nat) ≠ 2; decide)) hr) (fun h => by omega), (ls_yv_step pn (CL 1 (Or.inr ⟨t16, Or.inr (Or.inl rfl)⟩) (by rw [if_neg (by omega)]; rfl))).symm⟩
      · rw [if_neg t16]
        exact BAD' (fun w h => by show w ≠ 8; omega)
    rw [if_neg q8]
    by_cases q9 : fk = 9
    · subst q9
      rw [if_pos rfl]
      have h3' := (ls_rc_skip (f := (9, mo, sp, l)) (Or.inr (by show 9 ≤ 9; decide))).mp h3
      by_cases t16 : T pos = 16
      · rw [if_pos t16]
        have pn := ls_txt_lt hT (p := pos) (by omega)
        have s1 := ls_yv_step pn (CL 6 (Or.inr ⟨t16, Or.inr (Or.inr rfl)⟩) (by rw [if_neg (by omega)]; rfl))
        by_cases t20 : T (pos + 1) = 20
        · rw [if_pos t20]
          have p1 := ls_txt_lt hT (p := pos + 1) (by omega)
          refine Or.inl ⟨_, ls_al_3 (fl := 0) (ct := pos - es) (fu := 12) hm.2 fr2 h3', (s1.trans (ls_yv_step p1 ?_)).symm⟩
          rw [t20]; rfl
        · rw [if_neg t20]
          refine s1.trans (ls_yv_bad (p := pos + 1) hT (by omega) (fun _ => ?_) (fun _ => ls_yv_0 (by decide)))
          show (if T (pos + 1) = 20 then _ else none) = none
          rw [if_neg t20]
      · rw [if_neg t16]
        exact BAD' (fun w h => by show w ≠ 12; omega)
    rw [if_neg q9]
    have h3' := (ls_rc_skip (f := (fk, mo, sp, l)) (by show fk = 6 ∨ 9 ≤ fk; omega)).mp h3
    have fu2 : ls_fu fk = 20 ∨ ls_fu fk = 11 := by
      unfold ls_fu
      rw [if_neg q7, if_neg q8, if_neg q9]
      split
      · exact Or.inr rfl
      · exact Or.inl rfl
    by_cases t20 : T pos = 20
    · rw [if_pos t20]
      have pn := ls_txt_lt hT (p := pos) (by omega)
      have s1 := ls_yv_step pn (CL 0 (Or.inl ⟨t20, fu2⟩) (by rw [if_pos t20]))
      have FIN : ∀ k' : LsK, ls_ag T n (5, pos, es, [], (fk, mo, sp, l) :: r, L, k) (5, C, ls_os [], fl, pos - es, ls_fu (ls_fk ((fk, mo, sp, l) :: r)), ls_m54 L) (.ok (3, pos + 1, es, [], r, L, k')) := fun k' =>
        Or.inl ⟨_, ls_al_3 hm.2 fr2 h3', s1.symm⟩
      by_cases q10 : fk = 10
      · rw [if_pos q10]; exact FIN _
      rw [if_neg q10]
      by_cases q11 : fk = 11
      · rw [if_pos q11]; exact FIN _
      · rw [if_neg q11]; exact FIN _
    · rw [if_neg t20]
      exact BAD' (fun w h => by omega)
  | cons e r2 =>
    obtain ⟨lv, pl, mo⟩ := e
    obtain ⟨p1, p2, p3, p4, p5, p6, p7, p8⟩ := i6 _ (List.mem_cons_self ..)
    dsimp only at p1 p2 p3 p4 p5 p6 p7 p8 ⊢
    have hc' : ∀ e ∈ r2, e.1 = 0 → 1 ≤ e.2.2 := fun e he => hc e (List.mem_cons_of_mem _ he)
    have l2 := ls_lv_c (T pos)
    by_cases red : ls_lv (T pos) ≤ lv
    · rw [if_pos red]
      have e1 : ls_os ((lv, pl, mo) :: r2) = ls_os r2 := ls_os_red (by show 2 ≤ lv; omega)
      refine Or.inl ⟨_, ls_al5 (fl := fl) hm hp32 hc' h3 f15 f2, ?_⟩
      rw [e1]; rfl
    rw [if_neg red]
    by_cases hl : 2 < ls_lv (T pos)
    · rw [if_pos hl]; exact BIN hl _
    rw [if_neg hl]
    have lv01 : lv = 0 ∨ lv = 1 := by omega
    have one : ls_os ((lv, pl, mo) :: r2) ≠ [] := by
      show (if lv = 0 then mo :: ls_os r2 else if lv = 1 then 0 :: ls_os r2 else ls_os r2) ≠ []
      rcases lv01 with rfl | rfl
      · rw [if_pos rfl]; exact List.cons_ne_nil _ _
      · rw [if_neg (by decide), if_pos rfl]; exact List.cons_ne_nil _ _
    by_cases t16 : T pos = 16
    · rw [if_pos t16]
      have pn := ls_txt_lt hT (p := pos) (by omega)
      have CLP : ∀ k' : LsK, ls_ag T n (5, pos, es, (lv, pl, mo) :: r2, fr, L, k) (5, C, ls_os ((lv, pl, mo) :: r2), fl, pos - es, ls_fu (ls_fk fr), ls_m54 L) (.ok (5, pos + 1, es, r2, fr, L, k')) := by
        intro k'
        by_cases l : pos = es + 32
        · exact Or.inr ⟨⟨Or.inr rfl, by show es + 32 < pos + 1; omega⟩, LATE l (Or.inr one)⟩
        refine Or.inl ⟨_, ls_al5 (fl := 0) hm (by omega) hc' h3 (fun h => by omega) (fun h => by omega), (ls_yv_step pn ?_).symm⟩
        rw [g]; unfold ls_ywith ls_yaft
        rw [if_neg (fun q => one q.2.1), if_neg (by omega), if_pos rfl, if_neg hl, if_neg (by unfold ls_asg; omega), if_neg (by omega), sub1]
        rcases lv01 with rfl | rfl
        · show (if T pos = 16 then _ else _) = _
          rw [if_pos t16]
        · show (if T pos = 16 then _ else _) = _
          rw [if_pos t16]
      by_cases q0 : lv = 0
      · rw [if_pos q0]; exact CLP _
      · rw [if_neg q0]; exact CLP _
    rw [if_neg t16]
    have FLT : (∀ o r, ls_os ((lv, pl, mo) :: r2) = o :: r → ¬ (T pos = 19 ∧ 0 < o ∧ o < 3)) → ls_ag T n (5, pos, es, (lv, pl, mo) :: r2, fr, L, k) (5, C, ls_os ((lv, pl, mo) :: r2), fl, pos - es, ls_fu (ls_fk fr), ls_m54 L) (ls_flt es pos) := by
      intro h
      show ls_yc T n _ _ = some (if es + 32 < pos then es + 32 else pos)
      rw [if_neg (by omega)]
      exact BAD (fun q => one q.1) hl (fun o r ho => ⟨t16, h o r ho⟩)
    by_cases t19 : T pos = 19 ∧ lv = 0
    · rw [if_pos t19]
      obtain ⟨t19, q0⟩ := t19
      subst q0
      have m1 := hc _ (List.mem_cons_self ..) rfl
      dsimp only at m1
      by_cases m3 : mo < 3
      · rw [if_pos m3]
        have pn := ls_txt_lt hT (p := pos) (by omega)
        by_cases l : pos = es + 32
        · exact Or.inr ⟨⟨Or.inl rfl, by show es + 32 < pos + 1; omega⟩, LATE l (Or.inr one)⟩
        have n3 : ls_nd4 ((0, pl, mo + 1) :: r2) = 3 := by
          show (if mo + 1 = 1 then 17 else 3) = 3
          rw [if_neg (by omega)]
        refine Or.inl ⟨_, ls_al4 (pe := (0, pl, mo + 1) :: r2) (fl := 0) hm (by omega) (fun e he => ?_) h3 (fun h => by omega) (fun h => by omega), (ls_yv_step pn ?_).symm⟩
        · rcases List.mem_cons.mp he with rfl | he
          · exact fun _ => by show 1 ≤ mo + 1; omega
          · exact hc' e he
        · rw [n3, g]; unfold ls_ywith ls_yaft
          rw [if_neg (fun q => one q.2.1), if_neg (by omega), if_pos rfl, if_neg hl, if_neg (by unfold ls_asg; omega), if_neg (by omega), sub1]
          show (if T pos = 16 then _ else if T pos = 19 ∧ 0 < mo ∧ mo < 3 then some (3, C, (mo + 1) :: ls_os r2, 0, pos + 1 - es, ls_fu (ls_fk fr), ls_m54 L) else none) = _
          rw [if_neg t16, if_pos ⟨t19, by omega, m3⟩]; rfl
      · rw [if_neg m3]
        refine FLT (fun o r ho => ?_)
        have ho' : mo :: ls_os r2 = o :: r := ho
        injection ho' with ho1 ho2
        omega
    · rw [if_neg t19]
      refine FLT (fun o r ho h => ?_)
      have q1 : lv = 1 := by omega
      subst q1
      have ho' : 0 :: ls_os r2 = o :: r := ho
      injection ho' with ho1 ho2
      omega
set_option maxHeartbeats 200000 in
theorem ls_agree (hT : ls_txt T n) : ∀ (m : Nat) (c : LsC) (y : LsY), ls_mu n c ≤ m → ls_Inv T n c → c.1 ≤ 6 → ls_al T n c y → match ls_run T V m c with
    | .ok _ => ls_yc T n c y = none
    | .error e => ls_yc T n c y = some e := by
  intro m
  have S6 : ∀ (c : LsC) (y : LsY), c.1 = 6 → ls_al T n c y → ls_yc T n c y = none := by
    intro c y h6 h
    obtain ⟨st, pos, es, pe, fr, L, k⟩ := c
    obtain ⟨nd, C, O, fl, ct, fu, N⟩ := y
    dsimp only at h6
    subst h6
    unfold ls_al at h
    dsimp only at h
    rw [if_neg (by decide), if_pos rfl] at h
    exact h.2
  induction m with
  | zero =>
    intro c y hm hI h6 h
    exact S6 c y (ls_mu0 h6 hI (by omega)) h
  | succ m ih =>
    intro c y hm hI h6 h
    unfold ls_run
    by_cases e6 : c.1 = 6
    · rw [if_pos e6]
      exact S6 c y e6 h
    rw [if_neg e6]
    have A : ls_ag T n c y (ls_rs T V c) := by
      obtain ⟨st, pos, es, pe, fr, L, k⟩ := c
      dsimp only at e6 h6
      unfold ls_rs
      dsimp only
      rcases (show st = 0 ∨ st = 1 ∨ st = 2 ∨ st = 3 ∨ st = 4 ∨ st = 5 by omega) with rfl | rfl | rfl | rfl | rfl | rfl
      · exact ls_ag0 hT hI h
      · exact ls_ag1 hT hI h
      · exact ls_ag2 hT hI h
      · exact ls_ag3 hT hI h
      · exact ls_ag4 hT hI h
      · exact ls_ag5 hT hI h
    cases hr : ls_rs T V c with
    | error e =>
      rw [hr] at A
      exact A
    | ok c' =>
      rw [hr] at A
      obtain ⟨j1, j2⟩ := ls_inv_rs hT (by omega) hI hr
      rcases A with ⟨y', al', e'⟩ | ⟨hd, e'⟩
      · have I := ih c' y' (by omega) j1 (ls_st6 hr) al'
        dsimp only
        rw [← e']
        exact I
      · have D := ls_doomed (V := V) hT m c' hd j1 (by omega)
        dsimp only
        rw [D]
        exact e'
end
end
section
/-! Values: kinds 0 boolean, 1 byte, 2 char, 3 int, 4 long (5: var, as a declared kind) -/
def ls_nar (k : Nat) (v : Int64) : Int64 := if k = 1 then v.toInt32.toInt8.toInt32.toInt64 else if k = 2 then ((v.toInt32.toUInt32 % 65536).toInt32).toInt64 else if k = 3 then v.toInt32.toInt64 else v
def ls_fit (f t : Nat) : Bool := decide (f = t) || decide (t = 5) || (decide (t = 3) && (decide (f = 1) || decide (f = 2))) || (decide (t = 4) && (decide (f = 1) || decide (f = 2) || decide (f = 3)))
/-- a value is what its kind holds -/
def ls_wf (k : Nat) (v : Int64) : Prop := k ≤ 4 ∧ (k = 0 → v = 0 ∨ v = 1) ∧ (k = 1 ∨ k = 2 ∨ k = 3 → v.toInt32.toInt64 = v)
/-- the kind that a conversion gives; cst: no name stands in the expression -/
def ls_cnv (t : Nat) (cst : Bool) (f : Nat) (v : Int64) : Option Nat :=
  if ls_fit f t = true ∨ (cst = true ∧ (f = 1 ∨ f = 2 ∨ f = 3) ∧ (t = 1 ∨ t = 2) ∧ ls_nar t v = v) then some (if t = 5 then f else t) else none
def ls_un (w : Nat) (k : Nat) (v : Int64) : Option (Nat × Int64) :=
  if w = 22 then (if k = 0 then some (0, 1 - v) else none)
  else if k = 0 then none
  else some (if k = 4 then 4 else 3, ls_nar (if k = 4 then 4 else 3) (if w = 25 then -v else if w = 23 then v ^^^ (-1) else v))
def ls_cst (t : Nat) (k : Nat) (v : Int64) : Option (Nat × Int64) := if (k = 0 ↔ t = 0) then some (t, ls_nar t v) else none
def ls_bk (w a b : Nat) : Option Nat :=
  if a ≠ 0 ∧ b ≠ 0 then some (if 35 ≤ w then 0 else if a = 4 ∨ (b = 4 ∧ w < 32) then 4 else 3)
  else if a = 0 ∧ b = 0 ∧ ((29 ≤ w ∧ w ≤ 31) ∨ 39 ≤ w) then some 0 else none
def ls_shf (w k : Nat) (x y : Int64) : Int64 :=
  let d : Int32 := y.toInt32 &&& (if k = 4 then 63 else 31)
  if w = 33 then x >>> (d.toInt64 &&& 63)
  else if w = 34 then (if k = 4 then (x.toUInt64 >>> (d.toInt64.toUInt64 &&& Int64.toUInt64 63)).toInt64 else ((x.toInt32.toUInt32 >>> (d.toUInt32 &&& Int32.toUInt32 31)).toInt32).toInt64)
  else x <<< (d.toInt64 &&& 63)
def ls_cmp (w : Nat) (x y : Int64) : Prop := if w = 35 then x < y else if w = 36 then x ≤ y else if w = 37 then y < x else if w = 38 then y ≤ x else if w = 39 then x = y else x ≠ y
noncomputable def ls_val (w k : Nat) (x y : Int64) : Int64 :=
  if w = 24 then ls_nar k (x + y) else if w = 25 then ls_nar k (x - y) else if w = 26 then ls_nar k (x * y)
  else if w = 27 then ls_nar k (x / y) else if w = 28 then ls_nar k (x - x / y * y)
  else if w = 29 then ls_nar k (x &&& y) else if w = 30 then ls_nar k (x ||| y) else if w = 31 then ls_nar k (x ^^^ y)
  else if w < 35 then ls_nar k (ls_shf w k x y)
  else @ite Int64 (ls_cmp w x y) (Classical.propDecidable _) 1 0
/-- an operator's result, or the error's code: 3 kinds, 4 division by zero -/
noncomputable def ls_bin (w a b : Nat) (x y : Int64) : Except Nat (Nat × Int64) := match ls_bk w a b with
  | none => .error 3
  | some k => if (w = 27 ∨ w = 28) ∧ y = 0 then .error 4 else .ok (k, ls_val w k x y)
set_option maxHeartbeats 200000 in
theorem ls_k8 {a b : Nat} (ha : a < 100) (hb : b < 100) : nI a = nI b ↔ a = b := nI_eq (by omega) (by omega)
/-! the component's value methods -/
set_option maxHeartbeats 200000 in
theorem hx_narrowed {q : Int64 → Prop} {k : Nat} {v : Int64} (hk : k < 100) (hp : q (ls_nar k v)) : wpX_narrowed q (nI k) v := by
  unfold ls_nar at hp
  refine br_c (fun h => ?_) (fun h1 => br_c (fun h => ?_) (fun h3 => ?_))
  · have := (nI_ltI (b := 1) (by omega) (by decide)).mp h
    rw [if_neg (by omega), if_neg (by omega), if_neg (by omega)] at hp
    exact hp
  · have := (nI_ltI (a := 3) (by decide) (by omega)).mp h
    rw [if_neg (by omega), if_neg (by omega), if_neg (by omega)] at hp
    exact hp
  · have g1 := mt (nI_ltI (b := 1) (by omega) (by decide)).mpr h1
    have g3 := mt (nI_ltI (a := 3) (by decide) (by omega)).mpr h3
    by_cases q1 : k = 1
    · rw [if_pos q1] at hp
      exact br_t ((ls_k8 hk (by decide)).mpr q1) hp
    refine br_f (mt (ls_k8 hk (by decide)).mp q1) ?_
    rw [if_neg q1] at hp
    by_cases q2 : k = 2
    · rw [if_pos q2] at hp
      exact br_t ((ls_k8 hk (by decide)).mpr q2) (nm_e hp)
    refine br_f (mt (ls_k8 hk (by decide)).mp q2) ?_
    rw [if_neg q2, if_pos (by omega)] at hp
    exact br_t ((ls_k8 (b := 3) hk (by decide)).mpr (by omega)) hp
set_option maxHeartbeats 200000 in
theorem hx_fits {q : Int32 → Prop} {f t : Nat} (hf : f < 100) (ht : t < 100) (h1 : ls_fit f t = true → q 1) (h0 : ls_fit f t = false → q 0) : wpX_fits q (nI f) (nI t) := by
  have N : ∀ a w, a < 100 → w < 100 → a ≠ w → ¬ nI a = nI w := fun a w ha hw h => mt (ls_k8 ha hw).mp h
  have E : ∀ a w, a = w → nI a = nI w := fun a w h => by rw [h]
  have Z : ls_fit f t = false → wX_fits_43 q (nI f) (nI t) := by
    intro h
    have h' := h
    unfold ls_fit at h'
    simp only [Bool.or_eq_false_iff, Bool.and_eq_false_iff, decide_eq_false_iff_not] at h'
    exact br_f (N f t hf ht h'.1.1.1) (br_f (N t 5 ht (by decide) h'.1.1.2) (br_t rfl (h0 h)))
  have O : ls_fit f t = true → wX_fits_39 q (nI f) (nI t) := fun h =>
    br_c (fun _ => h1 h) (fun _ => br_c (fun _ => h1 h) (fun _ => br_f (by decide) (h1 h)))
  have O' : ls_fit f t = true → (f = t ∨ t = 5) → wX_fits_43 q (nI f) (nI t) := fun h hh => by
    by_cases e : f = t
    · exact br_t (E f t e) (h1 h)
    · exact br_f (N f t hf ht e) (br_t (E t 5 (by omega)) (h1 h))
  have D : wX_fits_43 q (nI f) (nI t) ∨ ls_fit f t = true := by
    cases h : ls_fit f t with
    | false => exact Or.inl (Z h)
    | true => exact Or.inr rfl
  have fit4 : t = 4 → (f = 1 ∨ f = 2 ∨ f = 3) → ls_fit f t = true := by
    intro h1 h2
    subst h1
    rcases h2 with rfl | rfl | rfl <;> decide
  have fit3 : t = 3 → (f = 1 ∨ f = 2) → ls_fit f t = true := by
    intro h1 h2
    subst h1
    rcases h2 with rfl | rfl <;> decide
  have K : ¬ (t = 3 ∧ (f = 1 ∨ f = 2)) → ¬ (t = 4 ∧ (f = 1 ∨ f = 2 ∨ f = 3)) → wX_fits_43 q (nI f) (nI t) := by
    intro n3 n4
    rcases D with d | d
    · exact d
    · refine O' d ?_
      unfold ls_fit at d
      simp only [Bool.or_eq_true, Bool.and_eq_true, decide_eq_true_eq] at d
      omega
  have K34 : (f = 1 ∨ f = 2 ∨ f = 3) → ¬ (t = 3 ∧ (f = 1 ∨ f = 2)) → wX_fits_34 q (nI f) (nI t) := by
    intro hff n3
    by_cases t4 : t = 4
    · exact br_t (E t 4 t4) (O (fit4 t4 hff))
    · exact br_f (N t 4 ht (by decide) t4) (K n3 (fun h => t4 h.1))
  by_cases f12 : f = 1 ∨ f = 2
  · have K15 : wX_fits_15 q (nI f) (nI t) 1 := by
      refine br_f (by decide) ?_
      by_cases t3 : t = 3
      · exact br_t (E t 3 t3) (O (fit3 t3 f12))
      · exact br_f (N t 3 ht (by decide) t3) (br_f (by decide) (K34 (by omega) (fun h => t3 h.1)))
    rcases f12 with h | h
    · exact br_t (E f 1 h) K15
    · exact br_f (N f 1 hf (by decide) (by omega)) (br_t (E f 2 h) K15)
  · refine br_f (N f 1 hf (by decide) (fun h => f12 (Or.inl h))) (br_f (N f 2 hf (by decide) (fun h => f12 (Or.inr h))) (br_t rfl (br_t rfl ?_)))
    by_cases f3 : f = 3
    · exact br_t (E f 3 f3) (K34 (by omega) (fun h => f12 h.2))
    · exact br_f (N f 3 hf (by decide) f3) (K (fun h => f12 h.2) (fun h => by omega))
section
variable {f_tickLimit f_tokenCount f_outCount f_error f_errorPlace f_lastKind f_codeSize f_methodCount f_methodTokens f_cellCount f_activeCalls f_next f_ticksLeft f_state f_pos f_expressionStart f_pendingCount f_frameTop f_localCount : Int32}
variable {f_lastValue : Int64}
variable {a_tokenCode a_tokenValue a_outKind a_codeOp a_codeArg a_codeKind a_codePlace a_methodSign a_methodStart a_declared a_cellKind a_callReturn a_pendingLevel a_pendingPlace a_pendingMore a_frameKind a_frameMore a_localName : Nat → Int32}
variable {a_outValue a_cellValue : Nat → Int64}
set_option maxHeartbeats 200000 in
theorem hx_push {post : SX → Prop} {cc : Nat} {k : Int32} {v : Int64} (h : cc < 376) (hp : post (f_tickLimit, f_tokenCount, f_outCount, f_error, f_errorPlace, f_lastKind, f_lastValue, f_codeSize, f_methodCount, f_methodTokens, nI (cc + 1), f_activeCalls, f_next, f_ticksLeft, f_state, f_pos, f_expressionStart, f_pendingCount, f_frameTop, f_localCount, a_tokenCode, a_tokenValue, a_outKind, a_outValue, a_codeOp, a_codeArg, a_codeKind, a_codePlace, a_methodSign, a_methodStart, a_declared, upd a_cellKind cc k, vp_updL a_cellValue cc v, a_callReturn, a_pendingLevel, a_pendingPlace, a_pendingMore, a_frameKind, a_frameMore, a_localName)) : wpX_push post (f_tickLimit, f_tokenCount, f_outCount, f_error, f_errorPlace, f_lastKind, f_lastValue, f_codeSize, f_methodCount, f_methodTokens, nI cc, f_activeCalls, f_next, f_ticksLeft, f_state, f_pos, f_expressionStart, f_pendingCount, f_frameTop, f_localCount, a_tokenCode, a_tokenValue, a_outKind, a_outValue, a_codeOp, a_codeArg, a_codeKind, a_codePlace, a_methodSign, a_methodStart, a_declared, a_cellKind, a_cellValue, a_callReturn, a_pendingLevel, a_pendingPlace, a_pendingMore, a_frameKind, a_frameMore, a_localName) k v := by
  have e : (nI cc).toNatClampNeg = cc := nI_clamp (by omega)
  have i : vp_in (nI cc) 376 := vp_in_nI h (by decide)
  exact br_f (nI_ge h (by decide)) ⟨i, nm_r (by rw [e]) ⟨i, nm_r (by rw [e]) (nm_r (nI_1 cc) hp)⟩⟩
set_option maxHeartbeats 200000 in
theorem hx_pop {p : Int32 → SX → Prop} {cc : Nat} (h : 88 ≤ cc) (h2 : cc < 376) (hp : p (nI cc) (f_tickLimit, f_tokenCount, f_outCount, f_error, f_errorPlace, f_lastKind, f_lastValue, f_codeSize, f_methodCount, f_methodTokens, nI cc, f_activeCalls, f_next, f_ticksLeft, f_state, f_pos, f_expressionStart, f_pendingCount, f_frameTop, f_localCount, a_tokenCode, a_tokenValue, a_outKind, a_outValue, a_codeOp, a_codeArg, a_codeKind, a_codePlace, a_methodSign, a_methodStart, a_declared, a_cellKind, a_cellValue, a_callReturn, a_pendingLevel, a_pendingPlace, a_pendingMore, a_frameKind, a_frameMore, a_localName)) : wpX_popCell p (f_tickLimit, f_tokenCount, f_outCount, f_error, f_errorPlace, f_lastKind, f_lastValue, f_codeSize, f_methodCount, f_methodTokens, nI (cc + 1), f_activeCalls, f_next, f_ticksLeft, f_state, f_pos, f_expressionStart, f_pendingCount, f_frameTop, f_localCount, a_tokenCode, a_tokenValue, a_outKind, a_outValue, a_codeOp, a_codeArg, a_codeKind, a_codePlace, a_methodSign, a_methodStart, a_declared, a_cellKind, a_cellValue, a_callReturn, a_pendingLevel, a_pendingPlace, a_pendingMore, a_frameKind, a_frameMore, a_localName) :=
  br_f (nI_ge (a := 88) (by omega) (by omega)) (nm_r (nI_pred cc) hp)
set_option maxHeartbeats 200000 in
theorem hx_fail {post : SX → Prop} {a b : Int32} (hp : post (f_tickLimit, f_tokenCount, f_outCount, a, b, f_lastKind, f_lastValue, f_codeSize, f_methodCount, f_methodTokens, f_cellCount, f_activeCalls, f_next, f_ticksLeft, f_state, f_pos, f_expressionStart, f_pendingCount, f_frameTop, f_localCount, a_tokenCode, a_tokenValue, a_outKind, a_outValue, a_codeOp, a_codeArg, a_codeKind, a_codePlace, a_methodSign, a_methodStart, a_declared, a_cellKind, a_cellValue, a_callReturn, a_pendingLevel, a_pendingPlace, a_pendingMore, a_frameKind, a_frameMore, a_localName)) : wpX_fail post (f_tickLimit, f_tokenCount, f_outCount, f_error, f_errorPlace, f_lastKind, f_lastValue, f_codeSize, f_methodCount, f_methodTokens, f_cellCount, f_activeCalls, f_next, f_ticksLeft, f_state, f_pos, f_expressionStart, f_pendingCount, f_frameTop, f_localCount, a_tokenCode, a_tokenValue, a_outKind, a_outValue, a_codeOp, a_codeArg, a_codeKind, a_codePlace, a_methodSign, a_methodStart, a_declared, a_cellKind, a_cellValue, a_callReturn, a_pendingLevel, a_pendingPlace, a_pendingMore, a_frameKind, a_frameMore, a_localName) a b := hp
end
end
section
set_option maxHeartbeats 200000 in
theorem hx_shifted {q : Int64 → Prop} {w k : Nat} {x y : Int64} (hw : w < 100) (hk : k < 100) (h32 : 32 ≤ w ∧ w ≤ 34) (hp : q (ls_shf w k x y)) : wpX_shifted q (nI w) (nI k) x y := by
  have N : ∀ a w, a < 100 → w < 100 → a ≠ w → ¬ nI a = nI w := fun a w ha hw h => mt (ls_k8 ha hw).mp h
  have E : ∀ a w, a = w → nI a = nI w := fun a w h => by rw [h]
  unfold ls_shf at hp
  dsimp only at hp
  have G : ∀ z : Int32, z = (if k = 4 then 63 else 31) → wX_shifted_15 q (nI w) (nI k) x z y.toInt32 := by
    intro z hz
    rw [← hz] at hp
    refine nm_e (nm_e ?_)
    by_cases w33 : w = 33
    · rw [if_pos w33] at hp
      exact br_t (E w 33 w33) (nm_e hp)
    rw [if_neg w33] at hp
    refine br_f (N w 33 hw (by decide) w33) ?_
    by_cases w34 : w = 34
    · rw [if_pos w34] at hp
      refine br_t (E w 34 w34) ?_
      by_cases k4 : k = 4
      · rw [if_pos k4] at hp
        exact br_t (E k 4 k4) (nm_e hp)
      · rw [if_neg k4] at hp
        exact br_f (N k 4 hk (by decide) k4) (nm_e hp)
    · rw [if_neg w34] at hp
      exact br_f (N w 34 hw (by decide) w34) hp
  by_cases k4 : k = 4
  · exact br_t (E k 4 k4) (G 63 (by rw [if_pos k4]))
  · exact br_f (N k 4 hk (by decide) k4) (G 31 (by rw [if_neg k4]))
set_option maxHeartbeats 200000 in
theorem hx_compared {q : Int32 → Prop} {w : Nat} {x y : Int64} (hw : 35 ≤ w ∧ w ≤ 40) (h1 : ls_cmp w x y → q 1) (h0 : ¬ ls_cmp w x y → q 0) : wpX_compared q (nI w) x y := by
  have N : ∀ v, v < 100 → w ≠ v → ¬ nI w = nI v := fun v hv h => mt (ls_k8 (by omega) hv).mp h
  have E : ∀ v, w = v → nI w = nI v := fun v h => by rw [h]
  unfold ls_cmp at h1 h0
  refine br_f (nI_nlt (b := 35) hw.1 (by omega)) ?_
  by_cases w40 : w = 40
  · subst w40
    refine br_t (by decide) (br_c (fun h => h0 ?_) (fun h => h1 ?_))
    · simp [h]
    · simp [h]
  refine br_f (nI_nlt (a := 39) (by omega) (by decide)) ?_
  by_cases w35 : w = 35
  · subst w35
    refine br_t rfl (br_c (fun h => h0 ?_) (fun h => h1 ?_))
    · simp only [if_true]; exact Int64.not_lt.mpr h
    · simp only [if_true]; exact Int64.not_le.mp h
  refine br_f (N 35 (by decide) w35) ?_
  by_cases w36 : w = 36
  · subst w36
    refine br_t rfl (br_c (fun h => h0 ?_) (fun h => h1 ?_))
    · simp; exact h
    · simp; exact Int64.not_lt.mp h
  refine br_f (N 36 (by decide) w36) ?_
  by_cases w37 : w = 37
  · subst w37
    refine br_t rfl (br_c (fun h => h0 ?_) (fun h => h1 ?_))
    · simp; exact h
    · simp; exact Int64.not_le.mp h
  refine br_f (N 37 (by decide) w37) ?_
  by_cases w38 : w = 38
  · subst w38
    refine br_t rfl (br_c (fun h => h0 ?_) (fun h => h1 ?_))
    · simp; exact h
    · simp; exact Int64.not_lt.mp h
  refine br_f (N 38 (by decide) w38) ?_
  have w39 : w = 39 := by omega
  subst w39
  refine br_t rfl (br_c (fun h => h1 ?_) (fun h => h0 ?_))
  · simp; exact h
  · simp; exact h
set_option maxHeartbeats 200000 in
theorem hx_computed {q : Int64 → Prop} {w k : Nat} {x y : Int64} (hw : 24 ≤ w ∧ w ≤ 40) (hk : k < 100) (hk0 : 35 ≤ w → k = 0) (hy : w = 27 ∨ w = 28 → y ≠ 0) (hp : q (ls_val w k x y)) : wpX_computed q (nI w) (nI k) x y := by
  have N : ∀ v, v < 100 → w ≠ v → ¬ nI w = nI v := fun v hv h => mt (ls_k8 (by omega) hv).mp h
  have E : ∀ v, w = v → nI w = nI v := fun v h => by rw [h]
  unfold ls_val at hp
  refine br_f (nI_nlt (b := 24) hw.1 (by omega)) ?_
  by_cases w35 : 35 ≤ w
  · have k0 := hk0 w35
    subst k0
    rw [if_neg (by omega), if_neg (by omega), if_neg (by omega), if_neg (by omega), if_neg (by omega), if_neg (by omega), if_neg (by omega), if_neg (by omega), if_neg (by omega)] at hp
    refine br_t (nI_lt (a := 34) (by omega) (by omega)) ?_
    refine hx_compared ⟨w35, by omega⟩ (fun c => br_f (by decide) ?_) (fun c => br_t rfl ?_)
    · rw [if_pos c] at hp
      exact hx_narrowed (k := 0) (by decide) hp
    · rw [if_neg c] at hp
      exact hx_narrowed (k := 0) (by decide) hp
  refine br_f (nI_nlt (a := 34) (by omega) (by decide)) ?_
  by_cases w24 : w = 24
  · rw [if_pos w24] at hp
    exact br_t (E 24 w24) (nm_e (hx_narrowed hk hp))
  rw [if_neg w24] at hp
  refine br_f (N 24 (by decide) w24) ?_
  by_cases w25 : w = 25
  · rw [if_pos w25] at hp
    exact br_t (E 25 w25) (nm_e (hx_narrowed hk hp))
  rw [if_neg w25] at hp
  refine br_f (N 25 (by decide) w25) ?_
  by_cases w26 : w = 26
  · rw [if_pos w26] at hp
    exact br_t (E 26 w26) (nm_e (hx_narrowed hk hp))
  rw [if_neg w26] at hp
  refine br_f (N 26 (by decide) w26) ?_
  by_cases w27 : w = 27
  · rw [if_pos w27] at hp
    have y0 := hy (Or.inl w27)
    exact br_t (E 27 w27) (br_f y0 ⟨y0, hx_narrowed hk hp⟩)
  rw [if_neg w27] at hp
  refine br_f (N 27 (by decide) w27) ?_
  by_cases w28 : w = 28
  · rw [if_pos w28] at hp
    have y0 := hy (Or.inr w28)
    exact br_t (E 28 w28) (br_f y0 ⟨y0, hx_narrowed hk hp⟩)
  rw [if_neg w28] at hp
  refine br_f (N 28 (by decide) w28) ?_
  by_cases w29 : w = 29
  · rw [if_pos w29] at hp
    exact br_t (E 29 w29) (nm_e (hx_narrowed hk hp))
  rw [if_neg w29] at hp
  refine br_f (N 29 (by decide) w29) ?_
  by_cases w30 : w = 30
  · rw [if_pos w30] at hp
    exact br_t (E 30 w30) (nm_e (hx_narrowed hk hp))
  rw [if_neg w30] at hp
  refine br_f (N 30 (by decide) w30) ?_
  by_cases w31 : w = 31
  · rw [if_pos w31] at hp
    exact br_t (E 31 w31) (nm_e (hx_narrowed hk hp))
  rw [if_neg w31, if_pos (by omega)] at hp
  refine br_f (N 31 (by decide) w31) ?_
  have S : wX_computed_158 q (nI w) (nI k) x y := hx_shifted (by omega) hk ⟨by omega, by omega⟩ (hx_narrowed hk hp)
  exact br_c (fun _ => S) (fun n32 => br_c (fun _ => S) (fun n33 => br_c (fun _ => S) (fun n34 => by
    have a32 : w ≠ 32 := fun e => n32 (E 32 e)
    have a33 : w ≠ 33 := fun e => n33 (E 33 e)
    have a34 : w ≠ 34 := fun e => n34 (E 34 e)
    omega)))
set_option maxHeartbeats 200000 in
theorem hx_binaryKind {q : Int32 → Prop} {w a b : Nat} (hw : 24 ≤ w ∧ w ≤ 40) (ha : a < 100) (hb : b < 100) (h1 : ∀ k, ls_bk w a b = some k → q (nI k)) (h0 : ls_bk w a b = none → q (-1)) : wpX_binaryKind q (nI w) (nI a) (nI b) := by
  have N : ∀ a v, a < 100 → v < 100 → a ≠ v → ¬ nI a = nI v := fun a v ha hv h => mt (ls_k8 ha hv).mp h
  have E : ∀ a v, a = v → nI a = nI v := fun a v h => by rw [h]
  -- the answer: numeric x3, logical x4, bits x5, equality x6, kind x9
  have R146 : ∀ x3 x4 x5 x6 kd : Nat, x3 = (if a ≠ 0 ∧ b ≠ 0 then 1 else 0) → x4 = (if a = 0 ∧ b = 0 then 1 else 0) → x5 = (if 29 ≤ w ∧ w ≤ 31 then 1 else 0) → x6 = (if w = 39 ∨ w = 40 then 1 else 0) →
      (a ≠ 0 ∧ b ≠ 0 → kd = (if 35 ≤ w then 0 else if a = 4 ∨ (b = 4 ∧ w < 32) then 4 else 3)) → (a = 0 ∧ b = 0 → kd = 0) → wX_binaryKind_146 q (nI x3) (nI x4) (nI x5) (nI x6) (nI kd) := by
    intro x3 x4 x5 x6 kd e3 e4 e5 e6 k1 k2
    unfold ls_bk at h1 h0
    by_cases n : a ≠ 0 ∧ b ≠ 0
    · rw [if_pos n] at e3 h1
      have k1 := k1 n
      subst e3 k1
      exact br_f (by decide) (h1 _ rfl)
    · rw [if_neg n] at e3 h1 h0
      subst e3
      refine br_t rfl ?_
      by_cases l : a = 0 ∧ b = 0
      · rw [if_pos l] at e4
        have k2 := k2 l
        subst e4 k2
        refine br_f (by decide) ?_
        by_cases b5 : 29 ≤ w ∧ w ≤ 31
        · rw [if_pos b5] at e5
          subst e5
          exact br_f (by decide) (h1 0 (if_pos ⟨l.1, l.2, Or.inl b5⟩))
        · rw [if_neg b5] at e5
          subst e5
          refine br_t rfl ?_
          by_cases b6 : w = 39 ∨ w = 40
          · rw [if_pos b6] at e6
            subst e6
            exact br_f (by decide) (h1 0 (if_pos ⟨l.1, l.2, Or.inr (by omega)⟩))
          · rw [if_neg b6] at e6
            subst e6
            exact br_t rfl (h0 (if_neg (fun h => by omega)))
      · rw [if_neg l] at e4
        subst e4
        exact br_t rfl (h0 (if_neg (fun h => l ⟨h.1, h.2.1⟩)))
  have R131 : ∀ x3 x4 x5 x6 x8 kd : Nat, x3 = (if a ≠ 0 ∧ b ≠ 0 then 1 else 0) → x4 = (if a = 0 ∧ b = 0 then 1 else 0) → x5 = (if 29 ≤ w ∧ w ≤ 31 then 1 else 0) → x6 = (if w = 39 ∨ w = 40 then 1 else 0) → x8 = (if 35 ≤ w then 1 else 0) → kd = (if a = 4 ∨ (b = 4 ∧ w < 32) ∨ (b = 4 ∧ 34 < w) then 4 else 3) → wX_binaryKind_131 q (nI x3) (nI x4) (nI x5) (nI x6) (nI x8) (nI kd) := by
    intro x3 x4 x5 x6 x8 kd e3 e4 e5 e6 e8 ek
    by_cases c : 35 ≤ w
    · rw [if_pos c] at e8
      subst e8
      exact br_f (by decide) (R146 x3 x4 x5 x6 0 e3 e4 e5 e6 (fun _ => by rw [if_pos c]) (fun _ => rfl))
    · rw [if_neg c] at e8
      subst e8
      refine br_t rfl ?_
      by_cases l : a = 0 ∧ b = 0
      · have e4' := e4
        rw [if_pos l] at e4'
        refine br_f (by rw [e4']; decide) (R146 x3 x4 x5 x6 0 e3 e4 e5 e6 (fun h => absurd l.1 h.1) (fun _ => rfl))
      · have e4' := e4
        rw [if_neg l] at e4'
        refine br_t (by rw [e4']; rfl) (R146 x3 x4 x5 x6 kd e3 e4 e5 e6 (fun _ => ?_) (fun h => absurd h l))
        rw [if_neg c, ek]
        by_cases z : a = 4 ∨ (b = 4 ∧ w < 32)
        · rw [if_pos z, if_pos (by omega)]
        · rw [if_neg z, if_neg (by omega)]
  have R109 : ∀ x3 x4 x5 x6 x7 x8 : Nat, x3 = (if a ≠ 0 ∧ b ≠ 0 then 1 else 0) → x4 = (if a = 0 ∧ b = 0 then 1 else 0) → x5 = (if 29 ≤ w ∧ w ≤ 31 then 1 else 0) → x6 = (if w = 39 ∨ w = 40 then 1 else 0) → x7 = (if 32 ≤ w ∧ w ≤ 34 then 1 else 0) → x8 = (if 35 ≤ w then 1 else 0) → wX_binaryKind_109 q (nI a) (nI b) (nI x3) (nI x4) (nI x5) (nI x6) (nI x7) (nI x8) := by
    intro x3 x4 x5 x6 x7 x8 e3 e4 e5 e6 e7 e8
    by_cases a4 : a = 4
    · exact br_t (E a 4 a4) (R131 x3 x4 x5 x6 x8 4 e3 e4 e5 e6 e8 (by rw [if_pos (Or.inl a4)]))
    · refine br_f (N a 4 ha (by decide) a4) ?_
      by_cases b4 : b = 4
      · refine br_t (E b 4 b4) ?_
        by_cases s : 32 ≤ w ∧ w ≤ 34
        · rw [if_pos s] at e7
          subst e7
          exact br_f (by decide) (R131 x3 x4 x5 x6 x8 3 e3 e4 e5 e6 e8 (by rw [if_neg (by omega)]))
        · rw [if_neg s] at e7
          subst e7
          exact br_t rfl (R131 x3 x4 x5 x6 x8 4 e3 e4 e5 e6 e8 (by rw [if_pos (by omega)]))
      · exact br_f (N b 4 hb (by decide) b4) (R131 x3 x4 x5 x6 x8 3 e3 e4 e5 e6 e8 (by rw [if_neg (by omega)]))
  have R90 : ∀ x3 x4 x5 x6 x7 : Nat, x3 = (if a ≠ 0 ∧ b ≠ 0 then 1 else 0) → x4 = (if a = 0 ∧ b = 0 then 1 else 0) → x5 = (if 29 ≤ w ∧ w ≤ 31 then 1 else 0) → x6 = (if w = 39 ∨ w = 40 then 1 else 0) → x7 = (if 32 ≤ w ∧ w ≤ 34 then 1 else 0) → wX_binaryKind_90 q (nI w) (nI a) (nI b) (nI x3) (nI x4) (nI x5) (nI x6) (nI x7) := by
    intro x3 x4 x5 x6 x7 e3 e4 e5 e6 e7
    by_cases c : 35 ≤ w
    · exact br_f (nI_nlt (b := 35) c (by omega)) (br_f (nI_nlt (a := 40) (by omega) (by decide)) (R109 x3 x4 x5 x6 x7 1 e3 e4 e5 e6 e7 (by rw [if_pos c])))
    · exact br_t (nI_lt (b := 35) (by omega) (by decide)) (R109 x3 x4 x5 x6 x7 0 e3 e4 e5 e6 e7 (by rw [if_neg c]))
  have R71 : ∀ x3 x4 x5 x6 : Nat, x3 = (if a ≠ 0 ∧ b ≠ 0 then 1 else 0) → x4 = (if a = 0 ∧ b = 0 then 1 else 0) → x5 = (if 29 ≤ w ∧ w ≤ 31 then 1 else 0) → x6 = (if w = 39 ∨ w = 40 then 1 else 0) → wX_binaryKind_71 q (nI w) (nI a) (nI b) (nI x3) (nI x4) (nI x5) (nI x6) := by
    intro x3 x4 x5 x6 e3 e4 e5 e6
    by_cases c : w < 32
    · exact br_t (nI_lt (b := 32) c (by decide)) (R90 x3 x4 x5 x6 0 e3 e4 e5 e6 (by rw [if_neg (by omega)]))
    · refine br_f (nI_nlt (b := 32) (by omega) (by omega)) ?_
      by_cases d : 34 < w
      · exact br_t (nI_lt (a := 34) d (by omega)) (R90 x3 x4 x5 x6 0 e3 e4 e5 e6 (by rw [if_neg (by omega)]))
      · exact br_f (nI_nlt (a := 34) (by omega) (by decide)) (R90 x3 x4 x5 x6 1 e3 e4 e5 e6 (by rw [if_pos (by omega)]))
  have R52 : ∀ x3 x4 x5 : Nat, x3 = (if a ≠ 0 ∧ b ≠ 0 then 1 else 0) → x4 = (if a = 0 ∧ b = 0 then 1 else 0) → x5 = (if 29 ≤ w ∧ w ≤ 31 then 1 else 0) → wX_binaryKind_52 q (nI w) (nI a) (nI b) (nI x3) (nI x4) (nI x5) := by
    intro x3 x4 x5 e3 e4 e5
    by_cases c : w = 39
    · exact br_t (E w 39 c) (R71 x3 x4 x5 1 e3 e4 e5 (by rw [if_pos (Or.inl c)]))
    · refine br_f (N w 39 (by omega) (by decide) c) ?_
      by_cases d : w = 40
      · exact br_t (E w 40 d) (R71 x3 x4 x5 1 e3 e4 e5 (by rw [if_pos (Or.inr d)]))
      · exact br_f (N w 40 (by omega) (by decide) d) (R71 x3 x4 x5 0 e3 e4 e5 (by rw [if_neg (by omega)]))
  have R27 : ∀ x3 x4 : Nat, x3 = (if a ≠ 0 ∧ b ≠ 0 then 1 else 0) → x4 = (if a = 0 ∧ b = 0 then 1 else 0) → wX_binaryKind_27 q (nI w) (nI a) (nI b) (nI x3) (nI x4) := by
    intro x3 x4 e3 e4
    by_cases c : w = 29
    · exact br_t (E w 29 c) (R52 x3 x4 1 e3 e4 (by rw [if_pos (by omega)]))
    refine br_f (N w 29 (by omega) (by decide) c) ?_
    by_cases d : w = 30
    · exact br_t (E w 30 d) (R52 x3 x4 1 e3 e4 (by rw [if_pos (by omega)]))
    refine br_f (N w 30 (by omega) (by decide) d) ?_
    by_cases f : w = 31
    · exact br_t (E w 31 f) (R52 x3 x4 1 e3 e4 (by rw [if_pos (by omega)]))
    · exact br_f (N w 31 (by omega) (by decide) f) (R52 x3 x4 0 e3 e4 (by rw [if_neg (by omega)]))
  by_cases a0 : a = 0
  · refine br_t (E a 0 a0) (br_t (E a 0 a0) ?_)
    by_cases b0 : b = 0
    · exact br_t (E b 0 b0) (R27 0 1 (by rw [if_neg (fun h => h.1 a0)]) (by rw [if_pos ⟨a0, b0⟩]))
    · exact br_f (N b 0 hb (by decide) b0) (R27 0 0 (by rw [if_neg (fun h => h.1 a0)]) (by rw [if_neg (fun h => b0 h.2)]))
  · refine br_f (N a 0 ha (by decide) a0) ?_
    by_cases b0 : b = 0
    · refine br_t (E b 0 b0) (br_f (N a 0 ha (by decide) a0) (R27 0 0 (by rw [if_neg (fun h => h.2 b0)]) (by rw [if_neg (fun h => a0 h.1)])))
    · exact br_f (N b 0 hb (by decide) b0) (br_f (N a 0 ha (by decide) a0) (R27 1 0 (by rw [if_pos ⟨a0, b0⟩]) (by rw [if_neg (fun h => a0 h.1)])))
end
section
set_option maxHeartbeats 200000 in
theorem ls_t32 {v : Int64} (h : v.toInt32.toInt64 = v) : v.toInt32.toInt = v.toInt := by
  have := congrArg Int64.toInt h
  rwa [Int32.toInt_toInt64] at this
set_option maxHeartbeats 200000 in
theorem ls_nar1 {v : Int64} (h : v.toInt32.toInt64 = v) : ls_nar 1 v = v ↔ -128 ≤ v.toInt ∧ v.toInt ≤ 127 := by
  have e := ls_t32 h
  show v.toInt32.toInt8.toInt32.toInt64 = v ↔ _
  constructor
  · intro g
    have := congrArg Int64.toInt g
    rw [Int32.toInt_toInt64, Int8.toInt_toInt32] at this
    have b1 := Int8.le_toInt v.toInt32.toInt8
    have b2 := Int8.toInt_lt v.toInt32.toInt8
    omega
  · intro ⟨g1, g2⟩
    rw [ls_i8 v.toInt32 (by omega) (by omega)]
    exact h
set_option maxHeartbeats 200000 in
theorem ls_nar2 {v : Int64} (h : v.toInt32.toInt64 = v) : ls_nar 2 v = v ↔ 0 ≤ v.toInt ∧ v.toInt ≤ 65535 := by
  have e := ls_t32 h
  show ((v.toInt32.toUInt32 % 65536).toInt32).toInt64 = v ↔ _
  rw [pk_char]
  constructor
  · intro g
    have := congrArg Int64.toInt g
    rw [Int32.toInt_toInt64, nI_toInt (by omega)] at this
    omega
  · intro ⟨g1, g2⟩
    have hb : v.toInt32.toBitVec.toNat % 65536 = v.toInt32.toBitVec.toNat ∧ v.toInt32 = nI v.toInt32.toBitVec.toNat := by
      obtain ⟨j, hj, ej⟩ := nI_of (x := v.toInt32) (by
        intro hlt
        have := Int32.lt_iff_toInt_lt.mp hlt
        have z : (0 : Int32).toInt = 0 := by decide
        omega)
      have t := nI_toInt hj
      rw [← ej, e] at t
      rw [ej, pk_tn (by omega)]
      exact ⟨by omega, rfl⟩
    rw [hb.1, ← hb.2]
    exact h
section
variable {f_tickLimit f_tokenCount f_outCount f_error f_errorPlace f_lastKind f_codeSize f_methodCount f_methodTokens f_cellCount f_activeCalls f_next f_ticksLeft f_state f_pos f_expressionStart f_pendingCount f_frameTop f_localCount : Int32}
variable {f_lastValue : Int64}
variable {a_tokenCode a_tokenValue a_outKind a_codeOp a_codeArg a_codeKind a_codePlace a_methodSign a_methodStart a_declared a_cellKind a_callReturn a_pendingLevel a_pendingPlace a_pendingMore a_frameKind a_frameMore a_localName : Nat → Int32}
variable {a_outValue a_cellValue : Nat → Int64}
variable {post : SX → Prop} {at0 cc w k : Nat} {v : Int64}
set_option maxHeartbeats 200000 in
/-- an operation's end: a value on top, or a fault of kind or division -/
theorem hx_unary (ha : at0 < 761) (hc : 88 ≤ cc ∧ cc < 376) (hw : w = 22 ∨ w = 23 ∨ w = 24 ∨ w = 25) (e1 : a_codeArg at0 = nI w) (e2 : a_cellKind cc = nI k) (hk : k < 100) (e3 : a_cellValue cc = v)
    (h1 : ∀ k' v', ls_un w k v = some (k', v') → post (f_tickLimit, f_tokenCount, f_outCount, f_error, f_errorPlace, f_lastKind, f_lastValue, f_codeSize, f_methodCount, f_methodTokens, nI (cc + 1), f_activeCalls, f_next, f_ticksLeft, f_state, f_pos, f_expressionStart, f_pendingCount, f_frameTop, f_localCount, a_tokenCode, a_tokenValue, a_outKind, a_outValue, a_codeOp, a_codeArg, a_codeKind, a_codePlace, a_methodSign, a_methodStart, a_declared, upd a_cellKind cc (nI k'), vp_updL a_cellValue cc v', a_callReturn, a_pendingLevel, a_pendingPlace, a_pendingMore, a_frameKind, a_frameMore, a_localName))
    (h0 : ls_un w k v = none → post (f_tickLimit, f_tokenCount, f_outCount, 3, a_codePlace at0, f_lastKind, f_lastValue, f_codeSize, f_methodCount, f_methodTokens, nI cc, f_activeCalls, f_next, f_ticksLeft, f_state, f_pos, f_expressionStart, f_pendingCount, f_frameTop, f_localCount, a_tokenCode, a_tokenValue, a_outKind, a_outValue, a_codeOp, a_codeArg, a_codeKind, a_codePlace, a_methodSign, a_methodStart, a_declared, a_cellKind, a_cellValue, a_callReturn, a_pendingLevel, a_pendingPlace, a_pendingMore, a_frameKind, a_frameMore, a_localName)) : wpX_applyUnary post (f_tickLimit, f_tokenCount, f_outCount, f_error, f_errorPlace, f_lastKind, f_lastValue, f_codeSize, f_methodCount, f_methodTokens, nI (cc + 1), f_activeCalls, f_next, f_ticksLeft, f_state, f_pos, f_expressionStart, f_pendingCount, f_frameTop, f_localCount, a_tokenCode, a_tokenValue, a_outKind, a_outValue, a_codeOp, a_codeArg, a_codeKind, a_codePlace, a_methodSign, a_methodStart, a_declared, a_cellKind, a_cellValue, a_callReturn, a_pendingLevel, a_pendingPlace, a_pendingMore, a_frameKind, a_frameMore, a_localName) (nI at0) := by
  have N : ∀ a v, a < 100 → v < 100 → a ≠ v → ¬ nI a = nI v := fun a v ha hv h => mt (ls_k8 ha hv).mp h
  have E : ∀ a v, a = v → nI a = nI v := fun a v h => by rw [h]
  have ia : vp_in (nI at0) 761 := vp_in_nI ha (by decide)
  have ea : (nI at0).toNatClampNeg = at0 := nI_clamp (by omega)
  have ic : vp_in (nI cc) 376 := vp_in_nI hc.2 (by decide)
  have ec : (nI cc).toNatClampNeg = cc := nI_clamp (by omega)
  unfold wpX_applyUnary
  dsimp only
  refine ⟨ia, ?_⟩
  rw [ea, e1]
  refine nm_e (hx_pop hc.1 hc.2 ?_)
  dsimp only
  refine ⟨ic, ?_⟩
  rw [ec, e2]
  refine nm_e ⟨ic, ?_⟩
  rw [e3]
  refine nm_e ?_
  have F : ls_un w k v = none → wpX_fail (fun u => match u with | (f_tickLimit, f_tokenCount, f_outCount, f_error, f_errorPlace, f_lastKind, f_lastValue, f_codeSize, f_methodCount, f_methodTokens, f_cellCount, f_activeCalls, f_next, f_ticksLeft, f_state, f_pos, f_expressionStart, f_pendingCount, f_frameTop, f_localCount, a_tokenCode, a_tokenValue, a_outKind, a_outValue, a_codeOp, a_codeArg, a_codeKind, a_codePlace, a_methodSign, a_methodStart, a_declared, a_cellKind, a_cellValue, a_callReturn, a_pendingLevel, a_pendingPlace, a_pendingMore, a_frameKind, a_frameMore, a_localName) => post (f_tickLimit, f_tokenCount, f_outCount, f_error, f_errorPlace, f_lastKind, f_lastValue, f_codeSize, f_methodCount, f_methodTokens, f_cellCount, f_activeCalls, f_next, f_ticksLeft, f_state, f_pos, f_expressionStart, f_pendingCount, f_frameTop, f_localCount, a_tokenCode, a_tokenValue, a_outKind, a_outValue, a_codeOp, a_codeArg, a_codeKind, a_codePlace, a_methodSign, a_methodStart, a_declared, a_cellKind, a_cellValue, a_callReturn, a_pendingLevel, a_pendingPlace, a_pendingMore, a_frameKind, a_frameMore, a_localName)) (f_tickLimit, f_tokenCount, f_outCount, f_error, f_errorPlace, f_lastKind, f_lastValue, f_codeSize, f_methodCount, f_methodTokens, nI cc, f_activeCalls, f_next, f_ticksLeft, f_state, f_pos, f_expressionStart, f_pendingCount, f_frameTop, f_localCount, a_tokenCode, a_tokenValue, a_outKind, a_outValue, a_codeOp, a_codeArg, a_codeKind, a_codePlace, a_methodSign, a_methodStart, a_declared, a_cellKind, a_cellValue, a_callReturn, a_pendingLevel, a_pendingPlace, a_pendingMore, a_frameKind, a_frameMore, a_localName) 3 (a_codePlace at0) := h0
  unfold ls_un at h1 h0 F
  have G126 : ∀ k' : Nat, k' < 100 → ∀ z : Int64, post (f_tickLimit, f_tokenCount, f_outCount, f_error, f_errorPlace, f_lastKind, f_lastValue, f_codeSize, f_methodCount, f_methodTokens, nI (cc + 1), f_activeCalls, f_next, f_ticksLeft, f_state, f_pos, f_expressionStart, f_pendingCount, f_frameTop, f_localCount, a_tokenCode, a_tokenValue, a_outKind, a_outValue, a_codeOp, a_codeArg, a_codeKind, a_codePlace, a_methodSign, a_methodStart, a_declared, upd a_cellKind cc (nI k'), vp_updL a_cellValue cc (ls_nar k' z), a_callReturn, a_pendingLevel, a_pendingPlace, a_pendingMore, a_frameKind, a_frameMore, a_localName) → wX_applyUnary_126 post (nI k') z f_tickLimit f_tokenCount f_outCount f_error f_errorPlace f_lastKind f_lastValue f_codeSize f_methodCount f_methodTokens (nI cc) f_activeCalls f_next f_ticksLeft f_state f_pos f_expressionStart f_pendingCount f_frameTop f_localCount a_tokenCode a_tokenValue a_outKind a_outValue a_codeOp a_codeArg a_codeKind a_codePlace a_methodSign a_methodStart a_declared a_cellKind a_cellValue a_callReturn a_pendingLevel a_pendingPlace a_pendingMore a_frameKind a_frameMore a_localName := fun k' hk' z hp =>
    hx_narrowed hk' (hx_push hc.2 hp)
  have G49 : ∀ z0 z1 : Nat, z0 = (if w = 22 then 1 else 0) → z1 = (if k = 0 then 1 else 0) → wX_applyUnary_49 post (nI at0) (nI w) (nI k) v (nI z0) (nI z1) f_tickLimit f_tokenCount f_outCount f_error f_errorPlace f_lastKind f_lastValue f_codeSize f_methodCount f_methodTokens (nI cc) f_activeCalls f_next f_ticksLeft f_state f_pos f_expressionStart f_pendingCount f_frameTop f_localCount a_tokenCode a_tokenValue a_outKind a_outValue a_codeOp a_codeArg a_codeKind a_codePlace a_methodSign a_methodStart a_declared a_cellKind a_cellValue a_callReturn a_pendingLevel a_pendingPlace a_pendingMore a_frameKind a_frameMore a_localName := by
    intro z0 z1 ez0 ez1
    by_cases w22 : w = 22
    · rw [if_pos w22] at ez0 h1 h0 F
      subst ez0
      by_cases k0 : k = 0
      · rw [if_pos k0] at ez1 h1
        subst ez1
        exact br_t rfl (br_t (E w 22 w22) (hx_push hc.2 (h1 _ _ rfl)))
      · rw [if_neg k0] at ez1 F
        subst ez1
        refine br_f (by decide) ⟨ia, ?_⟩
        rw [ea]
        exact F rfl
    · rw [if_neg w22] at ez0 h1 h0 F
      subst ez0
      by_cases k0 : k = 0
      · rw [if_pos k0] at ez1 F
        subst ez1
        refine br_f (by decide) ⟨ia, ?_⟩
        rw [ea]
        exact F rfl
      · rw [if_neg k0] at ez1 h1
        subst ez1
        refine br_t rfl (br_f (N w 22 (by omega) (by decide) w22) ?_)
        have h1' := h1 _ _ rfl
        have G95 : ∀ k' : Nat, k' = (if k = 4 then 4 else 3) → wX_applyUnary_95 post (nI w) v (nI k') f_tickLimit f_tokenCount f_outCount f_error f_errorPlace f_lastKind f_lastValue f_codeSize f_methodCount f_methodTokens (nI cc) f_activeCalls f_next f_ticksLeft f_state f_pos f_expressionStart f_pendingCount f_frameTop f_localCount a_tokenCode a_tokenValue a_outKind a_outValue a_codeOp a_codeArg a_codeKind a_codePlace a_methodSign a_methodStart a_declared a_cellKind a_cellValue a_callReturn a_pendingLevel a_pendingPlace a_pendingMore a_frameKind a_frameMore a_localName := by
          intro k' ek
          rw [← ek] at h1'
          have k'8 : k' < 100 := by rw [ek]; split <;> decide
          by_cases w25 : w = 25
          · rw [if_pos w25] at h1'
            exact br_t (E w 25 w25) (G126 k' k'8 _ h1')
          rw [if_neg w25] at h1'
          refine br_f (N w 25 (by omega) (by decide) w25) ?_
          by_cases w23 : w = 23
          · rw [if_pos w23] at h1'
            exact br_t (E w 23 w23) (G126 k' k'8 _ h1')
          · rw [if_neg w23] at h1'
            exact br_f (N w 23 (by omega) (by decide) w23) (G126 k' k'8 _ h1')
        by_cases k4 : k = 4
        · exact br_t (E k 4 k4) (G95 4 (by rw [if_pos k4]))
        · exact br_f (N k 4 hk (by decide) k4) (G95 3 (by rw [if_neg k4]))
  have G38 : ∀ z1 : Nat, z1 = (if k = 0 then 1 else 0) → wX_applyUnary_38 post (nI at0) (nI w) (nI k) v (nI z1) f_tickLimit f_tokenCount f_outCount f_error f_errorPlace f_lastKind f_lastValue f_codeSize f_methodCount f_methodTokens (nI cc) f_activeCalls f_next f_ticksLeft f_state f_pos f_expressionStart f_pendingCount f_frameTop f_localCount a_tokenCode a_tokenValue a_outKind a_outValue a_codeOp a_codeArg a_codeKind a_codePlace a_methodSign a_methodStart a_declared a_cellKind a_cellValue a_callReturn a_pendingLevel a_pendingPlace a_pendingMore a_frameKind a_frameMore a_localName := by
    intro z1 ez1
    by_cases w22 : w = 22
    · exact br_t (E w 22 w22) (G49 1 z1 (by rw [if_pos w22]) ez1)
    · exact br_f (N w 22 (by omega) (by decide) w22) (G49 0 z1 (by rw [if_neg w22]) ez1)
  by_cases k0 : k = 0
  · exact br_t (E k 0 k0) (G38 1 (by rw [if_pos k0]))
  · exact br_f (N k 0 hk (by decide) k0) (G38 0 (by rw [if_neg k0]))
set_option maxHeartbeats 200000 in
theorem hx_cast {t : Nat} (ha : at0 < 761) (hc : 88 ≤ cc ∧ cc < 376) (ht : t < 100) (e1 : a_codeKind at0 = nI t) (e2 : a_cellKind cc = nI k) (hk : k < 100) (e3 : a_cellValue cc = v)
    (h1 : ∀ k' v', ls_cst t k v = some (k', v') → post (f_tickLimit, f_tokenCount, f_outCount, f_error, f_errorPlace, f_lastKind, f_lastValue, f_codeSize, f_methodCount, f_methodTokens, nI (cc + 1), f_activeCalls, f_next, f_ticksLeft, f_state, f_pos, f_expressionStart, f_pendingCount, f_frameTop, f_localCount, a_tokenCode, a_tokenValue, a_outKind, a_outValue, a_codeOp, a_codeArg, a_codeKind, a_codePlace, a_methodSign, a_methodStart, a_declared, upd a_cellKind cc (nI k'), vp_updL a_cellValue cc v', a_callReturn, a_pendingLevel, a_pendingPlace, a_pendingMore, a_frameKind, a_frameMore, a_localName))
    (h0 : ls_cst t k v = none → post (f_tickLimit, f_tokenCount, f_outCount, 3, a_codePlace at0, f_lastKind, f_lastValue, f_codeSize, f_methodCount, f_methodTokens, nI cc, f_activeCalls, f_next, f_ticksLeft, f_state, f_pos, f_expressionStart, f_pendingCount, f_frameTop, f_localCount, a_tokenCode, a_tokenValue, a_outKind, a_outValue, a_codeOp, a_codeArg, a_codeKind, a_codePlace, a_methodSign, a_methodStart, a_declared, a_cellKind, a_cellValue, a_callReturn, a_pendingLevel, a_pendingPlace, a_pendingMore, a_frameKind, a_frameMore, a_localName)) : wpX_applyCast post (f_tickLimit, f_tokenCount, f_outCount, f_error, f_errorPlace, f_lastKind, f_lastValue, f_codeSize, f_methodCount, f_methodTokens, nI (cc + 1), f_activeCalls, f_next, f_ticksLeft, f_state, f_pos, f_expressionStart, f_pendingCount, f_frameTop, f_localCount, a_tokenCode, a_tokenValue, a_outKind, a_outValue, a_codeOp, a_codeArg, a_codeKind, a_codePlace, a_methodSign, a_methodStart, a_declared, a_cellKind, a_cellValue, a_callReturn, a_pendingLevel, a_pendingPlace, a_pendingMore, a_frameKind, a_frameMore, a_localName) (nI at0) := by
  have N : ∀ a v, a < 100 → v < 100 → a ≠ v → ¬ nI a = nI v := fun a v ha hv h => mt (ls_k8 ha hv).mp h
  have E : ∀ a v, a = v → nI a = nI v := fun a v h => by rw [h]
  have ia : vp_in (nI at0) 761 := vp_in_nI ha (by decide)
  have ea : (nI at0).toNatClampNeg = at0 := nI_clamp (by omega)
  have ic : vp_in (nI cc) 376 := vp_in_nI hc.2 (by decide)
  have ec : (nI cc).toNatClampNeg = cc := nI_clamp (by omega)
  unfold wpX_applyCast
  dsimp only
  refine ⟨ia, ?_⟩
  rw [ea, e1]
  refine nm_e (hx_pop hc.1 hc.2 ?_)
  dsimp only
  refine ⟨ic, ?_⟩
  rw [ec, e2]
  unfold ls_cst at h1 h0
  have G35 : ∀ z0 z1 : Nat, z0 = (if t = 0 then 1 else 0) → z1 = (if k = 0 then 1 else 0) → wX_applyCast_35 post (nI at0) (nI t) (nI cc) (nI z0) (nI z1) f_tickLimit f_tokenCount f_outCount f_error f_errorPlace f_lastKind f_lastValue f_codeSize f_methodCount f_methodTokens (nI cc) f_activeCalls f_next f_ticksLeft f_state f_pos f_expressionStart f_pendingCount f_frameTop f_localCount a_tokenCode a_tokenValue a_outKind a_outValue a_codeOp a_codeArg a_codeKind a_codePlace a_methodSign a_methodStart a_declared a_cellKind a_cellValue a_callReturn a_pendingLevel a_pendingPlace a_pendingMore a_frameKind a_frameMore a_localName := by
    intro z0 z1 ez0 ez1
    by_cases c : (k = 0 ↔ t = 0)
    · rw [if_pos c] at h1
      have ez : nI z1 = nI z0 := by
        rw [ez0, ez1]
        by_cases k0 : k = 0
        · rw [if_pos k0, if_pos (c.mp k0)]
        · rw [if_neg k0, if_neg (fun h => k0 (c.mpr h))]
      refine br_t ez ⟨ic, ?_⟩
      rw [ec, e3]
      exact hx_narrowed ht (hx_push hc.2 (h1 _ _ rfl))
    · rw [if_neg c] at h0
      refine br_f ?_ ⟨ia, ?_⟩
      · rw [ez0, ez1]
        by_cases k0 : k = 0
        · rw [if_pos k0, if_neg (fun h => c ⟨fun _ => h, fun _ => k0⟩)]; decide
        · by_cases t0 : t = 0
          · rw [if_neg k0, if_pos t0]; decide
          · exact absurd (show (k = 0 ↔ t = 0) from ⟨fun h => absurd h k0, fun h => absurd h t0⟩) c
      · rw [ea]
        exact h0 rfl
  have G26 : ∀ z1 : Nat, z1 = (if k = 0 then 1 else 0) → wX_applyCast_26 post (nI at0) (nI t) (nI cc) (nI z1) f_tickLimit f_tokenCount f_outCount f_error f_errorPlace f_lastKind f_lastValue f_codeSize f_methodCount f_methodTokens (nI cc) f_activeCalls f_next f_ticksLeft f_state f_pos f_expressionStart f_pendingCount f_frameTop f_localCount a_tokenCode a_tokenValue a_outKind a_outValue a_codeOp a_codeArg a_codeKind a_codePlace a_methodSign a_methodStart a_declared a_cellKind a_cellValue a_callReturn a_pendingLevel a_pendingPlace a_pendingMore a_frameKind a_frameMore a_localName := by
    intro z1 ez1
    by_cases t0 : t = 0
    · exact br_t (E t 0 t0) (G35 1 z1 (by rw [if_pos t0]) ez1)
    · exact br_f (N t 0 ht (by decide) t0) (G35 0 z1 (by rw [if_neg t0]) ez1)
  by_cases k0 : k = 0
  · exact br_t (E k 0 k0) (G26 1 (by rw [if_pos k0]))
  · exact br_f (N k 0 hk (by decide) k0) (G26 0 (by rw [if_neg k0]))
set_option maxHeartbeats 200000 in
theorem hx_binary {a b : Nat} {x y : Int64} (ha : at0 < 761) (hc : 88 ≤ cc ∧ cc + 1 < 376) (hw : 24 ≤ w ∧ w ≤ 40) (e1 : a_codeArg at0 = nI w) (e2 : a_cellKind cc = nI a) (e3 : a_cellKind (cc + 1) = nI b) (hka : a < 100) (hkb : b < 100) (e4 : a_cellValue cc = x) (e5 : a_cellValue (cc + 1) = y)
    (h1 : ∀ k' v', ls_bin w a b x y = .ok (k', v') → post (f_tickLimit, f_tokenCount, f_outCount, f_error, f_errorPlace, f_lastKind, f_lastValue, f_codeSize, f_methodCount, f_methodTokens, nI (cc + 1), f_activeCalls, f_next, f_ticksLeft, f_state, f_pos, f_expressionStart, f_pendingCount, f_frameTop, f_localCount, a_tokenCode, a_tokenValue, a_outKind, a_outValue, a_codeOp, a_codeArg, a_codeKind, a_codePlace, a_methodSign, a_methodStart, a_declared, upd a_cellKind cc (nI k'), vp_updL a_cellValue cc v', a_callReturn, a_pendingLevel, a_pendingPlace, a_pendingMore, a_frameKind, a_frameMore, a_localName))
    (h0 : ∀ e : Nat, ls_bin w a b x y = .error e → post (f_tickLimit, f_tokenCount, f_outCount, nI e, a_codePlace at0, f_lastKind, f_lastValue, f_codeSize, f_methodCount, f_methodTokens, nI cc, f_activeCalls, f_next, f_ticksLeft, f_state, f_pos, f_expressionStart, f_pendingCount, f_frameTop, f_localCount, a_tokenCode, a_tokenValue, a_outKind, a_outValue, a_codeOp, a_codeArg, a_codeKind, a_codePlace, a_methodSign, a_methodStart, a_declared, a_cellKind, a_cellValue, a_callReturn, a_pendingLevel, a_pendingPlace, a_pendingMore, a_frameKind, a_frameMore, a_localName)) : wpX_applyBinary post (f_tickLimit, f_tokenCount, f_outCount, f_error, f_errorPlace, f_lastKind, f_lastValue, f_codeSize, f_methodCount, f_methodTokens, nI (cc + 2), f_activeCalls, f_next, f_ticksLeft, f_state, f_pos, f_expressionStart, f_pendingCount, f_frameTop, f_localCount, a_tokenCode, a_tokenValue, a_outKind, a_outValue, a_codeOp, a_codeArg, a_codeKind, a_codePlace, a_methodSign, a_methodStart, a_declared, a_cellKind, a_cellValue, a_callReturn, a_pendingLevel, a_pendingPlace, a_pendingMore, a_frameKind, a_frameMore, a_localName) (nI at0) := by
  have N : ∀ a v, a < 100 → v < 100 → a ≠ v → ¬ nI a = nI v := fun a v ha hv h => mt (ls_k8 ha hv).mp h
  have E : ∀ a v, a = v → nI a = nI v := fun a v h => by rw [h]
  have ia : vp_in (nI at0) 761 := vp_in_nI ha (by decide)
  have ea : (nI at0).toNatClampNeg = at0 := nI_clamp (by omega)
  have ic : vp_in (nI cc) 376 := vp_in_nI (by omega) (by decide)
  have ec : (nI cc).toNatClampNeg = cc := nI_clamp (by omega)
  have ic1 : vp_in (nI (cc + 1)) 376 := vp_in_nI hc.2 (by decide)
  have ec1 : (nI (cc + 1)).toNatClampNeg = cc + 1 := nI_clamp (by omega)
  unfold wpX_applyBinary
  dsimp only
  refine ⟨ia, ?_⟩
  rw [ea, e1]
  refine nm_e (hx_pop (cc := cc + 1) (by omega) hc.2 ?_)
  dsimp only
  refine hx_pop hc.1 (by omega) ?_
  dsimp only
  refine ⟨ic, ic1, ?_⟩
  rw [ec, ec1, e2, e3]
  unfold ls_bin at h1 h0
  have bk3 : ∀ kd, ls_bk w a b = some kd → kd < 100 ∧ (35 ≤ w → kd = 0) := by
    intro kd h
    unfold ls_bk at h
    split at h
    · injection h with h
      subst h
      refine ⟨by (repeat' split) <;> decide, fun c => by rw [if_pos c]⟩
    · split at h
      · injection h with h
        subst h
        exact ⟨by decide, fun _ => rfl⟩
      · cases h
  have G106 : ∀ kd, ls_bk w a b = some kd → ¬ ((w = 27 ∨ w = 28) ∧ y = 0) → wX_applyBinary_106 post (nI w) (nI (cc + 1)) (nI cc) (nI kd) f_tickLimit f_tokenCount f_outCount f_error f_errorPlace f_lastKind f_lastValue f_codeSize f_methodCount f_methodTokens (nI cc) f_activeCalls f_next f_ticksLeft f_state f_pos f_expressionStart f_pendingCount f_frameTop f_localCount a_tokenCode a_tokenValue a_outKind a_outValue a_codeOp a_codeArg a_codeKind a_codePlace a_methodSign a_methodStart a_declared a_cellKind a_cellValue a_callReturn a_pendingLevel a_pendingPlace a_pendingMore a_frameKind a_frameMore a_localName := by
    intro kd hb hz
    rw [hb] at h1
    dsimp only at h1
    rw [if_neg hz] at h1
    refine ⟨ic, ic1, ?_⟩
    rw [ec, ec1, e4, e5]
    exact hx_computed hw (bk3 kd hb).1 (bk3 kd hb).2 (fun h hy => hz ⟨h, hy⟩) (hx_push (by omega) (h1 _ _ rfl))
  have G54 : ∀ (r : Int32), (∀ kd, ls_bk w a b = some kd → r = nI kd) → (ls_bk w a b = none → r = -1) → ∀ z0 : Nat, z0 = (if w = 27 ∨ w = 28 then 1 else 0) → wX_applyBinary_54 post (nI at0) (nI w) (nI (cc + 1)) (nI cc) r (nI z0) f_tickLimit f_tokenCount f_outCount f_error f_errorPlace f_lastKind f_lastValue f_codeSize f_methodCount f_methodTokens (nI cc) f_activeCalls f_next f_ticksLeft f_state f_pos f_expressionStart f_pendingCount f_frameTop f_localCount a_tokenCode a_tokenValue a_outKind a_outValue a_codeOp a_codeArg a_codeKind a_codePlace a_methodSign a_methodStart a_declared a_cellKind a_cellValue a_callReturn a_pendingLevel a_pendingPlace a_pendingMore a_frameKind a_frameMore a_localName := by
    intro r hr1 hr0 z0 ez
    cases hb : ls_bk w a b with
    | none =>
      rw [hr0 hb]
      rw [hb] at h0
      refine br_t rfl ⟨ia, ?_⟩
      rw [ea]
      exact h0 3 rfl
    | some kd =>
      rw [hr1 kd hb]
      refine br_f (ls_nm1 (by have := (bk3 kd hb).1; omega)) ?_
      by_cases d : w = 27 ∨ w = 28
      · rw [if_pos d] at ez
        subst ez
        refine br_f (by decide) ⟨ic1, ?_⟩
        rw [ec1, e5]
        by_cases y0 : y = 0
        · rw [hb] at h0
          dsimp only at h0
          rw [if_pos ⟨d, y0⟩] at h0
          refine br_t y0 ⟨ia, ?_⟩
          rw [ea]
          exact h0 4 rfl
        · exact br_f y0 (G106 kd hb (fun h => y0 h.2))
      · rw [if_neg d] at ez
        subst ez
        exact br_t rfl (G106 kd hb (fun h => d h.1))
  have GG : ∀ (r : Int32), (∀ kd, ls_bk w a b = some kd → r = nI kd) → (ls_bk w a b = none → r = -1) → ((nI w = 27 → wX_applyBinary_49 post (nI at0) (nI w) (nI (cc + 1)) (nI cc) r f_tickLimit f_tokenCount f_outCount f_error f_errorPlace f_lastKind f_lastValue f_codeSize f_methodCount f_methodTokens (nI cc) f_activeCalls f_next f_ticksLeft f_state f_pos f_expressionStart f_pendingCount f_frameTop f_localCount a_tokenCode a_tokenValue a_outKind a_outValue a_codeOp a_codeArg a_codeKind a_codePlace a_methodSign a_methodStart a_declared a_cellKind a_cellValue a_callReturn a_pendingLevel a_pendingPlace a_pendingMore a_frameKind a_frameMore a_localName) ∧ (¬ nI w = 27 → ((nI w = 28 → wX_applyBinary_49 post (nI at0) (nI w) (nI (cc + 1)) (nI cc) r f_tickLimit f_tokenCount f_outCount f_error f_errorPlace f_lastKind f_lastValue f_codeSize f_methodCount f_methodTokens (nI cc) f_activeCalls f_next f_ticksLeft f_state f_pos f_expressionStart f_pendingCount f_frameTop f_localCount a_tokenCode a_tokenValue a_outKind a_outValue a_codeOp a_codeArg a_codeKind a_codePlace a_methodSign a_methodStart a_declared a_cellKind a_cellValue a_callReturn a_pendingLevel a_pendingPlace a_pendingMore a_frameKind a_frameMore a_localName) ∧ (¬ nI w = 28 → wX_applyBinary_54 post (nI at0) (nI w) (nI (cc + 1)) (nI cc) r 0 f_tickLimit f_tokenCount f_outCount f_error f_errorPlace f_lastKind f_lastValue f_codeSize f_methodCount f_methodTokens (nI cc) f_activeCalls f_next f_ticksLeft f_state f_pos f_expressionStart f_pendingCount f_frameTop f_localCount a_tokenCode a_tokenValue a_outKind a_outValue a_codeOp a_codeArg a_codeKind a_codePlace a_methodSign a_methodStart a_declared a_cellKind a_cellValue a_callReturn a_pendingLevel a_pendingPlace a_pendingMore a_frameKind a_frameMore a_localName)))) := by
    intro r hr1 hr0
    by_cases w27 : w = 27
    · exact br_t (E w 27 w27) (G54 r hr1 hr0 1 (by rw [if_pos (Or.inl w27)]))
    refine br_f (N w 27 (by omega) (by decide) w27) ?_
    by_cases w28 : w = 28
    · exact br_t (E w 28 w28) (G54 r hr1 hr0 1 (by rw [if_pos (Or.inr w28)]))
    · exact br_f (N w 28 (by omega) (by decide) w28) (G54 r hr1 hr0 0 (by rw [if_neg (fun h => h.elim w27 w28)]))
  refine hx_binaryKind hw hka hkb (fun kd hb => GG _ (fun kd' hb' => ?_) (fun hb' => ?_)) (fun hb => GG _ (fun kd' hb' => ?_) (fun _ => rfl))
  · rw [hb] at hb'
    injection hb' with hb'
    rw [hb']
  · rw [hb] at hb'; cases hb'
  · rw [hb] at hb'; cases hb'
set_option maxHeartbeats 200000 in
/-- the conversion to a declared kind -/
theorem hx_converted {q : Int32 → Prop} {t : Nat} {cst : Bool} {cz : Int32} (hcz : cz = if cst then 1 else 0) (hc : cc < 376) (ht : t ≤ 5) (e2 : a_cellKind cc = nI k) (hk : k ≤ 4) (e3 : a_cellValue cc = v) (hwf : ls_wf k v)
    (h1 : ∀ k', ls_cnv t cst k v = some k' → q (nI k')) (h0 : ls_cnv t cst k v = none → q (-1)) : wpX_convertedKind q (f_tickLimit, f_tokenCount, f_outCount, f_error, f_errorPlace, f_lastKind, f_lastValue, f_codeSize, f_methodCount, f_methodTokens, f_cellCount, f_activeCalls, f_next, f_ticksLeft, f_state, f_pos, f_expressionStart, f_pendingCount, f_frameTop, f_localCount, a_tokenCode, a_tokenValue, a_outKind, a_outValue, a_codeOp, a_codeArg, a_codeKind, a_codePlace, a_methodSign, a_methodStart, a_declared, a_cellKind, a_cellValue, a_callReturn, a_pendingLevel, a_pendingPlace, a_pendingMore, a_frameKind, a_frameMore, a_localName) (nI t) cz (nI cc) := by
  have N : ∀ a v, a < 100 → v < 100 → a ≠ v → ¬ nI a = nI v := fun a v ha hv h => mt (ls_k8 ha hv).mp h
  have E : ∀ a v, a = v → nI a = nI v := fun a v h => by rw [h]
  have ic : vp_in (nI cc) 376 := vp_in_nI hc (by decide)
  have ec : (nI cc).toNatClampNeg = cc := nI_clamp (by omega)
  unfold wpX_convertedKind
  dsimp only
  refine ⟨ic, ?_⟩
  rw [ec, e2]
  refine nm_e ⟨ic, ?_⟩
  rw [e3]
  refine nm_e ?_
  unfold ls_cnv at h1 h0
  -- the end: x7 tells whether a constant narrows
  have G127 : ∀ x7 z0 : Nat, z0 = (if t = 5 then k else t) → (x7 = 1 → (cst = true ∧ (k = 1 ∨ k = 2 ∨ k = 3) ∧ (t = 1 ∨ t = 2) ∧ ls_nar t v = v)) → (x7 = 0 → ¬ (cst = true ∧ (k = 1 ∨ k = 2 ∨ k = 3) ∧ (t = 1 ∨ t = 2) ∧ ls_nar t v = v)) → x7 ≤ 1 → wX_convertedKind_127 q (nI t) (nI k) (nI x7) (nI z0) f_tickLimit f_tokenCount f_outCount f_error f_errorPlace f_lastKind f_lastValue f_codeSize f_methodCount f_methodTokens f_cellCount f_activeCalls f_next f_ticksLeft f_state f_pos f_expressionStart f_pendingCount f_frameTop f_localCount a_tokenCode a_tokenValue a_outKind a_outValue a_codeOp a_codeArg a_codeKind a_codePlace a_methodSign a_methodStart a_declared a_cellKind a_cellValue a_callReturn a_pendingLevel a_pendingPlace a_pendingMore a_frameKind a_frameMore a_localName := by
    intro x7 z0 ez h7 h7' le
    by_cases q7 : x7 = 0
    · subst q7
      refine br_t rfl (hx_fits (by omega) (by omega) (fun hf => br_f (by decide) ?_) (fun hf => br_t rfl ?_))
      · rw [if_pos (Or.inl hf)] at h1
        rw [ez]; exact h1 _ rfl
      · rw [if_neg (fun h => h.elim (fun g => by rw [hf] at g; cases g) (h7' rfl))] at h0
        exact h0 rfl
    · have q7 : x7 = 1 := by omega
      subst q7
      rw [if_pos (Or.inr (h7 rfl))] at h1
      refine br_f (by decide) ?_
      rw [ez]; exact h1 _ rfl
  have G116 : ∀ x7 : Nat, (x7 = 1 → (cst = true ∧ (k = 1 ∨ k = 2 ∨ k = 3) ∧ (t = 1 ∨ t = 2) ∧ ls_nar t v = v)) → (x7 = 0 → ¬ (cst = true ∧ (k = 1 ∨ k = 2 ∨ k = 3) ∧ (t = 1 ∨ t = 2) ∧ ls_nar t v = v)) → x7 ≤ 1 → wX_convertedKind_116 q (nI t) (nI k) (nI x7) f_tickLimit f_tokenCount f_outCount f_error f_errorPlace f_lastKind f_lastValue f_codeSize f_methodCount f_methodTokens f_cellCount f_activeCalls f_next f_ticksLeft f_state f_pos f_expressionStart f_pendingCount f_frameTop f_localCount a_tokenCode a_tokenValue a_outKind a_outValue a_codeOp a_codeArg a_codeKind a_codePlace a_methodSign a_methodStart a_declared a_cellKind a_cellValue a_callReturn a_pendingLevel a_pendingPlace a_pendingMore a_frameKind a_frameMore a_localName := by
    intro x7 h7 h7' le
    by_cases t5 : t = 5
    · exact br_t (E t 5 t5) (G127 x7 k (by rw [if_pos t5]) h7 h7' le)
    · exact br_f (N t 5 (by omega) (by decide) t5) (G127 x7 t (by rw [if_neg t5]) h7 h7' le)
  cases cst with
  | false =>
    rw [hcz]
    exact br_t rfl (G116 0 (fun h => by omega) (fun _ h => by cases h.1) (by decide))
  | true =>
    rw [hcz]
    refine br_f (by decide) ?_
    by_cases k123 : k = 1 ∨ k = 2 ∨ k = 3
    · have w32 := hwf.2.2 k123
      have c41 : wX_convertedKind_41 q (nI t) (nI k) v f_tickLimit f_tokenCount f_outCount f_error f_errorPlace f_lastKind f_lastValue f_codeSize f_methodCount f_methodTokens f_cellCount f_activeCalls f_next f_ticksLeft f_state f_pos f_expressionStart f_pendingCount f_frameTop f_localCount a_tokenCode a_tokenValue a_outKind a_outValue a_codeOp a_codeArg a_codeKind a_codePlace a_methodSign a_methodStart a_declared a_cellKind a_cellValue a_callReturn a_pendingLevel a_pendingPlace a_pendingMore a_frameKind a_frameMore a_localName := by
        have Z : ¬ ((t = 1 ∨ t = 2) ∧ ls_nar t v = v) → wX_convertedKind_113 q (nI t) (nI k) f_tickLimit f_tokenCount f_outCount f_error f_errorPlace f_lastKind f_lastValue f_codeSize f_methodCount f_methodTokens f_cellCount f_activeCalls f_next f_ticksLeft f_state f_pos f_expressionStart f_pendingCount f_frameTop f_localCount a_tokenCode a_tokenValue a_outKind a_outValue a_codeOp a_codeArg a_codeKind a_codePlace a_methodSign a_methodStart a_declared a_cellKind a_cellValue a_callReturn a_pendingLevel a_pendingPlace a_pendingMore a_frameKind a_frameMore a_localName := fun h => G116 0 (fun h => by omega) (fun _ g => h g.2.2) (by decide)
        have O : (t = 1 ∨ t = 2) → ls_nar t v = v → wX_convertedKind_109 q (nI t) (nI k) f_tickLimit f_tokenCount f_outCount f_error f_errorPlace f_lastKind f_lastValue f_codeSize f_methodCount f_methodTokens f_cellCount f_activeCalls f_next f_ticksLeft f_state f_pos f_expressionStart f_pendingCount f_frameTop f_localCount a_tokenCode a_tokenValue a_outKind a_outValue a_codeOp a_codeArg a_codeKind a_codePlace a_methodSign a_methodStart a_declared a_cellKind a_cellValue a_callReturn a_pendingLevel a_pendingPlace a_pendingMore a_frameKind a_frameMore a_localName := fun h1 h2 => G116 1 (fun _ => ⟨rfl, k123, h1, h2⟩) (fun h => by omega) (by decide)
        have C99 : ∀ x9 : Nat, x9 ≤ 1 → (x9 = 1 ↔ ls_nar 2 v = v) → (t = 1 → ¬ ls_nar 1 v = v) → wX_convertedKind_99 q (nI t) (nI k) (nI x9) f_tickLimit f_tokenCount f_outCount f_error f_errorPlace f_lastKind f_lastValue f_codeSize f_methodCount f_methodTokens f_cellCount f_activeCalls f_next f_ticksLeft f_state f_pos f_expressionStart f_pendingCount f_frameTop f_localCount a_tokenCode a_tokenValue a_outKind a_outValue a_codeOp a_codeArg a_codeKind a_codePlace a_methodSign a_methodStart a_declared a_cellKind a_cellValue a_callReturn a_pendingLevel a_pendingPlace a_pendingMore a_frameKind a_frameMore a_localName := by
          intro x9 l9 h9 ht1
          by_cases t2 : t = 2
          · refine br_t (E t 2 t2) ?_
            by_cases q9 : x9 = 1
            · refine br_f (by rw [q9]; decide) (O (Or.inr t2) ?_)
              rw [t2]; exact h9.mp q9
            · have : x9 = 0 := by omega
              subst this
              refine br_t rfl (Z (fun h => ?_))
              rw [t2] at h
              exact q9 (h9.mpr h.2)
          · refine br_f (N t 2 (by omega) (by decide) t2) (Z (fun h => ?_))
            have t1 : t = 1 := by omega
            rw [t1] at h
            exact ht1 t1 h.2
        have C87 : ∀ x8 x9 : Nat, x8 ≤ 1 → x9 ≤ 1 → (x8 = 1 ↔ ls_nar 1 v = v) → (x9 = 1 ↔ ls_nar 2 v = v) → wX_convertedKind_87 q (nI t) (nI k) (nI x8) (nI x9) f_tickLimit f_tokenCount f_outCount f_error f_errorPlace f_lastKind f_lastValue f_codeSize f_methodCount f_methodTokens f_cellCount f_activeCalls f_next f_ticksLeft f_state f_pos f_expressionStart f_pendingCount f_frameTop f_localCount a_tokenCode a_tokenValue a_outKind a_outValue a_codeOp a_codeArg a_codeKind a_codePlace a_methodSign a_methodStart a_declared a_cellKind a_cellValue a_callReturn a_pendingLevel a_pendingPlace a_pendingMore a_frameKind a_frameMore a_localName := by
          intro x8 x9 l8 l9 h8 h9
          by_cases t1 : t = 1
          · refine br_t (E t 1 t1) ?_
            by_cases q8 : x8 = 1
            · refine br_f (by rw [q8]; decide) (O (Or.inl t1) ?_)
              rw [t1]; exact h8.mp q8
            · have : x8 = 0 := by omega
              subst this
              exact br_t rfl (C99 x9 l9 h9 (fun _ h => q8 (h8.mpr h)))
          · exact br_f (N t 1 (by omega) (by decide) t1) (C99 x9 l9 h9 (fun h => absurd h t1))
        have C64 : ∀ x8 : Nat, x8 ≤ 1 → (x8 = 1 ↔ ls_nar 1 v = v) → wX_convertedKind_64 q (nI t) (nI k) v (nI x8) f_tickLimit f_tokenCount f_outCount f_error f_errorPlace f_lastKind f_lastValue f_codeSize f_methodCount f_methodTokens f_cellCount f_activeCalls f_next f_ticksLeft f_state f_pos f_expressionStart f_pendingCount f_frameTop f_localCount a_tokenCode a_tokenValue a_outKind a_outValue a_codeOp a_codeArg a_codeKind a_codePlace a_methodSign a_methodStart a_declared a_cellKind a_cellValue a_callReturn a_pendingLevel a_pendingPlace a_pendingMore a_frameKind a_frameMore a_localName := by
          intro x8 l8 h8
          refine br_c (fun h => C87 x8 0 l8 (by decide) h8 ?_) (fun h => br_c (fun g => C87 x8 0 l8 (by decide) h8 ?_) (fun g => C87 x8 1 l8 (by decide) h8 ?_))
          · exact ⟨fun e => by omega, fun e => absurd ((ls_nar2 w32).mp e) (fun r => by have := Int64.lt_iff_toInt_lt.mp h; have z : (0 : Int64).toInt = 0 := (by decide); omega)⟩
          · exact ⟨fun e => by omega, fun e => absurd ((ls_nar2 w32).mp e) (fun r => by have := Int64.lt_iff_toInt_lt.mp g; have z : (65535 : Int64).toInt = 65535 := (by decide); omega)⟩
          · refine ⟨fun _ => (ls_nar2 w32).mpr ?_, fun _ => rfl⟩
            have h' := Int64.not_lt.mp h
            have g' := Int64.not_lt.mp g
            have a1 := Int64.le_iff_toInt_le.mp h'
            have a2 := Int64.le_iff_toInt_le.mp g'
            have z : (0 : Int64).toInt = 0 := by decide
            have z2 : (65535 : Int64).toInt = 65535 := by decide
            omega
        refine br_c (fun h => C64 0 (by decide) ?_) (fun h => br_c (fun g => C64 0 (by decide) ?_) (fun g => C64 1 (by decide) ?_))
        · exact ⟨fun e => by omega, fun e => absurd ((ls_nar1 w32).mp e) (fun r => by have := Int64.lt_iff_toInt_lt.mp h; have z : (-128 : Int64).toInt = -128 := (by decide); omega)⟩
        · exact ⟨fun e => by omega, fun e => absurd ((ls_nar1 w32).mp e) (fun r => by have := Int64.lt_iff_toInt_lt.mp g; have z : (127 : Int64).toInt = 127 := (by decide); omega)⟩
        · refine ⟨fun _ => (ls_nar1 w32).mpr ?_, fun _ => rfl⟩
          have h' := Int64.not_lt.mp h
          have g' := Int64.not_lt.mp g
          have a1 := Int64.le_iff_toInt_le.mp h'
          have a2 := Int64.le_iff_toInt_le.mp g'
          have z : (-128 : Int64).toInt = -128 := by decide
          have z2 : (127 : Int64).toInt = 127 := by decide
          omega
      rcases k123 with h | h | h
      · exact br_t (E k 1 h) c41
      · exact br_f (N k 1 (by omega) (by decide) (by omega)) (br_t (E k 2 h) c41)
      · exact br_f (N k 1 (by omega) (by decide) (by omega)) (br_f (N k 2 (by omega) (by decide) (by omega)) (br_t (E k 3 h) c41))
    · refine br_f (N k 1 (by omega) (by decide) (by omega)) (br_f (N k 2 (by omega) (by decide) (by omega)) (br_f (N k 3 (by omega) (by decide) (by omega)) ?_))
      exact G116 0 (fun h => by omega) (fun _ h => k123 h.2.1) (by decide)
end
end
section
set_option maxHeartbeats 200000 in
theorem ls_a8 : ∀ x : Fin 16, (nI x.1 &&& 8 = 0 ↔ x.1 < 8) := by decide +kernel
set_option maxHeartbeats 200000 in
theorem ls_a7 : ∀ x : Fin 16, nI x.1 &&& 7 = nI (x.1 % 8) := by decide +kernel
def ls_cell (a ac : Nat) : Nat := if a < 16 then a else a + 8 * ac
set_option maxHeartbeats 200000 in
theorem ls_cell_lt {a ac : Nat} (ha : a < 24) (hac : ac ≤ 8) : ls_cell a ac < 88 := by
  unfold ls_cell
  split <;> omega
section
variable {f_tickLimit f_tokenCount f_outCount f_error f_errorPlace f_lastKind f_codeSize f_methodCount f_methodTokens f_cellCount f_activeCalls f_next f_ticksLeft f_state f_pos f_expressionStart f_pendingCount f_frameTop f_localCount : Int32}
variable {f_lastValue : Int64}
variable {a_tokenCode a_tokenValue a_outKind a_codeOp a_codeArg a_codeKind a_codePlace a_methodSign a_methodStart a_declared a_cellKind a_callReturn a_pendingLevel a_pendingPlace a_pendingMore a_frameKind a_frameMore a_localName : Nat → Int32}
variable {a_outValue a_cellValue : Nat → Int64}
variable {post : SX → Prop} {p2 : Int32 → SX → Prop} {at0 cc ac k : Nat} {v : Int64}
set_option maxHeartbeats 200000 in
theorem hx_cellOf {q : Int32 → Prop} {a : Nat} (ha : a < 24) (hac : ac ≤ 8) (hp : q (nI (ls_cell a ac))) : wpX_cellOf q (f_tickLimit, f_tokenCount, f_outCount, f_error, f_errorPlace, f_lastKind, f_lastValue, f_codeSize, f_methodCount, f_methodTokens, f_cellCount, nI ac, f_next, f_ticksLeft, f_state, f_pos, f_expressionStart, f_pendingCount, f_frameTop, f_localCount, a_tokenCode, a_tokenValue, a_outKind, a_outValue, a_codeOp, a_codeArg, a_codeKind, a_codePlace, a_methodSign, a_methodStart, a_declared, a_cellKind, a_cellValue, a_callReturn, a_pendingLevel, a_pendingPlace, a_pendingMore, a_frameKind, a_frameMore, a_localName) (nI a) := by
  have lt := ls_cell_lt ha hac
  have G : ∀ z : Nat, z = ls_cell a ac → wX_cellOf_19 q (nI z) f_tickLimit f_tokenCount f_outCount f_error f_errorPlace f_lastKind f_lastValue f_codeSize f_methodCount f_methodTokens f_cellCount (nI ac) f_next f_ticksLeft f_state f_pos f_expressionStart f_pendingCount f_frameTop f_localCount a_tokenCode a_tokenValue a_outKind a_outValue a_codeOp a_codeArg a_codeKind a_codePlace a_methodSign a_methodStart a_declared a_cellKind a_cellValue a_callReturn a_pendingLevel a_pendingPlace a_pendingMore a_frameKind a_frameMore a_localName := by
    intro z hz
    subst hz
    exact br_f (nI_pos (by omega)) (br_f (nI_ge (b := 88) lt (by decide)) hp)
  unfold wpX_cellOf
  dsimp only
  by_cases a16 : a < 16
  · exact br_f (nI_ge (b := 16) a16 (by decide)) (G a (by unfold ls_cell; rw [if_pos a16]))
  · refine br_t (nI_le (a := 16) (by omega) (by omega)) ?_
    rw [show (8 : Int32) = nI 8 from rfl, pk_mul, nI_add]
    exact G _ (by unfold ls_cell; rw [if_neg a16, Nat.mul_comm])
set_option maxHeartbeats 200000 in
theorem hx_tick {tl : Nat} {p : Int32} (htl : tl < 1000) (h1 : 0 < tl → post (f_tickLimit, f_tokenCount, f_outCount, f_error, f_errorPlace, f_lastKind, f_lastValue, f_codeSize, f_methodCount, f_methodTokens, f_cellCount, f_activeCalls, f_next, nI (tl - 1), f_state, f_pos, f_expressionStart, f_pendingCount, f_frameTop, f_localCount, a_tokenCode, a_tokenValue, a_outKind, a_outValue, a_codeOp, a_codeArg, a_codeKind, a_codePlace, a_methodSign, a_methodStart, a_declared, a_cellKind, a_cellValue, a_callReturn, a_pendingLevel, a_pendingPlace, a_pendingMore, a_frameKind, a_frameMore, a_localName)) (h0 : tl = 0 → post (f_tickLimit, f_tokenCount, f_outCount, 9, p, f_lastKind, f_lastValue, f_codeSize, f_methodCount, f_methodTokens, f_cellCount, f_activeCalls, f_next, nI tl, f_state, f_pos, f_expressionStart, f_pendingCount, f_frameTop, f_localCount, a_tokenCode, a_tokenValue, a_outKind, a_outValue, a_codeOp, a_codeArg, a_codeKind, a_codePlace, a_methodSign, a_methodStart, a_declared, a_cellKind, a_cellValue, a_callReturn, a_pendingLevel, a_pendingPlace, a_pendingMore, a_frameKind, a_frameMore, a_localName)) : wpX_spendTick post (f_tickLimit, f_tokenCount, f_outCount, f_error, f_errorPlace, f_lastKind, f_lastValue, f_codeSize, f_methodCount, f_methodTokens, f_cellCount, f_activeCalls, f_next, nI tl, f_state, f_pos, f_expressionStart, f_pendingCount, f_frameTop, f_localCount, a_tokenCode, a_tokenValue, a_outKind, a_outValue, a_codeOp, a_codeArg, a_codeKind, a_codePlace, a_methodSign, a_methodStart, a_declared, a_cellKind, a_cellValue, a_callReturn, a_pendingLevel, a_pendingPlace, a_pendingMore, a_frameKind, a_frameMore, a_localName) p := by
  cases tl with
  | zero => exact br_t (by decide) (h0 rfl)
  | succ t => exact br_f (nI_nle (by omega) (by omega)) (nm_r (nI_pred t) (h1 (by omega)))
set_option maxHeartbeats 200000 in
theorem hx_load {a : Nat} (ha : at0 < 761) (hc : cc < 376) (h24 : a < 24) (hac : ac ≤ 8) (e1 : a_codeArg at0 = nI a)
    (h1 : a_declared (ls_cell a ac) ≠ -1 → post (f_tickLimit, f_tokenCount, f_outCount, f_error, f_errorPlace, f_lastKind, f_lastValue, f_codeSize, f_methodCount, f_methodTokens, nI (cc + 1), nI ac, f_next, f_ticksLeft, f_state, f_pos, f_expressionStart, f_pendingCount, f_frameTop, f_localCount, a_tokenCode, a_tokenValue, a_outKind, a_outValue, a_codeOp, a_codeArg, a_codeKind, a_codePlace, a_methodSign, a_methodStart, a_declared, upd a_cellKind cc (a_cellKind (ls_cell a ac)), vp_updL a_cellValue cc (a_cellValue (ls_cell a ac)), a_callReturn, a_pendingLevel, a_pendingPlace, a_pendingMore, a_frameKind, a_frameMore, a_localName))
    (h0 : a_declared (ls_cell a ac) = -1 → post (f_tickLimit, f_tokenCount, f_outCount, 2, a_codePlace at0, f_lastKind, f_lastValue, f_codeSize, f_methodCount, f_methodTokens, nI cc, nI ac, f_next, f_ticksLeft, f_state, f_pos, f_expressionStart, f_pendingCount, f_frameTop, f_localCount, a_tokenCode, a_tokenValue, a_outKind, a_outValue, a_codeOp, a_codeArg, a_codeKind, a_codePlace, a_methodSign, a_methodStart, a_declared, a_cellKind, a_cellValue, a_callReturn, a_pendingLevel, a_pendingPlace, a_pendingMore, a_frameKind, a_frameMore, a_localName)) : wpX_load post (f_tickLimit, f_tokenCount, f_outCount, f_error, f_errorPlace, f_lastKind, f_lastValue, f_codeSize, f_methodCount, f_methodTokens, nI cc, nI ac, f_next, f_ticksLeft, f_state, f_pos, f_expressionStart, f_pendingCount, f_frameTop, f_localCount, a_tokenCode, a_tokenValue, a_outKind, a_outValue, a_codeOp, a_codeArg, a_codeKind, a_codePlace, a_methodSign, a_methodStart, a_declared, a_cellKind, a_cellValue, a_callReturn, a_pendingLevel, a_pendingPlace, a_pendingMore, a_frameKind, a_frameMore, a_localName) (nI at0) := by
  have ia : vp_in (nI at0) 761 := vp_in_nI ha (by decide)
  have ea : (nI at0).toNatClampNeg = at0 := nI_clamp (by omega)
  have lt := ls_cell_lt h24 hac
  have ei : (nI (ls_cell a ac)).toNatClampNeg = ls_cell a ac := nI_clamp (by omega)
  unfold wpX_load
  dsimp only
  refine ⟨ia, ?_⟩
  rw [ea, e1]
  refine hx_cellOf h24 hac ⟨vp_in_nI lt (by decide), ?_⟩
  rw [ei]
  refine br_c (fun h => ⟨ia, h0 h⟩) (fun h => ⟨vp_in_nI (by omega) (by decide), vp_in_nI (by omega) (by decide), hx_push hc (h1 h)⟩)
set_option maxHeartbeats 200000 in
theorem hx_put {cell : Nat} {kd : Int32} {x : Int64} (hc : cell < 376) (hp : post (f_tickLimit, f_tokenCount, f_outCount, f_error, f_errorPlace, f_lastKind, f_lastValue, f_codeSize, f_methodCount, f_methodTokens, f_cellCount, f_activeCalls, f_next, f_ticksLeft, f_state, f_pos, f_expressionStart, f_pendingCount, f_frameTop, f_localCount, a_tokenCode, a_tokenValue, a_outKind, a_outValue, a_codeOp, a_codeArg, a_codeKind, a_codePlace, a_methodSign, a_methodStart, a_declared, upd a_cellKind cell kd, vp_updL a_cellValue cell x, a_callReturn, a_pendingLevel, a_pendingPlace, a_pendingMore, a_frameKind, a_frameMore, a_localName)) : wpX_put post (f_tickLimit, f_tokenCount, f_outCount, f_error, f_errorPlace, f_lastKind, f_lastValue, f_codeSize, f_methodCount, f_methodTokens, f_cellCount, f_activeCalls, f_next, f_ticksLeft, f_state, f_pos, f_expressionStart, f_pendingCount, f_frameTop, f_localCount, a_tokenCode, a_tokenValue, a_outKind, a_outValue, a_codeOp, a_codeArg, a_codeKind, a_codePlace, a_methodSign, a_methodStart, a_declared, a_cellKind, a_cellValue, a_callReturn, a_pendingLevel, a_pendingPlace, a_pendingMore, a_frameKind, a_frameMore, a_localName) (nI cell) kd x := by
  have i : vp_in (nI cell) 376 := vp_in_nI hc (by decide)
  have e : (nI cell).toNatClampNeg = cell := nI_clamp (by omega)
  exact ⟨i, nm_r (by rw [e]) ⟨i, nm_r (by rw [e]) hp⟩⟩
set_option maxHeartbeats 200000 in
theorem hx_store {cell t kk : Nat} (ha : at0 < 761) (hc : 88 ≤ cc ∧ cc < 376) (hcl : cell < 88) (ht : t ≤ 5) (hkk : kk < 16) (e1 : a_codeKind at0 = nI kk) (e2 : a_cellKind cc = nI k) (hk : k ≤ 4) (e3 : a_cellValue cc = v) (hwf : ls_wf k v)
    (h1 : ∀ k', ls_cnv t (decide (8 ≤ kk)) k v = some k' → k' < 100 → p2 1 (f_tickLimit, f_tokenCount, f_outCount, f_error, f_errorPlace, f_lastKind, f_lastValue, f_codeSize, f_methodCount, f_methodTokens, nI cc, f_activeCalls, f_next, f_ticksLeft, f_state, f_pos, f_expressionStart, f_pendingCount, f_frameTop, f_localCount, a_tokenCode, a_tokenValue, a_outKind, a_outValue, a_codeOp, a_codeArg, a_codeKind, a_codePlace, a_methodSign, a_methodStart, upd a_declared cell (nI t), upd a_cellKind cell (nI k'), vp_updL a_cellValue cell v, a_callReturn, a_pendingLevel, a_pendingPlace, a_pendingMore, a_frameKind, a_frameMore, a_localName))
    (h0 : ls_cnv t (decide (8 ≤ kk)) k v = none → p2 0 (f_tickLimit, f_tokenCount, f_outCount, 3, a_codePlace at0, f_lastKind, f_lastValue, f_codeSize, f_methodCount, f_methodTokens, nI cc, f_activeCalls, f_next, f_ticksLeft, f_state, f_pos, f_expressionStart, f_pendingCount, f_frameTop, f_localCount, a_tokenCode, a_tokenValue, a_outKind, a_outValue, a_codeOp, a_codeArg, a_codeKind, a_codePlace, a_methodSign, a_methodStart, a_declared, a_cellKind, a_cellValue, a_callReturn, a_pendingLevel, a_pendingPlace, a_pendingMore, a_frameKind, a_frameMore, a_localName)) : wpX_storeConverted p2 (f_tickLimit, f_tokenCount, f_outCount, f_error, f_errorPlace, f_lastKind, f_lastValue, f_codeSize, f_methodCount, f_methodTokens, nI (cc + 1), f_activeCalls, f_next, f_ticksLeft, f_state, f_pos, f_expressionStart, f_pendingCount, f_frameTop, f_localCount, a_tokenCode, a_tokenValue, a_outKind, a_outValue, a_codeOp, a_codeArg, a_codeKind, a_codePlace, a_methodSign, a_methodStart, a_declared, a_cellKind, a_cellValue, a_callReturn, a_pendingLevel, a_pendingPlace, a_pendingMore, a_frameKind, a_frameMore, a_localName) (nI cell) (nI t) (nI at0) := by
  have ia : vp_in (nI at0) 761 := vp_in_nI ha (by decide)
  have ea : (nI at0).toNatClampNeg = at0 := nI_clamp (by omega)
  have ic : vp_in (nI cc) 376 := vp_in_nI hc.2 (by decide)
  have ec : (nI cc).toNatClampNeg = cc := nI_clamp (by omega)
  unfold wpX_storeConverted
  refine hx_pop hc.1 hc.2 ?_
  dsimp only
  refine ⟨ia, ?_⟩
  rw [ea, e1]
  have G : ∀ cz : Int32, (cz = if decide (8 ≤ kk) = true then 1 else 0) → wX_storeConverted_23 p2 (nI cell) (nI t) (nI at0) (nI cc) cz f_tickLimit f_tokenCount f_outCount f_error f_errorPlace f_lastKind f_lastValue f_codeSize f_methodCount f_methodTokens (nI cc) f_activeCalls f_next f_ticksLeft f_state f_pos f_expressionStart f_pendingCount f_frameTop f_localCount a_tokenCode a_tokenValue a_outKind a_outValue a_codeOp a_codeArg a_codeKind a_codePlace a_methodSign a_methodStart a_declared a_cellKind a_cellValue a_callReturn a_pendingLevel a_pendingPlace a_pendingMore a_frameKind a_frameMore a_localName := by
    intro cz hcz
    unfold wX_storeConverted_23
    refine hx_converted hcz hc.2 ht e2 hk e3 hwf (fun k' hk' => ?_) (fun hn => ?_)
    · have k8 : k' < 100 := by
        unfold ls_cnv at hk'
        split at hk'
        · injection hk' with hk'
          subst hk'
          split <;> omega
        · cases hk'
      refine br_f (ls_nm1 (by omega)) ⟨vp_in_nI hcl (by decide), nm_r (by rw [nI_clamp (by omega)]) ⟨ic, ?_⟩⟩
      rw [ec, e3]
      refine hx_put (by omega) ?_
      exact br_f (ls_nm1 (by omega)) (h1 k' hk' k8)
    · refine br_t rfl ⟨ia, ?_⟩
      rw [ea]
      exact br_t rfl (h0 hn)
  by_cases k8 : kk < 8
  · exact br_t ((ls_a8 ⟨kk, hkk⟩).mpr k8) (G 0 (by rw [if_neg]; simp; omega))
  · exact br_f (mt (ls_a8 ⟨kk, hkk⟩).mp k8) (G 1 (by rw [if_pos]; simp; omega))
set_option maxHeartbeats 200000 in
theorem hx_decide {z d : Nat} (ha : at0 < 761) (hc : 88 ≤ cc ∧ cc < 376) (e1 : a_codeKind at0 = nI z) (hz : z ≤ 1) (e2 : a_cellKind cc = nI k) (hk : k < 100) (e3 : a_cellValue cc = v)
    (h0 : k ≠ 0 → post (f_tickLimit, f_tokenCount, f_outCount, 3, a_codePlace at0, f_lastKind, f_lastValue, f_codeSize, f_methodCount, f_methodTokens, nI cc, f_activeCalls, f_next, f_ticksLeft, f_state, f_pos, f_expressionStart, f_pendingCount, f_frameTop, f_localCount, a_tokenCode, a_tokenValue, a_outKind, a_outValue, a_codeOp, a_codeArg, a_codeKind, a_codePlace, a_methodSign, a_methodStart, a_declared, a_cellKind, a_cellValue, a_callReturn, a_pendingLevel, a_pendingPlace, a_pendingMore, a_frameKind, a_frameMore, a_localName))
    (h1 : k = 0 → v = lN z → post (f_tickLimit, f_tokenCount, f_outCount, f_error, f_errorPlace, f_lastKind, f_lastValue, f_codeSize, f_methodCount, f_methodTokens, nI (cc + 1), f_activeCalls, nI at0 + a_codeArg at0, f_ticksLeft, f_state, f_pos, f_expressionStart, f_pendingCount, f_frameTop, f_localCount, a_tokenCode, a_tokenValue, a_outKind, a_outValue, a_codeOp, a_codeArg, a_codeKind, a_codePlace, a_methodSign, a_methodStart, a_declared, upd a_cellKind cc 0, vp_updL a_cellValue cc v, a_callReturn, a_pendingLevel, a_pendingPlace, a_pendingMore, a_frameKind, a_frameMore, a_localName))
    (h2 : k = 0 → v ≠ lN z → post (f_tickLimit, f_tokenCount, f_outCount, f_error, f_errorPlace, f_lastKind, f_lastValue, f_codeSize, f_methodCount, f_methodTokens, nI cc, f_activeCalls, f_next, f_ticksLeft, f_state, f_pos, f_expressionStart, f_pendingCount, f_frameTop, f_localCount, a_tokenCode, a_tokenValue, a_outKind, a_outValue, a_codeOp, a_codeArg, a_codeKind, a_codePlace, a_methodSign, a_methodStart, a_declared, a_cellKind, a_cellValue, a_callReturn, a_pendingLevel, a_pendingPlace, a_pendingMore, a_frameKind, a_frameMore, a_localName)) : wpX_decide post (f_tickLimit, f_tokenCount, f_outCount, f_error, f_errorPlace, f_lastKind, f_lastValue, f_codeSize, f_methodCount, f_methodTokens, nI (cc + 1), f_activeCalls, f_next, f_ticksLeft, f_state, f_pos, f_expressionStart, f_pendingCount, f_frameTop, f_localCount, a_tokenCode, a_tokenValue, a_outKind, a_outValue, a_codeOp, a_codeArg, a_codeKind, a_codePlace, a_methodSign, a_methodStart, a_declared, a_cellKind, a_cellValue, a_callReturn, a_pendingLevel, a_pendingPlace, a_pendingMore, a_frameKind, a_frameMore, a_localName) (nI at0) := by
  have ia : vp_in (nI at0) 761 := vp_in_nI ha (by decide)
  have ea : (nI at0).toNatClampNeg = at0 := nI_clamp (by omega)
  have ic : vp_in (nI cc) 376 := vp_in_nI hc.2 (by decide)
  have ec : (nI cc).toNatClampNeg = cc := nI_clamp (by omega)
  have ez : (nI z).toInt64 = lN z := nI_l (by omega)
  unfold wpX_decide
  dsimp only
  refine hx_pop hc.1 hc.2 ?_
  dsimp only
  refine ⟨ic, ?_⟩
  rw [ec, e2]
  by_cases k0 : k = 0
  · refine br_t (by rw [k0]; rfl) ⟨ic, ia, ?_⟩
    rw [ea, e3, e1, ez]
    by_cases vz : v = lN z
    · refine br_t vz ⟨ic, ?_⟩
      refine hx_push hc.2 ?_
      dsimp only
      exact ⟨ia, nm_e (h1 k0 vz)⟩
    · exact br_f vz (h2 k0 vz)
  · refine br_f (mt (ls_k8 (b := 0) hk (by decide)).mp k0) ⟨ia, ?_⟩
    rw [ea]
    exact h0 k0
set_option maxHeartbeats 200000 in
theorem hx_needBoolean (ha : at0 < 761) (hc : 88 ≤ cc ∧ cc < 376) (e2 : a_cellKind cc = nI k) (hk : k < 100) (e3 : a_cellValue cc = v)
    (h0 : k ≠ 0 → post (f_tickLimit, f_tokenCount, f_outCount, 3, a_codePlace at0, f_lastKind, f_lastValue, f_codeSize, f_methodCount, f_methodTokens, nI cc, f_activeCalls, f_next, f_ticksLeft, f_state, f_pos, f_expressionStart, f_pendingCount, f_frameTop, f_localCount, a_tokenCode, a_tokenValue, a_outKind, a_outValue, a_codeOp, a_codeArg, a_codeKind, a_codePlace, a_methodSign, a_methodStart, a_declared, a_cellKind, a_cellValue, a_callReturn, a_pendingLevel, a_pendingPlace, a_pendingMore, a_frameKind, a_frameMore, a_localName))
    (h1 : k = 0 → post (f_tickLimit, f_tokenCount, f_outCount, f_error, f_errorPlace, f_lastKind, f_lastValue, f_codeSize, f_methodCount, f_methodTokens, nI (cc + 1), f_activeCalls, f_next, f_ticksLeft, f_state, f_pos, f_expressionStart, f_pendingCount, f_frameTop, f_localCount, a_tokenCode, a_tokenValue, a_outKind, a_outValue, a_codeOp, a_codeArg, a_codeKind, a_codePlace, a_methodSign, a_methodStart, a_declared, upd a_cellKind cc 0, vp_updL a_cellValue cc v, a_callReturn, a_pendingLevel, a_pendingPlace, a_pendingMore, a_frameKind, a_frameMore, a_localName)) : wpX_needBoolean post (f_tickLimit, f_tokenCount, f_outCount, f_error, f_errorPlace, f_lastKind, f_lastValue, f_codeSize, f_methodCount, f_methodTokens, nI (cc + 1), f_activeCalls, f_next, f_ticksLeft, f_state, f_pos, f_expressionStart, f_pendingCount, f_frameTop, f_localCount, a_tokenCode, a_tokenValue, a_outKind, a_outValue, a_codeOp, a_codeArg, a_codeKind, a_codePlace, a_methodSign, a_methodStart, a_declared, a_cellKind, a_cellValue, a_callReturn, a_pendingLevel, a_pendingPlace, a_pendingMore, a_frameKind, a_frameMore, a_localName) (nI at0) := by
  have ia : vp_in (nI at0) 761 := vp_in_nI ha (by decide)
  have ea : (nI at0).toNatClampNeg = at0 := nI_clamp (by omega)
  have ic : vp_in (nI cc) 376 := vp_in_nI hc.2 (by decide)
  have ec : (nI cc).toNatClampNeg = cc := nI_clamp (by omega)
  unfold wpX_needBoolean
  dsimp only
  refine hx_pop hc.1 hc.2 ?_
  dsimp only
  refine ⟨ic, ?_⟩
  rw [ec, e2]
  by_cases k0 : k = 0
  · refine br_t (by rw [k0]; rfl) ⟨ic, ?_⟩
    rw [e3]
    exact hx_push hc.2 (h1 k0)
  · refine br_f (mt (ls_k8 (b := 0) hk (by decide)).mp k0) ⟨ia, ?_⟩
    rw [ea]
    exact h0 k0
set_option maxHeartbeats 200000 in
theorem hx_unless (ha : at0 < 761) (hc : 88 ≤ cc ∧ cc < 376) (e2 : a_cellKind cc = nI k) (hk : k < 100) (e3 : a_cellValue cc = v)
    (h0 : k ≠ 0 → post (f_tickLimit, f_tokenCount, f_outCount, 3, a_codePlace at0, f_lastKind, f_lastValue, f_codeSize, f_methodCount, f_methodTokens, nI cc, f_activeCalls, f_next, f_ticksLeft, f_state, f_pos, f_expressionStart, f_pendingCount, f_frameTop, f_localCount, a_tokenCode, a_tokenValue, a_outKind, a_outValue, a_codeOp, a_codeArg, a_codeKind, a_codePlace, a_methodSign, a_methodStart, a_declared, a_cellKind, a_cellValue, a_callReturn, a_pendingLevel, a_pendingPlace, a_pendingMore, a_frameKind, a_frameMore, a_localName))
    (h1 : k = 0 → v = 0 → post (f_tickLimit, f_tokenCount, f_outCount, f_error, f_errorPlace, f_lastKind, f_lastValue, f_codeSize, f_methodCount, f_methodTokens, nI cc, f_activeCalls, nI at0 + a_codeArg at0, f_ticksLeft, f_state, f_pos, f_expressionStart, f_pendingCount, f_frameTop, f_localCount, a_tokenCode, a_tokenValue, a_outKind, a_outValue, a_codeOp, a_codeArg, a_codeKind, a_codePlace, a_methodSign, a_methodStart, a_declared, a_cellKind, a_cellValue, a_callReturn, a_pendingLevel, a_pendingPlace, a_pendingMore, a_frameKind, a_frameMore, a_localName))
    (h2 : k = 0 → v ≠ 0 → post (f_tickLimit, f_tokenCount, f_outCount, f_error, f_errorPlace, f_lastKind, f_lastValue, f_codeSize, f_methodCount, f_methodTokens, nI cc, f_activeCalls, f_next, f_ticksLeft, f_state, f_pos, f_expressionStart, f_pendingCount, f_frameTop, f_localCount, a_tokenCode, a_tokenValue, a_outKind, a_outValue, a_codeOp, a_codeArg, a_codeKind, a_codePlace, a_methodSign, a_methodStart, a_declared, a_cellKind, a_cellValue, a_callReturn, a_pendingLevel, a_pendingPlace, a_pendingMore, a_frameKind, a_frameMore, a_localName)) : wpX_jumpUnless post (f_tickLimit, f_tokenCount, f_outCount, f_error, f_errorPlace, f_lastKind, f_lastValue, f_codeSize, f_methodCount, f_methodTokens, nI (cc + 1), f_activeCalls, f_next, f_ticksLeft, f_state, f_pos, f_expressionStart, f_pendingCount, f_frameTop, f_localCount, a_tokenCode, a_tokenValue, a_outKind, a_outValue, a_codeOp, a_codeArg, a_codeKind, a_codePlace, a_methodSign, a_methodStart, a_declared, a_cellKind, a_cellValue, a_callReturn, a_pendingLevel, a_pendingPlace, a_pendingMore, a_frameKind, a_frameMore, a_localName) (nI at0) := by
  have ia : vp_in (nI at0) 761 := vp_in_nI ha (by decide)
  have ea : (nI at0).toNatClampNeg = at0 := nI_clamp (by omega)
  have ic : vp_in (nI cc) 376 := vp_in_nI hc.2 (by decide)
  have ec : (nI cc).toNatClampNeg = cc := nI_clamp (by omega)
  unfold wpX_jumpUnless
  dsimp only
  refine hx_pop hc.1 hc.2 ?_
  dsimp only
  refine ⟨ic, ?_⟩
  rw [ec, e2]
  by_cases k0 : k = 0
  · refine br_t (by rw [k0]; rfl) ⟨ic, ?_⟩
    rw [e3]
    exact br_c (fun h => ⟨ia, nm_r (by rw [ea]) (h1 k0 h)⟩) (fun h => h2 k0 h)
  · refine br_f (mt (ls_k8 (b := 0) hk (by decide)).mp k0) ⟨ia, ?_⟩
    rw [ea]
    exact h0 k0
set_option maxHeartbeats 200000 in
theorem hx_keepResult (hc : 88 ≤ cc ∧ cc < 376) (hp : post (f_tickLimit, f_tokenCount, f_outCount, f_error, f_errorPlace, a_cellKind cc, a_cellValue cc, f_codeSize, f_methodCount, f_methodTokens, nI cc, f_activeCalls, f_next, f_ticksLeft, f_state, f_pos, f_expressionStart, f_pendingCount, f_frameTop, f_localCount, a_tokenCode, a_tokenValue, a_outKind, a_outValue, a_codeOp, a_codeArg, a_codeKind, a_codePlace, a_methodSign, a_methodStart, a_declared, a_cellKind, a_cellValue, a_callReturn, a_pendingLevel, a_pendingPlace, a_pendingMore, a_frameKind, a_frameMore, a_localName)) : wpX_keepResult post (f_tickLimit, f_tokenCount, f_outCount, f_error, f_errorPlace, f_lastKind, f_lastValue, f_codeSize, f_methodCount, f_methodTokens, nI (cc + 1), f_activeCalls, f_next, f_ticksLeft, f_state, f_pos, f_expressionStart, f_pendingCount, f_frameTop, f_localCount, a_tokenCode, a_tokenValue, a_outKind, a_outValue, a_codeOp, a_codeArg, a_codeKind, a_codePlace, a_methodSign, a_methodStart, a_declared, a_cellKind, a_cellValue, a_callReturn, a_pendingLevel, a_pendingPlace, a_pendingMore, a_frameKind, a_frameMore, a_localName) := by
  have ic : vp_in (nI cc) 376 := vp_in_nI hc.2 (by decide)
  have ec : (nI cc).toNatClampNeg = cc := nI_clamp (by omega)
  unfold wpX_keepResult
  dsimp only
  refine hx_pop hc.1 hc.2 ⟨ic, nm_r (by rw [ec]) ⟨ic, nm_r (by rw [ec]) hp⟩⟩
set_option maxHeartbeats 200000 in
theorem hx_print {oc : Nat} (ha : at0 < 761) (hc : 88 ≤ cc ∧ cc < 376) (ho : oc ≤ 32)
    (h0 : oc = 32 → post (f_tickLimit, f_tokenCount, nI oc, 8, a_codePlace at0, f_lastKind, f_lastValue, f_codeSize, f_methodCount, f_methodTokens, nI cc, f_activeCalls, f_next, f_ticksLeft, f_state, f_pos, f_expressionStart, f_pendingCount, f_frameTop, f_localCount, a_tokenCode, a_tokenValue, a_outKind, a_outValue, a_codeOp, a_codeArg, a_codeKind, a_codePlace, a_methodSign, a_methodStart, a_declared, a_cellKind, a_cellValue, a_callReturn, a_pendingLevel, a_pendingPlace, a_pendingMore, a_frameKind, a_frameMore, a_localName))
    (h1 : oc < 32 → post (f_tickLimit, f_tokenCount, nI (oc + 1), f_error, f_errorPlace, f_lastKind, f_lastValue, f_codeSize, f_methodCount, f_methodTokens, nI cc, f_activeCalls, f_next, f_ticksLeft, f_state, f_pos, f_expressionStart, f_pendingCount, f_frameTop, f_localCount, a_tokenCode, a_tokenValue, upd a_outKind oc (a_cellKind cc), vp_updL a_outValue oc (a_cellValue cc), a_codeOp, a_codeArg, a_codeKind, a_codePlace, a_methodSign, a_methodStart, a_declared, a_cellKind, a_cellValue, a_callReturn, a_pendingLevel, a_pendingPlace, a_pendingMore, a_frameKind, a_frameMore, a_localName)) : wpX_print post (f_tickLimit, f_tokenCount, nI oc, f_error, f_errorPlace, f_lastKind, f_lastValue, f_codeSize, f_methodCount, f_methodTokens, nI (cc + 1), f_activeCalls, f_next, f_ticksLeft, f_state, f_pos, f_expressionStart, f_pendingCount, f_frameTop, f_localCount, a_tokenCode, a_tokenValue, a_outKind, a_outValue, a_codeOp, a_codeArg, a_codeKind, a_codePlace, a_methodSign, a_methodStart, a_declared, a_cellKind, a_cellValue, a_callReturn, a_pendingLevel, a_pendingPlace, a_pendingMore, a_frameKind, a_frameMore, a_localName) (nI at0) := by
  have ia : vp_in (nI at0) 761 := vp_in_nI ha (by decide)
  have ea : (nI at0).toNatClampNeg = at0 := nI_clamp (by omega)
  have ic : vp_in (nI cc) 376 := vp_in_nI hc.2 (by decide)
  have ec : (nI cc).toNatClampNeg = cc := nI_clamp (by omega)
  have eo : (nI oc).toNatClampNeg = oc := nI_clamp (by omega)
  unfold wpX_print
  dsimp only
  refine hx_pop hc.1 hc.2 ?_
  dsimp only
  by_cases o32 : oc = 32
  · refine br_t (by rw [o32]; decide) ⟨ia, ?_⟩
    rw [ea]
    exact h0 o32
  · have io : vp_in (nI oc) 32 := vp_in_nI (by omega) (by decide)
    exact br_f (nI_ge (b := 32) (by omega) (by decide)) ⟨ic, io, nm_r (by rw [ec, eo]) ⟨ic, io, nm_r (by rw [ec, eo]) (nm_r (nI_1 oc) (h1 (by omega)))⟩⟩
set_option maxHeartbeats 200000 in
theorem hx_leave {kd : Int32} {x : Int64} (hc : cc < 376) (hac : ac < 8) (hp : post (f_tickLimit, f_tokenCount, f_outCount, f_error, f_errorPlace, f_lastKind, f_lastValue, f_codeSize, f_methodCount, f_methodTokens, nI (cc + 1), nI ac, a_callReturn ac, f_ticksLeft, f_state, f_pos, f_expressionStart, f_pendingCount, f_frameTop, f_localCount, a_tokenCode, a_tokenValue, a_outKind, a_outValue, a_codeOp, a_codeArg, a_codeKind, a_codePlace, a_methodSign, a_methodStart, a_declared, upd a_cellKind cc kd, vp_updL a_cellValue cc x, a_callReturn, a_pendingLevel, a_pendingPlace, a_pendingMore, a_frameKind, a_frameMore, a_localName)) : wpX_leave post (f_tickLimit, f_tokenCount, f_outCount, f_error, f_errorPlace, f_lastKind, f_lastValue, f_codeSize, f_methodCount, f_methodTokens, nI cc, nI (ac + 1), f_next, f_ticksLeft, f_state, f_pos, f_expressionStart, f_pendingCount, f_frameTop, f_localCount, a_tokenCode, a_tokenValue, a_outKind, a_outValue, a_codeOp, a_codeArg, a_codeKind, a_codePlace, a_methodSign, a_methodStart, a_declared, a_cellKind, a_cellValue, a_callReturn, a_pendingLevel, a_pendingPlace, a_pendingMore, a_frameKind, a_frameMore, a_localName) kd x := by
  refine br_f (nI_nle (by omega) (by omega)) (nm_r (nI_pred ac) ⟨vp_in_nI hac (by decide), nm_r (by rw [nI_clamp (by omega)]) ?_⟩)
  exact hx_push hc hp
set_option maxHeartbeats 200000 in
theorem hx_returnZero {t : Nat} (ha : at0 < 761) (hc : cc < 376) (hac : ac < 8) (ht : t ≤ 5) (e1 : a_codeKind at0 = nI t)
    (hp : post (f_tickLimit, f_tokenCount, f_outCount, f_error, f_errorPlace, f_lastKind, f_lastValue, f_codeSize, f_methodCount, f_methodTokens, nI (cc + 1), nI ac, a_callReturn ac, f_ticksLeft, f_state, f_pos, f_expressionStart, f_pendingCount, f_frameTop, f_localCount, a_tokenCode, a_tokenValue, a_outKind, a_outValue, a_codeOp, a_codeArg, a_codeKind, a_codePlace, a_methodSign, a_methodStart, a_declared, upd a_cellKind cc (nI (if t = 5 then 3 else t)), vp_updL a_cellValue cc 0, a_callReturn, a_pendingLevel, a_pendingPlace, a_pendingMore, a_frameKind, a_frameMore, a_localName)) : wpX_returnZero post (f_tickLimit, f_tokenCount, f_outCount, f_error, f_errorPlace, f_lastKind, f_lastValue, f_codeSize, f_methodCount, f_methodTokens, nI cc, nI (ac + 1), f_next, f_ticksLeft, f_state, f_pos, f_expressionStart, f_pendingCount, f_frameTop, f_localCount, a_tokenCode, a_tokenValue, a_outKind, a_outValue, a_codeOp, a_codeArg, a_codeKind, a_codePlace, a_methodSign, a_methodStart, a_declared, a_cellKind, a_cellValue, a_callReturn, a_pendingLevel, a_pendingPlace, a_pendingMore, a_frameKind, a_frameMore, a_localName) (nI at0) := by
  have ia : vp_in (nI at0) 761 := vp_in_nI ha (by decide)
  have ea : (nI at0).toNatClampNeg = at0 := nI_clamp (by omega)
  unfold wpX_returnZero
  dsimp only
  refine ⟨ia, ?_⟩
  rw [ea, e1]
  by_cases t5 : t = 5
  · rw [if_pos t5] at hp
    exact br_t (by rw [t5]; rfl) (hx_leave hc hac hp)
  · rw [if_neg t5] at hp
    exact br_f (mt (ls_k8 (b := 5) (by omega) (by decide)).mp t5) (hx_leave hc hac hp)
set_option maxHeartbeats 200000 in
theorem hx_returnValue {t kk : Nat} (ha : at0 < 761) (hc : 88 ≤ cc ∧ cc < 376) (hac : ac < 8) (hkk : kk < 16) (ht : kk % 8 = t) (ht5 : t ≤ 5) (e1 : a_codeKind at0 = nI kk) (e2 : a_cellKind cc = nI k) (hk : k ≤ 4) (e3 : a_cellValue cc = v) (hwf : ls_wf k v)
    (h1 : ∀ k', ls_cnv t (decide (8 ≤ kk)) k v = some k' → post (f_tickLimit, f_tokenCount, f_outCount, f_error, f_errorPlace, f_lastKind, f_lastValue, f_codeSize, f_methodCount, f_methodTokens, nI (cc + 1), nI ac, a_callReturn ac, f_ticksLeft, f_state, f_pos, f_expressionStart, f_pendingCount, f_frameTop, f_localCount, a_tokenCode, a_tokenValue, a_outKind, a_outValue, a_codeOp, a_codeArg, a_codeKind, a_codePlace, a_methodSign, a_methodStart, a_declared, upd a_cellKind cc (nI k'), vp_updL a_cellValue cc v, a_callReturn, a_pendingLevel, a_pendingPlace, a_pendingMore, a_frameKind, a_frameMore, a_localName))
    (h0 : ls_cnv t (decide (8 ≤ kk)) k v = none → post (f_tickLimit, f_tokenCount, f_outCount, 3, a_codePlace at0, f_lastKind, f_lastValue, f_codeSize, f_methodCount, f_methodTokens, nI cc, nI (ac + 1), f_next, f_ticksLeft, f_state, f_pos, f_expressionStart, f_pendingCount, f_frameTop, f_localCount, a_tokenCode, a_tokenValue, a_outKind, a_outValue, a_codeOp, a_codeArg, a_codeKind, a_codePlace, a_methodSign, a_methodStart, a_declared, a_cellKind, a_cellValue, a_callReturn, a_pendingLevel, a_pendingPlace, a_pendingMore, a_frameKind, a_frameMore, a_localName)) : wpX_returnValue post (f_tickLimit, f_tokenCount, f_outCount, f_error, f_errorPlace, f_lastKind, f_lastValue, f_codeSize, f_methodCount, f_methodTokens, nI (cc + 1), nI (ac + 1), f_next, f_ticksLeft, f_state, f_pos, f_expressionStart, f_pendingCount, f_frameTop, f_localCount, a_tokenCode, a_tokenValue, a_outKind, a_outValue, a_codeOp, a_codeArg, a_codeKind, a_codePlace, a_methodSign, a_methodStart, a_declared, a_cellKind, a_cellValue, a_callReturn, a_pendingLevel, a_pendingPlace, a_pendingMore, a_frameKind, a_frameMore, a_localName) (nI at0) := by
  have ia : vp_in (nI at0) 761 := vp_in_nI ha (by decide)
  have ea : (nI at0).toNatClampNeg = at0 := nI_clamp (by omega)
  have ic : vp_in (nI cc) 376 := vp_in_nI hc.2 (by decide)
  have ec : (nI cc).toNatClampNeg = cc := nI_clamp (by omega)
  unfold wpX_returnValue
  refine hx_pop hc.1 hc.2 ?_
  dsimp only
  refine ⟨ia, ?_⟩
  rw [ea, e1]
  have G : ∀ cz : Int32, (cz = if decide (8 ≤ kk) = true then 1 else 0) → wX_returnValue_22 post (nI at0) (nI cc) cz f_tickLimit f_tokenCount f_outCount f_error f_errorPlace f_lastKind f_lastValue f_codeSize f_methodCount f_methodTokens (nI cc) (nI (ac + 1)) f_next f_ticksLeft f_state f_pos f_expressionStart f_pendingCount f_frameTop f_localCount a_tokenCode a_tokenValue a_outKind a_outValue a_codeOp a_codeArg a_codeKind a_codePlace a_methodSign a_methodStart a_declared a_cellKind a_cellValue a_callReturn a_pendingLevel a_pendingPlace a_pendingMore a_frameKind a_frameMore a_localName := by
    intro cz hcz
    unfold wX_returnValue_22
    refine ⟨ia, ?_⟩
    rw [ea, e1, ls_a7 ⟨kk, hkk⟩, ht]
    refine hx_converted hcz hc.2 ht5 e2 hk e3 hwf (fun k' hk' => ?_) (fun hn => ?_)
    · have k8 : k' < 100 := by
        unfold ls_cnv at hk'
        split at hk'
        · injection hk' with hk'
          subst hk'
          split <;> omega
        · cases hk'
      refine br_f (ls_nm1 (by omega)) ⟨ic, ?_⟩
      rw [ec, e3]
      exact hx_leave hc.2 hac (h1 k' hk')
    · exact br_t rfl ⟨ia, h0 hn⟩
  by_cases k8 : kk < 8
  · exact br_t ((ls_a8 ⟨kk, hkk⟩).mpr k8) (G 0 (by rw [if_neg]; simp; omega))
  · exact br_f (mt (ls_a8 ⟨kk, hkk⟩).mp k8) (G 1 (by rw [if_pos]; simp; omega))
set_option maxHeartbeats 200000 in
theorem hx_putZero {a t : Nat} (ha : at0 < 761) (h24 : a < 24) (hac : ac ≤ 8) (ht : t ≤ 5) (e1 : a_codeArg at0 = nI a) (e2 : a_codeKind at0 = nI t)
    (hp : post (f_tickLimit, f_tokenCount, f_outCount, f_error, f_errorPlace, f_lastKind, f_lastValue, f_codeSize, f_methodCount, f_methodTokens, f_cellCount, nI ac, f_next, f_ticksLeft, f_state, f_pos, f_expressionStart, f_pendingCount, f_frameTop, f_localCount, a_tokenCode, a_tokenValue, a_outKind, a_outValue, a_codeOp, a_codeArg, a_codeKind, a_codePlace, a_methodSign, a_methodStart, upd a_declared (ls_cell a ac) (nI t), upd a_cellKind (ls_cell a ac) (nI (if t = 5 then 3 else t)), vp_updL a_cellValue (ls_cell a ac) 0, a_callReturn, a_pendingLevel, a_pendingPlace, a_pendingMore, a_frameKind, a_frameMore, a_localName)) : wpX_putZero post (f_tickLimit, f_tokenCount, f_outCount, f_error, f_errorPlace, f_lastKind, f_lastValue, f_codeSize, f_methodCount, f_methodTokens, f_cellCount, nI ac, f_next, f_ticksLeft, f_state, f_pos, f_expressionStart, f_pendingCount, f_frameTop, f_localCount, a_tokenCode, a_tokenValue, a_outKind, a_outValue, a_codeOp, a_codeArg, a_codeKind, a_codePlace, a_methodSign, a_methodStart, a_declared, a_cellKind, a_cellValue, a_callReturn, a_pendingLevel, a_pendingPlace, a_pendingMore, a_frameKind, a_frameMore, a_localName) (nI at0) := by
  have ia : vp_in (nI at0) 761 := vp_in_nI ha (by decide)
  have ea : (nI at0).toNatClampNeg = at0 := nI_clamp (by omega)
  have lt := ls_cell_lt h24 hac
  have ei : (nI (ls_cell a ac)).toNatClampNeg = ls_cell a ac := nI_clamp (by omega)
  unfold wpX_putZero
  dsimp only
  refine ⟨ia, ?_⟩
  rw [ea, e1, e2]
  refine hx_cellOf h24 hac ⟨ia, ?_⟩
  by_cases t5 : t = 5
  · rw [if_pos t5] at hp
    exact br_t (by rw [t5]; rfl) ⟨ia, vp_in_nI lt (by decide), nm_r (show _ = upd a_declared (ls_cell a ac) (nI t) by rw [ei]) (hx_put (by omega) hp)⟩
  · rw [if_neg t5] at hp
    exact br_f (mt (ls_k8 (b := 5) (by omega) (by decide)).mp t5) ⟨ia, vp_in_nI lt (by decide), nm_r (show _ = upd a_declared (ls_cell a ac) (nI t) by rw [ei]) (hx_put (by omega) hp)⟩
set_option maxHeartbeats 200000 in
theorem hx_declare {a t kk : Nat} (ha : at0 < 761) (hc : 88 ≤ cc ∧ cc < 376) (h24 : a < 24) (hac : ac ≤ 8) (hkk : kk < 16) (ht : kk % 8 = t) (ht5 : t ≤ 5) (e0 : a_codeArg at0 = nI a) (e1 : a_codeKind at0 = nI kk) (e2 : a_cellKind cc = nI k) (hk : k ≤ 4) (e3 : a_cellValue cc = v) (hwf : ls_wf k v)
    (h1 : ∀ k', ls_cnv t (decide (8 ≤ kk)) k v = some k' → post (f_tickLimit, f_tokenCount, f_outCount, f_error, f_errorPlace, f_lastKind, f_lastValue, f_codeSize, f_methodCount, f_methodTokens, nI cc, nI ac, f_next, f_ticksLeft, f_state, f_pos, f_expressionStart, f_pendingCount, f_frameTop, f_localCount, a_tokenCode, a_tokenValue, a_outKind, a_outValue, a_codeOp, a_codeArg, a_codeKind, a_codePlace, a_methodSign, a_methodStart, upd a_declared (ls_cell a ac) (nI t), upd a_cellKind (ls_cell a ac) (nI k'), vp_updL a_cellValue (ls_cell a ac) v, a_callReturn, a_pendingLevel, a_pendingPlace, a_pendingMore, a_frameKind, a_frameMore, a_localName))
    (h0 : ls_cnv t (decide (8 ≤ kk)) k v = none → post (f_tickLimit, f_tokenCount, f_outCount, 3, a_codePlace at0, f_lastKind, f_lastValue, f_codeSize, f_methodCount, f_methodTokens, nI cc, nI ac, f_next, f_ticksLeft, f_state, f_pos, f_expressionStart, f_pendingCount, f_frameTop, f_localCount, a_tokenCode, a_tokenValue, a_outKind, a_outValue, a_codeOp, a_codeArg, a_codeKind, a_codePlace, a_methodSign, a_methodStart, a_declared, a_cellKind, a_cellValue, a_callReturn, a_pendingLevel, a_pendingPlace, a_pendingMore, a_frameKind, a_frameMore, a_localName)) : wpX_declare post (f_tickLimit, f_tokenCount, f_outCount, f_error, f_errorPlace, f_lastKind, f_lastValue, f_codeSize, f_methodCount, f_methodTokens, nI (cc + 1), nI ac, f_next, f_ticksLeft, f_state, f_pos, f_expressionStart, f_pendingCount, f_frameTop, f_localCount, a_tokenCode, a_tokenValue, a_outKind, a_outValue, a_codeOp, a_codeArg, a_codeKind, a_codePlace, a_methodSign, a_methodStart, a_declared, a_cellKind, a_cellValue, a_callReturn, a_pendingLevel, a_pendingPlace, a_pendingMore, a_frameKind, a_frameMore, a_localName) (nI at0) := by
  have ia : vp_in (nI at0) 761 := vp_in_nI ha (by decide)
  have ea : (nI at0).toNatClampNeg = at0 := nI_clamp (by omega)
  unfold wpX_declare
  dsimp only
  refine ⟨ia, ?_⟩
  rw [ea, e0, e1, ls_a7 ⟨kk, hkk⟩, ht]
  refine hx_cellOf h24 hac ⟨ia, ?_⟩
  exact hx_store ha hc (ls_cell_lt h24 hac) ht5 hkk e1 e2 hk e3 hwf (fun k' h _ => h1 k' h) h0
set_option maxHeartbeats 200000 in
theorem hx_assign {a t kk : Nat} (ha : at0 < 761) (hc : 88 ≤ cc ∧ cc < 376) (h24 : a < 24) (hac : ac ≤ 8) (hkk : kk < 16) (ht5 : t ≤ 5) (e0 : a_codeArg at0 = nI a) (e1 : a_codeKind at0 = nI kk) (e2 : a_cellKind cc = nI k) (hk : k ≤ 4) (e3 : a_cellValue cc = v) (hwf : ls_wf k v)
    (ed : (a_declared (ls_cell a ac) = -1 ∧ t = 5) ∨ a_declared (ls_cell a ac) = nI t)
    (h1 : ∀ k', ls_cnv t (decide (8 ≤ kk)) k v = some k' → post (f_tickLimit, f_tokenCount, f_outCount, f_error, f_errorPlace, f_lastKind, f_lastValue, f_codeSize, f_methodCount, f_methodTokens, nI (cc + 1), nI ac, f_next, f_ticksLeft, f_state, f_pos, f_expressionStart, f_pendingCount, f_frameTop, f_localCount, a_tokenCode, a_tokenValue, a_outKind, a_outValue, a_codeOp, a_codeArg, a_codeKind, a_codePlace, a_methodSign, a_methodStart, upd a_declared (ls_cell a ac) (nI t), upd (upd a_cellKind (ls_cell a ac) (nI k')) cc (nI k'), vp_updL (vp_updL a_cellValue (ls_cell a ac) v) cc v, a_callReturn, a_pendingLevel, a_pendingPlace, a_pendingMore, a_frameKind, a_frameMore, a_localName))
    (h0 : ls_cnv t (decide (8 ≤ kk)) k v = none → post (f_tickLimit, f_tokenCount, f_outCount, 3, a_codePlace at0, f_lastKind, f_lastValue, f_codeSize, f_methodCount, f_methodTokens, nI cc, nI ac, f_next, f_ticksLeft, f_state, f_pos, f_expressionStart, f_pendingCount, f_frameTop, f_localCount, a_tokenCode, a_tokenValue, a_outKind, a_outValue, a_codeOp, a_codeArg, a_codeKind, a_codePlace, a_methodSign, a_methodStart, a_declared, a_cellKind, a_cellValue, a_callReturn, a_pendingLevel, a_pendingPlace, a_pendingMore, a_frameKind, a_frameMore, a_localName)) : wpX_assign post (f_tickLimit, f_tokenCount, f_outCount, f_error, f_errorPlace, f_lastKind, f_lastValue, f_codeSize, f_methodCount, f_methodTokens, nI (cc + 1), nI ac, f_next, f_ticksLeft, f_state, f_pos, f_expressionStart, f_pendingCount, f_frameTop, f_localCount, a_tokenCode, a_tokenValue, a_outKind, a_outValue, a_codeOp, a_codeArg, a_codeKind, a_codePlace, a_methodSign, a_methodStart, a_declared, a_cellKind, a_cellValue, a_callReturn, a_pendingLevel, a_pendingPlace, a_pendingMore, a_frameKind, a_frameMore, a_localName) (nI at0) := by
  have ia : vp_in (nI at0) 761 := vp_in_nI ha (by decide)
  have ea : (nI at0).toNatClampNeg = at0 := nI_clamp (by omega)
  have lt := ls_cell_lt h24 hac
  have ei : (nI (ls_cell a ac)).toNatClampNeg = ls_cell a ac := nI_clamp (by omega)
  have il : vp_in (nI (ls_cell a ac)) 88 := vp_in_nI lt (by decide)
  have il2 : vp_in (nI (ls_cell a ac)) 376 := vp_in_nI (by omega) (by decide)
  unfold wpX_assign
  dsimp only
  refine ⟨ia, ?_⟩
  rw [ea, e0]
  refine hx_cellOf h24 hac ⟨il, ?_⟩
  rw [ei]
  have G : wX_assign_31 post (nI at0) (nI (ls_cell a ac)) (nI t) f_tickLimit f_tokenCount f_outCount f_error f_errorPlace f_lastKind f_lastValue f_codeSize f_methodCount f_methodTokens (nI (cc + 1)) (nI ac) f_next f_ticksLeft f_state f_pos f_expressionStart f_pendingCount f_frameTop f_localCount a_tokenCode a_tokenValue a_outKind a_outValue a_codeOp a_codeArg a_codeKind a_codePlace a_methodSign a_methodStart a_declared a_cellKind a_cellValue a_callReturn a_pendingLevel a_pendingPlace a_pendingMore a_frameKind a_frameMore a_localName := by
    unfold wX_assign_31
    refine hx_store ha hc lt ht5 hkk e1 e2 hk e3 hwf (fun k' h k8 => br_f (by decide) ⟨il2, il2, ?_⟩) (fun h => br_t rfl (h0 h))
    rw [ei, pk_us, pk_uLs]
    exact hx_push hc.2 (h1 k' h)
  rcases ed with ⟨h, h5⟩ | h
  · subst h5
    exact br_t h G
  · rw [h]
    exact br_f (ls_nm1 (by omega)) ⟨il, G⟩
set_option maxHeartbeats 200000 in
theorem hx_update {a t : Nat} (ha : at0 < 761) (hc : 88 ≤ cc ∧ cc < 376) (h24 : a < 24) (hac : ac ≤ 8) (ht5 : t ≤ 5) (e0 : a_codeArg at0 = nI a) (e2 : a_cellKind cc = nI k) (hk : k ≤ 4) (e3 : a_cellValue cc = v)
    (ed : a_declared (ls_cell a ac) = nI t)
    (hp : post (f_tickLimit, f_tokenCount, f_outCount, f_error, f_errorPlace, f_lastKind, f_lastValue, f_codeSize, f_methodCount, f_methodTokens, nI (cc + 1), nI ac, f_next, f_ticksLeft, f_state, f_pos, f_expressionStart, f_pendingCount, f_frameTop, f_localCount, a_tokenCode, a_tokenValue, a_outKind, a_outValue, a_codeOp, a_codeArg, a_codeKind, a_codePlace, a_methodSign, a_methodStart, a_declared, upd (upd a_cellKind (ls_cell a ac) (nI (if t = 5 then k else t))) cc (nI (if t = 5 then k else t)), vp_updL (vp_updL a_cellValue (ls_cell a ac) (ls_nar (if t = 5 then k else t) v)) cc (ls_nar (if t = 5 then k else t) v), a_callReturn, a_pendingLevel, a_pendingPlace, a_pendingMore, a_frameKind, a_frameMore, a_localName)) : wpX_update post (f_tickLimit, f_tokenCount, f_outCount, f_error, f_errorPlace, f_lastKind, f_lastValue, f_codeSize, f_methodCount, f_methodTokens, nI (cc + 1), nI ac, f_next, f_ticksLeft, f_state, f_pos, f_expressionStart, f_pendingCount, f_frameTop, f_localCount, a_tokenCode, a_tokenValue, a_outKind, a_outValue, a_codeOp, a_codeArg, a_codeKind, a_codePlace, a_methodSign, a_methodStart, a_declared, a_cellKind, a_cellValue, a_callReturn, a_pendingLevel, a_pendingPlace, a_pendingMore, a_frameKind, a_frameMore, a_localName) (nI at0) := by
  have ia : vp_in (nI at0) 761 := vp_in_nI ha (by decide)
  have ea : (nI at0).toNatClampNeg = at0 := nI_clamp (by omega)
  have ic : vp_in (nI cc) 376 := vp_in_nI hc.2 (by decide)
  have ec : (nI cc).toNatClampNeg = cc := nI_clamp (by omega)
  have lt := ls_cell_lt h24 hac
  have ei : (nI (ls_cell a ac)).toNatClampNeg = ls_cell a ac := nI_clamp (by omega)
  have il : vp_in (nI (ls_cell a ac)) 88 := vp_in_nI lt (by decide)
  unfold wpX_update
  dsimp only
  refine ⟨ia, ?_⟩
  rw [ea, e0]
  refine hx_cellOf h24 hac ?_
  refine hx_pop hc.1 hc.2 ?_
  dsimp only
  refine ⟨il, ?_⟩
  rw [ei, ed]
  have G : ∀ kd : Nat, kd = (if t = 5 then k else t) → wX_update_41 post (nI (ls_cell a ac)) (nI cc) (nI kd) f_tickLimit f_tokenCount f_outCount f_error f_errorPlace f_lastKind f_lastValue f_codeSize f_methodCount f_methodTokens (nI cc) (nI ac) f_next f_ticksLeft f_state f_pos f_expressionStart f_pendingCount f_frameTop f_localCount a_tokenCode a_tokenValue a_outKind a_outValue a_codeOp a_codeArg a_codeKind a_codePlace a_methodSign a_methodStart a_declared a_cellKind a_cellValue a_callReturn a_pendingLevel a_pendingPlace a_pendingMore a_frameKind a_frameMore a_localName := by
    intro kd hkd
    rw [← hkd] at hp
    refine ⟨ic, ?_⟩
    rw [ec, e3]
    refine hx_narrowed (by rw [hkd]; split <;> omega) (hx_put (by omega) ?_)
    exact hx_push hc.2 hp
  by_cases t5 : t = 5
  · refine br_t (by rw [t5]; rfl) ⟨ic, ?_⟩
    rw [ec, e2]
    exact G k (by rw [if_pos t5])
  · exact br_f (mt (ls_k8 (b := 5) (by omega) (by decide)).mp t5) ⟨il, G t (by rw [if_neg t5])⟩
end
end
section
def uN (x : Int64) : Nat := x.toUInt64.toNat
set_option maxHeartbeats 200000 in
theorem uN_lt (x : Int64) : uN x < 18446744073709551616 := x.toUInt64.toNat_lt
set_option maxHeartbeats 200000 in
theorem uN_inj {x y : Int64} (h : uN x = uN y) : x = y := congrArg UInt64.toInt64 (UInt64.toNat_inj.mp h)
set_option maxHeartbeats 200000 in
theorem uN_shr (x : Int64) (s : UInt64) : uN (x.toUInt64 >>> s).toInt64 = uN x / 2 ^ (s.toNat % 64) := by
  show (x.toUInt64 >>> s).toNat = _
  rw [UInt64.toNat_shiftRight, Nat.shiftRight_eq_div_pow]
  rfl
set_option maxHeartbeats 200000 in
theorem uN_lo (x : Int64) : uN (x &&& 4294967295) = uN x % 4294967296 := by
  show (x.toUInt64 &&& Int64.toUInt64 4294967295).toNat = _
  rw [UInt64.toNat_and]
  exact Nat.and_two_pow_sub_one_eq_mod _ 32
set_option maxHeartbeats 200000 in
theorem uN_sk (x : Int64) {k : Nat} (hk : k < 64) : uN (x.toUInt64 >>> ((nI k).toInt64.toUInt64 &&& Int64.toUInt64 63)).toInt64 = uN x / 2 ^ k := by
  have h : ((nI k).toInt64.toUInt64 &&& Int64.toUInt64 63).toNat % 64 = k := by
    rw [nI_l (by omega), UInt64.toNat_and]
    have e : (lN k).toUInt64.toNat = k % 2 ^ 64 := rfl
    have e2 : (Int64.toUInt64 63).toNat = 2 ^ 6 - 1 := by decide
    rw [e, e2, Nat.and_two_pow_sub_one_eq_mod]
    omega
  rw [uN_shr, h]
set_option maxHeartbeats 200000 in
theorem s_u : ∀ n, n < 32 → (((nI n).toUInt32 &&& Int32.toUInt32 31).toBitVec % 32).toNat = n := by decide +kernel
set_option maxHeartbeats 200000 in
theorem ls_uN32 (z : Int64) : z.toInt32 = nI (uN z) := by
  have e : z = lN (uN z) := uN_inj (by
    have h : (lN (uN z)).toUInt64.toNat = uN z % 2 ^ 64 := rfl
    show uN z = (lN (uN z)).toUInt64.toNat
    rw [h]
    have := uN_lt z
    omega)
  rw [← lN_i (uN z), ← e]
set_option maxHeartbeats 200000 in
theorem ls_nImod (n : Nat) : nI n = nI (n % 4294967296) := by
  apply Int32.toBitVec_inj.mp
  show BitVec.ofNat 32 n = BitVec.ofNat 32 (n % 4294967296)
  apply BitVec.eq_of_toNat_eq
  rw [BitVec.toNat_ofNat, BitVec.toNat_ofNat]
  omega
set_option maxHeartbeats 200000 in
/-- the unsigned shift of an int, the one way and the other -/
theorem ls_ush (x : Int64) (z : Int32) : (x.toInt32.toUInt32 >>> ((z &&& 31).toUInt32 &&& Int32.toUInt32 31)).toInt32 = ((x &&& 4294967295).toUInt64 >>> ((z &&& 31).toInt64.toUInt64 &&& Int64.toUInt64 63)).toInt64.toInt32 := by
  obtain ⟨j, hj, ej⟩ := pk_andE z (m := 31) 5 (by decide)
  have hj : j < 32 := hj
  rw [ej, ls_uN32 x, ls_nImod (uN x), pk_ushrN (by omega) (nI j) j (s_u j hj), ls_uN32, uN_sk _ (by omega), uN_lo]
section
variable {f_most f_n f_stored f_nm f_nEnv f_base f_ns f_no f_nc f_pc f_mode f_err f_errAt f_ticks f_calls f_outs f_resK f_part f_cnt f_full f_flag f_need : Int32}
variable {f_resV : Int64}
variable {a_tk a_tp a_mName a_mKind a_mCount a_mPar a_mAt a_vName a_vDecl a_vKind a_sk a_oKind a_oAt a_oArgs a_cKind a_cA a_cB a_outK : Nat → Int32}
variable {a_tv a_vVal a_sv a_outV : Nat → Int64}
variable {post : SY → Prop} {p2 : Int32 → SY → Prop} {q : Int32 → Prop} {at0 m k w : Nat} {v : Int64}
def ls_pl (tp : Nat → Int32) (p : Nat) : Int32 := if p < 140 then nI p else tp p
set_option maxHeartbeats 200000 in
theorem hy_fail {c : Int32} (h : at0 < 384) (hp : post (f_most, f_n, f_stored, f_nm, f_nEnv, f_base, f_ns, f_no, f_nc, f_pc, f_mode, c, ls_pl a_tp at0, f_ticks, f_calls, f_outs, f_resK, f_part, f_resV, f_cnt, f_full, f_flag, f_need, a_tk, a_tv, a_tp, a_mName, a_mKind, a_mCount, a_mPar, a_mAt, a_vName, a_vDecl, a_vKind, a_vVal, a_sk, a_sv, a_oKind, a_oAt, a_oArgs, a_cKind, a_cA, a_cB, a_outK, a_outV)) : wpY_fail post (f_most, f_n, f_stored, f_nm, f_nEnv, f_base, f_ns, f_no, f_nc, f_pc, f_mode, f_err, f_errAt, f_ticks, f_calls, f_outs, f_resK, f_part, f_resV, f_cnt, f_full, f_flag, f_need, a_tk, a_tv, a_tp, a_mName, a_mKind, a_mCount, a_mPar, a_mAt, a_vName, a_vDecl, a_vKind, a_vVal, a_sk, a_sv, a_oKind, a_oAt, a_oArgs, a_cKind, a_cA, a_cB, a_outK, a_outV) c (nI at0) := by
  unfold ls_pl at hp
  unfold wpY_fail
  dsimp only
  by_cases p : at0 < 140
  · rw [if_pos p] at hp
    exact br_f (nI_ge (b := 140) p (by decide)) hp
  · rw [if_neg p] at hp
    refine br_t (nI_le (a := 140) (by omega) (by omega)) ⟨vp_in_nI h (by decide), ?_⟩
    rw [nI_clamp (by omega)]
    exact hp
set_option maxHeartbeats 200000 in
theorem hy_push (h : m < 400) (hk : k < 128) (hp : post (f_most, f_n, f_stored, f_nm, f_nEnv, f_base, nI (m + 1), f_no, f_nc, f_pc, f_mode, f_err, f_errAt, f_ticks, f_calls, f_outs, f_resK, f_part, f_resV, f_cnt, f_full, f_flag, f_need, a_tk, a_tv, a_tp, a_mName, a_mKind, a_mCount, a_mPar, a_mAt, a_vName, a_vDecl, a_vKind, a_vVal, upd a_sk m (nI k), vp_updL a_sv m v, a_oKind, a_oAt, a_oArgs, a_cKind, a_cA, a_cB, a_outK, a_outV)) : wpY_push post (f_most, f_n, f_stored, f_nm, f_nEnv, f_base, nI m, f_no, f_nc, f_pc, f_mode, f_err, f_errAt, f_ticks, f_calls, f_outs, f_resK, f_part, f_resV, f_cnt, f_full, f_flag, f_need, a_tk, a_tv, a_tp, a_mName, a_mKind, a_mCount, a_mPar, a_mAt, a_vName, a_vDecl, a_vKind, a_vVal, a_sk, a_sv, a_oKind, a_oAt, a_oArgs, a_cKind, a_cA, a_cB, a_outK, a_outV) (nI k) v := by
  have i : vp_in (nI m) 400 := vp_in_nI h (by decide)
  have e : (nI m).toNatClampNeg = m := nI_clamp (by omega)
  exact ⟨i, nm_r (by rw [e, ls_vnb2 hk]) (nm_r (nI_1 m) ⟨i, nm_r (by rw [e]) hp⟩)⟩
set_option maxHeartbeats 200000 in
theorem hy_openOp {kd p no : Nat} (h : no < 400) (hk : kd < 128) (hpp : p < 32768) (hp : post (f_most, f_n, f_stored, f_nm, f_nEnv, f_base, f_ns, nI (no + 1), f_nc, f_pc, f_mode, f_err, f_errAt, f_ticks, f_calls, f_outs, f_resK, f_part, f_resV, f_cnt, f_full, f_flag, f_need, a_tk, a_tv, a_tp, a_mName, a_mKind, a_mCount, a_mPar, a_mAt, a_vName, a_vDecl, a_vKind, a_vVal, a_sk, a_sv, upd a_oKind no (nI kd), upd a_oAt no (nI p), upd a_oArgs no 0, a_cKind, a_cA, a_cB, a_outK, a_outV)) : wpY_openOp post (f_most, f_n, f_stored, f_nm, f_nEnv, f_base, f_ns, nI no, f_nc, f_pc, f_mode, f_err, f_errAt, f_ticks, f_calls, f_outs, f_resK, f_part, f_resV, f_cnt, f_full, f_flag, f_need, a_tk, a_tv, a_tp, a_mName, a_mKind, a_mCount, a_mPar, a_mAt, a_vName, a_vDecl, a_vKind, a_vVal, a_sk, a_sv, a_oKind, a_oAt, a_oArgs, a_cKind, a_cA, a_cB, a_outK, a_outV) (nI kd) (nI p) := by
  have i : vp_in (nI no) 400 := vp_in_nI h (by decide)
  have e : (nI no).toNatClampNeg = no := nI_clamp (by omega)
  exact ⟨i, nm_r (by rw [e, ls_vnb2 hk]) ⟨i, nm_r (by rw [e, show vp_nar .byte 0 = 0 from ls_vnb (n := 0) (by decide)]) (nm_r (nI_1 no) ⟨i, nm_r (by rw [e, ls_vns2 hpp]) hp⟩)⟩⟩
set_option maxHeartbeats 200000 in
theorem hy_hold {kd a b nc : Nat} (h : nc < 700) (hk : kd < 128) (ha : a < 32768) (hb : b < 32768) (hp : post (f_most, f_n, f_stored, f_nm, f_nEnv, f_base, f_ns, f_no, nI (nc + 1), f_pc, f_mode, f_err, f_errAt, f_ticks, f_calls, f_outs, f_resK, f_part, f_resV, f_cnt, f_full, f_flag, f_need, a_tk, a_tv, a_tp, a_mName, a_mKind, a_mCount, a_mPar, a_mAt, a_vName, a_vDecl, a_vKind, a_vVal, a_sk, a_sv, a_oKind, a_oAt, a_oArgs, upd a_cKind nc (nI kd), upd a_cA nc (nI a), upd a_cB nc (nI b), a_outK, a_outV)) : wpY_hold post (f_most, f_n, f_stored, f_nm, f_nEnv, f_base, f_ns, f_no, nI nc, f_pc, f_mode, f_err, f_errAt, f_ticks, f_calls, f_outs, f_resK, f_part, f_resV, f_cnt, f_full, f_flag, f_need, a_tk, a_tv, a_tp, a_mName, a_mKind, a_mCount, a_mPar, a_mAt, a_vName, a_vDecl, a_vKind, a_vVal, a_sk, a_sv, a_oKind, a_oAt, a_oArgs, a_cKind, a_cA, a_cB, a_outK, a_outV) (nI kd) (nI a) (nI b) := by
  have i : vp_in (nI nc) 700 := vp_in_nI h (by decide)
  have e : (nI nc).toNatClampNeg = nc := nI_clamp (by omega)
  exact ⟨i, nm_r (by rw [e, ls_vnb2 hk]) ⟨i, nm_r (by rw [e, ls_vns2 ha]) (nm_r (nI_1 nc) ⟨i, nm_r (by rw [e, ls_vns2 hb]) hp⟩)⟩⟩
set_option maxHeartbeats 200000 in
theorem hy_fit {f t : Nat} (hf : f ≤ 5) (ht : t ≤ 5) (h1 : ls_fit f t = true → q 1) (h0 : ls_fit f t = false → q 0) : wpY_fit q (f_most, f_n, f_stored, f_nm, f_nEnv, f_base, f_ns, f_no, f_nc, f_pc, f_mode, f_err, f_errAt, f_ticks, f_calls, f_outs, f_resK, f_part, f_resV, f_cnt, f_full, f_flag, f_need, a_tk, a_tv, a_tp, a_mName, a_mKind, a_mCount, a_mPar, a_mAt, a_vName, a_vDecl, a_vKind, a_vVal, a_sk, a_sv, a_oKind, a_oAt, a_oArgs, a_cKind, a_cA, a_cB, a_outK, a_outV) (nI f) (nI t) := by
  have N : ∀ a w, a < 100 → w < 100 → a ≠ w → ¬ nI a = nI w := fun a w ha hw h => mt (ls_k8 ha hw).mp h
  have E : ∀ a w, a = w → nI a = nI w := fun a w h => by rw [h]
  have D : ∀ b : Bool, ls_fit f t = b → (b = true → q 1) := fun b h hb => h1 (by rw [h, hb])
  have T : (t = 5 ∨ f = t ∨ (t = 3 ∧ (f = 1 ∨ f = 2)) ∨ (t = 4 ∧ (f = 1 ∨ f = 2 ∨ f = 3))) → q 1 := by
    intro h
    apply h1
    unfold ls_fit
    simp only [Bool.or_eq_true, Bool.and_eq_true, decide_eq_true_eq]
    omega
  have F : ¬ (t = 5 ∨ f = t ∨ (t = 3 ∧ (f = 1 ∨ f = 2)) ∨ (t = 4 ∧ (f = 1 ∨ f = 2 ∨ f = 3))) → q 0 := by
    intro h
    apply h0
    cases hb : ls_fit f t with
    | false => rfl
    | true =>
      exfalso
      apply h
      unfold ls_fit at hb
      simp only [Bool.or_eq_true, Bool.and_eq_true, decide_eq_true_eq] at hb
      omega
  by_cases t5 : t = 5
  · exact br_t (E t 5 t5) (T (Or.inl t5))
  refine br_f (N t 5 (by omega) (by decide) t5) ?_
  by_cases ft : f = t
  · exact br_t (E f t ft) (T (Or.inr (Or.inl ft)))
  refine br_f (N f t (by omega) (by omega) ft) ?_
  by_cases t3 : t = 3
  · refine br_t (E t 3 t3) ?_
    by_cases f1 : f = 1
    · exact br_t (E f 1 f1) (T (by omega))
    refine br_f (N f 1 (by omega) (by decide) f1) ?_
    by_cases f2 : f = 2
    · exact br_t (E f 2 f2) (T (by omega))
    · exact br_f (N f 2 (by omega) (by decide) f2) (F (by omega))
  refine br_f (N t 3 (by omega) (by decide) t3) ?_
  by_cases t4 : t = 4
  · refine br_t (E t 4 t4) ?_
    by_cases f0 : f = 0
    · exact br_t (by rw [f0]; decide) (F (by omega))
    refine br_f (nI_nle (by omega) (by omega)) ?_
    by_cases f4 : 4 ≤ f
    · exact br_t (nI_le (a := 4) f4 (by omega)) (F (by omega))
    · exact br_f (nI_ge (b := 4) (by omega) (by decide)) (T (by omega))
  · exact br_f (N t 4 (by omega) (by decide) t4) (F (by omega))
set_option maxHeartbeats 200000 in
theorem hy_narrow {r : Int64 → Prop} (hk : k < 100) (hp : r (ls_nar k v)) : wpY_narrow r (f_most, f_n, f_stored, f_nm, f_nEnv, f_base, f_ns, f_no, f_nc, f_pc, f_mode, f_err, f_errAt, f_ticks, f_calls, f_outs, f_resK, f_part, f_resV, f_cnt, f_full, f_flag, f_need, a_tk, a_tv, a_tp, a_mName, a_mKind, a_mCount, a_mPar, a_mAt, a_vName, a_vDecl, a_vKind, a_vVal, a_sk, a_sv, a_oKind, a_oAt, a_oArgs, a_cKind, a_cA, a_cB, a_outK, a_outV) v (nI k) := by
  unfold ls_nar at hp
  by_cases k1 : k = 1
  · rw [if_pos k1] at hp
    exact br_t ((ls_k8 hk (by decide)).mpr k1) hp
  rw [if_neg k1] at hp
  refine br_f (mt (ls_k8 hk (by decide)).mp k1) ?_
  by_cases k2 : k = 2
  · rw [if_pos k2] at hp
    exact br_t ((ls_k8 hk (by decide)).mpr k2) hp
  rw [if_neg k2] at hp
  refine br_f (mt (ls_k8 hk (by decide)).mp k2) ?_
  by_cases k3 : k = 3
  · rw [if_pos k3] at hp
    exact br_t ((ls_k8 hk (by decide)).mpr k3) hp
  · rw [if_neg k3] at hp
    exact br_f (mt (ls_k8 hk (by decide)).mp k3) hp
set_option maxHeartbeats 200000 in
/-- the conversion of the top operand -/
theorem hy_convert {t a b : Nat} {tf : Nat → Nat} (hm : m < 399) (ht : t ≤ 5) (hab : a ≤ b) (hb : b ≤ 384) (htf : ∀ i, a ≤ i → i < b → a_tk i = nI (tf i) ∧ tf i < 100) (e2 : a_sk m = nI k) (hk : k ≤ 4) (e3 : a_sv m = v)
    (h1 : ∀ k' sk', ls_cnv t (!ls_hasn tf a (b - a)) k v = some k' → sk' m = nI k' → (∀ j, j ≠ m → sk' j = a_sk j) → p2 1 (f_most, f_n, f_stored, f_nm, f_nEnv, f_base, nI (m + 1), f_no, f_nc, f_pc, f_mode, f_err, f_errAt, f_ticks, f_calls, f_outs, f_resK, f_part, f_resV, f_cnt, f_full, f_flag, f_need, a_tk, a_tv, a_tp, a_mName, a_mKind, a_mCount, a_mPar, a_mAt, a_vName, a_vDecl, a_vKind, a_vVal, sk', a_sv, a_oKind, a_oAt, a_oArgs, a_cKind, a_cA, a_cB, a_outK, a_outV))
    (h0 : ls_cnv t (!ls_hasn tf a (b - a)) k v = none → p2 0 (f_most, f_n, f_stored, f_nm, f_nEnv, f_base, nI (m + 1), f_no, f_nc, f_pc, f_mode, f_err, f_errAt, f_ticks, f_calls, f_outs, f_resK, f_part, f_resV, f_cnt, f_full, f_flag, f_need, a_tk, a_tv, a_tp, a_mName, a_mKind, a_mCount, a_mPar, a_mAt, a_vName, a_vDecl, a_vKind, a_vVal, a_sk, a_sv, a_oKind, a_oAt, a_oArgs, a_cKind, a_cA, a_cB, a_outK, a_outV)) : wpY_convert p2 (f_most, f_n, f_stored, f_nm, f_nEnv, f_base, nI (m + 1), f_no, f_nc, f_pc, f_mode, f_err, f_errAt, f_ticks, f_calls, f_outs, f_resK, f_part, f_resV, f_cnt, f_full, f_flag, f_need, a_tk, a_tv, a_tp, a_mName, a_mKind, a_mCount, a_mPar, a_mAt, a_vName, a_vDecl, a_vKind, a_vVal, a_sk, a_sv, a_oKind, a_oAt, a_oArgs, a_cKind, a_cA, a_cB, a_outK, a_outV) (nI t) (nI a) (nI b) := by
  have im : vp_in (nI m) 400 := vp_in_nI (by omega) (by decide)
  have em : (nI m).toNatClampNeg = m := nI_clamp (by omega)
  have en : nI (m + 1) - 1 = nI m := nI_pred m
  have K : ∀ ok : Nat, ok ≤ 1 → (ok = 1 ↔ (ls_fit k t = true ∨ ((!ls_hasn tf a (b - a)) = true ∧ (k = 1 ∨ k = 2 ∨ k = 3) ∧ (t = 1 ∨ t = 2) ∧ ls_nar t v = v))) → wY_convert_113 p2 (nI t) (nI ok) f_most f_n f_stored f_nm f_nEnv f_base (nI (m + 1)) f_no f_nc f_pc f_mode f_err f_errAt f_ticks f_calls f_outs f_resK f_part f_resV f_cnt f_full f_flag f_need a_tk a_tv a_tp a_mName a_mKind a_mCount a_mPar a_mAt a_vName a_vDecl a_vKind a_vVal a_sk a_sv a_oKind a_oAt a_oArgs a_cKind a_cA a_cB a_outK a_outV := by
    intro ok lo hok
    unfold ls_cnv at h1 h0
    by_cases o : ok = 1
    · rw [if_pos (hok.mp o)] at h1
      subst o
      refine br_f (by decide) ?_
      by_cases t5 : t = 5
      · rw [if_pos t5] at h1
        exact br_t (by rw [t5]; rfl) ⟨rfl, h1 _ a_sk rfl e2 (fun _ _ => rfl)⟩
      · rw [if_neg t5] at h1
        refine br_f (mt (ls_k8 (b := 5) (by omega) (by decide)).mp t5) ?_
        rw [en]
        exact ⟨im, nm_r (by rw [em, ls_vnb2 (by omega)]) ⟨rfl, h1 _ (upd a_sk m (nI t)) rfl pk_us (fun j hj => pk_un hj)⟩⟩
    · rw [if_neg (fun h => o (hok.mpr h))] at h0
      have : ok = 0 := by omega
      subst this
      exact br_t rfl ⟨rfl, h0 rfl⟩
  unfold wpY_convert
  dsimp only
  rw [en]
  refine ⟨im, ?_⟩
  rw [em, e2, e3]
  refine nm_e ?_
  refine hy_fit (by omega) ht (fun hf => br_f (by decide) (K 1 (by decide) ⟨fun _ => Or.inl hf, fun _ => rfl⟩)) (fun hf => br_t rfl ?_)
  have nofit : ¬ ls_fit k t = true := by rw [hf]; decide
  have NO : ¬ ((!ls_hasn tf a (b - a)) = true ∧ (k = 1 ∨ k = 2 ∨ k = 3) ∧ (t = 1 ∨ t = 2) ∧ ls_nar t v = v) → wY_convert_113 p2 (nI t) 0 f_most f_n f_stored f_nm f_nEnv f_base (nI (m + 1)) f_no f_nc f_pc f_mode f_err f_errAt f_ticks f_calls f_outs f_resK f_part f_resV f_cnt f_full f_flag f_need a_tk a_tv a_tp a_mName a_mKind a_mCount a_mPar a_mAt a_vName a_vDecl a_vKind a_vVal a_sk a_sv a_oKind a_oAt a_oArgs a_cKind a_cA a_cB a_outK a_outV := fun h =>
    K 0 (by decide) ⟨fun e => by omega, fun e => e.elim (fun g => absurd g nofit) (fun g => absurd g h)⟩
  by_cases t0 : t = 0
  · exact br_t (by rw [t0]; decide) (NO (fun h => by omega))
  refine br_f (nI_nle (by omega) (by omega)) ?_
  by_cases t3 : 3 ≤ t
  · exact br_t (nI_le (a := 3) t3 (by omega)) (NO (fun h => by omega))
  refine br_f (nI_ge (b := 3) (by omega) (by decide)) ?_
  by_cases k0 : k = 0
  · exact br_t (by rw [k0]; decide) (NO (fun h => by omega))
  refine br_f (nI_nle (by omega) (by omega)) ?_
  by_cases k4 : 4 ≤ k
  · exact br_t (nI_le (a := 4) k4 (by omega)) (NO (fun h => by omega))
  refine br_f (nI_ge (b := 4) (by omega) (by decide)) ⟨im, ?_⟩
  refine hy_narrow (by omega) ⟨im, ?_⟩
  by_cases nv : ls_nar t v = v
  · refine br_t nv ?_
    have L : ∀ d i ok : Nat, i + d = b → a ≤ i → ok ≤ 1 → (ok = 1 ∧ ls_hasn tf i d = false ↔ ls_hasn tf a (b - a) = false) → wY_convert_84 p2 (nI t) (nI b) f_most f_n f_stored f_nm f_nEnv f_base (nI (m + 1)) f_no f_nc f_pc f_mode f_err f_errAt f_ticks f_calls f_outs f_resK f_part f_resV f_cnt f_full f_flag f_need a_tk a_tv a_tp a_mName a_mKind a_mCount a_mPar a_mAt a_vName a_vDecl a_vKind a_vVal a_sk a_sv a_oKind a_oAt a_oArgs a_cKind a_cA a_cB a_outK a_outV (d + 1) (nI ok) (nI i) := by
      intro d
      induction d with
      | zero =>
        intro i ok hi hai lo hq
        refine br_t (nI_le (by omega) (by omega)) (K ok lo ⟨fun o => Or.inr ⟨?_, by omega, by omega, nv⟩, fun o => ?_⟩)
        · rw [hq.mp ⟨o, rfl⟩]; rfl
        · rcases o with o | o
          · exact absurd o nofit
          · exact (hq.mpr (by have := o.1; cases hh : ls_hasn tf a (b - a) with | false => rfl | true => rw [hh] at this; cases this)).1
      | succ d ih =>
        intro i ok hi hai lo hq
        obtain ⟨g1, g2⟩ := htf i hai (by omega)
        refine br_f (nI_ge (by omega) (by omega)) ⟨vp_in_nI (by omega) (by decide), ?_⟩
        rw [nI_clamp (by omega), g1]
        have eh : ls_hasn tf i (d + 1) = (decide (ls_nam (tf i)) || ls_hasn tf (i + 1) d) := rfl
        refine hy_isName g2 (fun n => br_f (by decide) (nm_r (nI_1 i) ?_)) (fun n => br_t rfl (nm_r (nI_1 i) ?_))
        · refine ih (i + 1) 0 (by omega) (by omega) (by decide) ⟨fun h => by omega, fun h => ?_⟩
          have := hq.mpr h
          rw [eh, decide_eq_true n] at this
          cases this.2
        · refine ih (i + 1) ok (by omega) (by omega) lo ?_
          rw [eh, decide_eq_false n, Bool.false_or] at hq
          exact hq
    exact ⟨_, L (b - a) a 1 (by omega) (Nat.le_refl _) (by decide) ⟨fun h => h.2, fun h => ⟨rfl, h⟩⟩⟩
  · exact br_f nv (NO (fun h => nv h.2.2.2))
end
end
section
section
variable {f_most f_n f_stored f_nm f_nEnv f_base f_ns f_no f_nc f_pc f_mode f_err f_errAt f_ticks f_calls f_outs f_resK f_part f_cnt f_full f_flag f_need : Int32}
variable {f_resV : Int64}
variable {a_tk a_tp a_mName a_mKind a_mCount a_mPar a_mAt a_vName a_vDecl a_vKind a_sk a_oKind a_oAt a_oArgs a_cKind a_cA a_cB a_outK : Nat → Int32}
variable {a_tv a_vVal a_sv a_outV : Nat → Int64}
variable {post : SY → Prop} {q : Int32 → Prop} {at0 m k w a b : Nat} {v x y : Int64}
set_option maxHeartbeats 200000 in
theorem hy_calc {r : Int64 → Prop} (hw : 24 ≤ w ∧ w ≤ 31) (hy : w = 27 ∨ w = 28 → y ≠ 0) (hp : r (if w = 24 then x + y else if w = 25 then x - y else if w = 26 then x * y else if w = 27 then x / y else if w = 28 then x - x / y * y else if w = 29 then x &&& y else if w = 30 then x ||| y else x ^^^ y)) : wpY_calc r (f_most, f_n, f_stored, f_nm, f_nEnv, f_base, f_ns, f_no, f_nc, f_pc, f_mode, f_err, f_errAt, f_ticks, f_calls, f_outs, f_resK, f_part, f_resV, f_cnt, f_full, f_flag, f_need, a_tk, a_tv, a_tp, a_mName, a_mKind, a_mCount, a_mPar, a_mAt, a_vName, a_vDecl, a_vKind, a_vVal, a_sk, a_sv, a_oKind, a_oAt, a_oArgs, a_cKind, a_cA, a_cB, a_outK, a_outV) (nI w) x y := by
  have N : ∀ v, v < 100 → w ≠ v → ¬ nI w = nI v := fun v hv h => mt (ls_k8 (by omega) hv).mp h
  have E : ∀ v, w = v → nI w = nI v := fun v h => by rw [h]
  by_cases w24 : w = 24
  · rw [if_pos w24] at hp; exact br_t (E 24 w24) hp
  rw [if_neg w24] at hp; refine br_f (N 24 (by decide) w24) ?_
  by_cases w25 : w = 25
  · rw [if_pos w25] at hp; exact br_t (E 25 w25) hp
  rw [if_neg w25] at hp; refine br_f (N 25 (by decide) w25) ?_
  by_cases w26 : w = 26
  · rw [if_pos w26] at hp; exact br_t (E 26 w26) hp
  rw [if_neg w26] at hp; refine br_f (N 26 (by decide) w26) ?_
  by_cases w27 : w = 27
  · rw [if_pos w27] at hp; exact br_t (E 27 w27) ⟨hy (Or.inl w27), hp⟩
  rw [if_neg w27] at hp; refine br_f (N 27 (by decide) w27) ?_
  by_cases w28 : w = 28
  · rw [if_pos w28] at hp; exact br_t (E 28 w28) ⟨hy (Or.inr w28), hp⟩
  rw [if_neg w28] at hp; refine br_f (N 28 (by decide) w28) ?_
  by_cases w29 : w = 29
  · rw [if_pos w29] at hp; exact br_t (E 29 w29) hp
  rw [if_neg w29] at hp; refine br_f (N 29 (by decide) w29) ?_
  by_cases w30 : w = 30
  · rw [if_pos w30] at hp; exact br_t (E 30 w30) hp
  · rw [if_neg w30] at hp; exact br_f (N 30 (by decide) w30) hp
set_option maxHeartbeats 200000 in
theorem hy_shift {r : Int64 → Prop} {d : Int32} (hw : 32 ≤ w ∧ w ≤ 34) (hp : r (if w = 32 then x <<< (d.toInt64 &&& 63) else if w = 33 then x >>> (d.toInt64 &&& 63) else (x.toUInt64 >>> (d.toInt64.toUInt64 &&& Int64.toUInt64 63)).toInt64)) : wpY_shift r (f_most, f_n, f_stored, f_nm, f_nEnv, f_base, f_ns, f_no, f_nc, f_pc, f_mode, f_err, f_errAt, f_ticks, f_calls, f_outs, f_resK, f_part, f_resV, f_cnt, f_full, f_flag, f_need, a_tk, a_tv, a_tp, a_mName, a_mKind, a_mCount, a_mPar, a_mAt, a_vName, a_vDecl, a_vKind, a_vVal, a_sk, a_sv, a_oKind, a_oAt, a_oArgs, a_cKind, a_cA, a_cB, a_outK, a_outV) (nI w) x d := by
  have N : ∀ v, v < 100 → w ≠ v → ¬ nI w = nI v := fun v hv h => mt (ls_k8 (by omega) hv).mp h
  have E : ∀ v, w = v → nI w = nI v := fun v h => by rw [h]
  by_cases w32 : w = 32
  · rw [if_pos w32] at hp; exact br_t (E 32 w32) hp
  rw [if_neg w32] at hp; refine br_f (N 32 (by decide) w32) ?_
  by_cases w33 : w = 33
  · rw [if_pos w33] at hp; exact br_t (E 33 w33) hp
  · rw [if_neg w33] at hp; exact br_f (N 33 (by decide) w33) hp
set_option maxHeartbeats 200000 in
theorem ls_bool32 (hx : x = 0 ∨ x = 1) (hy : y = 0 ∨ y = 1) : (x &&& y).toInt32.toInt64 = x &&& y ∧ (x ||| y).toInt32.toInt64 = x ||| y ∧ (x ^^^ y).toInt32.toInt64 = x ^^^ y := by
  rcases hx with rfl | rfl <;> rcases hy with rfl | rfl <;> decide
set_option maxHeartbeats 200000 in
theorem ls_i3264 (z : Int32) : z.toInt64.toInt32 = z := by
  apply Int32.toInt_inj.mp
  rw [Int64.toInt_toInt32, Int32.toInt_toInt64]
  have h1 := Int32.le_toInt z
  have h2 := Int32.toInt_lt z
  exact Int.bmod_eq_of_le (by omega) (by omega)
set_option maxHeartbeats 200000 in
theorem ls_val_sh {kd : Nat} (hw : 32 ≤ w ∧ w ≤ 34) : ls_val w kd x y = ls_nar kd (ls_shf w kd x y) := by
  unfold ls_val
  rw [if_neg (by omega), if_neg (by omega), if_neg (by omega), if_neg (by omega), if_neg (by omega), if_neg (by omega), if_neg (by omega), if_neg (by omega), if_pos (by omega)]
set_option maxHeartbeats 200000 in
theorem hy_operate (hm : m + 1 < 400) (hat : at0 < 384) (hw : 24 ≤ w ∧ w ≤ 40) (e1 : a_sk m = nI a) (e2 : a_sk (m + 1) = nI b) (e3 : a_sv m = x) (e4 : a_sv (m + 1) = y) (wa : ls_wf a x) (wb : ls_wf b y)
    (h1 : ∀ k' v', ls_bin w a b x y = .ok (k', v') → post (f_most, f_n, f_stored, f_nm, f_nEnv, f_base, nI (m + 1), f_no, f_nc, f_pc, f_mode, f_err, f_errAt, f_ticks, f_calls, f_outs, f_resK, f_part, f_resV, f_cnt, f_full, f_flag, f_need, a_tk, a_tv, a_tp, a_mName, a_mKind, a_mCount, a_mPar, a_mAt, a_vName, a_vDecl, a_vKind, a_vVal, upd a_sk m (nI k'), vp_updL a_sv m v', a_oKind, a_oAt, a_oArgs, a_cKind, a_cA, a_cB, a_outK, a_outV))
    (h0 : ∀ e : Nat, ls_bin w a b x y = .error e → post (f_most, f_n, f_stored, f_nm, f_nEnv, f_base, nI (m + 1), f_no, f_nc, f_pc, f_mode, nI e, ls_pl a_tp at0, f_ticks, f_calls, f_outs, f_resK, f_part, f_resV, f_cnt, f_full, f_flag, f_need, a_tk, a_tv, a_tp, a_mName, a_mKind, a_mCount, a_mPar, a_mAt, a_vName, a_vDecl, a_vKind, a_vVal, a_sk, a_sv, a_oKind, a_oAt, a_oArgs, a_cKind, a_cA, a_cB, a_outK, a_outV)) : wpY_operate post (f_most, f_n, f_stored, f_nm, f_nEnv, f_base, nI (m + 2), f_no, f_nc, f_pc, f_mode, f_err, f_errAt, f_ticks, f_calls, f_outs, f_resK, f_part, f_resV, f_cnt, f_full, f_flag, f_need, a_tk, a_tv, a_tp, a_mName, a_mKind, a_mCount, a_mPar, a_mAt, a_vName, a_vDecl, a_vKind, a_vVal, a_sk, a_sv, a_oKind, a_oAt, a_oArgs, a_cKind, a_cA, a_cB, a_outK, a_outV) (nI w) (nI at0) := by
  have a4 := wa.1
  have b4 := wb.1
  have N : ∀ a v, a < 100 → v < 100 → a ≠ v → ¬ nI a = nI v := fun a v ha hv h => mt (ls_k8 ha hv).mp h
  have E : ∀ a v, a = v → nI a = nI v := fun a v h => by rw [h]
  have im : vp_in (nI m) 400 := vp_in_nI (by omega) (by decide)
  have em : (nI m).toNatClampNeg = m := nI_clamp (by omega)
  have im1 : vp_in (nI (m + 1)) 400 := vp_in_nI (by omega) (by decide)
  have em1 : (nI (m + 1)).toNatClampNeg = m + 1 := nI_clamp (by omega)
  have en : nI (m + 1) - 1 = nI m := nI_pred m
  have WL : ∀ v, v < 100 → (nI w ≤ nI v ↔ w ≤ v) := fun v hv => nI_leI (by omega) (by omega)
  have WG : ∀ v, v < 100 → (nI v ≤ nI w ↔ v ≤ w) := fun v hv => nI_leI (by omega) (by omega)
  have OK : ∀ kd r, ls_bk w a b = some kd → ¬ ((w = 27 ∨ w = 28) ∧ y = 0) → r = ls_val w kd x y → post (f_most, f_n, f_stored, f_nm, f_nEnv, f_base, nI (m + 1), f_no, f_nc, f_pc, f_mode, f_err, f_errAt, f_ticks, f_calls, f_outs, f_resK, f_part, f_resV, f_cnt, f_full, f_flag, f_need, a_tk, a_tv, a_tp, a_mName, a_mKind, a_mCount, a_mPar, a_mAt, a_vName, a_vDecl, a_vKind, a_vVal, upd a_sk m (nI kd), vp_updL a_sv m r, a_oKind, a_oAt, a_oArgs, a_cKind, a_cA, a_cB, a_outK, a_outV) := by
    intro kd r hb hz hr
    subst hr
    apply h1
    unfold ls_bin
    rw [hb]
    dsimp only
    rw [if_neg hz]
  -- the value's place
  have P498 : ∀ (wide kd : Nat) (r : Int64), wide ≤ 1 → kd < 128 → post (f_most, f_n, f_stored, f_nm, f_nEnv, f_base, nI (m + 1), f_no, f_nc, f_pc, f_mode, f_err, f_errAt, f_ticks, f_calls, f_outs, f_resK, f_part, f_resV, f_cnt, f_full, f_flag, f_need, a_tk, a_tv, a_tp, a_mName, a_mKind, a_mCount, a_mPar, a_mAt, a_vName, a_vDecl, a_vKind, a_vVal, upd a_sk m (nI kd), vp_updL a_sv m (if wide = 1 then r else r.toInt32.toInt64), a_oKind, a_oAt, a_oArgs, a_cKind, a_cA, a_cB, a_outK, a_outV) → wY_operate_498 post (nI wide) r (nI kd) (nI m) f_most f_n f_stored f_nm f_nEnv f_base (nI (m + 1)) f_no f_nc f_pc f_mode f_err f_errAt f_ticks f_calls f_outs f_resK f_part f_resV f_cnt f_full f_flag f_need a_tk a_tv a_tp a_mName a_mKind a_mCount a_mPar a_mAt a_vName a_vDecl a_vKind a_vVal a_sk a_sv a_oKind a_oAt a_oArgs a_cKind a_cA a_cB a_outK a_outV := by
    intro wide kd r hw1 hkd hp
    unfold wY_operate_498
    rw [en]
    refine ⟨im, nm_r (by rw [em, ls_vnb2 hkd]) ?_⟩
    by_cases q : wide = 1
    · rw [if_pos q] at hp
      subst q
      exact br_f (by decide) ⟨im, nm_r (by rw [em]) hp⟩
    · rw [if_neg q] at hp
      have : wide = 0 := by omega
      subst this
      exact br_t rfl ⟨im, nm_r (by rw [em]) hp⟩
  have P467 : ∀ (lg wide : Nat) (r : Int64), lg = (if a = 0 ∧ b = 0 then 1 else 0) → wide = (if a = 4 ∨ (b = 4 ∧ w < 32) then 1 else 0) → w ≤ 34 → ls_bk w a b ≠ none → ¬ ((w = 27 ∨ w = 28) ∧ y = 0) → (∀ kd, ls_bk w a b = some kd → (if wide = 1 then r else r.toInt32.toInt64) = ls_val w kd x y) → wY_operate_467 post (nI lg) (nI wide) r f_most f_n f_stored f_nm f_nEnv f_base (nI (m + 1)) f_no f_nc f_pc f_mode f_err f_errAt f_ticks f_calls f_outs f_resK f_part f_resV f_cnt f_full f_flag f_need a_tk a_tv a_tp a_mName a_mKind a_mCount a_mPar a_mAt a_vName a_vDecl a_vKind a_vVal a_sk a_sv a_oKind a_oAt a_oArgs a_cKind a_cA a_cB a_outK a_outV := by
    intro lg wide r hlg hwd w34 hb hz hr
    unfold wY_operate_467
    rw [en]
    have w1 : wide ≤ 1 := by rw [hwd]; split <;> omega
    by_cases l : a = 0 ∧ b = 0
    · rw [if_pos l] at hlg
      subst hlg
      refine br_f (by decide) (P498 wide 0 r w1 (by decide) ?_)
      have hb0 : ls_bk w a b = some 0 := by
        unfold ls_bk at hb ⊢
        rw [if_neg (fun h => h.1 l.1)] at hb ⊢
        by_cases c : a = 0 ∧ b = 0 ∧ ((29 ≤ w ∧ w ≤ 31) ∨ 39 ≤ w)
        · rw [if_pos c]
        · rw [if_neg c] at hb; exact absurd rfl hb
      exact OK 0 _ hb0 hz (hr 0 hb0)
    · rw [if_neg l] at hlg
      subst hlg
      refine br_t rfl ?_
      have nn : a ≠ 0 ∧ b ≠ 0 := by
        unfold ls_bk at hb
        by_cases nn : a ≠ 0 ∧ b ≠ 0
        · exact nn
        · rw [if_neg nn, if_neg (fun h => l ⟨h.1, h.2.1⟩)] at hb
          exact absurd rfl hb
      by_cases z : a = 4 ∨ (b = 4 ∧ w < 32)
      · rw [if_pos z] at hwd
        subst hwd
        refine br_f (by decide) (P498 1 4 r (by decide) (by decide) ?_)
        have hb4 : ls_bk w a b = some 4 := by
          unfold ls_bk
          rw [if_pos nn, if_neg (by omega), if_pos z]
        exact OK 4 _ hb4 hz (hr 4 hb4)
      · rw [if_neg z] at hwd
        subst hwd
        refine br_t rfl (P498 0 3 r (by decide) (by decide) ?_)
        have hb3 : ls_bk w a b = some 3 := by
          unfold ls_bk
          rw [if_pos nn, if_neg (by omega), if_neg z]
        exact OK 3 _ hb3 hz (hr 3 hb3)
  -- which kinds come with which width
  have BK : ∀ kd, w ≤ 34 → ls_bk w a b = some kd → (kd = 4 ∧ (a = 4 ∨ (b = 4 ∧ w < 32))) ∨ (kd = 3 ∧ ¬ (a = 4 ∨ (b = 4 ∧ w < 32))) ∨ (kd = 0 ∧ (a = 0 ∧ b = 0) ∧ 29 ≤ w ∧ w ≤ 31) := by
    intro kd w34 hb
    unfold ls_bk at hb
    split at hb
    · injection hb with hb
      rw [if_neg (by omega)] at hb
      by_cases z : a = 4 ∨ (b = 4 ∧ w < 32)
      · rw [if_pos z] at hb; exact Or.inl ⟨hb.symm, z⟩
      · rw [if_neg z] at hb; exact Or.inr (Or.inl ⟨hb.symm, z⟩)
    · split at hb
      · next c =>
        injection hb with hb
        exact Or.inr (Or.inr ⟨hb.symm, ⟨c.1, c.2.1⟩, by omega, by omega⟩)
      · cases hb
  have P398 : ∀ (lg wide : Nat), lg = (if a = 0 ∧ b = 0 then 1 else 0) → wide = (if a = 4 ∨ (b = 4 ∧ w < 32) then 1 else 0) → w ≤ 34 → ls_bk w a b ≠ none → ¬ ((w = 27 ∨ w = 28) ∧ y = 0) → wY_operate_398 post (nI w) x y (nI lg) (nI wide) f_most f_n f_stored f_nm f_nEnv f_base (nI (m + 1)) f_no f_nc f_pc f_mode f_err f_errAt f_ticks f_calls f_outs f_resK f_part f_resV f_cnt f_full f_flag f_need a_tk a_tv a_tp a_mName a_mKind a_mCount a_mPar a_mAt a_vName a_vDecl a_vKind a_vVal a_sk a_sv a_oKind a_oAt a_oArgs a_cKind a_cA a_cB a_outK a_outV := by
    intro lg wide hlg hwd w34 hb hz
    by_cases w32 : 32 ≤ w
    · refine br_t ((WG 32 (by decide)).mpr w32) ?_
      by_cases z : a = 4 ∨ (b = 4 ∧ w < 32)
      · have hwd' := hwd
        rw [if_pos z] at hwd'
        subst hwd'
        refine br_f (by decide) (hy_shift ⟨w32, w34⟩ (P467 lg 1 _ hlg hwd w34 hb hz (fun kd hkd => ?_)))
        rcases BK kd w34 hkd with ⟨k4, _⟩ | ⟨_, nz⟩ | ⟨_, _, h29⟩
        · subst k4
          rw [if_pos rfl]
          rw [ls_val_sh ⟨w32, w34⟩]
          rcases (show w = 32 ∨ w = 33 ∨ w = 34 by omega) with rfl | rfl | rfl <;> rfl
        · exact absurd z nz
        · omega
      · have hwd' := hwd
        rw [if_neg z] at hwd'
        subst hwd'
        refine br_t rfl ?_
        have V3 : ∀ (r : Int64), r.toInt32 = (ls_shf w 3 x y).toInt32 → wY_operate_467 post (nI lg) (nI 0) r f_most f_n f_stored f_nm f_nEnv f_base (nI (m + 1)) f_no f_nc f_pc f_mode f_err f_errAt f_ticks f_calls f_outs f_resK f_part f_resV f_cnt f_full f_flag f_need a_tk a_tv a_tp a_mName a_mKind a_mCount a_mPar a_mAt a_vName a_vDecl a_vKind a_vVal a_sk a_sv a_oKind a_oAt a_oArgs a_cKind a_cA a_cB a_outK a_outV := by
          intro r hr
          refine P467 lg 0 r hlg hwd w34 hb hz (fun kd hkd => ?_)
          rcases BK kd w34 hkd with ⟨_, nz⟩ | ⟨k3, _⟩ | ⟨_, _, h29⟩
          · exact absurd nz z
          · subst k3
            rw [if_neg (by decide), hr, ls_val_sh ⟨w32, w34⟩]
            rfl
          · omega
        by_cases w34' : w = 34
        · refine br_t (E w 34 w34') ?_
          unfold wY_operate_458
          refine hy_shift ⟨w32, w34⟩ (V3 _ ?_)
          rw [if_neg (by omega), if_neg (by omega)]
          unfold ls_shf
          dsimp only
          rw [if_neg (by omega), if_pos w34', if_neg (by decide), if_neg (by decide), ls_i3264, ls_ush]
        · refine br_f (N w 34 (by omega) (by decide) w34') ?_
          unfold wY_operate_458
          refine hy_shift ⟨w32, w34⟩ (V3 _ ?_)
          unfold ls_shf
          dsimp only
          by_cases w33 : w = 33
          · rw [if_neg (by omega), if_pos w33, if_pos w33, if_neg (by decide)]
          · rw [if_pos (by omega), if_neg w33, if_neg w34', if_neg (by decide)]
    · refine br_f (mt (WG 32 (by decide)).mp w32) (hy_calc ⟨hw.1, by omega⟩ (fun h hy => hz ⟨h, hy⟩) (P467 lg wide _ hlg hwd w34 hb hz (fun kd hkd => ?_)))
      have VAL : ls_val w kd x y = ls_nar kd (if w = 24 then x + y else if w = 25 then x - y else if w = 26 then x * y else if w = 27 then x / y else if w = 28 then x - x / y * y else if w = 29 then x &&& y else if w = 30 then x ||| y else x ^^^ y) := by
        unfold ls_val
        by_cases w24 : w = 24
        · rw [if_pos w24, if_pos w24]
        rw [if_neg w24, if_neg w24]
        by_cases w25 : w = 25
        · rw [if_pos w25, if_pos w25]
        rw [if_neg w25, if_neg w25]
        by_cases w26 : w = 26
        · rw [if_pos w26, if_pos w26]
        rw [if_neg w26, if_neg w26]
        by_cases w27 : w = 27
        · rw [if_pos w27, if_pos w27]
        rw [if_neg w27, if_neg w27]
        by_cases w28 : w = 28
        · rw [if_pos w28, if_pos w28]
        rw [if_neg w28, if_neg w28]
        by_cases w29 : w = 29
        · rw [if_pos w29, if_pos w29]
        rw [if_neg w29, if_neg w29]
        by_cases w30 : w = 30
        · rw [if_pos w30, if_pos w30]
        rw [if_neg w30, if_neg w30, if_pos (by omega)]
      rw [VAL]
      rcases BK kd w34 hkd with ⟨k4, z⟩ | ⟨k3, nz⟩ | ⟨k0, ⟨a0, b0⟩, h29, h31⟩
      · rw [if_pos z] at hwd
        subst hwd k4
        rfl
      · rw [if_neg nz] at hwd
        subst hwd k3
        rfl
      · rw [if_neg (by omega)] at hwd
        subst hwd k0
        rw [if_neg (by decide)]
        obtain ⟨g1, g2, g3⟩ := ls_bool32 (wa.2.1 a0) (wb.2.1 b0)
        rw [if_neg (by omega), if_neg (by omega), if_neg (by omega), if_neg (by omega), if_neg (by omega)]
        show _ = (if w = 29 then _ else _)
        by_cases w29 : w = 29
        · rw [if_pos w29]; exact g1
        rw [if_neg w29]
        by_cases w30 : w = 30
        · rw [if_pos w30]; exact g2
        · rw [if_neg w30]; exact g3
  have P340 : ∀ z : Nat, z ≤ 1 → 35 ≤ w → ls_bk w a b ≠ none → (z = 1 ↔ ls_cmp w x y) → wY_operate_340 post (nI z) f_most f_n f_stored f_nm f_nEnv f_base (nI (m + 1)) f_no f_nc f_pc f_mode f_err f_errAt f_ticks f_calls f_outs f_resK f_part f_resV f_cnt f_full f_flag f_need a_tk a_tv a_tp a_mName a_mKind a_mCount a_mPar a_mAt a_vName a_vDecl a_vKind a_vVal a_sk a_sv a_oKind a_oAt a_oArgs a_cKind a_cA a_cB a_outK a_outV := by
    intro z hz1 w35 hb hz
    have hb0 : ls_bk w a b = some 0 := by
      unfold ls_bk at hb ⊢
      split
      · first | rfl | rw [if_pos w35]
      · next nn =>
        rw [if_neg nn] at hb
        split
        · rfl
        · next c => rw [if_neg c] at hb; exact absurd rfl hb
    unfold wY_operate_340
    rw [en]
    refine ⟨im, nm_r (by rw [em, show vp_nar .byte 0 = nI 0 from ls_vnb (n := 0) (by decide)]) ?_⟩
    have V : ls_val w 0 x y = @ite Int64 (ls_cmp w x y) (Classical.propDecidable _) 1 0 := by
      unfold ls_val
      rw [if_neg (by omega), if_neg (by omega), if_neg (by omega), if_neg (by omega), if_neg (by omega), if_neg (by omega), if_neg (by omega), if_neg (by omega), if_neg (by omega)]
    by_cases q : z = 1
    · subst q
      refine br_f (by decide) ⟨im, nm_r (by rw [em]) (OK 0 1 hb0 (fun h => by omega) ?_)⟩
      rw [V, if_pos (hz.mp rfl)]
    · have : z = 0 := by omega
      subst this
      refine br_t rfl ⟨im, nm_r (by rw [em]) (OK 0 0 hb0 (fun h => by omega) ?_)⟩
      rw [V, if_neg (fun h => q (hz.mpr h))]
  have P190 : ∀ lg : Nat, lg = (if a = 0 ∧ b = 0 then 1 else 0) → ls_bk w a b ≠ none → ¬ ((w = 27 ∨ w = 28) ∧ y = 0) → wY_operate_190 post (nI w) (nI a) (nI b) x y (nI lg) f_most f_n f_stored f_nm f_nEnv f_base (nI (m + 1)) f_no f_nc f_pc f_mode f_err f_errAt f_ticks f_calls f_outs f_resK f_part f_resV f_cnt f_full f_flag f_need a_tk a_tv a_tp a_mName a_mKind a_mCount a_mPar a_mAt a_vName a_vDecl a_vKind a_vVal a_sk a_sv a_oKind a_oAt a_oArgs a_cKind a_cA a_cB a_outK a_outV := by
    intro lg hlg hb hz
    by_cases w34 : w ≤ 34
    · refine br_t ((WL 34 (by decide)).mpr w34) ?_
      by_cases a4' : a = 4
      · exact br_t (E a 4 a4') (P398 lg 1 hlg (by rw [if_pos (Or.inl a4')]) w34 hb hz)
      refine br_f (N a 4 (by omega) (by decide) a4') ?_
      by_cases b4' : b = 4
      · refine br_t (E b 4 b4') ?_
        by_cases w32 : 32 ≤ w
        · exact br_t ((WG 32 (by decide)).mpr w32) (P398 lg 0 hlg (by rw [if_neg (by omega)]) w34 hb hz)
        · exact br_f (mt (WG 32 (by decide)).mp w32) (P398 lg 1 hlg (by rw [if_pos (by omega)]) w34 hb hz)
      · exact br_f (N b 4 (by omega) (by decide) b4') (P398 lg 0 hlg (by rw [if_neg (by omega)]) w34 hb hz)
    · refine br_f (mt (WL 34 (by decide)).mp w34) ?_
      have C : ∀ z, z ≤ 1 → (z = 1 ↔ ls_cmp w x y) → wY_operate_340 post (nI z) f_most f_n f_stored f_nm f_nEnv f_base (nI (m + 1)) f_no f_nc f_pc f_mode f_err f_errAt f_ticks f_calls f_outs f_resK f_part f_resV f_cnt f_full f_flag f_need a_tk a_tv a_tp a_mName a_mKind a_mCount a_mPar a_mAt a_vName a_vDecl a_vKind a_vVal a_sk a_sv a_oKind a_oAt a_oArgs a_cKind a_cA a_cB a_outK a_outV := fun z hz1 h => P340 z hz1 (by omega) hb h
      unfold ls_cmp at C
      by_cases w35 : w = 35
      · subst w35
        simp only [if_true] at C
        exact br_t rfl (br_c (fun h => C 0 (by decide) ⟨fun e => by omega, fun e => absurd e (Int64.not_lt.mpr h)⟩) (fun h => C 1 (by decide) ⟨fun _ => Int64.not_le.mp h, fun _ => rfl⟩))
      rw [if_neg w35] at C
      refine br_f (N w 35 (by omega) (by decide) w35) ?_
      by_cases w36 : w = 36
      · subst w36
        simp only [if_true] at C
        exact br_t rfl (br_c (fun h => C 0 (by decide) ⟨fun e => by omega, fun e => absurd h (Int64.not_lt.mpr e)⟩) (fun h => C 1 (by decide) ⟨fun _ => Int64.not_lt.mp h, fun _ => rfl⟩))
      rw [if_neg w36] at C
      refine br_f (N w 36 (by omega) (by decide) w36) ?_
      by_cases w37 : w = 37
      · subst w37
        simp only [if_true] at C
        exact br_t rfl (br_c (fun h => C 0 (by decide) ⟨fun e => by omega, fun e => absurd e (Int64.not_lt.mpr h)⟩) (fun h => C 1 (by decide) ⟨fun _ => Int64.not_le.mp h, fun _ => rfl⟩))
      rw [if_neg w37] at C
      refine br_f (N w 37 (by omega) (by decide) w37) ?_
      by_cases w38 : w = 38
      · subst w38
        simp only [if_true] at C
        exact br_t rfl (br_c (fun h => C 0 (by decide) ⟨fun e => by omega, fun e => absurd h (Int64.not_lt.mpr e)⟩) (fun h => C 1 (by decide) ⟨fun _ => Int64.not_lt.mp h, fun _ => rfl⟩))
      rw [if_neg w38] at C
      refine br_f (N w 38 (by omega) (by decide) w38) ?_
      by_cases w39 : w = 39
      · subst w39
        simp only [if_true] at C
        exact br_t rfl (br_c (fun h => C 1 (by decide) ⟨fun _ => h, fun _ => rfl⟩) (fun h => C 0 (by decide) ⟨fun e => by omega, fun e => absurd e h⟩))
      rw [if_neg w39] at C
      refine br_f (N w 39 (by omega) (by decide) w39) ?_
      have w40 : w = 40 := by omega
      exact br_t (E w 40 w40) (br_c (fun h => C 0 (by decide) ⟨fun e => by omega, fun e => absurd h e⟩) (fun h => C 1 (by decide) ⟨fun _ => h, fun _ => rfl⟩))
  have P150 : ∀ lg ok : Nat, lg = (if a = 0 ∧ b = 0 then 1 else 0) → ok ≤ 1 → (ok = 1 ↔ ls_bk w a b ≠ none) → wY_operate_150 post (nI w) (nI at0) (nI a) (nI b) x y (nI lg) (nI ok) f_most f_n f_stored f_nm f_nEnv f_base (nI (m + 1)) f_no f_nc f_pc f_mode f_err f_errAt f_ticks f_calls f_outs f_resK f_part f_resV f_cnt f_full f_flag f_need a_tk a_tv a_tp a_mName a_mKind a_mCount a_mPar a_mAt a_vName a_vDecl a_vKind a_vVal a_sk a_sv a_oKind a_oAt a_oArgs a_cKind a_cA a_cB a_outK a_outV := by
    intro lg ok hlg ho hok
    by_cases o : ok = 1
    · subst o
      have hb := hok.mp rfl
      refine br_f (by decide) ?_
      have P176 : (w = 27 ∨ w = 28) → wY_operate_176 post (nI w) (nI at0) (nI a) (nI b) x y (nI lg) f_most f_n f_stored f_nm f_nEnv f_base (nI (m + 1)) f_no f_nc f_pc f_mode f_err f_errAt f_ticks f_calls f_outs f_resK f_part f_resV f_cnt f_full f_flag f_need a_tk a_tv a_tp a_mName a_mKind a_mCount a_mPar a_mAt a_vName a_vDecl a_vKind a_vVal a_sk a_sv a_oKind a_oAt a_oArgs a_cKind a_cA a_cB a_outK a_outV := by
        intro d
        by_cases y0 : y = 0
        · refine br_t y0 (hy_fail hat (h0 4 ?_))
          unfold ls_bin
          cases hh : ls_bk w a b with
          | none => exact absurd hh hb
          | some kd => dsimp only; rw [if_pos ⟨d, y0⟩]
        · exact br_f y0 (P190 lg hlg hb (fun h => y0 h.2))
      by_cases w27 : w = 27
      · exact br_t (E w 27 w27) (P176 (Or.inl w27))
      refine br_f (N w 27 (by omega) (by decide) w27) ?_
      by_cases w28 : w = 28
      · exact br_t (E w 28 w28) (P176 (Or.inr w28))
      · exact br_f (N w 28 (by omega) (by decide) w28) (P190 lg hlg hb (fun h => h.1.elim w27 w28))
    · have : ok = 0 := by omega
      subst this
      refine br_t rfl (hy_fail hat (h0 3 ?_))
      unfold ls_bin
      cases hh : ls_bk w a b with
      | none => rfl
      | some kd => exact absurd (hok.mpr (by rw [hh]; simp)) (by decide)
  have P130 : ∀ lg nu : Nat, lg = (if a = 0 ∧ b = 0 then 1 else 0) → nu = (if a ≠ 0 ∧ b ≠ 0 then 1 else 0) → (29 ≤ w ∧ w ≤ 31 ∨ 39 ≤ w) → wY_operate_130 post (nI w) (nI at0) (nI a) (nI b) x y (nI lg) (nI nu) f_most f_n f_stored f_nm f_nEnv f_base (nI (m + 1)) f_no f_nc f_pc f_mode f_err f_errAt f_ticks f_calls f_outs f_resK f_part f_resV f_cnt f_full f_flag f_need a_tk a_tv a_tp a_mName a_mKind a_mCount a_mPar a_mAt a_vName a_vDecl a_vKind a_vVal a_sk a_sv a_oKind a_oAt a_oArgs a_cKind a_cA a_cB a_outK a_outV := by
    intro lg nu hlg hnu hww
    by_cases l : a = 0 ∧ b = 0
    · have hlg' := hlg
      rw [if_pos l] at hlg'
      subst hlg'
      refine br_f (by decide) (P150 1 1 hlg (by decide) ⟨fun _ => ?_, fun _ => rfl⟩)
      unfold ls_bk
      rw [if_neg (fun h => h.1 l.1), if_pos ⟨l.1, l.2, hww⟩]; simp
    · have hlg' := hlg
      rw [if_neg l] at hlg'
      subst hlg'
      refine br_t rfl ?_
      by_cases nn : a ≠ 0 ∧ b ≠ 0
      · rw [if_pos nn] at hnu
        subst hnu
        refine br_f (by decide) (P150 0 1 hlg (by decide) ⟨fun _ => ?_, fun _ => rfl⟩)
        unfold ls_bk
        rw [if_pos nn]; simp
      · rw [if_neg nn] at hnu
        subst hnu
        refine br_t rfl (P150 0 0 hlg (by decide) ⟨fun h => by omega, fun h => ?_⟩)
        unfold ls_bk at h
        rw [if_neg nn, if_neg (fun g => l ⟨g.1, g.2.1⟩)] at h
        exact absurd rfl h
  have P106 : ∀ lg nu bi : Nat, lg = (if a = 0 ∧ b = 0 then 1 else 0) → nu = (if a ≠ 0 ∧ b ≠ 0 then 1 else 0) → bi = (if 29 ≤ w ∧ w ≤ 31 then 1 else 0) → wY_operate_106 post (nI w) (nI at0) (nI a) (nI b) x y (nI lg) (nI nu) (nI bi) f_most f_n f_stored f_nm f_nEnv f_base (nI (m + 1)) f_no f_nc f_pc f_mode f_err f_errAt f_ticks f_calls f_outs f_resK f_part f_resV f_cnt f_full f_flag f_need a_tk a_tv a_tp a_mName a_mKind a_mCount a_mPar a_mAt a_vName a_vDecl a_vKind a_vVal a_sk a_sv a_oKind a_oAt a_oArgs a_cKind a_cA a_cB a_outK a_outV := by
    intro lg nu bi hlg hnu hbi
    refine br_t ((WL 40 (by decide)).mpr hw.2) ?_
    by_cases c : 29 ≤ w ∧ w ≤ 31
    · rw [if_pos c] at hbi
      subst hbi
      exact br_f (by decide) (P130 lg nu hlg hnu (Or.inl c))
    · rw [if_neg c] at hbi
      subst hbi
      refine br_t rfl ?_
      by_cases w38 : w ≤ 38
      · refine br_t ((WL 38 (by decide)).mpr w38) (P150 lg nu hlg (by rw [hnu]; split <;> omega) ?_)
        rw [hnu]
        unfold ls_bk
        by_cases nn : a ≠ 0 ∧ b ≠ 0
        · rw [if_pos nn, if_pos nn]; simp
        · rw [if_neg nn, if_neg nn, if_neg (by omega)]; simp
      · exact br_f (mt (WL 38 (by decide)).mp w38) (P130 lg nu hlg hnu (Or.inr (by omega)))
  have P87 : ∀ lg nu : Nat, lg = (if a = 0 ∧ b = 0 then 1 else 0) → nu = (if a ≠ 0 ∧ b ≠ 0 then 1 else 0) → wY_operate_87 post (nI w) (nI at0) (nI a) (nI b) x y (nI lg) (nI nu) f_most f_n f_stored f_nm f_nEnv f_base (nI (m + 1)) f_no f_nc f_pc f_mode f_err f_errAt f_ticks f_calls f_outs f_resK f_part f_resV f_cnt f_full f_flag f_need a_tk a_tv a_tp a_mName a_mKind a_mCount a_mPar a_mAt a_vName a_vDecl a_vKind a_vVal a_sk a_sv a_oKind a_oAt a_oArgs a_cKind a_cA a_cB a_outK a_outV := by
    intro lg nu hlg hnu
    by_cases w29 : w < 29
    · exact br_t (nI_lt (b := 29) w29 (by decide)) (P106 lg nu 0 hlg hnu (by rw [if_neg (by omega)]))
    refine br_f (nI_nlt (b := 29) (by omega) (by omega)) ?_
    by_cases w31 : 31 < w
    · exact br_t (nI_lt (a := 31) w31 (by omega)) (P106 lg nu 0 hlg hnu (by rw [if_neg (by omega)]))
    · exact br_f (nI_nlt (a := 31) (by omega) (by decide)) (P106 lg nu 1 hlg hnu (by rw [if_pos (by omega)]))
  have P71 : ∀ lg : Nat, lg = (if a = 0 ∧ b = 0 then 1 else 0) → wY_operate_71 post (nI w) (nI at0) (nI a) (nI b) x y (nI lg) f_most f_n f_stored f_nm f_nEnv f_base (nI (m + 1)) f_no f_nc f_pc f_mode f_err f_errAt f_ticks f_calls f_outs f_resK f_part f_resV f_cnt f_full f_flag f_need a_tk a_tv a_tp a_mName a_mKind a_mCount a_mPar a_mAt a_vName a_vDecl a_vKind a_vVal a_sk a_sv a_oKind a_oAt a_oArgs a_cKind a_cA a_cB a_outK a_outV := by
    intro lg hlg
    by_cases a0 : a = 0
    · exact br_t (by rw [a0]; decide) (P87 lg 0 hlg (by rw [if_neg (fun h => h.1 a0)]))
    refine br_f (nI_nle (by omega) (by omega)) ?_
    by_cases b0 : b = 0
    · exact br_t (by rw [b0]; decide) (P87 lg 0 hlg (by rw [if_neg (fun h => h.2 b0)]))
    · exact br_f (nI_nle (by omega) (by omega)) (P87 lg 1 hlg (by rw [if_pos ⟨a0, b0⟩]))
  unfold wpY_operate
  dsimp only
  refine nm_r (nI_pred (m + 1)) ?_
  rw [en]
  refine ⟨im, ?_⟩
  rw [em, e1]
  refine nm_e ⟨im1, ?_⟩
  rw [em1, e2]
  refine nm_e ⟨im, ?_⟩
  rw [e3]
  refine nm_e ⟨im1, ?_⟩
  rw [e4]
  refine nm_e ?_
  by_cases a0 : a = 0
  · refine br_t (E a 0 a0) ?_
    by_cases b0 : b = 0
    · exact br_t (E b 0 b0) (P71 1 (by rw [if_pos ⟨a0, b0⟩]))
    · exact br_f (N b 0 (by omega) (by decide) b0) (P71 0 (by rw [if_neg (fun h => b0 h.2)]))
  · exact br_f (N a 0 (by omega) (by decide) a0) (P71 0 (by rw [if_neg (fun h => a0 h.1)]))
end
end
section
section
variable {f_most f_n f_stored f_nm f_nEnv f_base f_ns f_no f_nc f_pc f_mode f_err f_errAt f_ticks f_calls f_outs f_resK f_part f_cnt f_full f_flag f_need : Int32}
variable {f_resV : Int64}
variable {a_tk a_tp a_mName a_mKind a_mCount a_mPar a_mAt a_vName a_vDecl a_vKind a_sk a_oKind a_oAt a_oArgs a_cKind a_cA a_cB a_outK : Nat → Int32}
variable {a_tv a_vVal a_sv a_outV : Nat → Int64}
variable {post : SY → Prop} {q : Int32 → Prop} {at0 m k w a b : Nat} {v x y : Int64}
set_option maxHeartbeats 200000 in
/-- && and || at their end: the right side must be a boolean -/
theorem hy_operate2 (hm : m + 1 < 400) (hat : at0 < 384) (hw : w = 41 ∨ w = 42) (e1 : a_sk m = 0) (e2 : a_sk (m + 1) = nI b) (e3 : a_sv m = x) (e4 : a_sv (m + 1) = y) (wb : ls_wf b y)
    (h1 : b = 0 → post (f_most, f_n, f_stored, f_nm, f_nEnv, f_base, nI (m + 1), f_no, f_nc, f_pc, f_mode, f_err, f_errAt, f_ticks, f_calls, f_outs, f_resK, f_part, f_resV, f_cnt, f_full, f_flag, f_need, a_tk, a_tv, a_tp, a_mName, a_mKind, a_mCount, a_mPar, a_mAt, a_vName, a_vDecl, a_vKind, a_vVal, upd a_sk m 0, vp_updL a_sv m y, a_oKind, a_oAt, a_oArgs, a_cKind, a_cA, a_cB, a_outK, a_outV))
    (h0 : b ≠ 0 → post (f_most, f_n, f_stored, f_nm, f_nEnv, f_base, nI (m + 1), f_no, f_nc, f_pc, f_mode, 3, ls_pl a_tp at0, f_ticks, f_calls, f_outs, f_resK, f_part, f_resV, f_cnt, f_full, f_flag, f_need, a_tk, a_tv, a_tp, a_mName, a_mKind, a_mCount, a_mPar, a_mAt, a_vName, a_vDecl, a_vKind, a_vVal, a_sk, a_sv, a_oKind, a_oAt, a_oArgs, a_cKind, a_cA, a_cB, a_outK, a_outV)) : wpY_operate post (f_most, f_n, f_stored, f_nm, f_nEnv, f_base, nI (m + 2), f_no, f_nc, f_pc, f_mode, f_err, f_errAt, f_ticks, f_calls, f_outs, f_resK, f_part, f_resV, f_cnt, f_full, f_flag, f_need, a_tk, a_tv, a_tp, a_mName, a_mKind, a_mCount, a_mPar, a_mAt, a_vName, a_vDecl, a_vKind, a_vVal, a_sk, a_sv, a_oKind, a_oAt, a_oArgs, a_cKind, a_cA, a_cB, a_outK, a_outV) (nI w) (nI at0) := by
  have b4 := wb.1
  have N : ∀ a v, a < 100 → v < 100 → a ≠ v → ¬ nI a = nI v := fun a v ha hv h => mt (ls_k8 ha hv).mp h
  have E : ∀ a v, a = v → nI a = nI v := fun a v h => by rw [h]
  have im : vp_in (nI m) 400 := vp_in_nI (by omega) (by decide)
  have em : (nI m).toNatClampNeg = m := nI_clamp (by omega)
  have im1 : vp_in (nI (m + 1)) 400 := vp_in_nI (by omega) (by decide)
  have em1 : (nI (m + 1)).toNatClampNeg = m + 1 := nI_clamp (by omega)
  have en : nI (m + 1) - 1 = nI m := nI_pred m
  have P340 : ∀ z : Nat, z ≤ 1 → b = 0 → (z = 1 ↔ y = 1) → wY_operate_340 post (nI z) f_most f_n f_stored f_nm f_nEnv f_base (nI (m + 1)) f_no f_nc f_pc f_mode f_err f_errAt f_ticks f_calls f_outs f_resK f_part f_resV f_cnt f_full f_flag f_need a_tk a_tv a_tp a_mName a_mKind a_mCount a_mPar a_mAt a_vName a_vDecl a_vKind a_vVal a_sk a_sv a_oKind a_oAt a_oArgs a_cKind a_cA a_cB a_outK a_outV := by
    intro z hz1 b0 hz
    unfold wY_operate_340
    rw [en]
    refine ⟨im, nm_r (by rw [em, show vp_nar .byte 0 = 0 from ls_vnb (n := 0) (by decide)]) ?_⟩
    have hp := h1 b0
    by_cases q : z = 1
    · have y1 := hz.mp q
      subst q
      rw [y1] at hp
      exact br_f (by decide) ⟨im, nm_r (by rw [em]) hp⟩
    · have : z = 0 := by omega
      subst this
      have y0 : y = 0 := (wb.2.1 b0).elim id (fun h => absurd (hz.mpr h) (by decide))
      rw [y0] at hp
      exact br_t rfl ⟨im, nm_r (by rw [em]) hp⟩
  have P190 : b = 0 → ∀ lg, wY_operate_190 post (nI w) 0 (nI b) x y lg f_most f_n f_stored f_nm f_nEnv f_base (nI (m + 1)) f_no f_nc f_pc f_mode f_err f_errAt f_ticks f_calls f_outs f_resK f_part f_resV f_cnt f_full f_flag f_need a_tk a_tv a_tp a_mName a_mKind a_mCount a_mPar a_mAt a_vName a_vDecl a_vKind a_vVal a_sk a_sv a_oKind a_oAt a_oArgs a_cKind a_cA a_cB a_outK a_outV := by
    intro b0 lg
    refine br_f (nI_ge (a := 34) (by omega) (by omega)) ?_
    refine br_f (N w 35 (by omega) (by decide) (by omega)) (br_f (N w 36 (by omega) (by decide) (by omega)) (br_f (N w 37 (by omega) (by decide) (by omega)) (br_f (N w 38 (by omega) (by decide) (by omega)) (br_f (N w 39 (by omega) (by decide) (by omega)) (br_f (N w 40 (by omega) (by decide) (by omega)) ?_)))))
    exact br_c (fun h => P340 1 (by decide) b0 ⟨fun _ => h, fun _ => rfl⟩) (fun h => P340 0 (by decide) b0 ⟨fun e => by omega, fun e => absurd e h⟩)
  have P150 : ∀ lg : Nat, lg = (if b = 0 then 1 else 0) → wY_operate_150 post (nI w) (nI at0) 0 (nI b) x y (nI lg) (nI lg) f_most f_n f_stored f_nm f_nEnv f_base (nI (m + 1)) f_no f_nc f_pc f_mode f_err f_errAt f_ticks f_calls f_outs f_resK f_part f_resV f_cnt f_full f_flag f_need a_tk a_tv a_tp a_mName a_mKind a_mCount a_mPar a_mAt a_vName a_vDecl a_vKind a_vVal a_sk a_sv a_oKind a_oAt a_oArgs a_cKind a_cA a_cB a_outK a_outV := by
    intro lg hlg
    by_cases b0 : b = 0
    · rw [if_pos b0] at hlg
      subst hlg
      exact br_f (by decide) (br_f (N w 27 (by omega) (by decide) (by omega)) (br_f (N w 28 (by omega) (by decide) (by omega)) (P190 b0 _)))
    · rw [if_neg b0] at hlg
      subst hlg
      exact br_t rfl (hy_fail hat (h0 b0))
  have P71 : ∀ lg : Nat, lg = (if b = 0 then 1 else 0) → wY_operate_71 post (nI w) (nI at0) 0 (nI b) x y (nI lg) f_most f_n f_stored f_nm f_nEnv f_base (nI (m + 1)) f_no f_nc f_pc f_mode f_err f_errAt f_ticks f_calls f_outs f_resK f_part f_resV f_cnt f_full f_flag f_need a_tk a_tv a_tp a_mName a_mKind a_mCount a_mPar a_mAt a_vName a_vDecl a_vKind a_vVal a_sk a_sv a_oKind a_oAt a_oArgs a_cKind a_cA a_cB a_outK a_outV := by
    intro lg hlg
    exact br_t (by decide) (br_f (nI_nlt (b := 29) (by omega) (by omega)) (br_t (nI_lt (a := 31) (by omega) (by omega)) (br_f (nI_ge (a := 40) (by omega) (by omega)) (P150 lg hlg))))
  unfold wpY_operate
  dsimp only
  refine nm_r (nI_pred (m + 1)) ?_
  rw [en]
  refine ⟨im, ?_⟩
  rw [em, e1]
  refine nm_e ⟨im1, ?_⟩
  rw [em1, e2]
  refine nm_e ⟨im, ?_⟩
  rw [e3]
  refine nm_e ⟨im1, ?_⟩
  rw [e4]
  refine nm_e (br_t rfl ?_)
  by_cases b0 : b = 0
  · exact br_t (E b 0 b0) (P71 1 (by rw [if_pos b0]))
  · exact br_f (N b 0 (by omega) (by decide) b0) (P71 0 (by rw [if_neg b0]))
set_option maxHeartbeats 200000 in
theorem hy_unary (hm : m < 399) (hat : at0 + 1 < 384) (hw : w = 22 ∨ w = 23 ∨ w = 24 ∨ w = 25) (e0 : a_tk at0 = nI w) (e1 : a_sk m = nI k) (hk : k ≤ 4) (e3 : a_sv m = v)
    (h1 : ∀ k' v' sk', ls_un w k v = some (k', v') → sk' m = nI k' → (∀ j, j ≠ m → sk' j = a_sk j) → post (f_most, f_n, f_stored, f_nm, f_nEnv, f_base, nI (m + 1), f_no, f_nc, f_pc, f_mode, f_err, f_errAt, f_ticks, f_calls, f_outs, f_resK, f_part, f_resV, f_cnt, f_full, f_flag, f_need, a_tk, a_tv, a_tp, a_mName, a_mKind, a_mCount, a_mPar, a_mAt, a_vName, a_vDecl, a_vKind, a_vVal, sk', vp_updL a_sv m v', a_oKind, a_oAt, a_oArgs, a_cKind, a_cA, a_cB, a_outK, a_outV))
    (h0 : ∀ sk' sv', ls_un w k v = none → post (f_most, f_n, f_stored, f_nm, f_nEnv, f_base, nI (m + 1), f_no, f_nc, f_pc, f_mode, 3, ls_pl a_tp at0, f_ticks, f_calls, f_outs, f_resK, f_part, f_resV, f_cnt, f_full, f_flag, f_need, a_tk, a_tv, a_tp, a_mName, a_mKind, a_mCount, a_mPar, a_mAt, a_vName, a_vDecl, a_vKind, a_vVal, sk', sv', a_oKind, a_oAt, a_oArgs, a_cKind, a_cA, a_cB, a_outK, a_outV)) : wpY_unary post (f_most, f_n, f_stored, f_nm, f_nEnv, f_base, nI (m + 1), f_no, f_nc, f_pc, f_mode, f_err, f_errAt, f_ticks, f_calls, f_outs, f_resK, f_part, f_resV, f_cnt, f_full, f_flag, f_need, a_tk, a_tv, a_tp, a_mName, a_mKind, a_mCount, a_mPar, a_mAt, a_vName, a_vDecl, a_vKind, a_vVal, a_sk, a_sv, a_oKind, a_oAt, a_oArgs, a_cKind, a_cA, a_cB, a_outK, a_outV) 5 (nI at0) := by
  have N : ∀ a v, a < 100 → v < 100 → a ≠ v → ¬ nI a = nI v := fun a v ha hv h => mt (ls_k8 ha hv).mp h
  have E : ∀ a v, a = v → nI a = nI v := fun a v h => by rw [h]
  have im : vp_in (nI m) 400 := vp_in_nI (by omega) (by decide)
  have em : (nI m).toNatClampNeg = m := nI_clamp (by omega)
  have en : nI (m + 1) - 1 = nI m := nI_pred m
  unfold wpY_unary
  dsimp only
  rw [en]
  refine ⟨im, ?_⟩
  rw [em, e1]
  refine nm_e ⟨im, ?_⟩
  rw [e3]
  refine nm_e ⟨vp_in_nI (by omega) (by decide), ?_⟩
  rw [nI_clamp (n := at0) (by omega), e0]
  refine nm_e ?_
  rw [nI_1]
  refine ⟨vp_in_nI hat (by decide), nm_e (br_f (by decide) ?_)⟩
  unfold ls_un at h1 h0
  by_cases w22 : w = 22
  · rw [if_pos w22] at h1
    refine br_t (E w 22 w22) ?_
    by_cases k0 : k = 0
    · rw [if_pos k0] at h1
      refine br_t (E k 0 k0) ?_
      unfold wY_unary_130
      rw [en]
      exact ⟨im, nm_r (by rw [em]) (h1 _ _ a_sk rfl (by rw [e1, k0]) (fun _ _ => rfl))⟩
    · refine br_f (N k 0 (by omega) (by decide) k0) (hy_fail (by omega) ?_)
      dsimp only
      unfold wY_unary_130
      rw [en]
      exact ⟨im, nm_r (by rw [em]) (h0 _ _ (by rw [if_pos w22, if_neg k0]))⟩
  · rw [if_neg w22] at h1
    refine br_f (N w 22 (by omega) (by decide) w22) ?_
    have G211 : ∀ (kd : Nat) (r : Int64) (er ea : Int32), kd = (if k = 4 then 4 else 3) → (∀ sk', sk' m = nI kd → (∀ j, j ≠ m → sk' j = a_sk j) → post (f_most, f_n, f_stored, f_nm, f_nEnv, f_base, nI (m + 1), f_no, f_nc, f_pc, f_mode, er, ea, f_ticks, f_calls, f_outs, f_resK, f_part, f_resV, f_cnt, f_full, f_flag, f_need, a_tk, a_tv, a_tp, a_mName, a_mKind, a_mCount, a_mPar, a_mAt, a_vName, a_vDecl, a_vKind, a_vVal, sk', vp_updL a_sv m (ls_nar kd r), a_oKind, a_oAt, a_oArgs, a_cKind, a_cA, a_cB, a_outK, a_outV)) → wY_unary_211 post (nI k) r (nI kd) (nI m) f_most f_n f_stored f_nm f_nEnv f_base (nI (m + 1)) f_no f_nc f_pc f_mode er ea f_ticks f_calls f_outs f_resK f_part f_resV f_cnt f_full f_flag f_need a_tk a_tv a_tp a_mName a_mKind a_mCount a_mPar a_mAt a_vName a_vDecl a_vKind a_vVal a_sk a_sv a_oKind a_oAt a_oArgs a_cKind a_cA a_cB a_outK a_outV := by
      intro kd r er ea hkd hp
      have kd8 : kd < 128 := by rw [hkd]; split <;> omega
      unfold wY_unary_211
      rw [en]
      have hp' := hp (upd a_sk m (nI kd)) pk_us (fun j hj => pk_un hj)
      refine ⟨im, nm_r (by rw [em, ls_vnb2 kd8]) ?_⟩
      by_cases k4 : k = 4
      · rw [if_pos k4] at hkd
        subst hkd
        exact br_t (E k 4 k4) ⟨im, nm_r (show _ = vp_updL a_sv m (ls_nar 4 r) by rw [em]; rfl) hp'⟩
      · rw [if_neg k4] at hkd
        subst hkd
        exact br_f (N k 4 (by omega) (by decide) k4) ⟨im, nm_r (show _ = vp_updL a_sv m (ls_nar 3 r) by rw [em]; rfl) hp'⟩
    have G189 : ∀ (r : Int64) (er ea : Int32), (∀ sk', sk' m = nI (if k = 4 then 4 else 3) → (∀ j, j ≠ m → sk' j = a_sk j) → post (f_most, f_n, f_stored, f_nm, f_nEnv, f_base, nI (m + 1), f_no, f_nc, f_pc, f_mode, er, ea, f_ticks, f_calls, f_outs, f_resK, f_part, f_resV, f_cnt, f_full, f_flag, f_need, a_tk, a_tv, a_tp, a_mName, a_mKind, a_mCount, a_mPar, a_mAt, a_vName, a_vDecl, a_vKind, a_vVal, sk', vp_updL a_sv m (ls_nar (if k = 4 then 4 else 3) r), a_oKind, a_oAt, a_oArgs, a_cKind, a_cA, a_cB, a_outK, a_outV)) → wY_unary_189 post (nI k) r f_most f_n f_stored f_nm f_nEnv f_base (nI (m + 1)) f_no f_nc f_pc f_mode er ea f_ticks f_calls f_outs f_resK f_part f_resV f_cnt f_full f_flag f_need a_tk a_tv a_tp a_mName a_mKind a_mCount a_mPar a_mAt a_vName a_vDecl a_vKind a_vVal a_sk a_sv a_oKind a_oAt a_oArgs a_cKind a_cA a_cB a_outK a_outV := by
      intro r er ea hp
      unfold wY_unary_189
      rw [en]
      by_cases k4 : k = 4
      · rw [if_pos k4] at hp
        exact br_t (E k 4 k4) (G211 4 r er ea (by rw [if_pos k4]) hp)
      · rw [if_neg k4] at hp
        exact br_f (N k 4 (by omega) (by decide) k4) (G211 3 r er ea (by rw [if_neg k4]) hp)
    have G158 : ∀ (er ea : Int32), (∀ sk', sk' m = nI (if k = 4 then 4 else 3) → (∀ j, j ≠ m → sk' j = a_sk j) → post (f_most, f_n, f_stored, f_nm, f_nEnv, f_base, nI (m + 1), f_no, f_nc, f_pc, f_mode, er, ea, f_ticks, f_calls, f_outs, f_resK, f_part, f_resV, f_cnt, f_full, f_flag, f_need, a_tk, a_tv, a_tp, a_mName, a_mKind, a_mCount, a_mPar, a_mAt, a_vName, a_vDecl, a_vKind, a_vVal, sk', vp_updL a_sv m (ls_nar (if k = 4 then 4 else 3) (if w = 25 then -v else if w = 23 then v ^^^ (-1) else v)), a_oKind, a_oAt, a_oArgs, a_cKind, a_cA, a_cB, a_outK, a_outV)) → wY_unary_158 post (nI k) v (nI w) f_most f_n f_stored f_nm f_nEnv f_base (nI (m + 1)) f_no f_nc f_pc f_mode er ea f_ticks f_calls f_outs f_resK f_part f_resV f_cnt f_full f_flag f_need a_tk a_tv a_tp a_mName a_mKind a_mCount a_mPar a_mAt a_vName a_vDecl a_vKind a_vVal a_sk a_sv a_oKind a_oAt a_oArgs a_cKind a_cA a_cB a_outK a_outV := by
      intro er ea hp
      by_cases w24 : w = 24
      · rw [if_neg (show ¬ w = 25 by omega), if_neg (show ¬ w = 23 by omega)] at hp
        exact br_t (E w 24 w24) (G189 v er ea hp)
      refine br_f (N w 24 (by omega) (by decide) w24) ?_
      by_cases w25 : w = 25
      · rw [if_pos w25] at hp
        exact br_t (E w 25 w25) (G189 (-v) er ea hp)
      · rw [if_neg w25, if_pos (show w = 23 by omega)] at hp
        exact br_f (N w 25 (by omega) (by decide) w25) (G189 (v ^^^ (-1)) er ea hp)
    by_cases k0 : k = 0
    · refine br_t (E k 0 k0) (hy_fail (by omega) ?_)
      exact G158 3 _ (fun sk' _ _ => h0 _ _ (by rw [if_neg w22, if_pos k0]))
    · rw [if_neg k0] at h1
      exact br_f (N k 0 (by omega) (by decide) k0) (G158 _ _ (fun sk' g1 g2 => h1 _ _ sk' rfl g1 g2))
set_option maxHeartbeats 200000 in
theorem hy_cast {t : Nat} (hm : m < 399) (hat : at0 + 1 < 384) (ht : t < 5) (e0 : a_tk (at0 + 1) = nI t) (e1 : a_sk m = nI k) (hk : k ≤ 4) (e3 : a_sv m = v)
    (h1 : ∀ k' v', ls_cst t k v = some (k', v') → post (f_most, f_n, f_stored, f_nm, f_nEnv, f_base, nI (m + 1), f_no, f_nc, f_pc, f_mode, f_err, f_errAt, f_ticks, f_calls, f_outs, f_resK, f_part, f_resV, f_cnt, f_full, f_flag, f_need, a_tk, a_tv, a_tp, a_mName, a_mKind, a_mCount, a_mPar, a_mAt, a_vName, a_vDecl, a_vKind, a_vVal, upd a_sk m (nI k'), vp_updL a_sv m v', a_oKind, a_oAt, a_oArgs, a_cKind, a_cA, a_cB, a_outK, a_outV))
    (h0 : ∀ sk' sv', ls_cst t k v = none → post (f_most, f_n, f_stored, f_nm, f_nEnv, f_base, nI (m + 1), f_no, f_nc, f_pc, f_mode, 3, ls_pl a_tp at0, f_ticks, f_calls, f_outs, f_resK, f_part, f_resV, f_cnt, f_full, f_flag, f_need, a_tk, a_tv, a_tp, a_mName, a_mKind, a_mCount, a_mPar, a_mAt, a_vName, a_vDecl, a_vKind, a_vVal, sk', sv', a_oKind, a_oAt, a_oArgs, a_cKind, a_cA, a_cB, a_outK, a_outV)) : wpY_unary post (f_most, f_n, f_stored, f_nm, f_nEnv, f_base, nI (m + 1), f_no, f_nc, f_pc, f_mode, f_err, f_errAt, f_ticks, f_calls, f_outs, f_resK, f_part, f_resV, f_cnt, f_full, f_flag, f_need, a_tk, a_tv, a_tp, a_mName, a_mKind, a_mCount, a_mPar, a_mAt, a_vName, a_vDecl, a_vKind, a_vVal, a_sk, a_sv, a_oKind, a_oAt, a_oArgs, a_cKind, a_cA, a_cB, a_outK, a_outV) 6 (nI at0) := by
  have N : ∀ a v, a < 100 → v < 100 → a ≠ v → ¬ nI a = nI v := fun a v ha hv h => mt (ls_k8 ha hv).mp h
  have E : ∀ a v, a = v → nI a = nI v := fun a v h => by rw [h]
  have im : vp_in (nI m) 400 := vp_in_nI (by omega) (by decide)
  have em : (nI m).toNatClampNeg = m := nI_clamp (by omega)
  have en : nI (m + 1) - 1 = nI m := nI_pred m
  unfold wpY_unary
  dsimp only
  rw [en]
  refine ⟨im, ?_⟩
  rw [em, e1]
  refine nm_e ⟨im, ?_⟩
  rw [e3]
  refine nm_e ⟨vp_in_nI (by omega) (by decide), nm_e ?_⟩
  rw [nI_1]
  refine ⟨vp_in_nI hat (by decide), ?_⟩
  rw [nI_clamp (n := at0 + 1) (by omega), e0]
  refine nm_e (br_t rfl ?_)
  unfold ls_cst at h1 h0
  have G77 : ∀ er ea : Int32, post (f_most, f_n, f_stored, f_nm, f_nEnv, f_base, nI (m + 1), f_no, f_nc, f_pc, f_mode, er, ea, f_ticks, f_calls, f_outs, f_resK, f_part, f_resV, f_cnt, f_full, f_flag, f_need, a_tk, a_tv, a_tp, a_mName, a_mKind, a_mCount, a_mPar, a_mAt, a_vName, a_vDecl, a_vKind, a_vVal, upd a_sk m (nI t), vp_updL a_sv m (ls_nar t v), a_oKind, a_oAt, a_oArgs, a_cKind, a_cA, a_cB, a_outK, a_outV) → wY_unary_77 post v (nI t) f_most f_n f_stored f_nm f_nEnv f_base (nI (m + 1)) f_no f_nc f_pc f_mode er ea f_ticks f_calls f_outs f_resK f_part f_resV f_cnt f_full f_flag f_need a_tk a_tv a_tp a_mName a_mKind a_mCount a_mPar a_mAt a_vName a_vDecl a_vKind a_vVal a_sk a_sv a_oKind a_oAt a_oArgs a_cKind a_cA a_cB a_outK a_outV := by
    intro er ea hp
    unfold wY_unary_77
    rw [en]
    refine ⟨im, nm_r (by rw [em, ls_vnb2 (by omega)]) ?_⟩
    refine hy_narrow (by omega) ⟨im, nm_r (by rw [em]) hp⟩
  have G68 : ∀ z0 z1 : Nat, z0 = (if t = 0 then 1 else 0) → z1 = (if k = 0 then 1 else 0) → wY_unary_68 post (nI at0) v (nI t) (nI z0) (nI z1) f_most f_n f_stored f_nm f_nEnv f_base (nI (m + 1)) f_no f_nc f_pc f_mode f_err f_errAt f_ticks f_calls f_outs f_resK f_part f_resV f_cnt f_full f_flag f_need a_tk a_tv a_tp a_mName a_mKind a_mCount a_mPar a_mAt a_vName a_vDecl a_vKind a_vVal a_sk a_sv a_oKind a_oAt a_oArgs a_cKind a_cA a_cB a_outK a_outV := by
    intro z0 z1 ez0 ez1
    by_cases c : (k = 0 ↔ t = 0)
    · rw [if_pos c] at h1
      have ez : nI z1 = nI z0 := by
        rw [ez0, ez1]
        by_cases k0 : k = 0
        · rw [if_pos k0, if_pos (c.mp k0)]
        · rw [if_neg k0, if_neg (fun h => k0 (c.mpr h))]
      exact br_t ez (G77 _ _ (h1 _ _ rfl))
    · refine br_f ?_ (hy_fail (by omega) (G77 _ _ (h0 _ _ (by rw [if_neg c]))))
      rw [ez0, ez1]
      by_cases k0 : k = 0
      · rw [if_pos k0, if_neg (fun h => c ⟨fun _ => h, fun _ => k0⟩)]; decide
      · by_cases t0 : t = 0
        · rw [if_neg k0, if_pos t0]; decide
        · exact absurd (show (k = 0 ↔ t = 0) from ⟨fun h => absurd h k0, fun h => absurd h t0⟩) c
  have G58 : ∀ z1 : Nat, z1 = (if k = 0 then 1 else 0) → wY_unary_58 post (nI at0) v (nI t) (nI z1) f_most f_n f_stored f_nm f_nEnv f_base (nI (m + 1)) f_no f_nc f_pc f_mode f_err f_errAt f_ticks f_calls f_outs f_resK f_part f_resV f_cnt f_full f_flag f_need a_tk a_tv a_tp a_mName a_mKind a_mCount a_mPar a_mAt a_vName a_vDecl a_vKind a_vVal a_sk a_sv a_oKind a_oAt a_oArgs a_cKind a_cA a_cB a_outK a_outV := by
    intro z1 ez1
    by_cases t0 : t = 0
    · exact br_t (E t 0 t0) (G68 1 z1 (by rw [if_pos t0]) ez1)
    · exact br_f (N t 0 (by omega) (by decide) t0) (G68 0 z1 (by rw [if_neg t0]) ez1)
  by_cases k0 : k = 0
  · exact br_t (E k 0 k0) (G58 1 (by rw [if_pos k0]))
  · exact br_f (N k 0 (by omega) (by decide) k0) (G58 0 (by rw [if_neg k0]))
end
end
section
/-! The code at the end of the reading: what a step emits stays -/
section
variable {T : Nat → Nat} {V : Nat → Int32} {n : Nat} {pos es : Nat} {pe : List LsP} {fr : List LsF} {L : List Nat} {k : LsK} {c c' : LsC}
def ls_kk7 (c : LsC) : LsK := c.2.2.2.2.2.2
set_option maxHeartbeats 200000 in
theorem ls_ext_r0 (hr : ls_r0 T pos es pe fr L k = .ok c') : ls_kk7 c' = k := by
  unfold ls_r0 at hr
  repeat' split at hr
  all_goals (injection hr with hr; subst hr; rfl)
set_option maxHeartbeats 200000 in
theorem ls_ext_r1 (hr : ls_r1 T pos es pe fr L k = .ok c') : ls_ext k (ls_kk7 c') := by
  unfold ls_r1 ls_hdr at hr
  dsimp only at hr
  repeat' split at hr
  all_goals first | cases hr; done | (injection hr with hr; subst hr; first | exact ls_ext_em .. | exact ls_ext_t (ls_ext_em ..) (ls_ext_em ..))
set_option maxHeartbeats 200000 in
theorem ls_ext_r2 (hr : ls_r2 T pos es pe fr L k = .ok c') : ls_ext k (ls_kk7 c') := by
  unfold ls_r2 ls_var at hr
  dsimp only at hr
  repeat' split at hr
  all_goals first | cases hr; done | (injection hr with hr; subst hr; first | exact ls_ext_em .. | exact ls_ext_t (ls_ext_em ..) (ls_ext_em ..))
set_option maxHeartbeats 200000 in
theorem ls_ext_r3 (hr : ls_r3 T pos es pe fr L k = .ok c') : ls_ext k (ls_kk7 c') := by
  unfold ls_r3 at hr
  repeat' split at hr
  all_goals (injection hr with hr; subst hr; first | exact ls_ext_r _ | exact ls_ext_aim .. | exact ls_ext_t (ls_ext_em ..) (ls_ext_aim ..) | exact ls_ext_t (ls_ext_em ..) (ls_ext_ex ..))
set_option maxHeartbeats 200000 in
theorem ls_ext_r4 (hr : ls_r4 T V pos es pe fr L k = .ok c') : ls_ext k (ls_kk7 c') := by
  unfold ls_r4 ls_flt at hr
  dsimp only at hr
  split at hr
  · repeat' split at hr
    all_goals (injection hr with hr; subst hr; first | exact ls_ext_r _ | exact ls_ext_em ..)
  split at hr
  · injection hr with hr; subst hr; exact ls_ext_em ..
  split at hr
  · injection hr with hr; subst hr; exact ls_ext_em ..
  split at hr
  · injection hr with hr; subst hr; exact ls_ext_em ..
  split at hr
  · injection hr with hr; subst hr; exact ls_ext_em ..
  split at hr
  · repeat' split at hr
    all_goals first | cases hr; done | (injection hr with hr; subst hr; exact ls_ext_r _)
  split at hr
  · injection hr with hr; subst hr; exact ls_ext_r _
  · cases hr
set_option maxHeartbeats 200000 in
theorem ls_ext_e (hr : ls_end T pos es fr L k = .ok c') : ls_ext k (ls_kk7 c') := by
  unfold ls_end at hr
  repeat' split at hr
  all_goals first | cases hr; done | (injection hr with hr; subst hr; exact ls_ext_em ..)
set_option maxHeartbeats 200000 in
theorem ls_ext_r5 (hr : ls_r5 T pos es pe fr L k = .ok c') : ls_ext k (ls_kk7 c') := by
  unfold ls_r5 at hr
  dsimp only at hr
  have B : ls_ext k (if T pos = 41 ∨ T pos = 42 then ls_em k 7 0 (nI (T pos - 41)) (nI pos) else k) := by
    split
    · exact ls_ext_em ..
    · exact ls_ext_r k
  split at hr
  · split at hr
    · injection hr with hr; subst hr; exact B
    · exact ls_ext_e hr
  split at hr
  · injection hr with hr; subst hr; exact ls_red_ext
  split at hr
  · injection hr with hr; subst hr; exact B
  split at hr
  · split at hr
    · injection hr with hr; subst hr; exact ls_ext_em ..
    · injection hr with hr; subst hr; exact ls_ext_r _
  unfold ls_flt at hr
  repeat' split at hr
  all_goals first | cases hr; done | (injection hr with hr; subst hr; exact ls_ext_r _)
set_option maxHeartbeats 200000 in
theorem ls_ext_rs (hr : ls_rs T V c = .ok c') : ls_ext (ls_kk7 c) (ls_kk7 c') := by
  obtain ⟨st, pos, es, pe, fr, L, k⟩ := c
  unfold ls_rs at hr
  dsimp only at hr
  split at hr
  · rw [ls_ext_r0 hr]; exact ls_ext_r _
  split at hr
  · exact ls_ext_r1 hr
  split at hr
  · exact ls_ext_r2 hr
  split at hr
  · exact ls_ext_r3 hr
  split at hr
  · exact ls_ext_r4 hr
  · exact ls_ext_r5 hr
/-- the reading from c ends well, with the code kF -/
def ls_fin (T : Nat → Nat) (V : Nat → Int32) (c : LsC) (kF : LsK) : Prop := ∃ m d, ls_run T V m c = .ok d ∧ d.1 = 6 ∧ kF = ls_em (ls_kk7 d) 0 0 0 (nI d.2.1)
set_option maxHeartbeats 200000 in
theorem ls_fin_step {kF : LsK} (h : ls_fin T V c kF) (h6 : c.1 ≠ 6) : ∃ c', ls_rs T V c = .ok c' ∧ ls_fin T V c' kF := by
  obtain ⟨m, d, h1, h2, h3⟩ := h
  cases m with
  | zero =>
    have h1' : Except.ok c = Except.ok (ε := Nat) d := h1
    injection h1' with h1'
    rw [h1'] at h6
    exact absurd h2 h6
  | succ m =>
    unfold ls_run at h1
    rw [if_neg h6] at h1
    cases hr : ls_rs T V c with
    | error e => rw [hr] at h1; cases h1
    | ok c' =>
      rw [hr] at h1
      exact ⟨c', rfl, m, d, h1, h2, h3⟩
set_option maxHeartbeats 200000 in
theorem ls_fin_ext {kF : LsK} (h : ls_fin T V c kF) : ls_ext (ls_kk7 c) kF ∧ (ls_kk7 c).1 < kF.1 := by
  obtain ⟨m, d, h1, h2, h3⟩ := h
  have key : ∀ m c, ls_run T V m c = .ok d → ls_ext (ls_kk7 c) (ls_kk7 d) := by
    intro m
    induction m with
    | zero =>
      intro c h
      have h' : Except.ok c = Except.ok (ε := Nat) d := h
      injection h' with h'
      rw [h']; exact ls_ext_r _
    | succ m ih =>
      intro c h
      unfold ls_run at h
      split at h
      · injection h with h
        rw [h]; exact ls_ext_r _
      · split at h
        · cases h
        · next c' hr => exact ls_ext_t (ls_ext_rs hr) (ih c' h)
  have e := key m c h1
  rw [h3]
  refine ⟨ls_ext_t e (ls_ext_em ..), ?_⟩
  show (ls_kk7 c).1 < (ls_kk7 d).1 + 1
  have := e.1
  omega
end
/-! jumps: which indices wait for their aim -/
abbrev ls_lg (e : LsP) : Prop := e.1 = 3 ∨ e.1 = 4
def ls_pd (k : LsK) : Nat → List LsP → Prop
  | _, [] => True
  | b, e :: r => if ls_lg e then e.2.2 < b ∧ k.2.1 e.2.2 = 7 ∧ ls_pd k e.2.2 r else ls_pd k b r
def ls_fd (k : LsK) : Nat → List LsF → Prop
  | _, [] => True
  | b, f :: r => if f.1 = 1 then ls_fd k b r else f.2.1 < b ∧ (f.1 = 3 → k.2.1 f.2.1 = 15) ∧ (f.1 = 4 → k.2.1 f.2.1 = 14) ∧ (f.1 = 2 → k.2.1 f.2.1 = 21) ∧ (f.1 = 5 → f.2.1 + 2 ≤ k.1) ∧ ls_fd k f.2.1 r
def ls_J (c : LsC) : Prop := match c with
  | (_, _, _, pe, fr, _, k) => ls_pd k k.1 pe ∧ ls_fd k k.1 fr
/-- the argument of instruction i will not change any more -/
def ls_set (c : LsC) (i : Nat) : Prop := match c with
  | (_, _, _, pe, fr, _, k) => i < k.1 ∧ (∀ e ∈ pe, ls_lg e → e.2.2 ≠ i) ∧ (∀ f ∈ fr, f.1 = 2 ∨ f.1 = 3 ∨ f.1 = 4 → f.2.1 ≠ i) ∧ (k.2.1 i = 14 ∨ k.2.1 i = 15 → k.2.2.1 i ≠ 0)
set_option maxHeartbeats 200000 in
theorem ls_pd_ext {k k' : LsK} (h : ls_ext k k') : ∀ {b b' : Nat} {pe : List LsP}, b ≤ k.1 → b ≤ b' → ls_pd k b pe → ls_pd k' b' pe
  | _, _, [], _, _, _ => trivial
  | b, b', e :: r, hb, hbb, g => by
    have g' : (if ls_lg e then e.2.2 < b ∧ k.2.1 e.2.2 = 7 ∧ ls_pd k e.2.2 r else ls_pd k b r) := g
    show (if ls_lg e then e.2.2 < b' ∧ k'.2.1 e.2.2 = 7 ∧ ls_pd k' e.2.2 r else ls_pd k' b' r)
    split at g'
    · next q =>
      rw [if_pos q]
      exact ⟨by omega, by rw [(h.2 e.2.2 (by omega)).2.2]; exact g'.2.1, ls_pd_ext h (by omega) (Nat.le_refl _) g'.2.2⟩
    · next q =>
      rw [if_neg q]
      exact ls_pd_ext h hb hbb g'
set_option maxHeartbeats 200000 in
theorem ls_fd_ext {k k' : LsK} (h : ls_ext k k') : ∀ {b b' : Nat} {fr : List LsF}, b ≤ k.1 → b ≤ b' → ls_fd k b fr → ls_fd k' b' fr
  | _, _, [], _, _, _ => trivial
  | b, b', f :: r, hb, hbb, g => by
    have g' : (if f.1 = 1 then ls_fd k b r else f.2.1 < b ∧ (f.1 = 3 → k.2.1 f.2.1 = 15) ∧ (f.1 = 4 → k.2.1 f.2.1 = 14) ∧ (f.1 = 2 → k.2.1 f.2.1 = 21) ∧ (f.1 = 5 → f.2.1 + 2 ≤ k.1) ∧ ls_fd k f.2.1 r) := g
    show (if f.1 = 1 then ls_fd k' b' r else f.2.1 < b' ∧ (f.1 = 3 → k'.2.1 f.2.1 = 15) ∧ (f.1 = 4 → k'.2.1 f.2.1 = 14) ∧ (f.1 = 2 → k'.2.1 f.2.1 = 21) ∧ (f.1 = 5 → f.2.1 + 2 ≤ k'.1) ∧ ls_fd k' f.2.1 r)
    split at g'
    · next q =>
      rw [if_pos q]
      exact ls_fd_ext h hb hbb g'
    · next q =>
      rw [if_neg q]
      obtain ⟨g1, g2, g3, g4, g5, g6⟩ := g'
      have e := (h.2 f.2.1 (by omega)).2.2
      exact ⟨by omega, fun q => by rw [e]; exact g2 q, fun q => by rw [e]; exact g3 q, fun q => by rw [e]; exact g4 q, fun q => by have := g5 q; have := h.1; omega, ls_fd_ext h (by omega) (Nat.le_refl _) g6⟩
end
section
section
variable {T : Nat → Nat} {V : Nat → Int32} {n : Nat} {pos es : Nat} {pe pe' : List LsP} {fr fr' : List LsF} {L L' : List Nat} {k k' : LsK} {c c' : LsC} {i : Nat}
def ls_mv (k k' : LsK) (i : Nat) : Prop := k.1 ≤ k'.1 ∧ k'.2.1 i = k.2.1 i ∧ k'.2.2.1 i = k.2.2.1 i
set_option maxHeartbeats 200000 in
theorem ls_mv_r : ls_mv k k i := ⟨Nat.le_refl _, rfl, rfl⟩
set_option maxHeartbeats 200000 in
theorem ls_mv_t {k2 : LsK} (h : ls_mv k k' i) (g : ls_mv k' k2 i) : ls_mv k k2 i := ⟨Nat.le_trans h.1 g.1, g.2.1.trans h.2.1, g.2.2.trans h.2.2⟩
set_option maxHeartbeats 200000 in
theorem ls_mv_em {o a d p : Int32} (h : i < k.1) : ls_mv k (ls_em k o a d p) i := ⟨Nat.le_succ _, pk_un (by omega), pk_un (by omega)⟩
set_option maxHeartbeats 200000 in
theorem ls_mv_em2 {o a d p o2 a2 d2 p2 : Int32} (h : i < k.1) : ls_mv k (ls_em (ls_em k o a d p) o2 a2 d2 p2) i := ls_mv_t (ls_mv_em h) (ls_mv_em (Nat.lt_succ_of_lt h))
set_option maxHeartbeats 200000 in
theorem ls_mv_aim {j : Nat} (h : i ≠ j) : ls_mv k (ls_aim k j) i := ⟨Nat.le_refl _, rfl, pk_un h⟩
set_option maxHeartbeats 200000 in
theorem ls_mv_ex {j : Nat} (h : k.2.1 i = 14 ∨ k.2.1 i = 15 → k.2.2.1 i ≠ 0) : ls_mv k (ls_exits k j) i := by
  refine ⟨Nat.le_refl _, rfl, ?_⟩
  show (if j ≤ i ∧ _ then _ else _) = _
  rw [if_neg]
  intro hh
  exact h hh.2.2.1 hh.2.2.2
/-- what a step owes of the jumps -/
def ls_js (c c' : LsC) : Prop := ls_J c' ∧ ∀ i, ls_set c i → ls_set c' i ∧ (ls_kk7 c').2.2.1 i = (ls_kk7 c).2.2.1 i
set_option maxHeartbeats 200000 in
theorem ls_js_mk {st st' pos' es' : Nat} (hp : ls_pd k' k'.1 pe') (hf : ls_fd k' k'.1 fr') (hm : ∀ i, ls_set (st, pos, es, pe, fr, L, k) i → ls_mv k k' i) (h1 : ∀ e ∈ pe', ls_lg e → e ∈ pe ∨ k.1 ≤ e.2.2) (h2 : ∀ f ∈ fr', f.1 = 2 ∨ f.1 = 3 ∨ f.1 = 4 → f ∈ fr ∨ k.1 ≤ f.2.1) : ls_js (st, pos, es, pe, fr, L, k) (st', pos', es', pe', fr', L', k') := by
  refine ⟨⟨hp, hf⟩, fun i hs => ?_⟩
  have m := hm i hs
  obtain ⟨s1, s2, s3, s4⟩ := hs
  obtain ⟨m1, m2, m3⟩ := m
  refine ⟨⟨by omega, fun e he hl => ?_, fun f hf hk => ?_, fun h => ?_⟩, m3⟩
  · rcases h1 e he hl with g | g
    · exact s2 e g hl
    · omega
  · rcases h2 f hf hk with g | g
    · exact s3 f g hk
    · omega
  · rw [m2] at h
    rw [m3]
    exact s4 h
set_option maxHeartbeats 200000 in
theorem ls_set_lt {st : Nat} (h : ls_set (st, pos, es, pe, fr, L, k) i) : i < k.1 := h.1
set_option maxHeartbeats 200000 in
theorem ls_fd_push {o a d p : Int32} {fk sp : Nat} {l : List Nat} (h : ls_fd k k.1 fr) (hk : 6 ≤ fk) : ls_fd (ls_em k o a d p) (ls_em k o a d p).1 ((fk, k.1, sp, l) :: fr) := by
  show (if fk = 1 then _ else _)
  rw [if_neg (by omega)]
  exact ⟨Nat.lt_succ_self _, fun q => by have : fk = 3 := q; omega, fun q => by have : fk = 4 := q; omega, fun q => by have : fk = 2 := q; omega, fun q => by have : fk = 5 := q; omega, ls_fd_ext (ls_ext_em ..) (Nat.le_refl _) (Nat.le_refl _) h⟩
set_option maxHeartbeats 200000 in
theorem ls_fd_tl {f : LsF} {b : Nat} (hb : b ≤ k.1) (h : ls_fd k b (f :: fr)) : ls_fd k k.1 fr := by
  have h' : (if f.1 = 1 then ls_fd k b fr else f.2.1 < b ∧ (f.1 = 3 → k.2.1 f.2.1 = 15) ∧ (f.1 = 4 → k.2.1 f.2.1 = 14) ∧ (f.1 = 2 → k.2.1 f.2.1 = 21) ∧ (f.1 = 5 → f.2.1 + 2 ≤ k.1) ∧ ls_fd k f.2.1 fr) := h
  split at h'
  · exact ls_fd_ext (ls_ext_r _) hb hb h'
  · exact ls_fd_ext (ls_ext_r _) (by omega) (by omega) h'.2.2.2.2.2
set_option maxHeartbeats 200000 in
theorem ls_js0 (hJ : ls_J (0, pos, es, pe, fr, L, k)) (hr : ls_r0 T pos es pe fr L k = .ok c') : ls_js (0, pos, es, pe, fr, L, k) c' := by
  obtain ⟨jp, jf⟩ := hJ
  have same : ∀ st, ls_js (0, pos, es, pe, fr, L, k) (st, pos, es, pe, fr, L, k) := fun st => ls_js_mk jp jf (fun _ _ => ls_mv_r) (fun e he _ => Or.inl he) (fun f hf _ => Or.inl hf)
  unfold ls_r0 at hr
  split at hr
  · injection hr with hr; subst hr; exact same 6
  split at hr
  · split at hr
    · injection hr with hr; subst hr; exact same 2
    · injection hr with hr; subst hr; exact same 1
  · split at hr
    · split at hr
      · injection hr with hr; subst hr
        exact ls_js_mk jp (ls_fd_tl (Nat.le_refl _) jf) (fun _ _ => ls_mv_r) (fun e he _ => Or.inl he) (fun f hf _ => Or.inl (List.mem_cons_of_mem _ hf))
      split at hr
      · injection hr with hr; subst hr; exact same 2
      · injection hr with hr; subst hr; exact same 1
    · injection hr with hr; subst hr; exact same 1
set_option maxHeartbeats 200000 in
theorem ls_js1 (hI : ls_Inv T n (1, pos, es, pe, fr, L, k)) (hJ : ls_J (1, pos, es, pe, fr, L, k)) (hr : ls_r1 T pos es pe fr L k = .ok c') : ls_js (1, pos, es, pe, fr, L, k) c' := by
  obtain ⟨jp, jf⟩ := hJ
  have J1 : ∀ st p e' o a d q, ls_js (1, pos, es, pe, fr, L, k) (st, p, e', pe, fr, L, ls_em k o a d q) := fun st p e' o a d q =>
    ls_js_mk (ls_pd_ext (ls_ext_em ..) (Nat.le_refl _) (Nat.le_succ _) jp) (ls_fd_ext (ls_ext_em ..) (Nat.le_refl _) (Nat.le_succ _) jf) (fun i hs => ls_mv_em (ls_set_lt hs)) (fun e he _ => Or.inl he) (fun f hf _ => Or.inl hf)
  have E2 : ∀ o a d q o2 a2 d2 q2, ls_ext k (ls_em (ls_em k o a d q) o2 a2 d2 q2) := fun o a d q o2 a2 d2 q2 => ls_ext_t (ls_ext_em ..) (ls_ext_em ..)
  have J2 : ∀ st p e' o a d q o2 a2 d2 q2, ls_js (1, pos, es, pe, fr, L, k) (st, p, e', pe, fr, L, ls_em (ls_em k o a d q) o2 a2 d2 q2) := fun st p e' o a d q o2 a2 d2 q2 =>
    ls_js_mk (ls_pd_ext (E2 ..) (Nat.le_refl _) (by show k.1 ≤ k.1 + 1 + 1; omega) jp) (ls_fd_ext (E2 ..) (Nat.le_refl _) (by show k.1 ≤ k.1 + 1 + 1; omega) jf) (fun i hs => ls_mv_em2 (ls_set_lt hs)) (fun e he _ => Or.inl he) (fun f hf _ => Or.inl hf)
  have JX : ∀ fk p e' o a d q, 6 ≤ fk → ls_js (1, pos, es, pe, fr, L, k) (4, p, e', pe, (fk, k.1, pos, []) :: fr, L, ls_em k o a d q) := fun fk p e' o a d q hk =>
    ls_js_mk (ls_pd_ext (ls_ext_em ..) (Nat.le_refl _) (Nat.le_succ _) jp) (ls_fd_push jf hk) (fun i hs => ls_mv_em (ls_set_lt hs)) (fun e he _ => Or.inl he) (fun f hf hq => by
      rcases List.mem_cons.mp hf with rfl | hf
      · dsimp only at hq; omega
      · exact Or.inl hf)
  unfold ls_r1 ls_hdr at hr
  dsimp only at hr
  split at hr
  · injection hr with hr; subst hr; exact J1 ..
  split at hr
  · injection hr with hr; subst hr
    refine ls_js_mk (ls_pd_ext (ls_ext_em ..) (Nat.le_refl _) (Nat.le_succ _) jp) (ls_fd_ext (ls_ext_em ..) (Nat.le_refl _) (Nat.le_succ _) jf) (fun i hs => ls_mv_em (ls_set_lt hs)) (fun e he _ => Or.inl he) (fun f hf hq => ?_)
    rcases List.mem_cons.mp hf with rfl | hf
    · dsimp only at hq; omega
    · exact Or.inl hf
  split at hr
  · split at hr
    · injection hr with hr; subst hr; exact JX _ _ _ _ _ _ _ (by decide)
    · cases hr
  split at hr
  · split at hr
    · injection hr with hr; subst hr; exact JX _ _ _ _ _ _ _ (by decide)
    · cases hr
  split at hr
  · split at hr
    · injection hr with hr; subst hr; exact JX _ _ _ _ _ _ _ (by decide)
    · cases hr
  split at hr
  · split at hr
    · cases hr
    · split at hr
      · injection hr with hr; subst hr; exact J2 ..
      · cases hr
  split at hr
  · split at hr
    · cases hr
    · split at hr
      · injection hr with hr; subst hr; exact J2 ..
      · cases hr
  split at hr
  · split at hr
    · cases hr
    · split at hr
      · injection hr with hr; subst hr; exact J2 ..
      · injection hr with hr; subst hr; exact JX _ _ _ _ _ _ _ (by decide)
  · injection hr with hr; subst hr; exact JX _ _ _ _ _ _ _ (by decide)
end
end
section
section
variable {T : Nat → Nat} {V : Nat → Int32} {n : Nat} {pos es : Nat} {pe pe' : List LsP} {fr fr' : List LsF} {L L' : List Nat} {k k' : LsK} {c c' : LsC} {i : Nat}
set_option maxHeartbeats 200000 in
theorem ls_js2 (hJ : ls_J (2, pos, es, pe, fr, L, k)) (hr : ls_r2 T pos es pe fr L k = .ok c') : ls_js (2, pos, es, pe, fr, L, k) c' := by
  obtain ⟨jp, jf⟩ := hJ
  have E2 : ∀ o a d q o2 a2 d2 q2, ls_ext k (ls_em (ls_em k o a d q) o2 a2 d2 q2) := fun o a d q o2 a2 d2 q2 => ls_ext_t (ls_ext_em ..) (ls_ext_em ..)
  have P1 : ∀ o a d q, ls_pd (ls_em k o a d q) (ls_em k o a d q).1 pe := fun o a d q => ls_pd_ext (ls_ext_em ..) (Nat.le_refl _) (Nat.le_succ _) jp
  have F1 : ∀ o a d q, ls_fd (ls_em k o a d q) (ls_em k o a d q).1 fr := fun o a d q => ls_fd_ext (ls_ext_em ..) (Nat.le_refl _) (Nat.le_succ _) jf
  have JX : ∀ (L1 : List Nat) p e' o a d q, ls_js (2, pos, es, pe, fr, L, k) (4, p, e', pe, (11, k.1, pos, []) :: fr, L1, ls_em k o a d q) := fun L1 p e' o a d q =>
    ls_js_mk (P1 ..) (ls_fd_push jf (by decide)) (fun i hs => ls_mv_em (ls_set_lt hs)) (fun e he _ => Or.inl he) (fun f hf hq => by
      rcases List.mem_cons.mp hf with rfl | hf
      · dsimp only at hq; omega
      · exact Or.inl hf)
  unfold ls_r2 at hr
  split at hr
  · split at hr
    · next q =>
      split at hr
      · cases hr
      · injection hr with hr; subst hr
        refine ls_js_mk (ls_pd_ext (E2 ..) (Nat.le_refl _) (by show k.1 ≤ k.1 + 1 + 1; omega) jp) ?_ (fun i hs => ls_mv_em2 (ls_set_lt hs)) (fun e he _ => Or.inl he) (fun f hf hq => ?_)
        · show (if (1 : Nat) = 1 then _ else _)
          rw [if_pos rfl]
          show (if (2 : Nat) = 1 then _ else _)
          rw [if_neg (by decide)]
          exact ⟨by show k.1 + 1 < k.1 + 1 + 1; omega, fun h => absurd h (by show (2 : Nat) ≠ 3; decide), fun h => absurd h (by show (2 : Nat) ≠ 4; decide), fun _ => pk_us, fun h => absurd h (by show (2 : Nat) ≠ 5; decide), trivial⟩
        · right
          rcases List.mem_cons.mp hf with rfl | hf
          · dsimp only at hq; omega
          · rw [List.mem_singleton] at hf
            subst hf
            show k.1 ≤ k.1 + 1
            omega
    · unfold ls_var at hr
      split at hr
      · dsimp only at hr
        split at hr
        · injection hr with hr; subst hr; exact JX ..
        · split at hr
          · injection hr with hr; subst hr
            exact ls_js_mk (ls_pd_ext (E2 ..) (Nat.le_refl _) (by show k.1 ≤ k.1 + 1 + 1; omega) jp) trivial (fun i hs => ls_mv_em2 (ls_set_lt hs)) (fun e he _ => Or.inl he) (fun f hf hq => Or.inl hf)
          · cases hr
      · split at hr
        · dsimp only at hr
          split at hr
          · injection hr with hr; subst hr; exact JX ..
          · split at hr
            · injection hr with hr; subst hr
              exact ls_js_mk (P1 ..) (F1 ..) (fun i hs => ls_mv_em (ls_set_lt hs)) (fun e he _ => Or.inl he) (fun f hf _ => Or.inl hf)
            · cases hr
        · cases hr
  · cases hr
set_option maxHeartbeats 200000 in
theorem ls_fd_hd {f : LsF} {b : Nat} (hf : f.1 ≠ 1) (h : ls_fd k b (f :: fr)) : f.2.1 < b ∧ (f.1 = 3 → k.2.1 f.2.1 = 15) ∧ (f.1 = 4 → k.2.1 f.2.1 = 14) ∧ (f.1 = 2 → k.2.1 f.2.1 = 21) ∧ (f.1 = 5 → f.2.1 + 2 ≤ k.1) ∧ ls_fd k f.2.1 fr := by
  have h' : (if f.1 = 1 then ls_fd k b fr else f.2.1 < b ∧ (f.1 = 3 → k.2.1 f.2.1 = 15) ∧ (f.1 = 4 → k.2.1 f.2.1 = 14) ∧ (f.1 = 2 → k.2.1 f.2.1 = 21) ∧ (f.1 = 5 → f.2.1 + 2 ≤ k.1) ∧ ls_fd k f.2.1 fr) := h
  rw [if_neg hf] at h'
  exact h'
set_option maxHeartbeats 200000 in
theorem ls_js3 (hI : ls_Inv T n (3, pos, es, pe, fr, L, k)) (hJ : ls_J (3, pos, es, pe, fr, L, k)) (hr : ls_r3 T pos es pe fr L k = .ok c') : ls_js (3, pos, es, pe, fr, L, k) c' := by
  obtain ⟨jp, jf⟩ := hJ
  unfold ls_r3 at hr
  split at hr
  · injection hr with hr; subst hr
    exact ls_js_mk jp jf (fun _ _ => ls_mv_r) (fun e he _ => Or.inl he) (fun f hf _ => Or.inl hf)
  · next fk mo sp l r =>
    have tl : ls_fd k k.1 r := ls_fd_tl (Nat.le_refl _) jf
    -- an aim at the top frame's instruction
    have NE : (fk = 2 ∨ fk = 3 ∨ fk = 4) → ∀ i, ls_set (3, pos, es, pe, (fk, mo, sp, l) :: r, L, k) i → i ≠ mo := fun h i hs e => hs.2.2.1 (fk, mo, sp, l) (List.mem_cons_self ..) h e.symm
    have AIM : (fk = 3 ∨ fk = 4) → ls_js (3, pos, es, pe, (fk, mo, sp, l) :: r, L, k) (3, pos, es, pe, r, L, ls_aim k mo) := fun h =>
      ls_js_mk (ls_pd_ext (ls_ext_aim ..) (Nat.le_refl _) (Nat.le_refl _) jp) (ls_fd_ext (ls_ext_aim ..) (Nat.le_refl _) (Nat.le_refl _) tl) (fun i hs => ls_mv_aim (NE (by omega) i hs)) (fun e he _ => Or.inl he) (fun f hf _ => Or.inl (List.mem_cons_of_mem _ hf))
    split at hr
    · next q3 =>
      obtain ⟨g1, _, _, _, _, g6⟩ := ls_fd_hd (f := (fk, mo, sp, l)) (by show fk ≠ 1; omega) jf
      dsimp only at g1 g6
      split at hr
      · injection hr with hr; subst hr
        have X : ls_ext k (ls_aim (ls_em k 14 0 0 (nI pos)) mo) := ls_ext_t (ls_ext_em ..) (ls_ext_aim ..)
        refine ls_js_mk (ls_pd_ext X (Nat.le_refl _) (Nat.le_succ _) jp) ?_ (fun i hs => ls_mv_t (ls_mv_em (ls_set_lt hs)) (ls_mv_aim (NE (by omega) i hs))) (fun e he _ => Or.inl he) (fun f hf hq => ?_)
        · show (if (4 : Nat) = 1 then _ else _)
          rw [if_neg (by decide)]
          exact ⟨Nat.lt_succ_self _, fun h => absurd h (by show (4 : Nat) ≠ 3; decide), fun _ => pk_us, fun h => absurd h (by show (4 : Nat) ≠ 2; decide), fun h => absurd h (by show (4 : Nat) ≠ 5; decide), ls_fd_ext X (by omega) (by show mo ≤ k.1; omega) g6⟩
        · rcases List.mem_cons.mp hf with rfl | hf
          · exact Or.inr (Nat.le_refl _)
          · exact Or.inl (List.mem_cons_of_mem _ hf)
      · injection hr with hr; subst hr; exact AIM (Or.inl q3)
    split at hr
    · next q4 => injection hr with hr; subst hr; exact AIM (Or.inr q4)
    split at hr
    · next q5 =>
      injection hr with hr; subst hr
      have X : ls_ext k (ls_exits (ls_em k 14 (nI (mo + 1) - nI k.1) 0 (nI pos)) mo) := ls_ext_t (ls_ext_em ..) (ls_ext_ex ..)
      refine ls_js_mk (ls_pd_ext X (Nat.le_refl _) (Nat.le_succ _) jp) (ls_fd_ext X (Nat.le_refl _) (Nat.le_succ _) tl) (fun i hs => ls_mv_t (ls_mv_em (ls_set_lt hs)) (ls_mv_ex (fun h => ?_))) (fun e he _ => Or.inl he) (fun f hf _ => Or.inl (List.mem_cons_of_mem _ hf))
      have m := ls_mv_em (o := 14) (a := nI (mo + 1) - nI k.1) (d := 0) (p := nI pos) (ls_set_lt hs)
      rw [m.2.1] at h
      rw [m.2.2]
      exact hs.2.2.2 h
    split at hr
    · next q2 =>
      injection hr with hr; subst hr
      have X : ls_ext k (ls_aim (ls_em k 18 0 (nI (l.headD 0)) (nI (pos - 1))) mo) := ls_ext_t (ls_ext_em ..) (ls_ext_aim ..)
      exact ls_js_mk (ls_pd_ext X (Nat.le_refl _) (Nat.le_succ _) jp) (ls_fd_ext X (Nat.le_refl _) (Nat.le_succ _) tl) (fun i hs => ls_mv_t (ls_mv_em (ls_set_lt hs)) (ls_mv_aim (NE (by omega) i hs))) (fun e he _ => Or.inl he) (fun f hf _ => Or.inl (List.mem_cons_of_mem _ hf))
    · injection hr with hr; subst hr
      exact ls_js_mk jp jf (fun _ _ => ls_mv_r) (fun e he _ => Or.inl he) (fun f hf _ => Or.inl hf)
set_option maxHeartbeats 200000 in
theorem ls_pd_n {e : LsP} {b : Nat} (h : ¬ ls_lg e) (g : ls_pd k b pe) : ls_pd k b (e :: pe) := by
  show (if ls_lg e then _ else _)
  rw [if_neg h]; exact g
set_option maxHeartbeats 200000 in
theorem ls_pd_tl {e : LsP} {b : Nat} (hb : b ≤ k.1) (g : ls_pd k b (e :: pe)) : ls_pd k k.1 pe := by
  have g' : (if ls_lg e then e.2.2 < b ∧ k.2.1 e.2.2 = 7 ∧ ls_pd k e.2.2 pe else ls_pd k b pe) := g
  split at g'
  · exact ls_pd_ext (ls_ext_r _) (by omega) (by omega) g'.2.2
  · exact ls_pd_ext (ls_ext_r _) hb hb g'
set_option maxHeartbeats 200000 in
theorem ls_js4 (hJ : ls_J (4, pos, es, pe, fr, L, k)) (hr : ls_r4 T V pos es pe fr L k = .ok c') : ls_js (4, pos, es, pe, fr, L, k) c' := by
  obtain ⟨jp, jf⟩ := hJ
  have F1 : ∀ o a d q, ls_fd (ls_em k o a d q) (ls_em k o a d q).1 fr := fun o a d q => ls_fd_ext (ls_ext_em ..) (Nat.le_refl _) (Nat.le_succ _) jf
  have P1 : ∀ o a d q, ls_pd (ls_em k o a d q) (ls_em k o a d q).1 pe := fun o a d q => ls_pd_ext (ls_ext_em ..) (Nat.le_refl _) (Nat.le_succ _) jp
  have OPD : ∀ p o a d q, ls_js (4, pos, es, pe, fr, L, k) (5, p, es, pe, fr, L, ls_em k o a d q) := fun p o a d q =>
    ls_js_mk (P1 ..) (F1 ..) (fun i hs => ls_mv_em (ls_set_lt hs)) (fun e he _ => Or.inl he) (fun f hf _ => Or.inl hf)
  have PEN : ∀ p e, ¬ ls_lg e → ls_js (4, pos, es, pe, fr, L, k) (4, p, es, e :: pe, fr, L, k) := fun p e he =>
    ls_js_mk (ls_pd_n he jp) jf (fun _ _ => ls_mv_r) (fun x hx hl => by
      rcases List.mem_cons.mp hx with rfl | hx
      · exact absurd hl he
      · exact Or.inl hx) (fun f hf _ => Or.inl hf)
  have PEN2 : ∀ p e o a d q, ¬ ls_lg e → ls_js (4, pos, es, pe, fr, L, k) (4, p, es, e :: pe, fr, L, ls_em k o a d q) := fun p e o a d q he =>
    ls_js_mk (ls_pd_n he (P1 ..)) (F1 ..) (fun i hs => ls_mv_em (ls_set_lt hs)) (fun x hx hl => by
      rcases List.mem_cons.mp hx with rfl | hx
      · exact absurd hl he
      · exact Or.inl hx) (fun f hf _ => Or.inl hf)
  unfold ls_r4 at hr
  split at hr
  · dsimp only at hr
    split at hr
    · split at hr
      · injection hr with hr; subst hr; exact OPD ..
      · injection hr with hr; subst hr; exact PEN _ _ (by show ¬ ((0 : Nat) = 3 ∨ (0 : Nat) = 4); decide)
    · split at hr
      · split at hr
        · injection hr with hr; subst hr; exact PEN _ _ (by show ¬ ((2 : Nat) = 3 ∨ (2 : Nat) = 4); decide)
        · injection hr with hr; subst hr; exact PEN2 _ _ _ _ _ _ (by show ¬ ((2 : Nat) = 3 ∨ (2 : Nat) = 4); decide)
      · injection hr with hr; subst hr; exact OPD ..
  split at hr
  · injection hr with hr; subst hr; exact OPD ..
  split at hr
  · injection hr with hr; subst hr; exact OPD ..
  split at hr
  · injection hr with hr; subst hr; exact OPD ..
  split at hr
  · injection hr with hr; subst hr; exact OPD ..
  split at hr
  · split at hr
    · split at hr
      · injection hr with hr; subst hr; exact PEN _ _ (by show ¬ ((13 : Nat) = 3 ∨ (13 : Nat) = 4); decide)
      · cases hr
    · split at hr
      · cases hr
      · injection hr with hr; subst hr; exact PEN _ _ (by show ¬ ((1 : Nat) = 3 ∨ (1 : Nat) = 4); decide)
  split at hr
  · injection hr with hr; subst hr; exact PEN _ _ (by show ¬ ((13 : Nat) = 3 ∨ (13 : Nat) = 4); decide)
  · cases hr
set_option maxHeartbeats 200000 in
theorem ls_lv34 : ∀ t : Fin 73, (ls_lv t.1 = 3 ↔ t.1 = 42) ∧ (ls_lv t.1 = 4 ↔ t.1 = 41) := by decide
set_option maxHeartbeats 200000 in
theorem ls_js5 (hT : ls_txt T n) (hI : ls_Inv T n (5, pos, es, pe, fr, L, k)) (hJ : ls_J (5, pos, es, pe, fr, L, k)) (hr : ls_r5 T pos es pe fr L k = .ok c') : ls_js (5, pos, es, pe, fr, L, k) c' := by
  obtain ⟨jp, jf⟩ := hJ
  obtain ⟨i1, i2, i3, i4, i5, i6, i7⟩ := hI
  rw [if_pos (Or.inr rfl), if_neg (by decide)] at i7
  obtain ⟨a1, a2, a3, a4, f, r, a5, a6, a7⟩ := i7
  have T72 : ∀ p, T p < 73 := fun p => by
    by_cases q : p < n
    · have := hT.2.1 p q; omega
    · have := hT.2.2 p (by omega); omega
  have BIN : ∀ kk : LsK, kk = (if T pos = 41 ∨ T pos = 42 then ls_em k 7 0 (nI (T pos - 41)) (nI pos) else k) → ls_js (5, pos, es, pe, fr, L, k) (4, pos + 1, es, (ls_lv (T pos), pos, k.1) :: pe, fr, L, kk) := by
    intro kk hkk
    have lv := ls_lv34 ⟨T pos, T72 pos⟩
    dsimp only at lv
    by_cases lg : T pos = 41 ∨ T pos = 42
    · rw [if_pos lg] at hkk
      subst hkk
      have lgl : ls_lg (ls_lv (T pos), pos, k.1) := by show ls_lv (T pos) = 3 ∨ ls_lv (T pos) = 4; omega
      refine ls_js_mk ?_ (ls_fd_ext (ls_ext_em ..) (Nat.le_refl _) (Nat.le_succ _) jf) (fun i hs => ls_mv_em (ls_set_lt hs)) (fun x hx hl => ?_) (fun f hf _ => Or.inl hf)
      · show (if ls_lg (ls_lv (T pos), pos, k.1) then _ else _)
        rw [if_pos lgl]
        exact ⟨Nat.lt_succ_self _, pk_us, ls_pd_ext (ls_ext_em ..) (Nat.le_refl _) (Nat.le_refl _) jp⟩
      · rcases List.mem_cons.mp hx with rfl | hx
        · exact Or.inr (Nat.le_refl _)
        · exact Or.inl hx
    · rw [if_neg lg] at hkk
      subst hkk
      have nlg : ¬ ls_lg (ls_lv (T pos), pos, kk.1) := by show ¬ (ls_lv (T pos) = 3 ∨ ls_lv (T pos) = 4); omega
      refine ls_js_mk (ls_pd_n nlg jp) jf (fun _ _ => ls_mv_r) (fun x hx hl => ?_) (fun f hf _ => Or.inl hf)
      rcases List.mem_cons.mp hx with rfl | hx
      · exact absurd hl nlg
      · exact Or.inl hx
  unfold ls_r5 at hr
  dsimp only at hr
  split at hr
  · split at hr
    · injection hr with hr; subst hr; exact BIN _ rfl
    · -- the end of the expression
      subst a5
      obtain ⟨fk, mo, sp, l⟩ := f
      obtain ⟨x1, x2, x3, x4, x5, x6, x7, x8⟩ := a6
      dsimp only at x1 x2 x4
      obtain ⟨g1, _, _, _, _, g6⟩ := ls_fd_hd (f := (fk, mo, sp, l)) (by show fk ≠ 1; omega) jf
      dsimp only at g1 g6
      have FIN : ∀ p o a d q, ls_js (5, pos, es, [], (fk, mo, sp, l) :: r, L, k) (3, p, es, [], r, L, ls_em k o a d q) := fun p o a d q =>
        ls_js_mk trivial (ls_fd_ext (ls_ext_em ..) (by omega) (by show mo ≤ k.1 + 1; omega) g6) (fun i hs => ls_mv_em (ls_set_lt hs)) (fun e he _ => absurd he (by simp)) (fun f hf _ => Or.inl (List.mem_cons_of_mem _ hf))
      unfold ls_end at hr
      split at hr
      · cases hr
      dsimp only at hr
      split at hr
      · split at hr
        · injection hr with hr; subst hr
          refine ls_js_mk trivial ?_ (fun i hs => ls_mv_em (ls_set_lt hs)) (fun e he _ => absurd he (by simp)) (fun f hf hq => ?_)
          · show (if (3 : Nat) = 1 then _ else _)
            rw [if_neg (by decide)]
            exact ⟨Nat.lt_succ_self _, fun _ => pk_us, fun h => absurd h (by show (3 : Nat) ≠ 4; decide), fun h => absurd h (by show (3 : Nat) ≠ 2; decide), fun h => absurd h (by show (3 : Nat) ≠ 5; decide), ls_fd_ext (ls_ext_em ..) (by show mo ≤ k.1; omega) (by show mo ≤ k.1; omega) g6⟩
          · rcases List.mem_cons.mp hf with rfl | hf
            · exact Or.inr (Nat.le_refl _)
            · exact Or.inl (List.mem_cons_of_mem _ hf)
        · cases hr
      split at hr
      · split at hr
        · injection hr with hr; subst hr
          refine ls_js_mk trivial ?_ (fun i hs => ls_mv_em (ls_set_lt hs)) (fun e he _ => absurd he (by simp)) (fun f hf hq => ?_)
          · show (if (5 : Nat) = 1 then _ else _)
            rw [if_neg (by decide)]
            exact ⟨by show mo < k.1 + 1; omega, fun h => absurd h (by show (5 : Nat) ≠ 3; decide), fun h => absurd h (by show (5 : Nat) ≠ 4; decide), fun h => absurd h (by show (5 : Nat) ≠ 2; decide), fun _ => by show mo + 2 ≤ k.1 + 1; omega, ls_fd_ext (ls_ext_em ..) (by show mo ≤ k.1; omega) (Nat.le_refl _) g6⟩
          · rcases List.mem_cons.mp hf with rfl | hf
            · dsimp only at hq; omega
            · exact Or.inl (List.mem_cons_of_mem _ hf)
        · cases hr
      split at hr
      · split at hr
        · split at hr
          · injection hr with hr; subst hr; exact FIN ..
          · cases hr
        · cases hr
      split at hr
      · split at hr
        · injection hr with hr; subst hr; exact FIN ..
        split at hr
        · injection hr with hr; subst hr; exact FIN ..
        · injection hr with hr; subst hr; exact FIN ..
      · cases hr
  · next lv pl mo r2 =>
    have tl : ls_pd k k.1 r2 := ls_pd_tl (Nat.le_refl _) jp
    have sub : ∀ e ∈ r2, ls_lg e → e ∈ (lv, pl, mo) :: r2 ∨ k.1 ≤ e.2.2 := fun e he _ => Or.inl (List.mem_cons_of_mem _ he)
    split at hr
    · injection hr with hr; subst hr
      obtain ⟨p1, p2, p3, p4, p5, p6, p7, p8⟩ := i6 _ (List.mem_cons_self ..)
      dsimp only at p1 p2 p3 p4 p5 p6 p7 p8
      refine ls_js_mk (ls_pd_ext ls_red_ext (Nat.le_refl _) ls_red_ext.1 tl) (ls_fd_ext ls_red_ext (Nat.le_refl _) ls_red_ext.1 jf) (fun i hs => ?_) sub (fun f hf _ => Or.inl hf)
      have il := ls_set_lt hs
      unfold ls_red
      split
      · split
        · exact ls_mv_em il
        · exact ls_mv_em2 il
      · split
        · split
          · exact ls_mv_em il
          · exact ls_mv_em il
        · split
          · next n2 n13 lg =>
            have lvt := ls_lv34 ⟨T pl, T72 pl⟩
            dsimp only at lvt
            have l2 := ls_lv_c (T pl)
            have e7 := p7
            refine ls_mv_t (ls_mv_em il) (ls_mv_aim (fun e => hs.2.1 (lv, pl, mo) (List.mem_cons_self ..) ?_ e.symm))
            show lv = 3 ∨ lv = 4
            have hle : ls_lv (T pos) ≤ lv := by assumption
            have l2' := ls_lv_c (T pos)
            have := p7 (by omega) n13
            omega
          · exact ls_mv_em il
    split at hr
    · injection hr with hr; subst hr; exact BIN _ rfl
    split at hr
    · split at hr
      · injection hr with hr; subst hr
        exact ls_js_mk (ls_pd_ext (ls_ext_em ..) (Nat.le_refl _) (Nat.le_succ _) tl) (ls_fd_ext (ls_ext_em ..) (Nat.le_refl _) (Nat.le_succ _) jf) (fun i hs => ls_mv_em (ls_set_lt hs)) sub (fun f hf _ => Or.inl hf)
      · injection hr with hr; subst hr
        exact ls_js_mk tl jf (fun _ _ => ls_mv_r) sub (fun f hf _ => Or.inl hf)
    split at hr
    · next t19 =>
      obtain ⟨_, q0⟩ := t19
      subst q0
      split at hr
      · injection hr with hr; subst hr
        have nlg : ¬ ls_lg (0, pl, mo + 1) := by show ¬ ((0 : Nat) = 3 ∨ (0 : Nat) = 4); decide
        refine ls_js_mk (ls_pd_n nlg tl) jf (fun _ _ => ls_mv_r) (fun x hx hl => ?_) (fun f hf _ => Or.inl hf)
        rcases List.mem_cons.mp hx with rfl | hx
        · exact absurd hl nlg
        · exact sub x hx hl
      · cases hr
    · cases hr
set_option maxHeartbeats 200000 in
theorem ls_js_rs (hT : ls_txt T n) (h6 : c.1 < 6) (hI : ls_Inv T n c) (hJ : ls_J c) (hr : ls_rs T V c = .ok c') : ls_js c c' := by
  obtain ⟨st, pos, es, pe, fr, L, k⟩ := c
  unfold ls_rs at hr
  dsimp only at hr h6
  split at hr
  · next q => subst q; exact ls_js0 hJ hr
  split at hr
  · next q => subst q; exact ls_js1 hI hJ hr
  split at hr
  · next q => subst q; exact ls_js2 hJ hr
  split at hr
  · next q => subst q; exact ls_js3 hI hJ hr
  split at hr
  · next q => subst q; exact ls_js4 hJ hr
  · have q : st = 5 := by omega
    subst q; exact ls_js5 hT hI hJ hr
set_option maxHeartbeats 200000 in
/-- a settled argument is the final one -/
theorem ls_set_fin {kF : LsK} (hT : ls_txt T n) (hI : ls_Inv T n c) (h6 : c.1 ≤ 6) (hJ : ls_J c) (h : ls_fin T V c kF) (hs : ls_set c i) : kF.2.2.1 i = (ls_kk7 c).2.2.1 i := by
  obtain ⟨m, d, h1, h2, h3⟩ := h
  have key : ∀ m c, ls_Inv T n c → c.1 ≤ 6 → ls_J c → ls_run T V m c = .ok d → ls_set c i → (ls_kk7 d).2.2.1 i = (ls_kk7 c).2.2.1 i ∧ i < (ls_kk7 d).1 := by
    intro m
    induction m with
    | zero =>
      intro c _ _ _ h hs
      have h' : Except.ok c = Except.ok (ε := Nat) d := h
      injection h' with h'
      rw [← h']; exact ⟨rfl, hs.1⟩
    | succ m ih =>
      intro c hI h6 hJ h hs
      unfold ls_run at h
      split at h
      · injection h with h
        rw [← h]; exact ⟨rfl, hs.1⟩
      · next ne =>
        split at h
        · cases h
        · next c' hr =>
          have lt : c.1 < 6 := by omega
          obtain ⟨j1, j2⟩ := ls_js_rs hT lt hI hJ hr
          obtain ⟨s1, s2⟩ := j2 i hs
          have := ih c' (ls_inv_rs hT lt hI hr).1 (ls_st6 hr) j1 h s1
          exact ⟨this.1.trans s2, this.2⟩
  obtain ⟨e1, e2⟩ := key m c hI h6 hJ h1 hs
  rw [h3, ← e1]
  exact pk_un (by omega)
end
end
section
/-! The reading one configuration after the other -/
/-- how many operands a pending part keeps -/
def ls_wt (T : Nat → Nat) (e : LsP) : Nat := if e.1 = 0 then e.2.2 - 1 else if e.1 = 1 then 0 else if e.1 = 2 then (if T e.2.1 = 21 then 0 else 1) else if e.1 = 13 then 0 else 1
def ls_ow (T : Nat → Nat) : List LsP → Nat
  | [] => 0
  | e :: r => ls_wt T e + ls_ow T r
def ls_ent (T : Nat → Nat) (L : List Nat) (e : LsP) : Prop := (e.1 = 0 → 1 ≤ e.2.2 ∧ T (e.2.1 + 1) = 15) ∧ (e.1 = 1 → T e.2.1 = 15) ∧ (e.1 = 2 → 1 ≤ e.2.1 ∧ ls_nam (T (e.2.1 - 1)) ∧ e.2.2 = ls_addr L (T (e.2.1 - 1) - 54)) ∧ (e.1 = 13 → T e.2.1 = 15 → e.2.2 = T (e.2.1 + 1) ∧ T (e.2.1 + 1) < 5)
def ls_nx (e : LsP) (r : List LsP) : Prop := match r with
  | [] => True
  | y :: _ => (2 < e.1 → e.1 ≠ 13 → y.1 < e.1) ∧ (e.1 = 2 → y.1 ≤ 2)
def ls_ch (T : Nat → Nat) (L : List Nat) : List LsP → Prop
  | [] => True
  | e :: r => ls_nx e r ∧ ls_ent T L e ∧ ls_ch T L r
def ls_H (T : Nat → Nat) (c : LsC) : Prop := match c with
  | (st, pos, es, pe, _, L, _) => st = 4 ∨ st = 5 → ls_ch T L pe ∧ ls_ow T pe + (if st = 5 then 1 else 0) + es ≤ pos
section
variable {T : Nat → Nat} {V : Nat → Int32} {n : Nat} {pos es : Nat} {pe : List LsP} {fr : List LsF} {L : List Nat} {k : LsK} {c c' : LsC}
set_option maxHeartbeats 200000 in
theorem ls_H_n {st : Nat} (h : st ≠ 4 ∧ st ≠ 5) : ls_H T (st, pos, es, pe, fr, L, k) := fun g => by omega
set_option maxHeartbeats 200000 in
theorem ls_H_0 : ls_H T (4, pos, pos, [], fr, L, k) := fun _ => ⟨trivial, by show 0 + (if (4 : Nat) = 5 then 1 else 0) + pos ≤ pos; rw [if_neg (by decide)]; omega⟩
set_option maxHeartbeats 200000 in
theorem ls_H4 (h : ls_ch T L pe) (g : ls_ow T pe + es ≤ pos) : ls_H T (4, pos, es, pe, fr, L, k) := fun _ => ⟨h, by rw [if_neg (by decide)]; omega⟩
set_option maxHeartbeats 200000 in
theorem ls_H5 (h : ls_ch T L pe) (g : ls_ow T pe + 1 + es ≤ pos) : ls_H T (5, pos, es, pe, fr, L, k) := fun _ => ⟨h, by rw [if_pos rfl]; omega⟩
set_option maxHeartbeats 200000 in
theorem ls_H_r0 (hr : ls_r0 T pos es pe fr L k = .ok c') : ls_H T c' := by
  unfold ls_r0 at hr
  repeat' split at hr
  all_goals (injection hr with hr; subst hr; exact ls_H_n ⟨by decide, by decide⟩)
set_option maxHeartbeats 200000 in
theorem ls_H_r1 (h0 : pe = []) (hr : ls_r1 T pos es pe fr L k = .ok c') : ls_H T c' := by
  subst h0
  unfold ls_r1 ls_hdr at hr
  dsimp only at hr
  repeat' split at hr
  all_goals first | cases hr; done | (injection hr with hr; subst hr; first | exact ls_H_n ⟨by decide, by decide⟩ | exact ls_H_0)
set_option maxHeartbeats 200000 in
theorem ls_H_r2 (h0 : pe = []) (hr : ls_r2 T pos es pe fr L k = .ok c') : ls_H T c' := by
  subst h0
  unfold ls_r2 ls_var at hr
  dsimp only at hr
  repeat' split at hr
  all_goals first | cases hr; done | (injection hr with hr; subst hr; first | exact ls_H_n ⟨by decide, by decide⟩ | exact ls_H_0)
set_option maxHeartbeats 200000 in
theorem ls_H_r3 (hr : ls_r3 T pos es pe fr L k = .ok c') : ls_H T c' := by
  unfold ls_r3 at hr
  repeat' split at hr
  all_goals (injection hr with hr; subst hr; exact ls_H_n ⟨by decide, by decide⟩)
set_option maxHeartbeats 200000 in
theorem ls_ow_c {e : LsP} {w : Nat} (h : ls_wt T e = w) : ls_ow T (e :: pe) = w + ls_ow T pe := by
  show ls_wt T e + _ = _
  rw [h]
set_option maxHeartbeats 200000 in
theorem ls_nx_pre {a b d : Nat} (h : a = 0 ∨ a = 1 ∨ a = 13) : ls_nx (a, b, d) pe := by
  cases pe with
  | nil => trivial
  | cons y r => exact ⟨fun h1 h2 => by dsimp only at h1 h2; omega, fun h1 => by dsimp only at h1; omega⟩
set_option maxHeartbeats 200000 in
theorem ls_H_r4 (hH : ls_H T (4, pos, es, pe, fr, L, k)) (hr : ls_r4 T V pos es pe fr L k = .ok c') : ls_H T c' := by
  obtain ⟨h1, h2⟩ := hH (Or.inl rfl)
  rw [if_neg (by decide)] at h2
  have OPD : ∀ p (kk : LsK), pos < p → ls_H T (5, p, es, pe, fr, L, kk) := fun p kk hp => ls_H5 h1 (by omega)
  unfold ls_r4 ls_flt at hr
  dsimp only at hr
  split at hr
  · next nm =>
    split at hr
    · next t15 =>
      split at hr
      · injection hr with hr; subst hr; exact OPD _ _ (by omega)
      · injection hr with hr; subst hr
        exact ls_H4 ⟨ls_nx_pre (by omega), ⟨fun _ => ⟨Nat.le_refl _, t15⟩, fun h => absurd h (by show (0 : Nat) ≠ 1; decide), fun h => absurd h (by show (0 : Nat) ≠ 2; decide), fun h => absurd h (by show (0 : Nat) ≠ 13; decide)⟩, h1⟩ (by rw [ls_ow_c (w := 0) rfl]; omega)
    · split at hr
      · next sa =>
        obtain ⟨s1, s2⟩ := sa
        have NX : ls_nx (2, pos + 1, ls_addr L (T pos - 54)) pe := by
          cases pe with
          | nil => trivial
          | cons y r =>
            have : decide (y.1 ≤ 2) = true := s1
            exact ⟨fun h => absurd h (by show ¬ (2 : Nat) < 2; decide), fun _ => of_decide_eq_true this⟩
        have EN : ls_ent T L (2, pos + 1, ls_addr L (T pos - 54)) := ⟨fun h => absurd h (by show (2 : Nat) ≠ 0; decide), fun h => absurd h (by show (2 : Nat) ≠ 1; decide), fun _ => ⟨by show 1 ≤ pos + 1; omega, by show ls_nam (T (pos + 1 - 1)); rw [Nat.add_sub_cancel]; exact nm, by show _ = ls_addr L (T (pos + 1 - 1) - 54); rw [Nat.add_sub_cancel]⟩, fun h => absurd h (by show (2 : Nat) ≠ 13; decide)⟩
        split at hr
        · next t21 =>
          injection hr with hr; subst hr
          refine ls_H4 ⟨NX, EN, h1⟩ ?_
          rw [ls_ow_c (w := 0) (by show (if (2 : Nat) = 0 then _ else if (2 : Nat) = 1 then _ else if (2 : Nat) = 2 then (if T (pos + 1) = 21 then 0 else 1) else _) = _; rw [if_neg (by decide), if_neg (by decide), if_pos rfl, if_pos t21])]
          omega
        · next t21 =>
          injection hr with hr; subst hr
          refine ls_H4 ⟨NX, EN, h1⟩ ?_
          rw [ls_ow_c (w := 1) (by show (if (2 : Nat) = 0 then _ else if (2 : Nat) = 1 then _ else if (2 : Nat) = 2 then (if T (pos + 1) = 21 then 0 else 1) else _) = _; rw [if_neg (by decide), if_neg (by decide), if_pos rfl, if_neg t21])]
          omega
      · injection hr with hr; subst hr; exact OPD _ _ (by omega)
  split at hr
  · injection hr with hr; subst hr; exact OPD _ _ (by omega)
  split at hr
  · injection hr with hr; subst hr; exact OPD _ _ (by omega)
  split at hr
  · injection hr with hr; subst hr; exact OPD _ _ (by omega)
  split at hr
  · injection hr with hr; subst hr; exact OPD _ _ (by omega)
  split at hr
  · next t15 =>
    split at hr
    · next t5 =>
      split at hr
      · injection hr with hr; subst hr
        exact ls_H4 ⟨ls_nx_pre (by omega), ⟨fun h => absurd h (by show (13 : Nat) ≠ 0; decide), fun h => absurd h (by show (13 : Nat) ≠ 1; decide), fun h => absurd h (by show (13 : Nat) ≠ 2; decide), fun _ _ => ⟨rfl, t5⟩⟩, h1⟩ (by rw [ls_ow_c (w := 0) rfl]; omega)
      · cases hr
    · split at hr
      · cases hr
      · injection hr with hr; subst hr
        exact ls_H4 ⟨ls_nx_pre (by omega), ⟨fun h => absurd h (by show (1 : Nat) ≠ 0; decide), fun _ => t15, fun h => absurd h (by show (1 : Nat) ≠ 2; decide), fun h => absurd h (by show (1 : Nat) ≠ 13; decide)⟩, h1⟩ (by rw [ls_ow_c (w := 0) rfl]; omega)
  split at hr
  · next tu =>
    injection hr with hr; subst hr
    exact ls_H4 ⟨ls_nx_pre (by omega), ⟨fun h => absurd h (by show (13 : Nat) ≠ 0; decide), fun h => absurd h (by show (13 : Nat) ≠ 1; decide), fun h => absurd h (by show (13 : Nat) ≠ 2; decide), fun _ h => by have h' : T pos = 15 := h; omega⟩, h1⟩ (by rw [ls_ow_c (w := 0) rfl]; omega)
  · cases hr
set_option maxHeartbeats 200000 in
theorem ls_H_e (hr : ls_end T pos es fr L k = .ok c') : ls_H T c' := by
  unfold ls_end at hr
  repeat' split at hr
  all_goals first | cases hr; done | (injection hr with hr; subst hr; exact ls_H_n ⟨by decide, by decide⟩)
set_option maxHeartbeats 200000 in
theorem ls_wt_b {a b d : Nat} (h : 2 < a) (h13 : a ≠ 13) : ls_wt T (a, b, d) = 1 := by
  show (if a = 0 then _ else if a = 1 then _ else if a = 2 then _ else if a = 13 then 0 else 1) = 1
  rw [if_neg (by omega), if_neg (by omega), if_neg (by omega), if_neg h13]
set_option maxHeartbeats 200000 in
theorem ls_H_r5 (hH : ls_H T (5, pos, es, pe, fr, L, k)) (hr : ls_r5 T pos es pe fr L k = .ok c') : ls_H T c' := by
  obtain ⟨h1, h2⟩ := hH (Or.inr rfl)
  rw [if_pos rfl] at h2
  have lc := ls_lv_c (T pos)
  unfold ls_r5 ls_flt at hr
  dsimp only at hr
  split at hr
  · split at hr
    · next g2 =>
      injection hr with hr; subst hr
      exact ls_H4 ⟨trivial, ⟨fun h => by have h' : ls_lv (T pos) = 0 := h; omega, fun h => by have h' : ls_lv (T pos) = 1 := h; omega, fun h => by have h' : ls_lv (T pos) = 2 := h; omega, fun h => by have h' : ls_lv (T pos) = 13 := h; omega⟩, trivial⟩ (by rw [ls_ow_c (w := 1) (ls_wt_b g2 (by omega))]; omega)
    · exact ls_H_e hr
  · next lv pl mo r =>
    have h2' : ls_wt T (lv, pl, mo) + ls_ow T r + 1 + es ≤ pos := h2
    split at hr
    · injection hr with hr; subst hr
      exact ls_H5 h1.2.2 (by omega)
    split at hr
    · next g1 g2 =>
      injection hr with hr; subst hr
      exact ls_H4 ⟨⟨fun _ _ => by show lv < ls_lv (T pos); omega, fun h => by have h' : ls_lv (T pos) = 2 := h; omega⟩, ⟨fun h => by have h' : ls_lv (T pos) = 0 := h; omega, fun h => by have h' : ls_lv (T pos) = 1 := h; omega, fun h => by have h' : ls_lv (T pos) = 2 := h; omega, fun h => by have h' : ls_lv (T pos) = 13 := h; omega⟩, h1⟩ (by rw [ls_ow_c (w := 1) (ls_wt_b g2 (by omega))]; omega)
    split at hr
    · split at hr
      · injection hr with hr; subst hr
        exact ls_H5 h1.2.2 (by omega)
      · injection hr with hr; subst hr
        exact ls_H5 h1.2.2 (by omega)
    split at hr
    · next q =>
      obtain ⟨q1, q2⟩ := q
      subst q2
      split at hr
      · injection hr with hr; subst hr
        obtain ⟨n1, n2, n3⟩ := h1
        have a1 := (n2.1 rfl).1
        dsimp only at a1
        refine ls_H4 ⟨ls_nx_pre (by omega), ⟨fun _ => ⟨by show 1 ≤ mo + 1; omega, (n2.1 rfl).2⟩, fun h => absurd h (by show (0 : Nat) ≠ 1; decide), fun h => absurd h (by show (0 : Nat) ≠ 2; decide), fun h => absurd h (by show (0 : Nat) ≠ 13; decide)⟩, n3⟩ ?_
        have e1 : ls_wt T (0, pl, mo) = mo - 1 := rfl
        have e2 : ls_wt T (0, pl, mo + 1) = mo := rfl
        rw [ls_ow_c e2]
        omega
      · cases hr
    · cases hr
set_option maxHeartbeats 200000 in
theorem ls_H_rs (hI : ls_Inv T n c) (h6 : c.1 < 6) (hH : ls_H T c) (hr : ls_rs T V c = .ok c') : ls_H T c' := by
  obtain ⟨st, pos, es, pe, fr, L, k⟩ := c
  obtain ⟨i1, i2, i3, i4, i5, i6, i7⟩ := hI
  unfold ls_rs at hr
  dsimp only at hr h6
  split at hr
  · exact ls_H_r0 hr
  split at hr
  · next q => subst q; rw [if_neg (by omega)] at i7; exact ls_H_r1 i7.2.2.1 hr
  split at hr
  · next q => subst q; rw [if_neg (by omega)] at i7; exact ls_H_r2 i7.2.2.1 hr
  split at hr
  · exact ls_H_r3 hr
  split at hr
  · next q => subst q; exact ls_H_r4 hH hr
  · have q : st = 5 := by omega
    subst q; exact ls_H_r5 hH hr
end
section
variable {T : Nat → Nat} {V : Nat → Int32} {n : Nat} {pos es : Nat} {pe : List LsP} {fr : List LsF} {L : List Nat} {k : LsK} {c c' : LsC}
set_option maxHeartbeats 200000 in
theorem ls_n6 {st pos' es' : Nat} {pe' : List LsP} {fr' : List LsF} {L' : List Nat} {k' : LsK} (h : st ≠ 6) : ((st, pos', es', pe', fr', L', k') : LsC).1 = 6 → fr' = [] := fun q => absurd q h
set_option maxHeartbeats 200000 in
theorem ls_rs6_4 (hr : ls_r4 T V pos es pe fr L k = .ok c') (h : c'.1 = 6) : c'.2.2.2.2.1 = [] := by
  unfold ls_r4 ls_flt at hr
  dsimp only at hr
  split at hr
  · repeat' split at hr
    all_goals (injection hr with hr; subst hr; exact ls_n6 (by decide) h)
  split at hr
  · injection hr with hr; subst hr; exact ls_n6 (by decide) h
  split at hr
  · injection hr with hr; subst hr; exact ls_n6 (by decide) h
  split at hr
  · injection hr with hr; subst hr; exact ls_n6 (by decide) h
  split at hr
  · injection hr with hr; subst hr; exact ls_n6 (by decide) h
  split at hr
  · repeat' split at hr
    all_goals first | cases hr; done | (injection hr with hr; subst hr; exact ls_n6 (by decide) h)
  split at hr
  · injection hr with hr; subst hr; exact ls_n6 (by decide) h
  · cases hr
set_option maxHeartbeats 200000 in
theorem ls_rs6_5 (hr : ls_r5 T pos es pe fr L k = .ok c') (h : c'.1 = 6) : c'.2.2.2.2.1 = [] := by
  unfold ls_r5 ls_flt at hr
  dsimp only at hr
  split at hr
  · split at hr
    · injection hr with hr; subst hr; exact ls_n6 (by decide) h
    · unfold ls_end at hr
      repeat' split at hr
      all_goals first | cases hr; done | (injection hr with hr; subst hr; exact ls_n6 (by decide) h)
  · repeat' split at hr
    all_goals first | cases hr; done | (injection hr with hr; subst hr; exact ls_n6 (by decide) h)
set_option maxHeartbeats 200000 in
theorem ls_rs6 (hr : ls_rs T V c = .ok c') (h : c'.1 = 6) : c'.2.2.2.2.1 = [] := by
  obtain ⟨st, pos, es, pe, fr, L, k⟩ := c
  unfold ls_rs at hr
  dsimp only at hr
  split at hr
  · unfold ls_r0 at hr
    split at hr
    · next q => injection hr with hr; subst hr; exact q.2
    · repeat' split at hr
      all_goals (injection hr with hr; subst hr; exact ls_n6 (by decide) h)
  split at hr
  · unfold ls_r1 ls_hdr at hr
    dsimp only at hr
    repeat' split at hr
    all_goals first | cases hr; done | (injection hr with hr; subst hr; exact ls_n6 (by decide) h)
  split at hr
  · unfold ls_r2 ls_var at hr
    dsimp only at hr
    repeat' split at hr
    all_goals first | cases hr; done | (injection hr with hr; subst hr; exact ls_n6 (by decide) h)
  split at hr
  · unfold ls_r3 at hr
    repeat' split at hr
    all_goals (injection hr with hr; subst hr; exact ls_n6 (by decide) h)
  split at hr
  · exact ls_rs6_4 hr h
  · exact ls_rs6_5 hr h
end
/-- a good reading -/
def ls_tl (T : Nat → Nat) (V : Nat → Int32) (n : Nat) (C : Nat → LsC) (N : Nat) (kF : LsK) : Prop :=
  ls_txt T n ∧ (∀ t, t < N → (C t).1 < 6 ∧ ls_rs T V (C t) = .ok (C (t + 1))) ∧ ((C N).1 = 6 ∧ (C N).2.2.2.2.1 = []) ∧ N ≤ 1120 ∧ (∀ t, t ≤ N → ls_fin T V (C t) kF ∧ ls_Inv T n (C t) ∧ ls_J (C t) ∧ ls_H T (C t) ∧ ∃ y, ls_al T n (C t) y)
section
variable {T : Nat → Nat} {V : Nat → Int32} {n : Nat} {c d : LsC} {kF : LsK}
set_option maxHeartbeats 200000 in
theorem ls_tl_mk (hT : ls_txt T n) : ∀ (m : Nat) (c : LsC) (y : LsY), m ≤ 1120 → ls_mu n c ≤ m → c.1 ≤ 6 → (c.1 = 6 → c.2.2.2.2.1 = []) → ls_Inv T n c → ls_J c → ls_H T c → ls_al T n c y → ls_run T V m c = .ok d → kF = ls_em (ls_kk7 d) 0 0 0 (nI d.2.1) → ∃ C N, N ≤ m ∧ C 0 = c ∧ ls_tl T V n C N kF := by
  intro m
  induction m with
  | zero =>
    intro c y m1 hm h6 h6f hI hJ hH ha hr hk
    have e6 := ls_mu0 h6 hI (by omega)
    have hr' : Except.ok c = Except.ok (ε := Nat) d := hr
    injection hr' with hr'
    refine ⟨fun _ => c, 0, Nat.le_refl _, rfl, hT, fun t h => by omega, ⟨e6, h6f e6⟩, by omega, fun t _ => ⟨⟨0, d, hr, ?_, hk⟩, hI, hJ, hH, y, ha⟩⟩
    rw [← hr']; exact e6
  | succ m ih =>
    intro c y m1 hm h6 h6f hI hJ hH ha hr hk
    by_cases e6 : c.1 = 6
    · have hr' := hr
      unfold ls_run at hr'
      rw [if_pos e6] at hr'
      injection hr' with hr'
      refine ⟨fun _ => c, 0, by omega, rfl, hT, fun t h => by omega, ⟨e6, h6f e6⟩, by omega, fun t _ => ⟨⟨m + 1, d, hr, ?_, hk⟩, hI, hJ, hH, y, ha⟩⟩
      rw [← hr']; exact e6
    · have hr' := hr
      unfold ls_run at hr'
      rw [if_neg e6] at hr'
      cases hs : ls_rs T V c with
      | error e => rw [hs] at hr'; cases hr'
      | ok c' =>
        rw [hs] at hr'
        dsimp only at hr'
        obtain ⟨j1, j2⟩ := ls_inv_rs hT (by omega) hI hs
        have A : ls_ag T n c y (ls_rs T V c) := by
          obtain ⟨st, pos, es, pe, fr, L, k⟩ := c
          dsimp only at e6 h6
          unfold ls_rs
          dsimp only
          rcases (show st = 0 ∨ st = 1 ∨ st = 2 ∨ st = 3 ∨ st = 4 ∨ st = 5 by omega) with rfl | rfl | rfl | rfl | rfl | rfl
          · exact ls_ag0 hT hI ha
          · exact ls_ag1 hT hI ha
          · exact ls_ag2 hT hI ha
          · exact ls_ag3 hT hI ha
          · exact ls_ag4 hT hI ha
          · exact ls_ag5 hT hI ha
        rw [hs] at A
        rcases A with ⟨y', al', e'⟩ | ⟨hd, e'⟩
        · obtain ⟨C, N, n1, n2, n3⟩ := ih c' y' (by omega) (by omega) (ls_st6 hs) (ls_rs6 hs) j1 (ls_js_rs hT (by omega) hI hJ hs).1 (ls_H_rs hI (by omega) hH hs) al' hr' hk
          obtain ⟨t1, t2, t3, t4, t5⟩ := n3
          refine ⟨fun t => match t with | 0 => c | t + 1 => C t, N + 1, by omega, rfl, hT, ?_, t3, by omega, ?_⟩
          · intro t ht
            cases t with
            | zero => exact ⟨by show c.1 < 6; omega, by show ls_rs T V c = .ok (C 0); rw [n2]; exact hs⟩
            | succ t => exact t2 t (by omega)
          · intro t ht
            cases t with
            | zero =>
              obtain ⟨m', d', r1, r2, r3⟩ := (t5 0 (by omega)).1
              refine ⟨⟨m' + 1, d', ?_, r2, r3⟩, hI, hJ, hH, y, ha⟩
              show ls_run T V (m' + 1) c = _
              unfold ls_run
              rw [if_neg e6, hs]
              dsimp only
              rw [← n2]; exact r1
            | succ t => exact t5 t (by omega)
        · have D := ls_doomed (V := V) hT m c' hd j1 (by omega)
          rw [D] at hr'
          cases hr'
end
section
variable {T : Nat → Nat} {V : Nat → Int32} {n : Nat} {C : Nat → LsC} {N : Nat} {kF : LsK} {t st pos es : Nat} {pe : List LsP} {fr : List LsF} {L : List Nat} {k : LsK}
set_option maxHeartbeats 200000 in
theorem ls_tl_lt (h : ls_tl T V n C N kF) (ht : t ≤ N) (e : C t = (st, pos, es, pe, fr, L, k)) (hs : st ≠ 6) : t < N := by
  apply Decidable.byContradiction
  intro q
  have : t = N := by omega
  subst this
  have := h.2.2.1.1
  rw [e] at this
  exact hs this
set_option maxHeartbeats 200000 in
theorem ls_tl0 (h : ls_tl T V n C N kF) (ht : t ≤ N) (e : C t = (0, pos, es, pe, fr, L, k)) : t < N ∧ ls_r0 T pos es pe fr L k = .ok (C (t + 1)) := by
  have lt := ls_tl_lt h ht e (by decide)
  have s := (h.2.1 t lt).2
  rw [e] at s
  exact ⟨lt, s⟩
set_option maxHeartbeats 200000 in
theorem ls_tl1 (h : ls_tl T V n C N kF) (ht : t ≤ N) (e : C t = (1, pos, es, pe, fr, L, k)) : t < N ∧ ls_r1 T pos es pe fr L k = .ok (C (t + 1)) := by
  have lt := ls_tl_lt h ht e (by decide)
  have s := (h.2.1 t lt).2
  rw [e] at s
  exact ⟨lt, s⟩
set_option maxHeartbeats 200000 in
theorem ls_tl2 (h : ls_tl T V n C N kF) (ht : t ≤ N) (e : C t = (2, pos, es, pe, fr, L, k)) : t < N ∧ ls_r2 T pos es pe fr L k = .ok (C (t + 1)) := by
  have lt := ls_tl_lt h ht e (by decide)
  have s := (h.2.1 t lt).2
  rw [e] at s
  exact ⟨lt, s⟩
set_option maxHeartbeats 200000 in
theorem ls_tl3 (h : ls_tl T V n C N kF) (ht : t ≤ N) (e : C t = (3, pos, es, pe, fr, L, k)) : t < N ∧ ls_r3 T pos es pe fr L k = .ok (C (t + 1)) := by
  have lt := ls_tl_lt h ht e (by decide)
  have s := (h.2.1 t lt).2
  rw [e] at s
  exact ⟨lt, s⟩
set_option maxHeartbeats 200000 in
theorem ls_tl4 (h : ls_tl T V n C N kF) (ht : t ≤ N) (e : C t = (4, pos, es, pe, fr, L, k)) : t < N ∧ ls_r4 T V pos es pe fr L k = .ok (C (t + 1)) := by
  have lt := ls_tl_lt h ht e (by decide)
  have s := (h.2.1 t lt).2
  rw [e] at s
  exact ⟨lt, s⟩
set_option maxHeartbeats 200000 in
theorem ls_tl5 (h : ls_tl T V n C N kF) (ht : t ≤ N) (e : C t = (5, pos, es, pe, fr, L, k)) : t < N ∧ ls_r5 T pos es pe fr L k = .ok (C (t + 1)) := by
  have lt := ls_tl_lt h ht e (by decide)
  have s := (h.2.1 t lt).2
  rw [e] at s
  exact ⟨lt, s⟩
set_option maxHeartbeats 200000 in
/-- after an operand: what ends it is one of three tokens -/
theorem ls_qe (h : ls_tl T V n C N kF) : ∀ (pe : List LsP) (t : Nat) (k : LsK), t ≤ N → C t = (5, pos, es, pe, fr, L, k) → ls_lv (T pos) ≤ 2 → T pos = 16 ∨ T pos = 19 ∨ T pos = 20 := by
  intro pe
  induction pe with
  | nil =>
    intro t k ht e lv
    obtain ⟨lt, s⟩ := ls_tl5 h ht e
    unfold ls_r5 at s
    dsimp only at s
    rw [if_neg (by omega)] at s
    unfold ls_end at s
    repeat' split at s
    all_goals first | cases s; done | omega
  | cons x r ih =>
    intro t k ht e lv
    obtain ⟨lt, s⟩ := ls_tl5 h ht e
    obtain ⟨x1, x2, x3⟩ := x
    unfold ls_r5 at s
    dsimp only at s
    split at s
    · injection s with s
      exact ih (t + 1) _ (by omega) s.symm lv
    · rw [if_neg (by omega)] at s
      split at s
      · omega
      · split at s
        · omega
        · cases s
end
end
section
/-! What lies ahead of a configuration: the end of an operand -/
/-- open brackets among the pending parts -/
def ls_dp : List LsP → Nat
  | [] => 0
  | e :: r => (if e.1 ≤ 1 then 1 else 0) + ls_dp r
/-- the tokens from p to q: brackets from depth d to 0, none that ends an operand of level s -/
def ls_sp (T : Nat → Nat) (s : Nat) : Nat → Nat → Nat → Nat → Prop
  | 0, p, d, q => p = q ∧ d = 0
  | j + 1, p, d, q => (T p ≠ 17 ∧ T p ≠ 18 ∧ T p ≠ 20) ∧ (d = 0 → T p ≠ 16 ∧ T p ≠ 19 ∧ (ls_lv (T p) ≤ 2 ∨ s < ls_lv (T p))) ∧ ls_sp T s j (p + 1) (if T p = 15 then d + 1 else if T p = 16 then d - 1 else d) q
section
variable {T : Nat → Nat} {V : Nat → Int32} {n : Nat} {C : Nat → LsC} {N : Nat} {kF : LsK} {t st pos es : Nat} {pe : List LsP} {fr : List LsF} {L : List Nat} {k : LsK} {s j p d q : Nat}
set_option maxHeartbeats 200000 in
theorem ls_sp_n (h : T p ≠ 15 ∧ T p ≠ 16 ∧ T p ≠ 17 ∧ T p ≠ 18 ∧ T p ≠ 19 ∧ T p ≠ 20) (hl : ls_lv (T p) ≤ 2 ∨ s < ls_lv (T p)) (g : ls_sp T s j (p + 1) d q) : ls_sp T s (j + 1) p d q := by
  refine ⟨⟨h.2.2.1, h.2.2.2.1, h.2.2.2.2.2⟩, fun _ => ⟨h.2.1, h.2.2.2.2.1, hl⟩, ?_⟩
  rw [if_neg h.1, if_neg h.2.1]; exact g
set_option maxHeartbeats 200000 in
theorem ls_sp_o (h : T p = 15) (g : ls_sp T s j (p + 1) (d + 1) q) : ls_sp T s (j + 1) p d q := by
  have lc := ls_lv_c (T p)
  refine ⟨⟨by omega, by omega, by omega⟩, fun _ => ⟨by omega, by omega, Or.inl (by omega)⟩, ?_⟩
  rw [if_pos h]; exact g
set_option maxHeartbeats 200000 in
theorem ls_sp_c (h : T p = 16) (g : ls_sp T s j (p + 1) d q) : ls_sp T s (j + 1) p (d + 1) q := by
  refine ⟨⟨by omega, by omega, by omega⟩, fun h => by omega, ?_⟩
  rw [if_neg (by omega), if_pos h]; exact g
set_option maxHeartbeats 200000 in
theorem ls_sp_x (h : T p ≠ 15 ∧ T p ≠ 16 ∧ T p ≠ 17 ∧ T p ≠ 18 ∧ T p ≠ 20) (g : ls_sp T s j (p + 1) (d + 1) q) : ls_sp T s (j + 1) p (d + 1) q := by
  refine ⟨⟨h.2.2.1, h.2.2.2.1, h.2.2.2.2⟩, fun h => by omega, ?_⟩
  rw [if_neg h.1, if_neg h.2.1]; exact g
set_option maxHeartbeats 200000 in
theorem ls_dp_0 {e : LsP} (h : 2 ≤ e.1) : ls_dp (e :: pe) = ls_dp pe := by
  show (if e.1 ≤ 1 then 1 else 0) + ls_dp pe = _
  rw [if_neg (by omega)]; omega
set_option maxHeartbeats 200000 in
theorem ls_dp_1 {e : LsP} (h : e.1 ≤ 1) : ls_dp (e :: pe) = ls_dp pe + 1 := by
  show (if e.1 ≤ 1 then 1 else 0) + ls_dp pe = _
  rw [if_pos h]; omega
set_option maxHeartbeats 200000 in
theorem ls_ch_top {e : LsP} {P : List LsP} (he : 2 < e.1) : ∀ {pre : List LsP} {x : LsP}, ls_ch T L ((x :: pre) ++ e :: P) → ls_dp (x :: pre) = 0 → e.1 < 13 → e.1 < x.1
  | [], x, h, hd, h13 => by
    obtain ⟨h1, _, _⟩ := h
    have h1' : (2 < x.1 → x.1 ≠ 13 → e.1 < x.1) ∧ (x.1 = 2 → e.1 ≤ 2) := h1
    by_cases q : x.1 ≤ 1
    · rw [ls_dp_1 q] at hd; omega
    · by_cases q2 : x.1 = 2
      · have := h1'.2 q2; omega
      · by_cases q3 : x.1 = 13
        · omega
        · exact h1'.1 (by omega) q3
  | y :: pre, x, h, hd, h13 => by
    obtain ⟨h1, _, h3⟩ := h
    have h1' : (2 < x.1 → x.1 ≠ 13 → y.1 < x.1) ∧ (x.1 = 2 → y.1 ≤ 2) := h1
    by_cases q : x.1 ≤ 1
    · rw [ls_dp_1 q] at hd; omega
    · rw [ls_dp_0 (by omega)] at hd
      have ih := ls_ch_top he (pre := pre) (x := y) h3 hd h13
      by_cases q2 : x.1 = 2
      · have := h1'.2 q2; omega
      · by_cases q3 : x.1 = 13
        · omega
        · have := h1'.1 (by omega) q3; omega
set_option maxHeartbeats 1000000 in
/-- the operand that is being read ends: all of pre is reduced, at a token that binds no tighter than s -/
theorem ls_pex (h : ls_tl T V n C N kF) {P : List LsP} (hs : (P = [] ∧ s = 2) ∨ (∃ e P', P = e :: P' ∧ e.1 = s ∧ (s = 3 ∨ s = 4))) : ∀ (m t st pos : Nat) (pre : List LsP) (k : LsK), N - t ≤ m → t ≤ N → (st = 4 ∨ st = 5) → C t = (st, pos, es, pre ++ P, fr, L, k) →
    ∃ t' q k' j, t ≤ t' ∧ t' < N ∧ C t' = (5, q, es, P, fr, L, k') ∧ ls_lv (T q) ≤ s ∧ pos ≤ q ∧ ls_sp T s j pos (ls_dp pre) q ∧ (∀ u, t ≤ u → u ≤ t' → (C u).2.2.2.2.1 = fr ∧ ((C u).1 = 4 ∨ (C u).1 = 5) ∧ ∃ pr, (C u).2.2.2.1 = pr ++ P) := by
  intro m
  induction m with
  | zero =>
    intro t st pos pre k hm ht hst e
    have := ls_tl_lt h ht e (by omega)
    omega
  | succ m ih =>
    intro t st pos pre k hm ht hst e
    have NOW : (C t).2.2.2.2.1 = fr ∧ ((C t).1 = 4 ∨ (C t).1 = 5) ∧ ∃ pr, (C t).2.2.2.1 = pr ++ P := by rw [e]; exact ⟨rfl, hst, pre, rfl⟩
    -- one step further
    have GO : ∀ st' pos' pre' k', t < N → (st' = 4 ∨ st' = 5) → C (t + 1) = (st', pos', es, pre' ++ P, fr, L, k') → pos ≤ pos' → (∀ j q, ls_sp T s j pos' (ls_dp pre') q → ∃ j', ls_sp T s j' pos (ls_dp pre) q) →
        ∃ t' q k' j, t ≤ t' ∧ t' < N ∧ C t' = (5, q, es, P, fr, L, k') ∧ ls_lv (T q) ≤ s ∧ pos ≤ q ∧ ls_sp T s j pos (ls_dp pre) q ∧ (∀ u, t ≤ u → u ≤ t' → (C u).2.2.2.2.1 = fr ∧ ((C u).1 = 4 ∨ (C u).1 = 5) ∧ ∃ pr, (C u).2.2.2.1 = pr ++ P) := by
      intro st' pos' pre' k' lt hst' e' hp hsp
      obtain ⟨t', q, k2, j, a1, a2, a3, a4, a5, a6, a7⟩ := ih (t + 1) st' pos' pre' k' (by omega) (by omega) hst' e'
      obtain ⟨j', b⟩ := hsp j q a6
      refine ⟨t', q, k2, j', by omega, a2, a3, a4, by omega, b, fun u u1 u2 => ?_⟩
      by_cases ue : u = t
      · subst ue; exact NOW
      · exact a7 u (by omega) u2
    rcases hst with rfl | rfl
    · -- an operand is due
      obtain ⟨lt, s4⟩ := ls_tl4 h ht e
      unfold ls_r4 ls_flt at s4
      dsimp only at s4
      have lc := ls_lv_c (T pos)
      split at s4
      · next nm =>
        have lc1 := ls_lv_c (T (pos + 1))
        split at s4
        · next t15 =>
          split at s4
          · next t16 =>
            injection s4 with s4
            exact GO 5 _ pre _ lt (Or.inr rfl) s4.symm (by omega) (fun j q g => ⟨j + 3, ls_sp_n (by omega) (by omega) (ls_sp_o t15 (ls_sp_c t16 g))⟩)
          · injection s4 with s4
            exact GO 4 _ ((0, pos, 1) :: pre) _ lt (Or.inl rfl) s4.symm (by omega) (fun j q g => ⟨j + 2, ls_sp_n (by omega) (by omega) (ls_sp_o t15 (by rw [ls_dp_1 (by show 0 ≤ 1; decide)] at g; exact g))⟩)
        · split at s4
          · next sa =>
            obtain ⟨_, s2⟩ := sa
            have s2' : T (pos + 1) = 21 ∨ (43 ≤ T (pos + 1) ∧ T (pos + 1) ≤ 53) := s2
            have K : ∀ j q, ls_sp T s j (pos + 2) (ls_dp ((2, pos + 1, ls_addr L (T pos - 54)) :: pre)) q → ∃ j', ls_sp T s j' pos (ls_dp pre) q := fun j q g => ⟨j + 2, ls_sp_n (by omega) (by omega) (ls_sp_n (by omega) (by omega) (by rw [ls_dp_0 (by show 2 ≤ 2; decide)] at g; exact g))⟩
            split at s4
            · injection s4 with s4
              exact GO 4 _ ((2, pos + 1, ls_addr L (T pos - 54)) :: pre) _ lt (Or.inl rfl) s4.symm (by omega) K
            · injection s4 with s4
              exact GO 4 _ ((2, pos + 1, ls_addr L (T pos - 54)) :: pre) _ lt (Or.inl rfl) s4.symm (by omega) K
          · injection s4 with s4
            exact GO 5 _ pre _ lt (Or.inr rfl) s4.symm (by omega) (fun j q g => ⟨j + 1, ls_sp_n (by omega) (by omega) g⟩)
      split at s4
      · injection s4 with s4
        exact GO 5 _ pre _ lt (Or.inr rfl) s4.symm (by omega) (fun j q g => ⟨j + 1, ls_sp_n (by omega) (by omega) g⟩)
      split at s4
      · injection s4 with s4
        exact GO 5 _ pre _ lt (Or.inr rfl) s4.symm (by omega) (fun j q g => ⟨j + 1, ls_sp_n (by omega) (by omega) g⟩)
      split at s4
      · injection s4 with s4
        exact GO 5 _ pre _ lt (Or.inr rfl) s4.symm (by omega) (fun j q g => ⟨j + 1, ls_sp_n (by omega) (by omega) g⟩)
      split at s4
      · injection s4 with s4
        exact GO 5 _ pre _ lt (Or.inr rfl) s4.symm (by omega) (fun j q g => ⟨j + 1, ls_sp_n (by omega) (by omega) g⟩)
      split at s4
      · next t15 =>
        split at s4
        · next t5 =>
          split at s4
          · next t16 =>
            injection s4 with s4
            exact GO 4 _ ((13, pos, T (pos + 1)) :: pre) _ lt (Or.inl rfl) s4.symm (by omega) (fun j q g => ⟨j + 3, ls_sp_o t15 (ls_sp_x (by omega) (ls_sp_c t16 (by rw [ls_dp_0 (by show 2 ≤ 13; decide)] at g; exact g)))⟩)
          · cases s4
        · split at s4
          · cases s4
          · injection s4 with s4
            exact GO 4 _ ((1, pos, 0) :: pre) _ lt (Or.inl rfl) s4.symm (by omega) (fun j q g => ⟨j + 1, ls_sp_o t15 (by rw [ls_dp_1 (by show 1 ≤ 1; decide)] at g; exact g)⟩)
      split at s4
      · next tu =>
        injection s4 with s4
        have s34 : s ≤ 4 := by
          rcases hs with ⟨_, h2⟩ | ⟨_, _, _, _, h2⟩ <;> omega
        have lu : ls_lv (T pos) ≤ 2 ∨ s < ls_lv (T pos) := by
          rcases (show T pos = 22 ∨ T pos = 23 ∨ T pos = 24 ∨ T pos = 25 by omega) with q | q | q | q
          · omega
          · omega
          · right; rw [q]; show s < 11; omega
          · right; rw [q]; show s < 11; omega
        exact GO 4 _ ((13, pos, 0) :: pre) _ lt (Or.inl rfl) s4.symm (by omega) (fun j q g => ⟨j + 1, ls_sp_n (by omega) lu (by rw [ls_dp_0 (by show 2 ≤ 13; decide)] at g; exact g)⟩)
      · cases s4
    · -- after an operand
      obtain ⟨lt, s5⟩ := ls_tl5 h ht e
      have lc := ls_lv_c (T pos)
      have ch : ls_ch T L (pre ++ P) := by
        have := (h.2.2.2.2 t ht).2.2.2.1
        rw [e] at this
        exact (this (Or.inr rfl)).1
      cases pre with
      | nil =>
        by_cases q : ls_lv (T pos) ≤ s
        · refine ⟨t, pos, k, 0, Nat.le_refl _, lt, e, q, Nat.le_refl _, ⟨rfl, rfl⟩, fun u u1 u2 => ?_⟩
          have : u = t := by omega
          subst this; exact NOW
        · rcases hs with ⟨rfl, h2⟩ | ⟨e0, P', rfl, h2, h3⟩
          · unfold ls_r5 at s5
            dsimp only [List.nil_append] at s5
            rw [if_pos (by omega)] at s5
            injection s5 with s5
            exact GO 4 _ [(ls_lv (T pos), pos, k.1)] _ lt (Or.inl rfl) s5.symm (by omega) (fun j q g => ⟨j + 1, ls_sp_n (by omega) (by omega) (by rw [ls_dp_0 (by show 2 ≤ ls_lv (T pos); omega)] at g; exact g)⟩)
          · obtain ⟨a, b, c0⟩ := e0
            dsimp only at h2
            unfold ls_r5 at s5
            dsimp only [List.nil_append] at s5
            rw [if_neg (by omega), if_pos (by omega)] at s5
            injection s5 with s5
            exact GO 4 _ [(ls_lv (T pos), pos, k.1)] _ lt (Or.inl rfl) s5.symm (by omega) (fun j q g => ⟨j + 1, ls_sp_n (by omega) (by omega) (by rw [ls_dp_0 (by show 2 ≤ ls_lv (T pos); omega)] at g; exact g)⟩)
      | cons x pre =>
        obtain ⟨lv, pl, mo⟩ := x
        unfold ls_r5 ls_flt at s5
        dsimp only [List.cons_append] at s5
        split at s5
        · next le =>
          injection s5 with s5
          exact GO 5 _ pre _ lt (Or.inr rfl) s5.symm (by omega) (fun j q g => ⟨j, by rw [ls_dp_0 (by show 2 ≤ lv; omega)]; exact g⟩)
        split at s5
        · next g1 g2 =>
          injection s5 with s5
          refine GO 4 _ ((ls_lv (T pos), pos, k.1) :: (lv, pl, mo) :: pre) _ lt (Or.inl rfl) s5.symm (by omega) (fun j q g => ⟨j + 1, ?_⟩)
          rw [ls_dp_0 (by show 2 ≤ ls_lv (T pos); omega)] at g
          by_cases d0 : ls_dp ((lv, pl, mo) :: pre) = 0
          · refine ls_sp_n (by omega) (Or.inr ?_) g
            rcases hs with ⟨_, h2⟩ | ⟨e0, P', rfl, h2, h3⟩
            · omega
            · have := ls_ch_top (T := T) (L := L) (e := e0) (P := P') (by omega) (pre := pre) (x := (lv, pl, mo)) ch d0 (by omega)
              dsimp only at this
              omega
          · obtain ⟨d1, hd1⟩ : ∃ d1, ls_dp ((lv, pl, mo) :: pre) = d1 + 1 := ⟨ls_dp ((lv, pl, mo) :: pre) - 1, by omega⟩
            rw [hd1] at g ⊢
            exact ls_sp_x (by omega) g
        split at s5
        · next t16 =>
          have l1 : lv ≤ 1 := by omega
          have K : ∀ j q, ls_sp T s j (pos + 1) (ls_dp pre) q → ∃ j', ls_sp T s j' pos (ls_dp ((lv, pl, mo) :: pre)) q := fun j q g => ⟨j + 1, by rw [ls_dp_1 (by show lv ≤ 1; omega)]; exact ls_sp_c t16 g⟩
          split at s5
          · injection s5 with s5
            exact GO 5 _ pre _ lt (Or.inr rfl) s5.symm (by omega) K
          · injection s5 with s5
            exact GO 5 _ pre _ lt (Or.inr rfl) s5.symm (by omega) K
        split at s5
        · next q19 =>
          obtain ⟨t19, l0⟩ := q19
          split at s5
          · injection s5 with s5
            refine GO 4 _ ((lv, pl, mo + 1) :: pre) _ lt (Or.inl rfl) s5.symm (by omega) (fun j q g => ⟨j + 1, ?_⟩)
            rw [ls_dp_1 (by show lv ≤ 1; omega)] at g ⊢
            exact ls_sp_x (by omega) g
          · cases s5
        · cases s5
end
end
section
/-! Brackets balance along the reading -/
def ls_df (f : LsF) : Nat := if f.1 = 1 ∨ f.1 = 7 ∨ f.1 = 8 ∨ f.1 = 9 then 1 else 0
def ls_dF : List LsF → Nat
  | [] => 0
  | f :: r => ls_df f + ls_dF r
def ls_bd (t d : Nat) : Nat := if t = 15 ∨ t = 17 then d + 1 else if t = 16 ∨ t = 18 then d - 1 else d
/-- m tokens from p lead from depth d to depth e, and each begins deeper than b -/
def ls_br (T : Nat → Nat) (b : Nat) : Nat → Nat → Nat → Nat → Prop
  | 0, _, d, e => d = e
  | m + 1, p, d, e => b < d ∧ ls_br T b m (p + 1) (ls_bd (T p) d) e
/-- what becomes of the topmost frame g over r -/
def ls_fc (T : Nat → Nat) (c c' : LsC) (g : LsF) (r : List LsF) : Prop :=
  (c'.2.2.2.2.1 = g :: r ∨ ∃ h, c'.2.2.2.2.1 = h :: g :: r) ∨ (g.1 ≠ 1 ∧ (c'.2.2.2.2.1 = r ∨ ∃ g' : LsF, g'.1 ≠ 1 ∧ c'.2.2.2.2.1 = g' :: r)) ∨ (g.1 = 1 ∧ T c.2.1 = 18 ∧ c.1 = 0 ∧ c' = (3, c.2.1 + 1, c.2.2.1, [], r, g.2.2.2, c.2.2.2.2.2.2))
def ls_D (c : LsC) : Nat := ls_dF c.2.2.2.2.1 + ls_dp c.2.2.2.1
def ls_sb (T : Nat → Nat) (c c' : LsC) (g : LsF) (r : List LsF) : Prop :=
  ls_fc T c c' g r ∧ ∃ m, c'.2.1 = c.2.1 + m ∧ ∀ b, b < ls_D c → (g.1 = 9 → b < ls_dF r) → ls_br T b m c.2.1 (ls_D c) (ls_D c')
section
variable {T : Nat → Nat} {V : Nat → Int32} {n : Nat} {pos es : Nat} {pe : List LsP} {fr : List LsF} {L : List Nat} {k : LsK} {c c' : LsC} {g : LsF} {r : List LsF} {b m p d e : Nat}
set_option maxHeartbeats 200000 in
theorem ls_bd_n {t : Nat} (h : t ≠ 15 ∧ t ≠ 16 ∧ t ≠ 17 ∧ t ≠ 18) : ls_bd t d = d := by
  unfold ls_bd; rw [if_neg (by omega), if_neg (by omega)]
set_option maxHeartbeats 200000 in
theorem ls_bd_o {t : Nat} (h : t = 15 ∨ t = 17) : ls_bd t d = d + 1 := by
  unfold ls_bd; rw [if_pos h]
set_option maxHeartbeats 200000 in
theorem ls_bd_c {t : Nat} (h : t = 16 ∨ t = 18) : ls_bd t (d + 1) = d := by
  unfold ls_bd; rw [if_neg (by omega), if_pos h]; omega
set_option maxHeartbeats 200000 in
theorem ls_br_n (h : T p ≠ 15 ∧ T p ≠ 16 ∧ T p ≠ 17 ∧ T p ≠ 18) (hb : b < d) (g : ls_br T b m (p + 1) d e) : ls_br T b (m + 1) p d e := ⟨hb, by rw [ls_bd_n h]; exact g⟩
set_option maxHeartbeats 200000 in
theorem ls_br_o (h : T p = 15 ∨ T p = 17) (hb : b < d) (g : ls_br T b m (p + 1) (d + 1) e) : ls_br T b (m + 1) p d e := ⟨hb, by rw [ls_bd_o h]; exact g⟩
set_option maxHeartbeats 200000 in
theorem ls_br_c (h : T p = 16 ∨ T p = 18) (hb : b < d + 1) (g : ls_br T b m (p + 1) d e) : ls_br T b (m + 1) p (d + 1) e := ⟨hb, by rw [ls_bd_c h]; exact g⟩
set_option maxHeartbeats 200000 in
theorem ls_br_z (h : d = e) : ls_br T b 0 p d e := h
set_option maxHeartbeats 200000 in
theorem ls_br_app {q f : Nat} : ∀ {m p d}, ls_br T b m p d e → ls_br T b q (p + m) e f → ls_br T b (m + q) p d f
  | 0, p, d, h, g => by
    have h' : d = e := h
    subst h'
    rw [Nat.zero_add]; exact g
  | m + 1, p, d, h, g => by
    rw [show m + 1 + q = (m + q) + 1 by omega]
    exact ⟨h.1, ls_br_app h.2 (by rw [show p + 1 + m = p + (m + 1) by omega]; exact g)⟩
set_option maxHeartbeats 200000 in
theorem ls_df0 {a x y : Nat} {l : List Nat} (h : ¬ (a = 1 ∨ a = 7 ∨ a = 8 ∨ a = 9)) : ls_dF ((a, x, y, l) :: r) = ls_dF r := by
  show (if a = 1 ∨ a = 7 ∨ a = 8 ∨ a = 9 then 1 else 0) + ls_dF r = _
  rw [if_neg h]; omega
set_option maxHeartbeats 200000 in
theorem ls_df1 {a x y : Nat} {l : List Nat} (h : a = 1 ∨ a = 7 ∨ a = 8 ∨ a = 9) : ls_dF ((a, x, y, l) :: r) = ls_dF r + 1 := by
  show (if a = 1 ∨ a = 7 ∨ a = 8 ∨ a = 9 then 1 else 0) + ls_dF r = _
  rw [if_pos h]; omega
set_option maxHeartbeats 200000 in
theorem ls_D_mk {st : Nat} : ls_D (st, pos, es, pe, fr, L, k) = ls_dF fr + ls_dp pe := rfl
set_option maxHeartbeats 200000 in
theorem ls_sb_mk {st st' es' : Nat} {pe' : List LsP} {fr' : List LsF} {L' : List Nat} {k' : LsK} (h1 : ls_fc T (st, pos, es, pe, g :: r, L, k) (st', pos + m, es', pe', fr', L', k') g r) (h2 : ∀ b, b < ls_dF (g :: r) + ls_dp pe → (g.1 = 9 → b < ls_dF r) → ls_br T b m pos (ls_dF (g :: r) + ls_dp pe) (ls_dF fr' + ls_dp pe')) : ls_sb T (st, pos, es, pe, g :: r, L, k) (st', pos + m, es', pe', fr', L', k') g r := ⟨h1, m, rfl, h2⟩
set_option maxHeartbeats 200000 in
theorem ls_sb0 (hr : ls_r0 T pos es [] (g :: r) L k = .ok c') : ls_sb T (0, pos, es, [], g :: r, L, k) c' g r := by
  obtain ⟨a, x, y, l⟩ := g
  unfold ls_r0 at hr
  rw [if_neg (fun q => by cases q.2)] at hr
  dsimp only at hr
  split at hr
  · next a1 =>
    split at hr
    · next t18 =>
      injection hr with hr; subst hr
      refine ls_sb_mk (m := 1) (Or.inr (Or.inr ⟨a1, t18, rfl, rfl⟩)) (fun b hb _ => ?_)
      rw [ls_df1 (Or.inl a1)]
      rw [ls_df1 (Or.inl a1)] at hb
      exact ls_br_c (Or.inr t18) hb (ls_br_z rfl)
    split at hr
    · injection hr with hr; subst hr
      exact ls_sb_mk (m := 0) (Or.inl (Or.inl rfl)) (fun b _ _ => rfl)
    · injection hr with hr; subst hr
      exact ls_sb_mk (m := 0) (Or.inl (Or.inl rfl)) (fun b _ _ => rfl)
  · injection hr with hr; subst hr
    exact ls_sb_mk (m := 0) (Or.inl (Or.inl rfl)) (fun b _ _ => rfl)
set_option maxHeartbeats 200000 in
theorem ls_sb1 (hr : ls_r1 T pos es [] (g :: r) L k = .ok c') : ls_sb T (1, pos, es, [], g :: r, L, k) c' g r := by
  unfold ls_r1 ls_hdr at hr
  dsimp only at hr
  split at hr
  · next t =>
    injection hr with hr; subst hr
    exact ls_sb_mk (m := 1) (Or.inl (Or.inl rfl)) (fun b hb _ => ls_br_n (by omega) hb (ls_br_z rfl))
  split at hr
  · next t =>
    injection hr with hr; subst hr
    refine ls_sb_mk (m := 1) (Or.inl (Or.inr ⟨_, rfl⟩)) (fun b hb _ => ?_)
    rw [ls_df1 (a := 1) (Or.inl rfl)]
    exact ls_br_o (Or.inr t) hb (ls_br_z rfl)
  have HD : ∀ fk (kk : LsK), (fk = 7 ∨ fk = 8 ∨ fk = 9) → (T pos ≠ 15 ∧ T pos ≠ 16 ∧ T pos ≠ 17 ∧ T pos ≠ 18) → T (pos + 1) = 15 → ls_sb T (1, pos, es, [], g :: r, L, k) (4, pos + 2, pos + 2, [], (fk, k.1, pos, []) :: g :: r, L, kk) g r := by
    intro fk kk h1 h2 h3
    refine ls_sb_mk (m := 2) (Or.inl (Or.inr ⟨_, rfl⟩)) (fun b hb _ => ?_)
    rw [ls_df1 (Or.inr h1)]
    exact ls_br_n h2 hb (ls_br_o (Or.inl h3) hb (ls_br_z rfl))
  split at hr
  · split at hr
    · next t1 t2 => injection hr with hr; subst hr; exact HD 7 _ (by omega) (by omega) t2
    · cases hr
  split at hr
  · split at hr
    · next t1 t2 => injection hr with hr; subst hr; exact HD 8 _ (by omega) (by omega) t2
    · cases hr
  split at hr
  · split at hr
    · next t1 t2 => injection hr with hr; subst hr; exact HD 9 _ (by omega) (by omega) t2
    · cases hr
  have SI : ∀ (kk : LsK), (T pos ≠ 15 ∧ T pos ≠ 16 ∧ T pos ≠ 17 ∧ T pos ≠ 18) → T (pos + 1) = 20 → ls_sb T (1, pos, es, [], g :: r, L, k) (3, pos + 2, es, [], g :: r, L, kk) g r := by
    intro kk h2 h3
    exact ls_sb_mk (m := 2) (Or.inl (Or.inl rfl)) (fun b hb _ => ls_br_n h2 hb (ls_br_n (by omega) hb (ls_br_z rfl)))
  split at hr
  · split at hr
    · cases hr
    · split at hr
      · next t2 => injection hr with hr; subst hr; exact SI _ (by omega) t2
      · cases hr
  split at hr
  · split at hr
    · cases hr
    · split at hr
      · next t2 => injection hr with hr; subst hr; exact SI _ (by omega) t2
      · cases hr
  split at hr
  · split at hr
    · cases hr
    · split at hr
      · next t2 => injection hr with hr; subst hr; exact SI _ (by omega) t2
      · injection hr with hr; subst hr
        refine ls_sb_mk (m := 1) (Or.inl (Or.inr ⟨_, rfl⟩)) (fun b hb _ => ?_)
        rw [ls_df0 (a := 10) (by decide)]
        exact ls_br_n (by omega) hb (ls_br_z rfl)
  · injection hr with hr; subst hr
    refine ls_sb_mk (m := 0) (Or.inl (Or.inr ⟨_, rfl⟩)) (fun b hb _ => ?_)
    rw [ls_df0 (a := 6) (by decide)]
    rfl
set_option maxHeartbeats 200000 in
theorem ls_sb2 (h6 : T pos < 6) (hr : ls_r2 T pos es [] (g :: r) L k = .ok c') : ls_sb T (2, pos, es, [], g :: r, L, k) c' g r := by
  obtain ⟨a, x, y, l⟩ := g
  unfold ls_r2 at hr
  split at hr
  · next nm =>
    rw [if_neg (fun q => by cases q.1)] at hr
    unfold ls_var at hr
    dsimp only at hr
    split at hr
    · split at hr
      · next t21 =>
        injection hr with hr; subst hr
        refine ls_sb_mk (m := 3) (Or.inl (Or.inr ⟨_, rfl⟩)) (fun b hb _ => ?_)
        rw [ls_df0 (a := 11) (by decide)]
        exact ls_br_n (by omega) hb (ls_br_n (by omega) hb (ls_br_n (by show T (pos + 2) ≠ 15 ∧ T (pos + 2) ≠ 16 ∧ T (pos + 2) ≠ 17 ∧ T (pos + 2) ≠ 18; omega) hb (ls_br_z rfl)))
      split at hr
      · next t20 =>
        injection hr with hr; subst hr
        exact ls_sb_mk (m := 3) (Or.inl (Or.inl rfl)) (fun b hb _ => ls_br_n (by omega) hb (ls_br_n (by omega) hb (ls_br_n (by show T (pos + 2) ≠ 15 ∧ T (pos + 2) ≠ 16 ∧ T (pos + 2) ≠ 17 ∧ T (pos + 2) ≠ 18; omega) hb (ls_br_z rfl))))
      · cases hr
    · cases hr
  · cases hr
set_option maxHeartbeats 200000 in
theorem ls_sb3 (hr : ls_r3 T pos es [] (g :: r) L k = .ok c') : ls_sb T (3, pos, es, [], g :: r, L, k) c' g r := by
  obtain ⟨a, x, y, l⟩ := g
  unfold ls_r3 at hr
  dsimp only at hr
  have POP : ∀ (L' : List Nat) (kk : LsK), (a = 2 ∨ a = 3 ∨ a = 4 ∨ a = 5) → ls_sb T (3, pos, es, [], (a, x, y, l) :: r, L, k) (3, pos, es, [], r, L', kk) (a, x, y, l) r := by
    intro L' kk h
    refine ls_sb_mk (m := 0) (Or.inr (Or.inl ⟨by show a ≠ 1; omega, Or.inl rfl⟩)) (fun b hb _ => ?_)
    rw [ls_df0 (by omega)]
    rfl
  split at hr
  · split at hr
    · next a3 t7 =>
      injection hr with hr; subst hr
      refine ls_sb_mk (m := 1) (Or.inr (Or.inl ⟨by show a ≠ 1; omega, Or.inr ⟨(4, k.1, y, []), by show (4 : Nat) ≠ 1; decide, rfl⟩⟩)) (fun b hb _ => ?_)
      rw [ls_df0 (by omega)] at hb
      rw [ls_df0 (a := 4) (by decide), ls_df0 (by omega)]
      exact ls_br_n (by omega) hb (ls_br_z rfl)
    · injection hr with hr; subst hr; exact POP _ _ (by omega)
  split at hr
  · injection hr with hr; subst hr; exact POP _ _ (by omega)
  split at hr
  · injection hr with hr; subst hr; exact POP _ _ (by omega)
  split at hr
  · injection hr with hr; subst hr; exact POP _ _ (by omega)
  · injection hr with hr; subst hr
    exact ls_sb_mk (m := 0) (Or.inl (Or.inl rfl)) (fun b hb _ => rfl)
set_option maxHeartbeats 1000000 in
theorem ls_sb4 (hr : ls_r4 T V pos es pe (g :: r) L k = .ok c') : ls_sb T (4, pos, es, pe, g :: r, L, k) c' g r := by
  have SAME : ∀ st m (kk : LsK) (pe' : List LsP) , (∀ b, b < ls_dF (g :: r) + ls_dp pe → ls_br T b m pos (ls_dF (g :: r) + ls_dp pe) (ls_dF (g :: r) + ls_dp pe')) → ls_sb T (4, pos, es, pe, g :: r, L, k) (st, pos + m, es, pe', g :: r, L, kk) g r := by
    intro st m kk pe' h
    exact ls_sb_mk (m := m) (Or.inl (Or.inl rfl)) (fun b hb _ => h b hb)
  unfold ls_r4 ls_flt at hr
  dsimp only at hr
  split at hr
  · next nm =>
    split at hr
    · next t15 =>
      split at hr
      · next t16 =>
        injection hr with hr; subst hr
        exact SAME _ 3 _ _ (fun b hb => ls_br_n (by omega) hb (ls_br_o (Or.inl t15) hb (ls_br_c (Or.inl t16) (by omega) (ls_br_z rfl))))
      · injection hr with hr; subst hr
        refine SAME _ 2 _ _ (fun b hb => ls_br_n (by omega) hb (ls_br_o (Or.inl t15) hb (ls_br_z ?_)))
        rw [ls_dp_1 (by show 0 ≤ 1; decide)]; omega
    · split at hr
      · next sa =>
        obtain ⟨_, s2⟩ := sa
        have s2' : T (pos + 1) = 21 ∨ (43 ≤ T (pos + 1) ∧ T (pos + 1) ≤ 53) := s2
        split at hr
        · injection hr with hr; subst hr
          refine SAME _ 2 _ _ (fun b hb => ls_br_n (by omega) hb (ls_br_n (by omega) hb (ls_br_z ?_)))
          rw [ls_dp_0 (by show 2 ≤ 2; decide)]
        · injection hr with hr; subst hr
          refine SAME _ 2 _ _ (fun b hb => ls_br_n (by omega) hb (ls_br_n (by omega) hb (ls_br_z ?_)))
          rw [ls_dp_0 (by show 2 ≤ 2; decide)]
      · injection hr with hr; subst hr
        exact SAME _ 1 _ _ (fun b hb => ls_br_n (by omega) hb (ls_br_z rfl))
  split at hr
  · injection hr with hr; subst hr
    exact SAME _ 1 _ _ (fun b hb => ls_br_n (by omega) hb (ls_br_z rfl))
  split at hr
  · injection hr with hr; subst hr
    exact SAME _ 1 _ _ (fun b hb => ls_br_n (by omega) hb (ls_br_z rfl))
  split at hr
  · injection hr with hr; subst hr
    exact SAME _ 1 _ _ (fun b hb => ls_br_n (by omega) hb (ls_br_z rfl))
  split at hr
  · injection hr with hr; subst hr
    exact SAME _ 1 _ _ (fun b hb => ls_br_n (by omega) hb (ls_br_z rfl))
  split at hr
  · next t15 =>
    split at hr
    · next t5 =>
      split at hr
      · next t16 =>
        injection hr with hr; subst hr
        refine SAME _ 3 _ _ (fun b hb => ls_br_o (Or.inl t15) hb (ls_br_n (by omega) (by omega) (ls_br_c (Or.inl t16) (by omega) (ls_br_z ?_))))
        rw [ls_dp_0 (by show 2 ≤ 13; decide)]
      · cases hr
    · split at hr
      · cases hr
      · injection hr with hr; subst hr
        refine SAME _ 1 _ _ (fun b hb => ls_br_o (Or.inl t15) hb (ls_br_z ?_))
        rw [ls_dp_1 (by show 1 ≤ 1; decide)]; omega
  split at hr
  · injection hr with hr; subst hr
    refine SAME _ 1 _ _ (fun b hb => ls_br_n (by omega) hb (ls_br_z ?_))
    rw [ls_dp_0 (by show 2 ≤ 13; decide)]
  · cases hr
set_option maxHeartbeats 200000 in
theorem ls_sbe {a x y : Nat} {l : List Nat} (ha : 6 ≤ a) (h12 : a < 12) (hr : ls_end T pos es ((a, x, y, l) :: r) L k = .ok c') : ls_sb T (5, pos, es, [], (a, x, y, l) :: r, L, k) c' (a, x, y, l) r := by
  have REP : ∀ g' x' (kk : LsK), (a = 7 ∨ a = 8) → (g' = 3 ∨ g' = 5) → T pos = 16 → ls_sb T (5, pos, es, [], (a, x, y, l) :: r, L, k) (0, pos + 1, es, [], (g', x', y, []) :: r, L, kk) (a, x, y, l) r := by
    intro g' x' kk h1 h2 h3
    refine ls_sb_mk (m := 1) (Or.inr (Or.inl ⟨by show a ≠ 1; omega, Or.inr ⟨(g', x', y, []), by show g' ≠ 1; omega, rfl⟩⟩)) (fun b hb _ => ?_)
    rw [ls_df1 (by omega)] at hb
    rw [ls_df1 (by omega), ls_df0 (by omega)]
    exact ls_br_c (Or.inl h3) hb (ls_br_z rfl)
  have FIN : ∀ (kk : LsK), a ≠ 7 → a ≠ 8 → a ≠ 9 → T pos = 20 → ls_sb T (5, pos, es, [], (a, x, y, l) :: r, L, k) (3, pos + 1, es, [], r, L, kk) (a, x, y, l) r := by
    intro kk h1 h2 h3 h4
    refine ls_sb_mk (m := 1) (Or.inr (Or.inl ⟨by show a ≠ 1; omega, Or.inl rfl⟩)) (fun b hb _ => ?_)
    rw [ls_df0 (by omega)] at hb
    rw [ls_df0 (by omega)]
    exact ls_br_n (by omega) hb (ls_br_z rfl)
  unfold ls_end at hr
  split at hr
  · cases hr
  dsimp only at hr
  split at hr
  · split at hr
    · next a7 t16 => injection hr with hr; subst hr; exact REP 3 _ _ (by omega) (by omega) t16
    · cases hr
  split at hr
  · split at hr
    · next a7 t16 => injection hr with hr; subst hr; exact REP 5 _ _ (by omega) (by omega) t16
    · cases hr
  split at hr
  · next a9 =>
    split at hr
    · next t16 =>
      split at hr
      · next t20 =>
        injection hr with hr; subst hr
        refine ls_sb_mk (m := 2) (Or.inr (Or.inl ⟨by show a ≠ 1; omega, Or.inl rfl⟩)) (fun b hb h9 => ?_)
        have h9' := h9 a9
        rw [ls_df1 (by omega)] at hb
        rw [ls_df1 (by omega)]
        exact ls_br_c (Or.inl t16) hb (ls_br_n (by omega) (by show b < ls_dF r + 0; omega) (ls_br_z rfl))
      · cases hr
    · cases hr
  split at hr
  · next t20 =>
    split at hr
    · injection hr with hr; subst hr; exact FIN _ (by omega) (by omega) (by omega) t20
    split at hr
    · injection hr with hr; subst hr; exact FIN _ (by omega) (by omega) (by omega) t20
    · injection hr with hr; subst hr; exact FIN _ (by omega) (by omega) (by omega) t20
  · cases hr
set_option maxHeartbeats 200000 in
theorem ls_sb5 (hg : 6 ≤ g.1 ∧ g.1 < 12) (hr : ls_r5 T pos es pe (g :: r) L k = .ok c') : ls_sb T (5, pos, es, pe, g :: r, L, k) c' g r := by
  have SAME : ∀ st m (kk : LsK) (pe' : List LsP) , (∀ b, b < ls_dF (g :: r) + ls_dp pe → ls_br T b m pos (ls_dF (g :: r) + ls_dp pe) (ls_dF (g :: r) + ls_dp pe')) → ls_sb T (5, pos, es, pe, g :: r, L, k) (st, pos + m, es, pe', g :: r, L, kk) g r := by
    intro st m kk pe' h
    exact ls_sb_mk (m := m) (Or.inl (Or.inl rfl)) (fun b hb _ => h b hb)
  have lc := ls_lv_c (T pos)
  unfold ls_r5 ls_flt at hr
  dsimp only at hr
  split at hr
  · split at hr
    · injection hr with hr; subst hr
      refine SAME _ 1 _ _ (fun b hb => ls_br_n (by omega) hb (ls_br_z ?_))
      rw [ls_dp_0 (by show 2 ≤ ls_lv (T pos); omega)]
    · obtain ⟨a, x, y, l⟩ := g
      exact ls_sbe hg.1 hg.2 hr
  · next lv pl mo r2 =>
    split at hr
    · injection hr with hr; subst hr
      refine SAME _ 0 _ _ (fun b hb => ls_br_z ?_)
      rw [ls_dp_0 (by show 2 ≤ lv; omega)]
    split at hr
    · injection hr with hr; subst hr
      refine SAME _ 1 _ _ (fun b hb => ls_br_n (by omega) hb (ls_br_z ?_))
      rw [ls_dp_0 (e := (ls_lv (T pos), pos, k.1)) (by show 2 ≤ ls_lv (T pos); omega)]
    split at hr
    · next t16 =>
      have K : ∀ b, b < ls_dF (g :: r) + ls_dp ((lv, pl, mo) :: r2) → ls_br T b 1 pos (ls_dF (g :: r) + ls_dp ((lv, pl, mo) :: r2)) (ls_dF (g :: r) + ls_dp r2) := by
        intro b hb
        rw [ls_dp_1 (by show lv ≤ 1; omega)] at hb ⊢
        exact ls_br_c (Or.inl t16) hb (ls_br_z rfl)
      split at hr
      · injection hr with hr; subst hr; exact SAME _ 1 _ _ K
      · injection hr with hr; subst hr; exact SAME _ 1 _ _ K
    split at hr
    · next t19 =>
      split at hr
      · injection hr with hr; subst hr
        refine SAME _ 1 _ _ (fun b hb => ls_br_n (by omega) hb (ls_br_z ?_))
        rw [ls_dp_1 (by show lv ≤ 1; omega), ls_dp_1 (by show lv ≤ 1; omega)]
      · cases hr
    · cases hr
set_option maxHeartbeats 200000 in
theorem ls_sb_rs (hI : ls_Inv T n c) (h6 : c.1 < 6) (hf : c.2.2.2.2.1 = g :: r) (hr : ls_rs T V c = .ok c') : ls_sb T c c' g r := by
  obtain ⟨st, pos, es, pe, fr, L, k⟩ := c
  obtain ⟨i1, i2, i3, i4, i5, i6, i7⟩ := hI
  dsimp only at hf h6
  subst hf
  unfold ls_rs at hr
  dsimp only at hr
  split at hr
  · next q => subst q; rw [if_neg (by omega)] at i7; obtain ⟨_, _, rfl, _⟩ := i7; exact ls_sb0 hr
  split at hr
  · next q => subst q; rw [if_neg (by omega)] at i7; obtain ⟨_, _, rfl, _⟩ := i7; exact ls_sb1 hr
  split at hr
  · next q => subst q; rw [if_neg (by omega)] at i7; obtain ⟨_, _, rfl, _, i8⟩ := i7; exact ls_sb2 (i8 rfl).1 hr
  split at hr
  · next q => subst q; rw [if_neg (by omega)] at i7; obtain ⟨_, _, rfl, _⟩ := i7; exact ls_sb3 hr
  split at hr
  · next q => subst q; exact ls_sb4 hr
  · have q : st = 5 := by omega
    subst q
    rw [if_pos (Or.inr rfl)] at i7
    obtain ⟨_, _, _, _, f, r', e, x1, _⟩ := i7
    injection e with e1 e2
    subst e1
    exact ls_sb5 ⟨x1.1, x1.2.1⟩ hr
end
section
variable {T : Nat → Nat} {V : Nat → Int32} {n : Nat} {C : Nat → LsC} {N : Nat} {kF : LsK}
set_option maxHeartbeats 200000 in
theorem ls_dF_app : ∀ (a b : List LsF), ls_dF (a ++ b) = ls_dF a + ls_dF b
  | [], b => by show ls_dF b = 0 + ls_dF b; omega
  | f :: a, b => by
    show ls_df f + ls_dF (a ++ b) = ls_df f + ls_dF a + ls_dF b
    rw [ls_dF_app a b]; omega
set_option maxHeartbeats 200000 in
/-- a block that is open will be closed -/
theorem ls_pb (h : ls_tl T V n C N kF) {B : LsF} {F : List LsF} (hB : B.1 = 1) : ∀ (m t : Nat) (pre : List LsF), N - t ≤ m → t ≤ N → (C t).2.2.2.2.1 = pre ++ B :: F →
    ∃ t' q es' k' j, t < t' ∧ t' ≤ N ∧ C t' = (3, q, es', [], F, B.2.2.2, k') ∧ (C t).2.1 + j = q ∧ ls_br T (ls_dF F) j (C t).2.1 (ls_D (C t)) (ls_dF F) ∧ (∀ u, t ≤ u → u < t' → F.length < ((C u).2.2.2.2.1).length) := by
  have LT : ∀ t pre, t ≤ N → (C t).2.2.2.2.1 = pre ++ B :: F → t < N := by
    intro t pre ht e
    apply Decidable.byContradiction
    intro q
    have : t = N := by omega
    subst this
    rw [h.2.2.1.2] at e
    cases pre <;> cases e
  intro m
  induction m with
  | zero =>
    intro t pre hm ht e
    have := LT t pre ht e
    omega
  | succ m ih =>
    intro t pre hm ht e
    have lt := LT t pre ht e
    obtain ⟨s6, s⟩ := h.2.1 t lt
    have hI := (h.2.2.2.2 t ht).2.1
    have hlen : F.length < ((C t).2.2.2.2.1).length := by rw [e, List.length_append, List.length_cons]; omega
    have GO : ∀ pre', (C (t + 1)).2.2.2.2.1 = pre' ++ B :: F → (∃ j, (C (t + 1)).2.1 = (C t).2.1 + j ∧ ls_br T (ls_dF F) j (C t).2.1 (ls_D (C t)) (ls_D (C (t + 1)))) →
        ∃ t' q es' k' j, t < t' ∧ t' ≤ N ∧ C t' = (3, q, es', [], F, B.2.2.2, k') ∧ (C t).2.1 + j = q ∧ ls_br T (ls_dF F) j (C t).2.1 (ls_D (C t)) (ls_dF F) ∧ (∀ u, t ≤ u → u < t' → F.length < ((C u).2.2.2.2.1).length) := by
      intro pre' e' hj
      obtain ⟨j, j1, j2⟩ := hj
      obtain ⟨t', q, es', k', j', a1, a2, a3, a4, a5, a6⟩ := ih (t + 1) pre' (by omega) (by omega) e'
      rw [j1] at a4 a5
      refine ⟨t', q, es', k', j + j', by omega, a2, a3, by omega, ls_br_app j2 a5, fun u u1 u2 => ?_⟩
      by_cases ue : u = t
      · subst ue; exact hlen
      · exact a6 u (by omega) u2
    have hD : ls_dF F < ls_D (C t) := by
      unfold ls_D
      rw [e, ls_dF_app]
      obtain ⟨b1, b2, b3, b4⟩ := B
      rw [ls_df1 (Or.inl hB)]
      omega
    cases pre with
    | nil =>
      obtain ⟨fc, j, j1, j2⟩ := ls_sb_rs hI s6 e s
      have J := j2 (ls_dF F) hD (fun q => by omega)
      rcases fc with (fc | ⟨x, fc⟩) | ⟨fc, _⟩ | ⟨_, f18, _, fc⟩
      · exact GO [] fc ⟨j, j1, J⟩
      · exact GO [x] fc ⟨j, j1, J⟩
      · exact absurd hB fc
      · refine ⟨t + 1, (C t).2.1 + 1, (C t).2.2.1, (C t).2.2.2.2.2.2, 1, by omega, by omega, fc, rfl, ⟨hD, ?_⟩, fun u u1 u2 => ?_⟩
        · show ls_bd (T (C t).2.1) (ls_D (C t)) = ls_dF F
          rw [fc] at J j1
          have j1' : (C t).2.1 + 1 = (C t).2.1 + j := j1
          have : j = 1 := by omega
          subst this
          exact J.2
        · have : u = t := by omega
          subst this; exact hlen
    | cons x pre =>
      obtain ⟨fc, j, j1, j2⟩ := ls_sb_rs (g := x) (r := pre ++ B :: F) hI s6 e s
      have J := j2 (ls_dF F) hD (fun _ => by
        rw [ls_dF_app]
        obtain ⟨b1, b2, b3, b4⟩ := B
        rw [ls_df1 (Or.inl hB)]
        omega)
      rcases fc with (fc | ⟨y, fc⟩) | ⟨_, fc | ⟨y, _, fc⟩⟩ | ⟨_, _, _, fc⟩
      · exact GO (x :: pre) fc ⟨j, j1, J⟩
      · exact GO (y :: x :: pre) fc ⟨j, j1, J⟩
      · exact GO pre fc ⟨j, j1, J⟩
      · exact GO (y :: pre) fc ⟨j, j1, J⟩
      · exact GO pre (by rw [fc]) ⟨j, j1, J⟩
end
end
section
/-! What the reference's skip answers, and the reading's way there -/
def ls_f20 (T : Nat → Nat) : Nat → Nat → Nat → Prop
  | 0, p, q => T p = 20 ∧ q = p + 1
  | j + 1, p, q => T p ≠ 20 ∧ ls_f20 T j (p + 1) q
/-- behind the bracket that is opened at p -/
def ls_bhd (T : Nat → Nat) (p q : Nat) : Prop := (T p = 15 ∨ T p = 17) ∧ ∃ j, q = p + 1 + j ∧ ls_br T 0 j (p + 1) 1 0
def ls_dr (e : Prop) [Decidable e] : List Nat → Option (List Nat)
  | [] => none
  | x :: r => if x = 6 ∧ e then some r else ls_dr e r
def ls_one (T : Nat → Nat) (p q : Nat) : Prop := if T p = 17 then ls_bhd T p q else ∃ i, ls_f20 T i p q
def ls_sk (T : Nat → Nat) : Nat → Nat → List Nat → Nat → Prop
  | 0, _, _, _ => False
  | j + 1, p, S, q => ((T p = 6 ∨ T p = 8) ∧ ∃ p2, ls_bhd T (p + 1) p2 ∧ ls_sk T j p2 (T p :: S) q) ∨ (T p ≠ 6 ∧ T p ≠ 8 ∧ ∃ p1, ls_one T p p1 ∧ (match ls_dr (T p1 = 7) S with
    | none => q = p1
    | some S' => ls_sk T j (p1 + 1) (7 :: S') q))
def ls_k6 (f : LsF) : Nat := f.1 + 3
section
variable {T : Nat → Nat} {V : Nat → Int32} {n : Nat} {C : Nat → LsC} {N : Nat} {kF : LsK} {t pos es : Nat} {L : List Nat} {k : LsK} {s j p d q : Nat}
set_option maxHeartbeats 200000 in
theorem ls_sp_f20 : ∀ {j p d}, ls_sp T s j p d q → T q = 20 → ls_f20 T j p (q + 1)
  | 0, p, d, h, g => by
    obtain ⟨h1, h2⟩ := h
    subst h1
    exact ⟨g, rfl⟩
  | j + 1, p, d, h, g => ⟨h.1.2.2, ls_sp_f20 h.2.2 g⟩
set_option maxHeartbeats 200000 in
theorem ls_sp_f20b : ∀ {j p d}, ls_sp T s j p d q → T q = 16 → T (q + 1) = 20 → ls_f20 T (j + 1) p (q + 2)
  | 0, p, d, h, g, g' => by
    obtain ⟨h1, h2⟩ := h
    subst h1
    exact ⟨by omega, g', rfl⟩
  | j + 1, p, d, h, g, g' => ⟨h.1.2.2, ls_sp_f20b h.2.2 g g'⟩
set_option maxHeartbeats 200000 in
theorem ls_sp_br : ∀ {j p d}, ls_sp T s j p d q → ls_br T 0 j p (d + 1) 1 ∧ q = p + j
  | 0, p, d, h => by
    obtain ⟨h1, h2⟩ := h
    exact ⟨by rw [h2]; rfl, by omega⟩
  | j + 1, p, d, h => by
    obtain ⟨h1, h2, h3⟩ := h
    obtain ⟨i1, i2⟩ := ls_sp_br h3
    refine ⟨⟨by omega, ?_⟩, by omega⟩
    have : ls_bd (T p) (d + 1) = (if T p = 15 then d + 1 else if T p = 16 then d - 1 else d) + 1 := by
      unfold ls_bd
      by_cases q15 : T p = 15
      · rw [if_pos (Or.inl q15), if_pos q15]
      · rw [if_neg (by omega), if_neg q15]
        by_cases q16 : T p = 16
        · rw [if_pos (Or.inl q16), if_pos q16]
          have : d ≠ 0 := fun q => (h2 q).1 q16
          omega
        · rw [if_neg (by omega), if_neg q16]
    rw [this]; exact i1
set_option maxHeartbeats 200000 in
theorem ls_br_sh {b e : Nat} : ∀ {m p d}, ls_br T b m p (d + b) (e + b) → ls_br T 0 m p d e
  | 0, p, d, h => by
    have h' : d + b = e + b := h
    show d = e
    omega
  | m + 1, p, d, h => by
    obtain ⟨h1, h2⟩ := h
    refine ⟨by omega, ls_br_sh (b := b) ?_⟩
    have : ls_bd (T p) (d + b) = ls_bd (T p) d + b := by
      unfold ls_bd
      split
      · omega
      · split <;> omega
    rw [← this]; exact h2
set_option maxHeartbeats 200000 in
theorem ls_expr (h : ls_tl T V n C N kF) {f : LsF} {G : List LsF} (ht : t ≤ N) (e : C t = (4, p, es, [], f :: G, L, k)) :
    ∃ t1 q k1 j, t ≤ t1 ∧ t1 < N ∧ C t1 = (5, q, es, [], f :: G, L, k1) ∧ ls_sp T 2 j p 0 q ∧ p ≤ q ∧ ls_end T q es (f :: G) L k1 = .ok (C (t1 + 1)) ∧ ∀ u, t ≤ u → u ≤ t1 → (C u).2.2.2.2.1 = f :: G := by
  obtain ⟨t', q, k', j, a1, a2, a3, a4, a5, a6, a7⟩ := ls_pex h (s := 2) (P := []) (Or.inl ⟨rfl, rfl⟩) (N - t) t 4 p [] k (Nat.le_refl _) ht (Or.inl rfl) e
  obtain ⟨_, s⟩ := ls_tl5 h (Nat.le_of_lt a2) a3
  unfold ls_r5 at s
  dsimp only at s
  rw [if_neg (by omega)] at s
  exact ⟨t', q, k', j, a1, a2, a3, a6, a5, s, fun u u1 u2 => (a7 u u1 u2).1⟩
set_option maxHeartbeats 200000 in
theorem ls_end_9 {mo sp : Nat} {l : List Nat} {G : List LsF} {c' : LsC} (s : ls_end T q es ((9, mo, sp, l) :: G) L k = .ok c') : T q = 16 ∧ T (q + 1) = 20 ∧ c' = (3, q + 2, es, [], G, L, ls_em k 16 0 0 (nI sp)) := by
  unfold ls_end at s
  dsimp only at s
  split at s
  · cases s
  rw [if_neg (by decide), if_neg (by decide), if_pos rfl] at s
  split at s
  · next t1 =>
    split at s
    · next t2 => injection s with s; exact ⟨t1, t2, s.symm⟩
    · cases s
  · cases s
set_option maxHeartbeats 200000 in
theorem ls_end_o {fk mo sp : Nat} {l : List Nat} {G : List LsF} {c' : LsC} (hk : fk = 6 ∨ fk = 10 ∨ fk = 11) (s : ls_end T q es ((fk, mo, sp, l) :: G) L k = .ok c') : T q = 20 ∧ ∃ k', c' = (3, q + 1, es, [], G, L, k') := by
  unfold ls_end at s
  dsimp only at s
  rw [if_neg (show ¬ fk = 7 by omega), if_neg (show ¬ fk = 8 by omega), if_neg (show ¬ fk = 9 by omega)] at s
  split at s
  · cases s
  split at s
  · next t20 =>
    split at s
    · injection s with s; exact ⟨t20, _, s.symm⟩
    split at s
    · injection s with s; exact ⟨t20, _, s.symm⟩
    · injection s with s; exact ⟨t20, _, s.symm⟩
  · cases s
set_option maxHeartbeats 200000 in
theorem ls_end_h {fk mo sp : Nat} {l : List Nat} {G : List LsF} {c' : LsC} (hk : fk = 7 ∨ fk = 8) (s : ls_end T q es ((fk, mo, sp, l) :: G) L k = .ok c') : T q = 16 ∧ c' = (0, q + 1, es, [], (if fk = 7 then (3, k.1, sp, []) else (5, mo, sp, [])) :: G, L, ls_em k 15 0 0 (nI sp)) := by
  unfold ls_end at s
  dsimp only at s
  split at s
  · cases s
  rcases hk with rfl | rfl
  · rw [if_pos rfl] at s
    split at s
    · next t16 => injection s with s; exact ⟨t16, by rw [if_pos rfl]; exact s.symm⟩
    · cases s
  · rw [if_neg (by decide), if_pos rfl] at s
    split at s
    · next t16 => injection s with s; exact ⟨t16, by rw [if_neg (by decide)]; exact s.symm⟩
    · cases s
set_option maxHeartbeats 200000 in
/-- a statement other than if and while, from its first token to its end -/
theorem ls_simple (h : ls_tl T V n C N kF) {G : List LsF} (ht : t ≤ N) (e : C t = (1, p, es, [], G, L, k)) (n6 : T p ≠ 6) (n8 : T p ≠ 8) :
    ∃ t' q es' k', t < t' ∧ t' ≤ N ∧ C t' = (3, q, es', [], G, L, k') ∧ p < q ∧ ls_one T p q ∧ ∀ u, t ≤ u → u ≤ t' → G.length ≤ ((C u).2.2.2.2.1).length := by
  obtain ⟨lt, s⟩ := ls_tl1 h ht e
  have NOW : G.length ≤ ((C t).2.2.2.2.1).length := by rw [e]; exact Nat.le_refl _
  have ONE : T p ≠ 17 → ∀ q' es' k' i, C (t + 1) = (3, q', es', [], G, L, k') → p < q' → ls_f20 T i p q' → ∃ t' q es' k', t < t' ∧ t' ≤ N ∧ C t' = (3, q, es', [], G, L, k') ∧ p < q ∧ ls_one T p q ∧ ∀ u, t ≤ u → u ≤ t' → G.length ≤ ((C u).2.2.2.2.1).length := by
    intro n17 q' es' k' i e' hq hf
    refine ⟨t + 1, q', es', k', by omega, by omega, e', hq, by unfold ls_one; rw [if_neg n17]; exact ⟨i, hf⟩, fun u u1 u2 => ?_⟩
    rcases (show u = t ∨ u = t + 1 by omega) with rfl | rfl
    · exact NOW
    · rw [e']; exact Nat.le_refl _
  have EXP : T p ≠ 17 → ∀ p' es0 f k0, C (t + 1) = (4, p', es0, [], f :: G, L, k0) → p ≤ p' → (f.1 = 6 ∨ f.1 = 9 ∨ f.1 = 10) → (∀ j q, p' ≤ q → ls_f20 T j p' q → ∃ j', ls_f20 T j' p q) → ∃ t' q es' k', t < t' ∧ t' ≤ N ∧ C t' = (3, q, es', [], G, L, k') ∧ p < q ∧ ls_one T p q ∧ ∀ u, t ≤ u → u ≤ t' → G.length ≤ ((C u).2.2.2.2.1).length := by
    intro n17 p' es0 f k0 e' hp hf hg
    obtain ⟨t1, q, k1, j, a1, a2, a3, a4, a5, a6, a7⟩ := ls_expr h (by omega) e'
    have LEN : ∀ q' k', C (t1 + 1) = (3, q', es0, [], G, L, k') → ∀ u, t ≤ u → u ≤ t1 + 1 → G.length ≤ ((C u).2.2.2.2.1).length := by
      intro q' k' e2 u u1 u2
      by_cases ue : u = t
      · subst ue; exact NOW
      · by_cases ue2 : u = t1 + 1
        · subst ue2; rw [e2]; exact Nat.le_refl _
        · rw [a7 u (by omega) (by omega), List.length_cons]; omega
    obtain ⟨fk, mo, sp, l⟩ := f
    dsimp only at hf
    by_cases f9 : fk = 9
    · subst f9
      obtain ⟨x1, x2, x3⟩ := ls_end_9 a6
      obtain ⟨j', g⟩ := hg _ (q + 2) (by omega) (ls_sp_f20b a4 x1 x2)
      exact ⟨t1 + 1, q + 2, es0, _, by omega, by omega, x3, by omega, by unfold ls_one; rw [if_neg n17]; exact ⟨j', g⟩, LEN _ _ x3⟩
    · obtain ⟨x1, k', x3⟩ := ls_end_o (by omega) a6
      obtain ⟨j', g⟩ := hg _ (q + 1) (by omega) (ls_sp_f20 a4 x1)
      exact ⟨t1 + 1, q + 1, es0, _, by omega, by omega, x3, by omega, by unfold ls_one; rw [if_neg n17]; exact ⟨j', g⟩, LEN _ _ x3⟩
  unfold ls_r1 ls_hdr at s
  dsimp only at s
  split at s
  · next t20 =>
    injection s with s
    exact ONE (by omega) _ _ _ 0 s.symm (by omega) ⟨t20, rfl⟩
  split at s
  · next t17 =>
    injection s with s
    obtain ⟨t', q, es', k', j, b1, b2, b3, b4, b5, b6⟩ := ls_pb h (B := (1, L.length, p, L)) (F := G) rfl (N - (t + 1)) (t + 1) [] (Nat.le_refl _) (by omega) (by rw [← s]; rfl)
    have e1 : (C (t + 1)).2.1 = p + 1 := by rw [← s]
    have e2 : ls_D (C (t + 1)) = 1 + ls_dF G := by rw [← s, ls_D_mk, ls_df1 (Or.inl rfl)]; show ls_dF G + 1 + 0 = _; omega
    rw [e1] at b4 b5
    rw [e2] at b5
    refine ⟨t', q, es', k', by omega, b2, b3, by omega, ?_, fun u u1 u2 => ?_⟩
    · unfold ls_one
      rw [if_pos t17]
      exact ⟨Or.inr t17, j, b4.symm, ls_br_sh (b := ls_dF G) (by rw [Nat.zero_add]; exact b5)⟩
    · by_cases ue : u = t
      · subst ue; exact NOW
      · by_cases ue2 : u = t'
        · subst ue2; rw [b3]; exact Nat.le_refl _
        · exact Nat.le_of_lt (b6 u (by omega) (by omega))
  split at s
  · next t12 =>
    split at s
    · next t15 =>
      injection s with s
      exact EXP (by omega) _ _ _ _ s.symm (by omega) (Or.inr (Or.inl rfl)) (fun j q _ g => ⟨j + 2, by omega, by omega, g⟩)
    · cases s
  split at s
  · split at s
    · cases s
    · split at s
      · next t20 => injection s with s; exact ONE (by omega) _ _ _ 1 s.symm (by omega) ⟨by omega, t20, rfl⟩
      · cases s
  split at s
  · split at s
    · cases s
    · split at s
      · next t20 => injection s with s; exact ONE (by omega) _ _ _ 1 s.symm (by omega) ⟨by omega, t20, rfl⟩
      · cases s
  split at s
  · split at s
    · cases s
    · split at s
      · next t20 => injection s with s; exact ONE (by omega) _ _ _ 1 s.symm (by omega) ⟨by omega, t20, rfl⟩
      · injection s with s
        exact EXP (by omega) _ _ _ _ s.symm (by omega) (Or.inr (Or.inr rfl)) (fun j q _ g => ⟨j + 1, by omega, g⟩)
  · injection s with s
    exact EXP (by omega) _ _ _ _ s.symm (by omega) (Or.inl rfl) (fun j q _ g => ⟨j, g⟩)
set_option maxHeartbeats 200000 in
/-- the head of an if or while -/
theorem ls_headp (h : ls_tl T V n C N kF) {G : List LsF} (ht : t ≤ N) (e : C t = (1, p, es, [], G, L, k)) (h68 : T p = 6 ∨ T p = 8) :
    ∃ t' q es' k' f, t < t' ∧ t' ≤ N ∧ C t' = (0, q, es', [], f :: G, L, k') ∧ p < q ∧ f.1 + 3 = T p ∧ ls_bhd T (p + 1) q ∧ (f.1 = 3 ∨ f.1 = 5) ∧ ∀ u, t ≤ u → u ≤ t' → G.length ≤ ((C u).2.2.2.2.1).length := by
  obtain ⟨lt, s⟩ := ls_tl1 h ht e
  have NOW : G.length ≤ ((C t).2.2.2.2.1).length := by rw [e]; exact Nat.le_refl _
  have EXP : ∀ fk k0, C (t + 1) = (4, p + 2, p + 2, [], (fk, k.1, p, []) :: G, L, k0) → T (p + 1) = 15 → (fk = 7 ∧ T p = 6 ∨ fk = 8 ∧ T p = 8) → ∃ t' q es' k' f, t < t' ∧ t' ≤ N ∧ C t' = (0, q, es', [], f :: G, L, k') ∧ p < q ∧ f.1 + 3 = T p ∧ ls_bhd T (p + 1) q ∧ (f.1 = 3 ∨ f.1 = 5) ∧ ∀ u, t ≤ u → u ≤ t' → G.length ≤ ((C u).2.2.2.2.1).length := by
    intro fk k0 e' t15 hf
    obtain ⟨t1, q, k1, j, a1, a2, a3, a4, a5, a6, a7⟩ := ls_expr h (by omega) e'
    obtain ⟨x1, x2⟩ := ls_end_h (by omega) a6
    obtain ⟨b1, b2⟩ := ls_sp_br a4
    refine ⟨t1 + 1, q + 1, _, _, _, by omega, by omega, x2, by omega, ?_, ⟨Or.inl t15, j + 1, by omega, ls_br_app b1 (e := 1) (f := 0) (q := 1) ?_⟩, ?_, fun u u1 u2 => ?_⟩
    · rcases hf with ⟨rfl, g⟩ | ⟨rfl, g⟩
      · rw [if_pos rfl]; exact g.symm
      · rw [if_neg (by decide)]; exact g.symm
    · refine ⟨by decide, ?_⟩
      show ls_bd (T (p + 1 + 1 + j)) 1 = 0
      rw [show p + 1 + 1 + j = q by omega, ls_bd_c (d := 0) (Or.inl x1)]
    · rcases hf with ⟨rfl, g⟩ | ⟨rfl, g⟩
      · rw [if_pos rfl]; exact Or.inl rfl
      · rw [if_neg (by decide)]; exact Or.inr rfl
    · by_cases ue : u = t
      · subst ue; exact NOW
      · by_cases ue2 : u = t1 + 1
        · subst ue2; rw [x2, List.length_cons]; omega
        · rw [a7 u (by omega) (by omega), List.length_cons]; omega
  unfold ls_r1 ls_hdr at s
  dsimp only at s
  rw [if_neg (by omega), if_neg (by omega)] at s
  split at s
  · next t6 =>
    split at s
    · next t15 => injection s with s; exact EXP 7 _ s.symm t15 (Or.inl ⟨rfl, t6⟩)
    · cases s
  · rw [if_pos (by omega)] at s
    split at s
    · next t15 => injection s with s; exact EXP 8 _ s.symm t15 (Or.inr ⟨rfl, by omega⟩)
    · cases s
set_option maxHeartbeats 200000 in
/-- a statement from its start to its end, past the frames S above F -/
theorem ls_ps (h : ls_tl T V n C N kF) {F : List LsF} (hF : 3 ≤ ls_fk F ∧ ls_fk F ≤ 5) : ∀ (m t p es : Nat) (S : List LsF) (k : LsK), N - t ≤ m → t ≤ N → C t = (0, p, es, [], S ++ F, L, k) → (∀ f ∈ S, 3 ≤ f.1 ∧ f.1 ≤ 5) →
    ∃ t' q es' k' j, t < t' ∧ t' < N ∧ C t' = (3, q, es', [], F, L, k') ∧ p < q ∧ ls_sk T j p (S.map ls_k6) q ∧ ∀ u, t ≤ u → u ≤ t' → F.length ≤ ((C u).2.2.2.2.1).length := by
  intro m
  induction m with
  | zero =>
    intro t p es S k hm ht e hS
    have := ls_tl_lt h ht e (by decide)
    omega
  | succ m ih =>
    intro t p es S k hm ht e hS
    obtain ⟨lt, s⟩ := ls_tl0 h ht e
    have NOW : F.length ≤ ((C t).2.2.2.2.1).length := by rw [e]; show F.length ≤ (S ++ F).length; rw [List.length_append]; omega
    -- one step: a statement is due
    have e1 : C (t + 1) = (1, p, es, [], S ++ F, L, k) := by
      unfold ls_r0 at s
      obtain ⟨f, r, hfr, hk⟩ : ∃ f r, S ++ F = f :: r ∧ (3 ≤ f.1 ∧ f.1 ≤ 5) := by
        cases S with
        | nil => cases F with
          | nil => exact absurd hF.1 (by decide)
          | cons f r => exact ⟨f, r, rfl, hF⟩
        | cons f S => exact ⟨f, S ++ F, rfl, hS f (List.mem_cons_self ..)⟩
      rw [hfr] at s ⊢
      rw [if_neg (fun q => by cases q.2)] at s
      obtain ⟨fk, mo, sp, l⟩ := f
      dsimp only at s hk
      rw [if_neg (by omega)] at s
      injection s with s
      exact s.symm
    by_cases h68 : T p = 6 ∨ T p = 8
    · obtain ⟨t', q, es', k', f, a1, a2, a3, a4, a5, a6, a7, a8⟩ := ls_headp h (by omega) e1 h68
      obtain ⟨t2, q2, es2, k2, j, b1, b2, b3, b4, b5, b6⟩ := ih t' q es' (f :: S) k' (by omega) a2 a3 (fun x hx => by
        rcases List.mem_cons.mp hx with rfl | hx
        · omega
        · exact hS x hx)
      refine ⟨t2, q2, es2, k2, j + 1, by omega, b2, b3, by omega, Or.inl ⟨h68, q, a6, ?_⟩, fun u u1 u2 => ?_⟩
      · have : ls_k6 f = T p := a5
        rw [← this]; exact b5
      · by_cases ue : u = t
        · subst ue; exact NOW
        · by_cases ue2 : u ≤ t'
          · have := a8 u (by omega) ue2
            rw [List.length_append] at this
            omega
          · exact b6 u (by omega) u2
    · obtain ⟨t', q, es', k', a1, a2, a3, a4, a5, a6⟩ := ls_simple h (by omega) e1 (by omega) (by omega)
      -- the frames that end here
      have FIN : ∀ (S1 : List LsF) (t1 : Nat) (k1 : LsK), t' ≤ t1 → t1 ≤ N → C t1 = (3, q, es', [], S1 ++ F, L, k1) → (∀ f ∈ S1, 3 ≤ f.1 ∧ f.1 ≤ 5) → (∀ u, t ≤ u → u ≤ t1 → F.length ≤ ((C u).2.2.2.2.1).length) →
          ∃ t2 q2 es2 k2 j, t < t2 ∧ t2 < N ∧ C t2 = (3, q2, es2, [], F, L, k2) ∧ p < q2 ∧ (match ls_dr (T q = 7) (S1.map ls_k6) with
            | none => q2 = q
            | some S' => ls_sk T j (q + 1) (7 :: S') q2) ∧ ∀ u, t ≤ u → u ≤ t2 → F.length ≤ ((C u).2.2.2.2.1).length := by
        intro S1
        induction S1 with
        | nil =>
          intro t1 k1 c1 c2 c3 c4 c5
          exact ⟨t1, q, es', k1, 0, by omega, ls_tl_lt h c2 c3 (by decide), c3, a4, rfl, c5⟩
        | cons f S1 ihS =>
          intro t1 k1 c1 c2 c3 c4 c5
          obtain ⟨lt1, s1⟩ := ls_tl3 h c2 c3
          obtain ⟨fk, mo, sp, l⟩ := f
          have hf := c4 _ (List.mem_cons_self ..)
          dsimp only at hf
          have c4' : ∀ f ∈ S1, 3 ≤ f.1 ∧ f.1 ≤ 5 := fun f hf => c4 f (List.mem_cons_of_mem _ hf)
          have POP : ∀ k2, C (t1 + 1) = (3, q, es', [], S1 ++ F, L, k2) → ¬ (fk + 3 = 6 ∧ T q = 7) → ∃ t2 q2 es2 k2 j, t < t2 ∧ t2 < N ∧ C t2 = (3, q2, es2, [], F, L, k2) ∧ p < q2 ∧ (match ls_dr (T q = 7) (((fk, mo, sp, l) :: S1).map ls_k6) with
              | none => q2 = q
              | some S' => ls_sk T j (q + 1) (7 :: S') q2) ∧ ∀ u, t ≤ u → u ≤ t2 → F.length ≤ ((C u).2.2.2.2.1).length := by
            intro k2 e2 hne
            have : ls_dr (T q = 7) (((fk, mo, sp, l) :: S1).map ls_k6) = ls_dr (T q = 7) (S1.map ls_k6) := by
              show (if fk + 3 = 6 ∧ T q = 7 then _ else _) = _
              rw [if_neg hne]
            rw [this]
            refine ihS (t1 + 1) k2 (by omega) (by omega) e2 c4' (fun u u1 u2 => ?_)
            by_cases ue : u = t1 + 1
            · subst ue; rw [e2]; show F.length ≤ (S1 ++ F).length; rw [List.length_append]; omega
            · exact c5 u u1 (by omega)
          unfold ls_r3 at s1
          dsimp only [List.cons_append] at s1
          split at s1
          · next f3 =>
            split at s1
            · next t7 =>
              injection s1 with s1
              obtain ⟨t2, q2, es2, k2, j, b1, b2, b3, b4, b5, b6⟩ := ih (t1 + 1) (q + 1) es' ((4, k1.1, sp, []) :: S1) _ (by omega) (by omega) s1.symm (fun x hx => by
                rcases List.mem_cons.mp hx with rfl | hx
                · exact ⟨by show 3 ≤ 4; decide, by show 4 ≤ 5; decide⟩
                · exact c4' x hx)
              refine ⟨t2, q2, es2, k2, j, by omega, b2, b3, by omega, ?_, fun u u1 u2 => ?_⟩
              · have : ls_dr (T q = 7) (((fk, mo, sp, l) :: S1).map ls_k6) = some (S1.map ls_k6) := by
                  show (if fk + 3 = 6 ∧ T q = 7 then _ else _) = _
                  rw [if_pos ⟨by omega, t7⟩]
                rw [this]; exact b5
              · by_cases ue : u ≤ t1
                · exact c5 u u1 ue
                · exact b6 u (by omega) u2
            · next t7 => injection s1 with s1; exact POP _ s1.symm (fun q => t7 q.2)
          split at s1
          · injection s1 with s1; exact POP _ s1.symm (fun q => by omega)
          split at s1
          · injection s1 with s1; exact POP _ s1.symm (fun q => by omega)
          · omega
      obtain ⟨t2, q2, es2, k2, j, b1, b2, b3, b4, b5, b6⟩ := FIN S t' k' (Nat.le_refl _) a2 a3 hS (fun u u1 u2 => by
        by_cases ue : u = t
        · subst ue; exact NOW
        · have := a6 u (by omega) u2
          rw [List.length_append] at this
          omega)
      exact ⟨t2, q2, es2, k2, j + 1, b1, b2, b3, b4, Or.inr ⟨by omega, by omega, q, a5, b5⟩, b6⟩
end
end
section
/-! The final code: what stands at an index in the end -/
section
variable {T : Nat → Nat} {V : Nat → Int32} {n : Nat} {C : Nat → LsC} {N : Nat} {kF : LsK} {t pos es st : Nat} {pe : List LsP} {fr : List LsF} {L : List Nat} {k : LsK} {s j p d q i : Nat}
set_option maxHeartbeats 200000 in
theorem ls_fd_lt {f : LsF} : ∀ {fr : List LsF} {b : Nat}, ls_fd k b fr → f ∈ fr → f.1 ≠ 1 → f.2.1 < b ∧ (f.1 = 3 → k.2.1 f.2.1 = 15) ∧ (f.1 = 4 → k.2.1 f.2.1 = 14) ∧ (f.1 = 2 → k.2.1 f.2.1 = 21)
  | [], _, _, h, _ => absurd h (by simp)
  | g :: r, b, hd, h, h1 => by
    have hd' : (if g.1 = 1 then ls_fd k b r else g.2.1 < b ∧ (g.1 = 3 → k.2.1 g.2.1 = 15) ∧ (g.1 = 4 → k.2.1 g.2.1 = 14) ∧ (g.1 = 2 → k.2.1 g.2.1 = 21) ∧ (g.1 = 5 → g.2.1 + 2 ≤ k.1) ∧ ls_fd k g.2.1 r) := hd
    split at hd'
    · next g1 =>
      rcases List.mem_cons.mp h with rfl | h
      · exact absurd g1 h1
      · exact ls_fd_lt hd' h h1
    · obtain ⟨a1, a2, a3, a4, a5, a6⟩ := hd'
      rcases List.mem_cons.mp h with rfl | h
      · exact ⟨a1, a2, a3, a4⟩
      · have := ls_fd_lt a6 h h1
        exact ⟨by omega, this.2⟩
set_option maxHeartbeats 200000 in
theorem ls_pd_lt {e : LsP} : ∀ {pe : List LsP} {b : Nat}, ls_pd k b pe → e ∈ pe → ls_lg e → e.2.2 < b ∧ k.2.1 e.2.2 = 7
  | [], _, _, h, _ => absurd h (by simp)
  | g :: r, b, hd, h, h1 => by
    have hd' : (if ls_lg g then g.2.2 < b ∧ k.2.1 g.2.2 = 7 ∧ ls_pd k g.2.2 r else ls_pd k b r) := hd
    split at hd'
    · obtain ⟨a1, a2, a3⟩ := hd'
      rcases List.mem_cons.mp h with rfl | h
      · exact ⟨a1, a2⟩
      · have := ls_pd_lt a3 h h1
        exact ⟨by omega, this.2⟩
    · next g1 =>
      rcases List.mem_cons.mp h with rfl | h
      · exact absurd h1 g1
      · exact ls_pd_lt hd' h h1
set_option maxHeartbeats 200000 in
/-- an instruction that is no jump is settled at once -/
theorem ls_set_op (hJ : ls_J (st, pos, es, pe, fr, L, k)) (hi : i < k.1) (h7 : k.2.1 i ≠ 7) (h14 : k.2.1 i ≠ 14) (h15 : k.2.1 i ≠ 15) (h21 : k.2.1 i ≠ 21) : ls_set (st, pos, es, pe, fr, L, k) i := by
  obtain ⟨jp, jf⟩ := hJ
  refine ⟨hi, fun e he hl q => h7 ?_, fun f hf hk q => ?_, fun q => ?_⟩
  · rw [← q]; exact (ls_pd_lt jp he hl).2
  · have := ls_fd_lt jf hf (by omega)
    rcases hk with g | g | g
    · exact h21 (by rw [← q]; exact this.2.2.2 g)
    · exact h15 (by rw [← q]; exact this.2.1 g)
    · exact h14 (by rw [← q]; exact this.2.2.1 g)
  · rcases q with q | q
    · exact absurd q h14
    · exact absurd q h15
set_option maxHeartbeats 200000 in
theorem ls_fat (h : ls_tl T V n C N kF) (ht : t ≤ N) (e : C t = (st, pos, es, pe, fr, L, k)) (hi : i < k.1) : kF.2.1 i = k.2.1 i ∧ kF.2.2.2.1 i = k.2.2.2.1 i ∧ kF.2.2.2.2 i = k.2.2.2.2 i ∧ k.1 < kF.1 := by
  obtain ⟨f1, _⟩ := h.2.2.2.2 t ht
  rw [e] at f1
  obtain ⟨a, b⟩ := ls_fin_ext f1
  obtain ⟨a1, a2, a3⟩ := a.2 i hi
  exact ⟨a3, a1, a2, b⟩
set_option maxHeartbeats 200000 in
theorem ls_farg (h : ls_tl T V n C N kF) (ht : t ≤ N) (e : C t = (st, pos, es, pe, fr, L, k)) (hs : ls_set (st, pos, es, pe, fr, L, k) i) : kF.2.2.1 i = k.2.2.1 i := by
  obtain ⟨f1, f2, f3, _⟩ := h.2.2.2.2 t ht
  rw [e] at f1 f2 f3
  have st6 : st ≤ 6 := by
    by_cases q : t < N
    · have := (h.2.1 t q).1
      rw [e] at this
      have this' : st < 6 := this
      omega
    · have : t = N := by omega
      subst this
      have := h.2.2.1.1
      rw [e] at this
      have this' : st = 6 := this
      omega
  exact ls_set_fin h.1 f2 st6 f3 f1 hs
set_option maxHeartbeats 200000 in
/-- what a step has emitted at i, if it is no jump -/
theorem ls_femit (h : ls_tl T V n C N kF) (ht : t ≤ N) (e : C t = (st, pos, es, pe, fr, L, k)) (hi : i < k.1) (h7 : k.2.1 i ≠ 7) (h14 : k.2.1 i ≠ 14) (h15 : k.2.1 i ≠ 15) (h21 : k.2.1 i ≠ 21) : kF.2.1 i = k.2.1 i ∧ kF.2.2.1 i = k.2.2.1 i ∧ kF.2.2.2.1 i = k.2.2.2.1 i ∧ kF.2.2.2.2 i = k.2.2.2.2 i := by
  obtain ⟨_, _, f3, _⟩ := h.2.2.2.2 t ht
  rw [e] at f3
  obtain ⟨a1, a2, a3, _⟩ := ls_fat h ht e hi
  exact ⟨a1, ls_farg h ht e (ls_set_op f3 hi h7 h14 h15 h21), a2, a3⟩
set_option maxHeartbeats 200000 in
/-- the instruction that a step from k to ls_em k emits -/
theorem ls_fem (h : ls_tl T V n C N kF) {o a dd pp : Int32} (ht : t ≤ N) (e : C t = (st, pos, es, pe, fr, L, ls_em k o a dd pp)) (h7 : o ≠ 7) (h14 : o ≠ 14) (h15 : o ≠ 15) (h21 : o ≠ 21) : kF.2.1 k.1 = o ∧ kF.2.2.1 k.1 = a ∧ kF.2.2.2.1 k.1 = dd ∧ kF.2.2.2.2 k.1 = pp := by
  have eo : (ls_em k o a dd pp).2.1 k.1 = o := pk_us
  obtain ⟨a1, a2, a3, a4⟩ := ls_femit h ht e (i := k.1) (Nat.lt_succ_self _) (by rw [eo]; exact h7) (by rw [eo]; exact h14) (by rw [eo]; exact h15) (by rw [eo]; exact h21)
  exact ⟨a1.trans pk_us, a2.trans pk_us, a3.trans pk_us, a4.trans pk_us⟩
set_option maxHeartbeats 200000 in
/-- two of them -/
theorem ls_fem2 (h : ls_tl T V n C N kF) {o a dd pp o2 a2 dd2 pp2 : Int32} (ht : t ≤ N) (e : C t = (st, pos, es, pe, fr, L, ls_em (ls_em k o a dd pp) o2 a2 dd2 pp2)) (h7 : o ≠ 7) (h14 : o ≠ 14) (h15 : o ≠ 15) (h21 : o ≠ 21) : kF.2.1 k.1 = o ∧ kF.2.2.1 k.1 = a ∧ kF.2.2.2.1 k.1 = dd ∧ kF.2.2.2.2 k.1 = pp := by
  have ne : k.1 ≠ (ls_em k o a dd pp).1 := by show k.1 ≠ k.1 + 1; omega
  have eo : (ls_em (ls_em k o a dd pp) o2 a2 dd2 pp2).2.1 k.1 = o := (pk_un ne).trans pk_us
  obtain ⟨b1, b2, b3, b4⟩ := ls_femit h ht e (i := k.1) (by show k.1 < k.1 + 1 + 1; omega) (by rw [eo]; exact h7) (by rw [eo]; exact h14) (by rw [eo]; exact h15) (by rw [eo]; exact h21)
  exact ⟨b1.trans eo, b2.trans ((pk_un ne).trans pk_us), b3.trans ((pk_un ne).trans pk_us), b4.trans ((pk_un ne).trans pk_us)⟩
set_option maxHeartbeats 200000 in
theorem ls_nsub {a b : Nat} (h : b < a) (ha : a < 1000) : nI a - nI b ≠ 0 := by
  rw [pk_sub (by omega)]
  intro q
  have := (nI_eq (a := a - b) (b := 0) (by omega) (by decide)).mp q
  omega
set_option maxHeartbeats 200000 in
/-- the size of the code is bounded -/
theorem ls_ks (h : ls_tl T V n C N kF) (ht : t ≤ N) (e : C t = (st, pos, es, pe, fr, L, k)) : 480 ≤ k.1 ∧ k.1 ≤ 761 ∧ pos ≤ n := by
  obtain ⟨_, f2, _⟩ := h.2.2.2.2 t ht
  rw [e] at f2
  obtain ⟨i1, i2, i3, i4, i5, i6, i7⟩ := f2
  have := h.1.1
  refine ⟨i5, ?_, i1⟩
  split at i7
  · have i8 := i7.1
    split at i8 <;> omega
  · have := i7.1; omega
end
end
section
/-! Where the jumps lead in the end -/
section
variable {T : Nat → Nat} {V : Nat → Int32} {n : Nat} {C : Nat → LsC} {N : Nat} {kF : LsK} {t pos es : Nat} {pe : List LsP} {fr r : List LsF} {L : List Nat} {k : LsK} {j p d q i u mo sp : Nat}
set_option maxHeartbeats 200000 in
/-- a decided && or || : where the code goes on, and where the reading stood there -/
theorem ls_fdec (h : ls_tl T V n C N kF) (ht : t ≤ N) (tk : T pos = 41 ∨ T pos = 42) (e : C t = (4, pos + 1, es, (ls_lv (T pos), pos, i) :: pe, fr, L, k)) :
    ∃ t' q k' j, t < t' ∧ t' ≤ N ∧ C t' = (5, q, es, pe, fr, L, k') ∧ pos < q ∧ ls_lv (T q) ≤ ls_lv (T pos) ∧ ls_sp T (ls_lv (T pos)) j (pos + 1) 0 q ∧ (T q = 16 ∨ T q = 19 ∨ T q = 20 ∨ 2 < ls_lv (T q)) ∧ kF.2.2.1 i = nI k'.1 - nI i ∧ (∀ u, t ≤ u → u ≤ t' → (C u).2.2.2.2.1 = fr) ∧ i < k'.1 := by
  have hl : ls_lv (T pos) = 3 ∨ ls_lv (T pos) = 4 := by
    rcases tk with q | q
    · right; rw [q]; rfl
    · left; rw [q]; rfl
  obtain ⟨t', q, k', j, a1, a2, a3, a4, a5, a6, a7⟩ := ls_pex h (s := ls_lv (T pos)) (P := (ls_lv (T pos), pos, i) :: pe) (Or.inr ⟨_, _, rfl, rfl, hl⟩) (N - t) t 4 (pos + 1) [] k (Nat.le_refl _) ht (Or.inl rfl) e
  obtain ⟨_, s5⟩ := ls_tl5 h (Nat.le_of_lt a2) a3
  unfold ls_r5 at s5
  dsimp only at s5
  rw [if_pos a4] at s5
  injection s5 with s5
  have red : ls_red T q (ls_lv (T pos)) pos i k' = ls_aim (ls_em k' 8 0 0 (nI pos)) i := by
    unfold ls_red
    rw [if_neg (by omega), if_neg (by omega), if_pos tk]
  rw [red] at s5
  have hJ := (h.2.2.2.2 t' (Nat.le_of_lt a2)).2.2.1
  rw [a3] at hJ
  obtain ⟨jp, jf⟩ := hJ
  have jp' : (if ls_lg (ls_lv (T pos), pos, i) then i < k'.1 ∧ k'.2.1 i = 7 ∧ ls_pd k' i pe else ls_pd k' k'.1 pe) := jp
  rw [if_pos (show ls_lg (ls_lv (T pos), pos, i) from hl)] at jp'
  obtain ⟨p1, p2, p3⟩ := jp'
  have o7 : (ls_aim (ls_em k' 8 0 0 (nI pos)) i).2.1 i = 7 := by
    show upd k'.2.1 k'.1 8 i = 7
    rw [pk_un (by omega)]; exact p2
  have SET : ls_set (5, q, es, pe, fr, L, ls_aim (ls_em k' 8 0 0 (nI pos)) i) i := by
    refine ⟨by show i < k'.1 + 1; omega, fun e he hl' q' => ?_, fun f hf hk q' => ?_, fun q' => ?_⟩
    · have := (ls_pd_lt p3 he hl').1; omega
    · have := (ls_fd_lt jf hf (by omega)).2
      rw [q', p2] at this
      rcases hk with g | g | g
      · exact absurd (this.2.2 g) (by decide)
      · exact absurd (this.1 g) (by decide)
      · exact absurd (this.2.1 g) (by decide)
    · rw [o7] at q'
      rcases q' with q' | q' <;> exact absurd q' (by decide)
  have A := ls_farg h (by omega) s5.symm SET
  refine ⟨t' + 1, q, _, j, by omega, by omega, s5.symm, by omega, a4, a6, ?_, A.trans pk_us, fun u u1 u2 => ?_, by show i < k'.1 + 1; omega⟩
  · by_cases q2 : 2 < ls_lv (T q)
    · omega
    · have := ls_qe h _ t' k' (Nat.le_of_lt a2) a3 (by omega)
      omega
  · by_cases ue : u = t' + 1
    · subst ue; rw [← s5]
    · exact (a7 u u1 (by omega)).1
set_option maxHeartbeats 200000 in
/-- a then-part that is left out -/
theorem ls_fif (h : ls_tl T V n C N kF) (ht : t ≤ N) (e : C t = (0, p, es, [], (3, u, sp, []) :: r, L, k)) :
    ∃ t' q es' k' k2 j, t < t' ∧ t' < N ∧ C t' = (3, q, es', [], (3, u, sp, []) :: r, L, k') ∧ p < q ∧ ls_sk T j p [] q ∧ kF.2.2.1 u = nI k2.1 - nI u ∧ u < k2.1 ∧ (T q = 7 → C (t' + 1) = (0, q + 1, es', [], (4, k'.1, sp, []) :: r, L, k2)) ∧ (T q ≠ 7 → C (t' + 1) = (3, q, es', [], r, L, k2)) ∧ ∀ u, t ≤ u → u ≤ t' → r.length + 1 ≤ ((C u).2.2.2.2.1).length := by
  obtain ⟨t', q, es', k', j, a1, a2, a3, a4, a5, a6⟩ := ls_ps h (F := (3, u, sp, []) :: r) (L := L) ⟨by show 3 ≤ 3; decide, by show 3 ≤ 5; decide⟩ (N - t) t p es [] k (Nat.le_refl _) ht e (by simp)
  obtain ⟨_, s3⟩ := ls_tl3 h (Nat.le_of_lt a2) a3
  have hJ := (h.2.2.2.2 t' (Nat.le_of_lt a2)).2.2.1
  rw [a3] at hJ
  obtain ⟨_, jf⟩ := hJ
  obtain ⟨g1, _, _, _, _, g6⟩ := ls_fd_hd (f := (3, u, sp, [])) (by show (3 : Nat) ≠ 1; decide) jf
  dsimp only at g1 g6
  have kb := ls_ks h (Nat.le_of_lt a2) a3
  have kb2 := h.1.1
  unfold ls_r3 at s3
  dsimp only at s3
  rw [if_pos rfl] at s3
  have LE : ∀ f ∈ r, f.1 = 2 ∨ f.1 = 3 ∨ f.1 = 4 → f.2.1 ≠ u := fun f hf hk q' => by
    have := (ls_fd_lt g6 hf (by omega)).1; omega
  by_cases t7 : T q = 7
  · rw [if_pos t7] at s3
    injection s3 with s3
    have SET : ls_set (0, q + 1, es', [], (4, k'.1, sp, []) :: r, L, ls_aim (ls_em k' 14 0 0 (nI q)) u) u := by
      refine ⟨by show u < k'.1 + 1; omega, fun e he => absurd he (by simp), fun f hf hk q' => ?_, fun _ => ?_⟩
      · rcases List.mem_cons.mp hf with rfl | hf
        · have : k'.1 = u := q'; omega
        · exact LE f hf hk q'
      · show upd _ u (nI (k'.1 + 1) - nI u) u ≠ 0
        rw [pk_us]; exact ls_nsub (by omega) (by omega)
    have A := ls_farg h (by omega) s3.symm SET
    exact ⟨t', q, es', k', ls_aim (ls_em k' 14 0 0 (nI q)) u, j, a1, a2, a3, a4, a5, A.trans pk_us, by show u < k'.1 + 1; omega, fun _ => s3.symm, fun g => absurd t7 g, a6⟩
  · rw [if_neg t7] at s3
    injection s3 with s3
    have SET : ls_set (3, q, es', [], r, L, ls_aim k' u) u := by
      refine ⟨g1, fun e he => absurd he (by simp), LE, fun _ => ?_⟩
      show upd _ u (nI k'.1 - nI u) u ≠ 0
      rw [pk_us]; exact ls_nsub (by omega) (by omega)
    have A := ls_farg h (by omega) s3.symm SET
    exact ⟨t', q, es', k', ls_aim k' u, j, a1, a2, a3, a4, a5, A.trans pk_us, g1, fun g => absurd g t7, fun _ => s3.symm, a6⟩
set_option maxHeartbeats 200000 in
/-- an else-part that is left out -/
theorem ls_felse (h : ls_tl T V n C N kF) (ht : t ≤ N) (e : C t = (0, p, es, [], (4, u, sp, []) :: r, L, k)) :
    ∃ t' q es' k' j, t < t' ∧ t' ≤ N ∧ C t' = (3, q, es', [], r, L, k') ∧ p < q ∧ ls_sk T j p [] q ∧ kF.2.2.1 u = nI k'.1 - nI u ∧ u < k'.1 ∧ ∀ u, t ≤ u → u ≤ t' → r.length ≤ ((C u).2.2.2.2.1).length := by
  obtain ⟨t', q, es', k', j, a1, a2, a3, a4, a5, a6⟩ := ls_ps h (F := (4, u, sp, []) :: r) (L := L) ⟨by show 3 ≤ 4; decide, by show 4 ≤ 5; decide⟩ (N - t) t p es [] k (Nat.le_refl _) ht e (by simp)
  obtain ⟨_, s3⟩ := ls_tl3 h (Nat.le_of_lt a2) a3
  have hJ := (h.2.2.2.2 t' (Nat.le_of_lt a2)).2.2.1
  rw [a3] at hJ
  obtain ⟨_, jf⟩ := hJ
  obtain ⟨g1, _, _, _, _, g6⟩ := ls_fd_hd (f := (4, u, sp, [])) (by show (4 : Nat) ≠ 1; decide) jf
  dsimp only at g1 g6
  have kb := ls_ks h (Nat.le_of_lt a2) a3
  unfold ls_r3 at s3
  dsimp only at s3
  rw [if_neg (by decide), if_pos rfl] at s3
  injection s3 with s3
  have SET : ls_set (3, q, es', [], r, L, ls_aim k' u) u := by
    refine ⟨g1, fun e he => absurd he (by simp), fun f hf hk q' => ?_, fun _ => ?_⟩
    · have := (ls_fd_lt g6 hf (by omega)).1; omega
    · show upd _ u (nI k'.1 - nI u) u ≠ 0
      rw [pk_us]; exact ls_nsub (by omega) (by omega)
  have A := ls_farg h (by omega) s3.symm SET
  refine ⟨t' + 1, q, es', _, j, by omega, by omega, s3.symm, a4, a5, A.trans pk_us, g1, fun u u1 u2 => ?_⟩
  by_cases ue : u = t' + 1
  · subst ue; rw [← s3]; exact Nat.le_refl _
  · have := a6 u u1 (by omega)
    rw [List.length_cons] at this
    omega
set_option maxHeartbeats 200000 in
/-- a loop's body from its start to its end -/
theorem ls_floop (h : ls_tl T V n C N kF) (ht : t ≤ N) (e : C t = (0, p, es, [], (5, mo, sp, []) :: r, L, k)) :
    ∃ t' q es' k' k2 j, t < t' ∧ t' < N ∧ C t' = (3, q, es', [], (5, mo, sp, []) :: r, L, k') ∧ p < q ∧ ls_sk T j p [] q ∧ C (t' + 1) = (3, q, es', [], r, L, k2) ∧ k2.1 = k'.1 + 1 ∧ mo + 2 ≤ k'.1 ∧ kF.2.1 k'.1 = 14 ∧ kF.2.2.1 k'.1 = nI (mo + 1) - nI k'.1 ∧ (∀ i, mo ≤ i → i < k'.1 → k'.2.1 i = 14 ∨ k'.2.1 i = 15 → k'.2.2.1 i = 0 → kF.2.2.1 i = nI k2.1 - nI i) ∧ ∀ u, t ≤ u → u ≤ t' → r.length + 1 ≤ ((C u).2.2.2.2.1).length := by
  obtain ⟨t', q, es', k', j, a1, a2, a3, a4, a5, a6⟩ := ls_ps h (F := (5, mo, sp, []) :: r) (L := L) ⟨by show 3 ≤ 5; decide, by show 5 ≤ 5; decide⟩ (N - t) t p es [] k (Nat.le_refl _) ht e (by simp)
  obtain ⟨_, s3⟩ := ls_tl3 h (Nat.le_of_lt a2) a3
  have hJ := (h.2.2.2.2 t' (Nat.le_of_lt a2)).2.2.1
  rw [a3] at hJ
  obtain ⟨_, jf⟩ := hJ
  obtain ⟨g1, _, _, _, g5, g6⟩ := ls_fd_hd (f := (5, mo, sp, [])) (by show (5 : Nat) ≠ 1; decide) jf
  dsimp only at g1 g6 g5
  have g5' := g5 rfl
  have kb := ls_ks h (Nat.le_of_lt a2) a3
  unfold ls_r3 at s3
  dsimp only at s3
  rw [if_neg (by decide), if_neg (by decide), if_pos rfl] at s3
  injection s3 with s3
  have ne0 : nI (mo + 1) - nI k'.1 ≠ 0 := fun q' => by
    have := pk_sneg (a := mo + 1) (b := k'.1) (by omega) (by omega)
    rw [q'] at this
    exact absurd this (by decide)
  have SET : ∀ i, mo ≤ i → i < k'.1 + 1 → ((ls_em k' 14 (nI (mo + 1) - nI k'.1) 0 (nI q)).2.1 i = 14 ∨ (ls_em k' 14 (nI (mo + 1) - nI k'.1) 0 (nI q)).2.1 i = 15 → ls_set (3, q, es', [], r, L, ls_exits (ls_em k' 14 (nI (mo + 1) - nI k'.1) 0 (nI q)) mo) i) := by
    intro i h1 h2 h3
    refine ⟨by show i < k'.1 + 1; omega, fun e he => absurd he (by simp), fun f hf hk q' => ?_, fun _ => ?_⟩
    · have := (ls_fd_lt g6 hf (by omega)).1; omega
    · show (if mo ≤ i ∧ i < k'.1 + 1 ∧ ((ls_em k' 14 (nI (mo + 1) - nI k'.1) 0 (nI q)).2.1 i = 14 ∨ (ls_em k' 14 (nI (mo + 1) - nI k'.1) 0 (nI q)).2.1 i = 15) ∧ (ls_em k' 14 (nI (mo + 1) - nI k'.1) 0 (nI q)).2.2.1 i = 0 then nI (k'.1 + 1) - nI i else (ls_em k' 14 (nI (mo + 1) - nI k'.1) 0 (nI q)).2.2.1 i) ≠ 0
      split
      · exact ls_nsub (by omega) (by omega)
      · next g => exact fun q' => g ⟨h1, h2, h3, q'⟩
  have o14 : (ls_em k' 14 (nI (mo + 1) - nI k'.1) 0 (nI q)).2.1 k'.1 = 14 := pk_us
  refine ⟨t', q, es', k', _, j, a1, a2, a3, a4, a5, s3.symm, rfl, g5', ?_, ?_, fun i i1 i2 i3 i4 => ?_, a6⟩
  · obtain ⟨f1, _⟩ := ls_fat h (by omega) s3.symm (i := k'.1) (by show k'.1 < k'.1 + 1; omega)
    exact f1.trans o14
  · have A := ls_farg h (by omega) s3.symm (SET k'.1 (by omega) (by omega) (Or.inl o14))
    refine A.trans ?_
    have this : (ls_em k' 14 (nI (mo + 1) - nI k'.1) 0 (nI q)).2.2.1 k'.1 = nI (mo + 1) - nI k'.1 := pk_us
    show (if mo ≤ k'.1 ∧ k'.1 < k'.1 + 1 ∧ ((ls_em k' 14 (nI (mo + 1) - nI k'.1) 0 (nI q)).2.1 k'.1 = 14 ∨ (ls_em k' 14 (nI (mo + 1) - nI k'.1) 0 (nI q)).2.1 k'.1 = 15) ∧ (ls_em k' 14 (nI (mo + 1) - nI k'.1) 0 (nI q)).2.2.1 k'.1 = 0 then nI (k'.1 + 1) - nI k'.1 else (ls_em k' 14 (nI (mo + 1) - nI k'.1) 0 (nI q)).2.2.1 k'.1) = _
    split
    · next g => exact absurd (by rw [← this]; exact g.2.2.2) ne0
    · exact this
  · have eo : (ls_em k' 14 (nI (mo + 1) - nI k'.1) 0 (nI q)).2.1 i = k'.2.1 i := pk_un (by omega)
    have ea : (ls_em k' 14 (nI (mo + 1) - nI k'.1) 0 (nI q)).2.2.1 i = k'.2.2.1 i := pk_un (by omega)
    have A := ls_farg h (by omega) s3.symm (SET i i1 (by omega) (by rw [eo]; exact i3))
    refine A.trans ?_
    show (if mo ≤ i ∧ i < k'.1 + 1 ∧ ((ls_em k' 14 (nI (mo + 1) - nI k'.1) 0 (nI q)).2.1 i = 14 ∨ (ls_em k' 14 (nI (mo + 1) - nI k'.1) 0 (nI q)).2.1 i = 15) ∧ (ls_em k' 14 (nI (mo + 1) - nI k'.1) 0 (nI q)).2.2.1 i = 0 then nI (k'.1 + 1) - nI i else _) = _
    rw [if_pos ⟨i1, by omega, by rw [eo]; exact i3, by rw [ea]; exact i4⟩]
    rfl
end
end
section
/-! A jump that waits for the end of its loop -/
def ls_gd (i : Nat) (f : LsF) : Prop := (f.1 = 5 ∨ f.1 = 8 → i < f.2.1) ∧ (f.1 = 2 ∨ f.1 = 3 ∨ f.1 = 4 → f.2.1 ≠ i)
def ls_trk (i : Nat) (F : List LsF) (c : LsC) : Prop := match c with
  | (_, _, _, _, fr, _, k) => (i < k.1 ∧ (k.2.1 i = 14 ∨ k.2.1 i = 15) ∧ k.2.2.1 i = 0) ∧ ∃ X, fr = X ++ F ∧ ∀ f ∈ X, ls_gd i f
section
variable {T : Nat → Nat} {V : Nat → Int32} {n : Nat} {pos es st : Nat} {pe : List LsP} {fr F X : List LsF} {L : List Nat} {k : LsK} {c c' : LsC} {i : Nat}
set_option maxHeartbeats 200000 in
theorem ls_trk_mk {st' pos' es' : Nat} {pe' : List LsP} {fr' : List LsF} {L' : List Nat} {k' : LsK} (X' : List LsF) (h : i < k.1 ∧ (k.2.1 i = 14 ∨ k.2.1 i = 15) ∧ k.2.2.1 i = 0) (hm : ls_mv k k' i) (e : fr' = X' ++ F) (hX : ∀ f ∈ X', ls_gd i f) : ls_trk i F (st', pos', es', pe', fr', L', k') :=
  ⟨⟨by have := hm.1; omega, by rw [hm.2.1]; exact h.2.1, by rw [hm.2.2]; exact h.2.2⟩, X', e, hX⟩
set_option maxHeartbeats 200000 in
theorem ls_gd_n {a b d : Nat} {l : List Nat} (h : a = 1 ∨ a = 6 ∨ a = 7 ∨ 9 ≤ a) : ls_gd i (a, b, d, l) := ⟨fun q => by dsimp only at q; omega, fun q => by dsimp only at q; omega⟩
set_option maxHeartbeats 200000 in
theorem ls_gd_w {a b d : Nat} {l : List Nat} (h : i < b) : ls_gd i (a, b, d, l) := ⟨fun q => h, fun q => by show b ≠ i; omega⟩
set_option maxHeartbeats 200000 in
theorem ls_gd_c {f : LsF} (h : ls_gd i f) (g : ∀ f ∈ X, ls_gd i f) : ∀ x ∈ f :: X, ls_gd i x := fun x hx => by
  rcases List.mem_cons.mp hx with rfl | hx
  · exact h
  · exact g x hx
set_option maxHeartbeats 200000 in
theorem ls_mv_ex2 {j : Nat} (h : i < j) : ls_mv k (ls_exits k j) i := by
  refine ⟨Nat.le_refl _, rfl, ?_⟩
  show (if j ≤ i ∧ _ then _ else _) = _
  rw [if_neg]
  intro hh
  have := hh.1
  omega
set_option maxHeartbeats 2000000 in
theorem ls_trk_rs (hI : ls_Inv T n c) (hJ : ls_J c) (h6 : c.1 < 6) {f5 : LsF} {r : List LsF} (hF : F = f5 :: r) (h5 : f5.1 = 5) (hs : ls_trk i F c) (hr : ls_rs T V c = .ok c') (hl : F.length ≤ c'.2.2.2.2.1.length) : ls_trk i F c' := by
  obtain ⟨st, pos, es, pe, fr, L, k⟩ := c
  obtain ⟨hk, X, rfl, hX⟩ := hs
  obtain ⟨jp, jf⟩ := hJ
  obtain ⟨i1, i2, i3, i4, i5, i6, i7⟩ := hI
  dsimp only at h6
  have ne : X ++ F ≠ [] := by rw [hF]; cases X <;> simp
  have em : ∀ o a d q, ls_mv k (ls_em k o a d q) i := fun o a d q => ls_mv_em hk.1
  have em2 : ∀ o a d q o2 a2 d2 q2, ls_mv k (ls_em (ls_em k o a d q) o2 a2 d2 q2) i := fun o a d q o2 a2 d2 q2 => ls_mv_em2 hk.1
  unfold ls_rs at hr
  dsimp only at hr
  split at hr
  · -- start
    unfold ls_r0 at hr
    rw [if_neg (fun q => ne q.2)] at hr
    split at hr
    · next q => exact absurd q ne
    · next fk mo sp l r' q =>
      split at hr
      · split at hr
        · injection hr with hr; subst hr
          cases X with
          | nil => rw [hF] at q; injection q with q1 q2; rw [q1] at h5; dsimp only at h5; omega
          | cons f X =>
            injection q with q1 q2
            exact ls_trk_mk X hk ls_mv_r q2.symm (fun x hx => hX x (List.mem_cons_of_mem _ hx))
        split at hr
        · injection hr with hr; subst hr; exact ls_trk_mk X hk ls_mv_r q.symm hX
        · injection hr with hr; subst hr; exact ls_trk_mk X hk ls_mv_r q.symm hX
      · injection hr with hr; subst hr; exact ls_trk_mk X hk ls_mv_r q.symm hX
  split at hr
  · -- a statement
    unfold ls_r1 ls_hdr at hr
    dsimp only at hr
    split at hr
    · injection hr with hr; subst hr; exact ls_trk_mk X hk (em ..) rfl hX
    split at hr
    · injection hr with hr; subst hr; exact ls_trk_mk ((1, L.length, pos, L) :: X) hk (em ..) rfl (ls_gd_c (ls_gd_n (by omega)) hX)
    split at hr
    · split at hr
      · injection hr with hr; subst hr; exact ls_trk_mk ((7, k.1, pos, []) :: X) hk (em ..) rfl (ls_gd_c (ls_gd_n (by omega)) hX)
      · cases hr
    split at hr
    · split at hr
      · injection hr with hr; subst hr; exact ls_trk_mk ((8, k.1, pos, []) :: X) hk (em ..) rfl (ls_gd_c (ls_gd_w hk.1) hX)
      · cases hr
    split at hr
    · split at hr
      · injection hr with hr; subst hr; exact ls_trk_mk ((9, k.1, pos, []) :: X) hk (em ..) rfl (ls_gd_c (ls_gd_n (by omega)) hX)
      · cases hr
    split at hr
    · split at hr
      · cases hr
      · split at hr
        · injection hr with hr; subst hr; exact ls_trk_mk X hk (em2 ..) rfl hX
        · cases hr
    split at hr
    · split at hr
      · cases hr
      · split at hr
        · injection hr with hr; subst hr; exact ls_trk_mk X hk (em2 ..) rfl hX
        · cases hr
    split at hr
    · split at hr
      · cases hr
      · split at hr
        · injection hr with hr; subst hr; exact ls_trk_mk X hk (em2 ..) rfl hX
        · injection hr with hr; subst hr; exact ls_trk_mk ((10, k.1, pos, []) :: X) hk (em ..) rfl (ls_gd_c (ls_gd_n (by omega)) hX)
    · injection hr with hr; subst hr; exact ls_trk_mk ((6, k.1, pos, []) :: X) hk (em ..) rfl (ls_gd_c (ls_gd_n (by omega)) hX)
  split at hr
  · -- a declaration
    unfold ls_r2 at hr
    split at hr
    · rw [if_neg (fun q => ne q.1)] at hr
      unfold ls_var at hr
      split at hr
      · next q => exact absurd q ne
      · next fk mo sp l r' q =>
        dsimp only at hr
        split at hr
        · split at hr
          · injection hr with hr; subst hr
            exact ls_trk_mk ((11, k.1, pos, []) :: X) hk (em ..) (by rw [← q]; rfl) (ls_gd_c (ls_gd_n (by omega)) hX)
          split at hr
          · injection hr with hr; subst hr; exact ls_trk_mk X hk (em ..) q.symm hX
          · cases hr
        · cases hr
    · cases hr
  split at hr
  · -- a finish
    unfold ls_r3 at hr
    split at hr
    · next q => exact absurd q ne
    · next fk mo sp l r' q =>
      cases X with
      | nil =>
        rw [List.nil_append, hF] at q
        injection q with q1 q2
        rw [q1] at h5
        dsimp only at h5
        subst h5
        rw [if_neg (by decide), if_neg (by decide), if_pos rfl] at hr
        injection hr with hr; subst hr
        rw [hF, q2] at hl
        dsimp only [List.length_cons] at hl
        omega
      | cons f X =>
        injection q with q1 q2
        subst q1
        have gf := hX _ (List.mem_cons_self ..)
        have gX : ∀ f ∈ X, ls_gd i f := fun x hx => hX x (List.mem_cons_of_mem _ hx)
        split at hr
        · next f3 =>
          have nm : i ≠ mo := fun q => gf.2 (by dsimp only; omega) q.symm
          split at hr
          · injection hr with hr; subst hr
            exact ls_trk_mk ((4, k.1, sp, []) :: X) hk (ls_mv_t (em ..) (ls_mv_aim nm)) (by rw [← q2]; rfl) (ls_gd_c (ls_gd_w hk.1) gX)
          · injection hr with hr; subst hr
            exact ls_trk_mk X hk (ls_mv_aim nm) q2.symm gX
        split at hr
        · next f4 =>
          have nm : i ≠ mo := fun q => gf.2 (by dsimp only; omega) q.symm
          injection hr with hr; subst hr
          exact ls_trk_mk X hk (ls_mv_aim nm) q2.symm gX
        split at hr
        · next f5' =>
          have lt : i < mo := gf.1 (Or.inl f5')
          injection hr with hr; subst hr
          exact ls_trk_mk X hk (ls_mv_t (em ..) (ls_mv_ex2 lt)) q2.symm gX
        split at hr
        · next f2 =>
          have nm : i ≠ mo := fun q => gf.2 (by dsimp only; omega) q.symm
          injection hr with hr; subst hr
          exact ls_trk_mk X hk (ls_mv_t (em ..) (ls_mv_aim nm)) q2.symm gX
        · injection hr with hr; subst hr
          exact ls_trk_mk ((fk, mo, sp, l) :: X) hk ls_mv_r (by rw [← q2]; rfl) hX
  split at hr
  · -- an operand
    unfold ls_r4 ls_flt at hr
    dsimp only at hr
    split at hr
    · repeat' split at hr
      all_goals (injection hr with hr; subst hr; first | exact ls_trk_mk X hk (em ..) rfl hX | exact ls_trk_mk X hk ls_mv_r rfl hX)
    split at hr
    · injection hr with hr; subst hr; exact ls_trk_mk X hk (em ..) rfl hX
    split at hr
    · injection hr with hr; subst hr; exact ls_trk_mk X hk (em ..) rfl hX
    split at hr
    · injection hr with hr; subst hr; exact ls_trk_mk X hk (em ..) rfl hX
    split at hr
    · injection hr with hr; subst hr; exact ls_trk_mk X hk (em ..) rfl hX
    split at hr
    · repeat' split at hr
      all_goals first | cases hr; done | (injection hr with hr; subst hr; exact ls_trk_mk X hk ls_mv_r rfl hX)
    split at hr
    · injection hr with hr; subst hr; exact ls_trk_mk X hk ls_mv_r rfl hX
    · cases hr
  · -- an operator
    have q5 : st = 5 := by omega
    subst q5
    rw [if_pos (Or.inr rfl)] at i7
    obtain ⟨_, _, _, _, f, r', e, x1, _⟩ := i7
    have BIN : ls_mv k (if T pos = 41 ∨ T pos = 42 then ls_em k 7 0 (nI (T pos - 41)) (nI pos) else k) i := by
      split
      · exact em ..
      · exact ls_mv_r
    unfold ls_r5 ls_flt at hr
    dsimp only at hr
    split at hr
    · split at hr
      · injection hr with hr; subst hr; exact ls_trk_mk X hk BIN rfl hX
      · cases X with
        | nil =>
          rw [List.nil_append, hF] at e
          injection e with e1 e2
          rw [e1] at h5
          have := x1.1
          omega
        | cons g X =>
          injection e with e1 e2
          subst e1
          obtain ⟨fk, mo, sp, l⟩ := g
          have gf := hX _ (List.mem_cons_self ..)
          have gX : ∀ f ∈ X, ls_gd i f := fun x hx => hX x (List.mem_cons_of_mem _ hx)
          unfold ls_end at hr
          dsimp only [List.cons_append] at hr
          split at hr
          · cases hr
          split at hr
          · split at hr
            · injection hr with hr; subst hr
              exact ls_trk_mk ((3, k.1, sp, []) :: X) hk (em ..) rfl (ls_gd_c (ls_gd_w hk.1) gX)
            · cases hr
          split at hr
          · next f8 =>
            split at hr
            · injection hr with hr; subst hr
              exact ls_trk_mk ((5, mo, sp, []) :: X) hk (em ..) rfl (ls_gd_c (ls_gd_w (gf.1 (Or.inr f8))) gX)
            · cases hr
          repeat' split at hr
          all_goals first | cases hr; done | (injection hr with hr; subst hr; exact ls_trk_mk X hk (em ..) rfl gX)
    · next lv pl mo r2 _ _ =>
      split at hr
      · injection hr with hr; subst hr
        refine ls_trk_mk X hk ?_ rfl hX
        unfold ls_red
        split
        · split
          · exact em ..
          · exact em2 ..
        split
        · split
          · exact em ..
          · exact em ..
        split
        · next n2 n13 lg =>
          refine ls_mv_t (em ..) (ls_mv_aim (fun q => ?_))
          have lgl : ls_lg (lv, pl, mo) := by
            obtain ⟨p1, p2, p3, p4, p5, p6, p7, p8⟩ := i6 _ (List.mem_cons_self ..)
            dsimp only at p7
            have lc := ls_lv_c (T pos)
            have := p7 (by omega) n13
            show lv = 3 ∨ lv = 4
            rcases lg with g | g
            · rw [g] at this; right; exact this.symm
            · rw [g] at this; left; exact this.symm
          have := (ls_pd_lt jp (List.mem_cons_self ..) lgl).2
          dsimp only at this
          rw [← q] at this
          rw [this] at hk
          rcases hk.2.1 with g | g <;> exact absurd g (by decide)
        · exact em ..
      split at hr
      · injection hr with hr; subst hr; exact ls_trk_mk X hk BIN rfl hX
      split at hr
      · split at hr
        · injection hr with hr; subst hr; exact ls_trk_mk X hk (em ..) rfl hX
        · injection hr with hr; subst hr; exact ls_trk_mk X hk ls_mv_r rfl hX
      repeat' split at hr
      all_goals first | cases hr; done | (injection hr with hr; subst hr; exact ls_trk_mk X hk ls_mv_r rfl hX)
end
section
variable {T : Nat → Nat} {V : Nat → Int32} {n : Nat} {C : Nat → LsC} {N : Nat} {kF : LsK} {t t' i : Nat} {F r : List LsF} {f5 : LsF}
set_option maxHeartbeats 200000 in
theorem ls_trk_to (h : ls_tl T V n C N kF) (hF : F = f5 :: r) (h5 : f5.1 = 5) (ht' : t' ≤ N) : ∀ m, t + m = t' → (∀ u, t ≤ u → u ≤ t' → F.length ≤ ((C u).2.2.2.2.1).length) → ls_trk i F (C t) → ls_trk i F (C t') := by
  intro m
  induction m generalizing t with
  | zero =>
    intro e _ g
    have : t = t' := by omega
    rw [← this]; exact g
  | succ m ih =>
    intro e hl g
    obtain ⟨_, f2, f3, _⟩ := h.2.2.2.2 t (by omega)
    obtain ⟨s1, s2⟩ := h.2.1 t (by omega)
    exact ih (t := t + 1) (by omega) (fun u u1 u2 => hl u (by omega) u2) (ls_trk_rs f2 f3 s1 hF h5 g s2 (hl (t + 1) (by omega) (by omega)))
end
end
section
/-! The component's loop over its instructions -/
def ls_gn (er nx : Int32) (op : Nat → Int32) : Int32 := if er = 0 ∧ ¬ nx < 0 ∧ ¬ 761 ≤ nx ∧ ¬ op nx.toNatClampNeg = 0 then 1 else 0
/-- the loop's head: f rounds of fuel, s steps done -/
def ls_XH (post : SX → Prop) (f s : Nat) (u : SX) : Prop := match u with
  | (f_tickLimit, f_tokenCount, f_outCount, f_error, f_errorPlace, f_lastKind, f_lastValue, f_codeSize, f_methodCount, f_methodTokens, f_cellCount, f_activeCalls, f_next, f_ticksLeft, f_state, f_pos, f_expressionStart, f_pendingCount, f_frameTop, f_localCount, a_tokenCode, a_tokenValue, a_outKind, a_outValue, a_codeOp, a_codeArg, a_codeKind, a_codePlace, a_methodSign, a_methodStart, a_declared, a_cellKind, a_cellValue, a_callReturn, a_pendingLevel, a_pendingPlace, a_pendingMore, a_frameKind, a_frameMore, a_localName) => wX_execute_46 post f (ls_gn f_error f_next a_codeOp) (nI s) f_tickLimit f_tokenCount f_outCount f_error f_errorPlace f_lastKind f_lastValue f_codeSize f_methodCount f_methodTokens f_cellCount f_activeCalls f_next f_ticksLeft f_state f_pos f_expressionStart f_pendingCount f_frameTop f_localCount a_tokenCode a_tokenValue a_outKind a_outValue a_codeOp a_codeArg a_codeKind a_codePlace a_methodSign a_methodStart a_declared a_cellKind a_cellValue a_callReturn a_pendingLevel a_pendingPlace a_pendingMore a_frameKind a_frameMore a_localName
def ls_XN (post : SX → Prop) (f s : Nat) : SX → Prop := fun u => match u with
  | (f_tickLimit, f_tokenCount, f_outCount, f_error, f_errorPlace, f_lastKind, f_lastValue, f_codeSize, f_methodCount, f_methodTokens, f_cellCount, f_activeCalls, f_next, f_ticksLeft, f_state, f_pos, f_expressionStart, f_pendingCount, f_frameTop, f_localCount, a_tokenCode, a_tokenValue, a_outKind, a_outValue, a_codeOp, a_codeArg, a_codeKind, a_codePlace, a_methodSign, a_methodStart, a_declared, a_cellKind, a_cellValue, a_callReturn, a_pendingLevel, a_pendingPlace, a_pendingMore, a_frameKind, a_frameMore, a_localName) => wX_execute_363 post (wX_execute_46 post f) (nI s) f_tickLimit f_tokenCount f_outCount f_error f_errorPlace f_lastKind f_lastValue f_codeSize f_methodCount f_methodTokens f_cellCount f_activeCalls f_next f_ticksLeft f_state f_pos f_expressionStart f_pendingCount f_frameTop f_localCount a_tokenCode a_tokenValue a_outKind a_outValue a_codeOp a_codeArg a_codeKind a_codePlace a_methodSign a_methodStart a_declared a_cellKind a_cellValue a_callReturn a_pendingLevel a_pendingPlace a_pendingMore a_frameKind a_frameMore a_localName
section
variable {f_tickLimit f_tokenCount f_outCount f_error f_errorPlace f_lastKind f_codeSize f_methodCount f_methodTokens f_cellCount f_activeCalls f_next f_ticksLeft f_state f_pos f_expressionStart f_pendingCount f_frameTop f_localCount : Int32}
variable {f_lastValue : Int64}
variable {a_tokenCode a_tokenValue a_outKind a_codeOp a_codeArg a_codeKind a_codePlace a_methodSign a_methodStart a_declared a_cellKind a_callReturn a_pendingLevel a_pendingPlace a_pendingMore a_frameKind a_frameMore a_localName : Nat → Int32}
variable {a_outValue a_cellValue : Nat → Int64}
variable {post : SX → Prop} {f s i : Nat}
set_option maxHeartbeats 200000 in
theorem ls_gn_1 {op : Nat → Int32} (hi : i < 761) (h : op i ≠ 0) : ls_gn 0 (nI i) op = 1 := by
  unfold ls_gn
  rw [if_pos ⟨rfl, nI_pos (by omega), nI_ge (b := 761) hi (by decide), by rw [nI_clamp (by omega)]; exact h⟩]
set_option maxHeartbeats 200000 in
theorem ls_gn_0 {op : Nat → Int32} (hi : i < 761) (h : op i = 0) : ls_gn 0 (nI i) op = 0 := by
  unfold ls_gn
  rw [if_neg (fun q => q.2.2.2 (by rw [nI_clamp (by omega)]; exact h))]
set_option maxHeartbeats 200000 in
theorem ls_gn_e {er nx : Int32} {op : Nat → Int32} (h : er ≠ 0) : ls_gn er nx op = 0 := by
  unfold ls_gn
  rw [if_neg (fun q => h q.1)]
set_option maxHeartbeats 200000 in
theorem ls_XN_of (h : ls_XH post f (s + 1) (f_tickLimit, f_tokenCount, f_outCount, f_error, f_errorPlace, f_lastKind, f_lastValue, f_codeSize, f_methodCount, f_methodTokens, f_cellCount, f_activeCalls, f_next, f_ticksLeft, f_state, f_pos, f_expressionStart, f_pendingCount, f_frameTop, f_localCount, a_tokenCode, a_tokenValue, a_outKind, a_outValue, a_codeOp, a_codeArg, a_codeKind, a_codePlace, a_methodSign, a_methodStart, a_declared, a_cellKind, a_cellValue, a_callReturn, a_pendingLevel, a_pendingPlace, a_pendingMore, a_frameKind, a_frameMore, a_localName)) : ls_XN post f s (f_tickLimit, f_tokenCount, f_outCount, f_error, f_errorPlace, f_lastKind, f_lastValue, f_codeSize, f_methodCount, f_methodTokens, f_cellCount, f_activeCalls, f_next, f_ticksLeft, f_state, f_pos, f_expressionStart, f_pendingCount, f_frameTop, f_localCount, a_tokenCode, a_tokenValue, a_outKind, a_outValue, a_codeOp, a_codeArg, a_codeKind, a_codePlace, a_methodSign, a_methodStart, a_declared, a_cellKind, a_cellValue, a_callReturn, a_pendingLevel, a_pendingPlace, a_pendingMore, a_frameKind, a_frameMore, a_localName) := by
  have h' : wX_execute_46 post f (ls_gn f_error f_next a_codeOp) (nI (s + 1)) f_tickLimit f_tokenCount f_outCount f_error f_errorPlace f_lastKind f_lastValue f_codeSize f_methodCount f_methodTokens f_cellCount f_activeCalls f_next f_ticksLeft f_state f_pos f_expressionStart f_pendingCount f_frameTop f_localCount a_tokenCode a_tokenValue a_outKind a_outValue a_codeOp a_codeArg a_codeKind a_codePlace a_methodSign a_methodStart a_declared a_cellKind a_cellValue a_callReturn a_pendingLevel a_pendingPlace a_pendingMore a_frameKind a_frameMore a_localName := h
  rw [← nI_1] at h'
  unfold ls_gn at h'
  show wX_execute_363 post (wX_execute_46 post f) (nI s) f_tickLimit f_tokenCount f_outCount f_error f_errorPlace f_lastKind f_lastValue f_codeSize f_methodCount f_methodTokens f_cellCount f_activeCalls f_next f_ticksLeft f_state f_pos f_expressionStart f_pendingCount f_frameTop f_localCount a_tokenCode a_tokenValue a_outKind a_outValue a_codeOp a_codeArg a_codeKind a_codePlace a_methodSign a_methodStart a_declared a_cellKind a_cellValue a_callReturn a_pendingLevel a_pendingPlace a_pendingMore a_frameKind a_frameMore a_localName
  unfold wX_execute_363
  refine br_c (fun e0 => ?_) (fun e0 => ?_)
  · refine br_c (fun e1 => ?_) (fun e1 => ?_)
    · rw [if_neg (fun q => q.2.1 e1)] at h'; exact nm_e h'
    · refine br_c (fun e2 => ?_) (fun e2 => ?_)
      · rw [if_neg (fun q => q.2.2.1 e2)] at h'; exact nm_e h'
      · refine ⟨?_, ?_⟩
        · obtain ⟨j, hj, e⟩ := nI_of e1
          rw [e] at e2 ⊢
          exact vp_in_nI (by apply Decidable.byContradiction; intro q; exact e2 (nI_le (a := 761) (by omega) hj)) (by decide)
        · refine br_c (fun e3 => ?_) (fun e3 => ?_)
          · rw [if_neg (fun q => q.2.2.2 e3)] at h'; exact nm_e h'
          · rw [if_pos ⟨e0, e1, e2, e3⟩] at h'; exact nm_e h'
  · rw [if_neg (fun q => e0 q.1)] at h'; exact nm_e h'
set_option maxHeartbeats 200000 in
theorem ls_XH_end (h : ls_gn f_error f_next a_codeOp = 0) (hp : post (f_tickLimit, f_tokenCount, f_outCount, f_error, f_errorPlace, f_lastKind, f_lastValue, f_codeSize, f_methodCount, f_methodTokens, f_cellCount, f_activeCalls, f_next, f_ticksLeft, f_state, f_pos, f_expressionStart, f_pendingCount, f_frameTop, f_localCount, a_tokenCode, a_tokenValue, a_outKind, a_outValue, a_codeOp, a_codeArg, a_codeKind, a_codePlace, a_methodSign, a_methodStart, a_declared, a_cellKind, a_cellValue, a_callReturn, a_pendingLevel, a_pendingPlace, a_pendingMore, a_frameKind, a_frameMore, a_localName)) : ls_XH post (f + 1) s (f_tickLimit, f_tokenCount, f_outCount, f_error, f_errorPlace, f_lastKind, f_lastValue, f_codeSize, f_methodCount, f_methodTokens, f_cellCount, f_activeCalls, f_next, f_ticksLeft, f_state, f_pos, f_expressionStart, f_pendingCount, f_frameTop, f_localCount, a_tokenCode, a_tokenValue, a_outKind, a_outValue, a_codeOp, a_codeArg, a_codeKind, a_codePlace, a_methodSign, a_methodStart, a_declared, a_cellKind, a_cellValue, a_callReturn, a_pendingLevel, a_pendingPlace, a_pendingMore, a_frameKind, a_frameMore, a_localName) := by
  show wX_execute_46 post (f + 1) (ls_gn f_error f_next a_codeOp) (nI s) f_tickLimit f_tokenCount f_outCount f_error f_errorPlace f_lastKind f_lastValue f_codeSize f_methodCount f_methodTokens f_cellCount f_activeCalls f_next f_ticksLeft f_state f_pos f_expressionStart f_pendingCount f_frameTop f_localCount a_tokenCode a_tokenValue a_outKind a_outValue a_codeOp a_codeArg a_codeKind a_codePlace a_methodSign a_methodStart a_declared a_cellKind a_cellValue a_callReturn a_pendingLevel a_pendingPlace a_pendingMore a_frameKind a_frameMore a_localName
  rw [h]
  unfold wX_execute_46
  exact br_c (fun _ => hp) (fun _ => br_t rfl hp)
set_option maxHeartbeats 200000 in
theorem gx_1 (hi : i < 761) (hs : s < 2000000) (ho : a_codeOp i = 1) (g : wpX_spendTick (ls_XN post f s) (f_tickLimit, f_tokenCount, f_outCount, 0, f_errorPlace, f_lastKind, f_lastValue, f_codeSize, f_methodCount, f_methodTokens, f_cellCount, f_activeCalls, nI (i + 1), f_ticksLeft, f_state, f_pos, f_expressionStart, f_pendingCount, f_frameTop, f_localCount, a_tokenCode, a_tokenValue, a_outKind, a_outValue, a_codeOp, a_codeArg, a_codeKind, a_codePlace, a_methodSign, a_methodStart, a_declared, a_cellKind, a_cellValue, a_callReturn, a_pendingLevel, a_pendingPlace, a_pendingMore, a_frameKind, a_frameMore, a_localName) (a_codePlace i)) : ls_XH post (f + 1) s (f_tickLimit, f_tokenCount, f_outCount, 0, f_errorPlace, f_lastKind, f_lastValue, f_codeSize, f_methodCount, f_methodTokens, f_cellCount, f_activeCalls, nI i, f_ticksLeft, f_state, f_pos, f_expressionStart, f_pendingCount, f_frameTop, f_localCount, a_tokenCode, a_tokenValue, a_outKind, a_outValue, a_codeOp, a_codeArg, a_codeKind, a_codePlace, a_methodSign, a_methodStart, a_declared, a_cellKind, a_cellValue, a_callReturn, a_pendingLevel, a_pendingPlace, a_pendingMore, a_frameKind, a_frameMore, a_localName) := by
  show wX_execute_46 post (f + 1) (ls_gn 0 (nI i) a_codeOp) (nI s) f_tickLimit f_tokenCount f_outCount 0 f_errorPlace f_lastKind f_lastValue f_codeSize f_methodCount f_methodTokens f_cellCount f_activeCalls (nI i) f_ticksLeft f_state f_pos f_expressionStart f_pendingCount f_frameTop f_localCount a_tokenCode a_tokenValue a_outKind a_outValue a_codeOp a_codeArg a_codeKind a_codePlace a_methodSign a_methodStart a_declared a_cellKind a_cellValue a_callReturn a_pendingLevel a_pendingPlace a_pendingMore a_frameKind a_frameMore a_localName
  rw [ls_gn_1 hi (by rw [ho]; decide)]
  unfold wX_execute_46
  refine br_f (nI_ge (b := 2000000) hs (by decide)) (br_f (by decide) (nm_r (nI_1 i) ⟨vp_in_nI hi (by decide), nm_r (by rw [nI_clamp (by omega), ho]) ?_⟩))
  exact br_f (by decide) (br_f (by decide) (br_t rfl (⟨vp_in_nI hi (by decide), by rw [nI_clamp (by omega)]; exact g⟩)))
set_option maxHeartbeats 200000 in
theorem gx_2 (hi : i < 761) (hs : s < 2000000) (ho : a_codeOp i = 2) (g : wpX_push (ls_XN post f s) (f_tickLimit, f_tokenCount, f_outCount, 0, f_errorPlace, f_lastKind, f_lastValue, f_codeSize, f_methodCount, f_methodTokens, f_cellCount, f_activeCalls, nI (i + 1), f_ticksLeft, f_state, f_pos, f_expressionStart, f_pendingCount, f_frameTop, f_localCount, a_tokenCode, a_tokenValue, a_outKind, a_outValue, a_codeOp, a_codeArg, a_codeKind, a_codePlace, a_methodSign, a_methodStart, a_declared, a_cellKind, a_cellValue, a_callReturn, a_pendingLevel, a_pendingPlace, a_pendingMore, a_frameKind, a_frameMore, a_localName) (a_codeKind i) (a_codeArg i).toInt64) : ls_XH post (f + 1) s (f_tickLimit, f_tokenCount, f_outCount, 0, f_errorPlace, f_lastKind, f_lastValue, f_codeSize, f_methodCount, f_methodTokens, f_cellCount, f_activeCalls, nI i, f_ticksLeft, f_state, f_pos, f_expressionStart, f_pendingCount, f_frameTop, f_localCount, a_tokenCode, a_tokenValue, a_outKind, a_outValue, a_codeOp, a_codeArg, a_codeKind, a_codePlace, a_methodSign, a_methodStart, a_declared, a_cellKind, a_cellValue, a_callReturn, a_pendingLevel, a_pendingPlace, a_pendingMore, a_frameKind, a_frameMore, a_localName) := by
  show wX_execute_46 post (f + 1) (ls_gn 0 (nI i) a_codeOp) (nI s) f_tickLimit f_tokenCount f_outCount 0 f_errorPlace f_lastKind f_lastValue f_codeSize f_methodCount f_methodTokens f_cellCount f_activeCalls (nI i) f_ticksLeft f_state f_pos f_expressionStart f_pendingCount f_frameTop f_localCount a_tokenCode a_tokenValue a_outKind a_outValue a_codeOp a_codeArg a_codeKind a_codePlace a_methodSign a_methodStart a_declared a_cellKind a_cellValue a_callReturn a_pendingLevel a_pendingPlace a_pendingMore a_frameKind a_frameMore a_localName
  rw [ls_gn_1 hi (by rw [ho]; decide)]
  unfold wX_execute_46
  refine br_f (nI_ge (b := 2000000) hs (by decide)) (br_f (by decide) (nm_r (nI_1 i) ⟨vp_in_nI hi (by decide), nm_r (by rw [nI_clamp (by omega), ho]) ?_⟩))
  exact br_f (by decide) (br_f (by decide) (br_f (by decide) (br_t rfl (⟨vp_in_nI hi (by decide), vp_in_nI hi (by decide), by rw [nI_clamp (by omega)]; exact g⟩))))
set_option maxHeartbeats 200000 in
theorem gx_3 (hi : i < 761) (hs : s < 2000000) (ho : a_codeOp i = 3) (g : wpX_load (ls_XN post f s) (f_tickLimit, f_tokenCount, f_outCount, 0, f_errorPlace, f_lastKind, f_lastValue, f_codeSize, f_methodCount, f_methodTokens, f_cellCount, f_activeCalls, nI (i + 1), f_ticksLeft, f_state, f_pos, f_expressionStart, f_pendingCount, f_frameTop, f_localCount, a_tokenCode, a_tokenValue, a_outKind, a_outValue, a_codeOp, a_codeArg, a_codeKind, a_codePlace, a_methodSign, a_methodStart, a_declared, a_cellKind, a_cellValue, a_callReturn, a_pendingLevel, a_pendingPlace, a_pendingMore, a_frameKind, a_frameMore, a_localName) (nI i)) : ls_XH post (f + 1) s (f_tickLimit, f_tokenCount, f_outCount, 0, f_errorPlace, f_lastKind, f_lastValue, f_codeSize, f_methodCount, f_methodTokens, f_cellCount, f_activeCalls, nI i, f_ticksLeft, f_state, f_pos, f_expressionStart, f_pendingCount, f_frameTop, f_localCount, a_tokenCode, a_tokenValue, a_outKind, a_outValue, a_codeOp, a_codeArg, a_codeKind, a_codePlace, a_methodSign, a_methodStart, a_declared, a_cellKind, a_cellValue, a_callReturn, a_pendingLevel, a_pendingPlace, a_pendingMore, a_frameKind, a_frameMore, a_localName) := by
  show wX_execute_46 post (f + 1) (ls_gn 0 (nI i) a_codeOp) (nI s) f_tickLimit f_tokenCount f_outCount 0 f_errorPlace f_lastKind f_lastValue f_codeSize f_methodCount f_methodTokens f_cellCount f_activeCalls (nI i) f_ticksLeft f_state f_pos f_expressionStart f_pendingCount f_frameTop f_localCount a_tokenCode a_tokenValue a_outKind a_outValue a_codeOp a_codeArg a_codeKind a_codePlace a_methodSign a_methodStart a_declared a_cellKind a_cellValue a_callReturn a_pendingLevel a_pendingPlace a_pendingMore a_frameKind a_frameMore a_localName
  rw [ls_gn_1 hi (by rw [ho]; decide)]
  unfold wX_execute_46
  refine br_f (nI_ge (b := 2000000) hs (by decide)) (br_f (by decide) (nm_r (nI_1 i) ⟨vp_in_nI hi (by decide), nm_r (by rw [nI_clamp (by omega), ho]) ?_⟩))
  exact br_f (by decide) (br_f (by decide) (br_f (by decide) (br_f (by decide) (br_t rfl g))))
set_option maxHeartbeats 200000 in
theorem gx_4 (hi : i < 761) (hs : s < 2000000) (ho : a_codeOp i = 4) (g : wpX_applyUnary (ls_XN post f s) (f_tickLimit, f_tokenCount, f_outCount, 0, f_errorPlace, f_lastKind, f_lastValue, f_codeSize, f_methodCount, f_methodTokens, f_cellCount, f_activeCalls, nI (i + 1), f_ticksLeft, f_state, f_pos, f_expressionStart, f_pendingCount, f_frameTop, f_localCount, a_tokenCode, a_tokenValue, a_outKind, a_outValue, a_codeOp, a_codeArg, a_codeKind, a_codePlace, a_methodSign, a_methodStart, a_declared, a_cellKind, a_cellValue, a_callReturn, a_pendingLevel, a_pendingPlace, a_pendingMore, a_frameKind, a_frameMore, a_localName) (nI i)) : ls_XH post (f + 1) s (f_tickLimit, f_tokenCount, f_outCount, 0, f_errorPlace, f_lastKind, f_lastValue, f_codeSize, f_methodCount, f_methodTokens, f_cellCount, f_activeCalls, nI i, f_ticksLeft, f_state, f_pos, f_expressionStart, f_pendingCount, f_frameTop, f_localCount, a_tokenCode, a_tokenValue, a_outKind, a_outValue, a_codeOp, a_codeArg, a_codeKind, a_codePlace, a_methodSign, a_methodStart, a_declared, a_cellKind, a_cellValue, a_callReturn, a_pendingLevel, a_pendingPlace, a_pendingMore, a_frameKind, a_frameMore, a_localName) := by
  show wX_execute_46 post (f + 1) (ls_gn 0 (nI i) a_codeOp) (nI s) f_tickLimit f_tokenCount f_outCount 0 f_errorPlace f_lastKind f_lastValue f_codeSize f_methodCount f_methodTokens f_cellCount f_activeCalls (nI i) f_ticksLeft f_state f_pos f_expressionStart f_pendingCount f_frameTop f_localCount a_tokenCode a_tokenValue a_outKind a_outValue a_codeOp a_codeArg a_codeKind a_codePlace a_methodSign a_methodStart a_declared a_cellKind a_cellValue a_callReturn a_pendingLevel a_pendingPlace a_pendingMore a_frameKind a_frameMore a_localName
  rw [ls_gn_1 hi (by rw [ho]; decide)]
  unfold wX_execute_46
  refine br_f (nI_ge (b := 2000000) hs (by decide)) (br_f (by decide) (nm_r (nI_1 i) ⟨vp_in_nI hi (by decide), nm_r (by rw [nI_clamp (by omega), ho]) ?_⟩))
  exact br_f (by decide) (br_f (by decide) (br_f (by decide) (br_f (by decide) (br_f (by decide) (br_t rfl g)))))
set_option maxHeartbeats 200000 in
theorem gx_5 (hi : i < 761) (hs : s < 2000000) (ho : a_codeOp i = 5) (g : wpX_applyBinary (ls_XN post f s) (f_tickLimit, f_tokenCount, f_outCount, 0, f_errorPlace, f_lastKind, f_lastValue, f_codeSize, f_methodCount, f_methodTokens, f_cellCount, f_activeCalls, nI (i + 1), f_ticksLeft, f_state, f_pos, f_expressionStart, f_pendingCount, f_frameTop, f_localCount, a_tokenCode, a_tokenValue, a_outKind, a_outValue, a_codeOp, a_codeArg, a_codeKind, a_codePlace, a_methodSign, a_methodStart, a_declared, a_cellKind, a_cellValue, a_callReturn, a_pendingLevel, a_pendingPlace, a_pendingMore, a_frameKind, a_frameMore, a_localName) (nI i)) : ls_XH post (f + 1) s (f_tickLimit, f_tokenCount, f_outCount, 0, f_errorPlace, f_lastKind, f_lastValue, f_codeSize, f_methodCount, f_methodTokens, f_cellCount, f_activeCalls, nI i, f_ticksLeft, f_state, f_pos, f_expressionStart, f_pendingCount, f_frameTop, f_localCount, a_tokenCode, a_tokenValue, a_outKind, a_outValue, a_codeOp, a_codeArg, a_codeKind, a_codePlace, a_methodSign, a_methodStart, a_declared, a_cellKind, a_cellValue, a_callReturn, a_pendingLevel, a_pendingPlace, a_pendingMore, a_frameKind, a_frameMore, a_localName) := by
  show wX_execute_46 post (f + 1) (ls_gn 0 (nI i) a_codeOp) (nI s) f_tickLimit f_tokenCount f_outCount 0 f_errorPlace f_lastKind f_lastValue f_codeSize f_methodCount f_methodTokens f_cellCount f_activeCalls (nI i) f_ticksLeft f_state f_pos f_expressionStart f_pendingCount f_frameTop f_localCount a_tokenCode a_tokenValue a_outKind a_outValue a_codeOp a_codeArg a_codeKind a_codePlace a_methodSign a_methodStart a_declared a_cellKind a_cellValue a_callReturn a_pendingLevel a_pendingPlace a_pendingMore a_frameKind a_frameMore a_localName
  rw [ls_gn_1 hi (by rw [ho]; decide)]
  unfold wX_execute_46
  refine br_f (nI_ge (b := 2000000) hs (by decide)) (br_f (by decide) (nm_r (nI_1 i) ⟨vp_in_nI hi (by decide), nm_r (by rw [nI_clamp (by omega), ho]) ?_⟩))
  exact br_f (by decide) (br_f (by decide) (br_f (by decide) (br_f (by decide) (br_f (by decide) (br_f (by decide) (br_t rfl g))))))
set_option maxHeartbeats 200000 in
theorem gx_6 (hi : i < 761) (hs : s < 2000000) (ho : a_codeOp i = 6) (g : wpX_applyCast (ls_XN post f s) (f_tickLimit, f_tokenCount, f_outCount, 0, f_errorPlace, f_lastKind, f_lastValue, f_codeSize, f_methodCount, f_methodTokens, f_cellCount, f_activeCalls, nI (i + 1), f_ticksLeft, f_state, f_pos, f_expressionStart, f_pendingCount, f_frameTop, f_localCount, a_tokenCode, a_tokenValue, a_outKind, a_outValue, a_codeOp, a_codeArg, a_codeKind, a_codePlace, a_methodSign, a_methodStart, a_declared, a_cellKind, a_cellValue, a_callReturn, a_pendingLevel, a_pendingPlace, a_pendingMore, a_frameKind, a_frameMore, a_localName) (nI i)) : ls_XH post (f + 1) s (f_tickLimit, f_tokenCount, f_outCount, 0, f_errorPlace, f_lastKind, f_lastValue, f_codeSize, f_methodCount, f_methodTokens, f_cellCount, f_activeCalls, nI i, f_ticksLeft, f_state, f_pos, f_expressionStart, f_pendingCount, f_frameTop, f_localCount, a_tokenCode, a_tokenValue, a_outKind, a_outValue, a_codeOp, a_codeArg, a_codeKind, a_codePlace, a_methodSign, a_methodStart, a_declared, a_cellKind, a_cellValue, a_callReturn, a_pendingLevel, a_pendingPlace, a_pendingMore, a_frameKind, a_frameMore, a_localName) := by
  show wX_execute_46 post (f + 1) (ls_gn 0 (nI i) a_codeOp) (nI s) f_tickLimit f_tokenCount f_outCount 0 f_errorPlace f_lastKind f_lastValue f_codeSize f_methodCount f_methodTokens f_cellCount f_activeCalls (nI i) f_ticksLeft f_state f_pos f_expressionStart f_pendingCount f_frameTop f_localCount a_tokenCode a_tokenValue a_outKind a_outValue a_codeOp a_codeArg a_codeKind a_codePlace a_methodSign a_methodStart a_declared a_cellKind a_cellValue a_callReturn a_pendingLevel a_pendingPlace a_pendingMore a_frameKind a_frameMore a_localName
  rw [ls_gn_1 hi (by rw [ho]; decide)]
  unfold wX_execute_46
  refine br_f (nI_ge (b := 2000000) hs (by decide)) (br_f (by decide) (nm_r (nI_1 i) ⟨vp_in_nI hi (by decide), nm_r (by rw [nI_clamp (by omega), ho]) ?_⟩))
  exact br_f (by decide) (br_f (by decide) (br_f (by decide) (br_f (by decide) (br_f (by decide) (br_f (by decide) (br_f (by decide) (br_t rfl g)))))))
set_option maxHeartbeats 200000 in
theorem gx_7 (hi : i < 761) (hs : s < 2000000) (ho : a_codeOp i = 7) (g : wpX_decide (ls_XN post f s) (f_tickLimit, f_tokenCount, f_outCount, 0, f_errorPlace, f_lastKind, f_lastValue, f_codeSize, f_methodCount, f_methodTokens, f_cellCount, f_activeCalls, nI (i + 1), f_ticksLeft, f_state, f_pos, f_expressionStart, f_pendingCount, f_frameTop, f_localCount, a_tokenCode, a_tokenValue, a_outKind, a_outValue, a_codeOp, a_codeArg, a_codeKind, a_codePlace, a_methodSign, a_methodStart, a_declared, a_cellKind, a_cellValue, a_callReturn, a_pendingLevel, a_pendingPlace, a_pendingMore, a_frameKind, a_frameMore, a_localName) (nI i)) : ls_XH post (f + 1) s (f_tickLimit, f_tokenCount, f_outCount, 0, f_errorPlace, f_lastKind, f_lastValue, f_codeSize, f_methodCount, f_methodTokens, f_cellCount, f_activeCalls, nI i, f_ticksLeft, f_state, f_pos, f_expressionStart, f_pendingCount, f_frameTop, f_localCount, a_tokenCode, a_tokenValue, a_outKind, a_outValue, a_codeOp, a_codeArg, a_codeKind, a_codePlace, a_methodSign, a_methodStart, a_declared, a_cellKind, a_cellValue, a_callReturn, a_pendingLevel, a_pendingPlace, a_pendingMore, a_frameKind, a_frameMore, a_localName) := by
  show wX_execute_46 post (f + 1) (ls_gn 0 (nI i) a_codeOp) (nI s) f_tickLimit f_tokenCount f_outCount 0 f_errorPlace f_lastKind f_lastValue f_codeSize f_methodCount f_methodTokens f_cellCount f_activeCalls (nI i) f_ticksLeft f_state f_pos f_expressionStart f_pendingCount f_frameTop f_localCount a_tokenCode a_tokenValue a_outKind a_outValue a_codeOp a_codeArg a_codeKind a_codePlace a_methodSign a_methodStart a_declared a_cellKind a_cellValue a_callReturn a_pendingLevel a_pendingPlace a_pendingMore a_frameKind a_frameMore a_localName
  rw [ls_gn_1 hi (by rw [ho]; decide)]
  unfold wX_execute_46
  refine br_f (nI_ge (b := 2000000) hs (by decide)) (br_f (by decide) (nm_r (nI_1 i) ⟨vp_in_nI hi (by decide), nm_r (by rw [nI_clamp (by omega), ho]) ?_⟩))
  exact br_f (by decide) (br_f (by decide) (br_f (by decide) (br_f (by decide) (br_f (by decide) (br_f (by decide) (br_f (by decide) (br_f (by decide) (br_t rfl g))))))))
set_option maxHeartbeats 200000 in
theorem gx_8 (hi : i < 761) (hs : s < 2000000) (ho : a_codeOp i = 8) (g : wpX_needBoolean (ls_XN post f s) (f_tickLimit, f_tokenCount, f_outCount, 0, f_errorPlace, f_lastKind, f_lastValue, f_codeSize, f_methodCount, f_methodTokens, f_cellCount, f_activeCalls, nI (i + 1), f_ticksLeft, f_state, f_pos, f_expressionStart, f_pendingCount, f_frameTop, f_localCount, a_tokenCode, a_tokenValue, a_outKind, a_outValue, a_codeOp, a_codeArg, a_codeKind, a_codePlace, a_methodSign, a_methodStart, a_declared, a_cellKind, a_cellValue, a_callReturn, a_pendingLevel, a_pendingPlace, a_pendingMore, a_frameKind, a_frameMore, a_localName) (nI i)) : ls_XH post (f + 1) s (f_tickLimit, f_tokenCount, f_outCount, 0, f_errorPlace, f_lastKind, f_lastValue, f_codeSize, f_methodCount, f_methodTokens, f_cellCount, f_activeCalls, nI i, f_ticksLeft, f_state, f_pos, f_expressionStart, f_pendingCount, f_frameTop, f_localCount, a_tokenCode, a_tokenValue, a_outKind, a_outValue, a_codeOp, a_codeArg, a_codeKind, a_codePlace, a_methodSign, a_methodStart, a_declared, a_cellKind, a_cellValue, a_callReturn, a_pendingLevel, a_pendingPlace, a_pendingMore, a_frameKind, a_frameMore, a_localName) := by
  show wX_execute_46 post (f + 1) (ls_gn 0 (nI i) a_codeOp) (nI s) f_tickLimit f_tokenCount f_outCount 0 f_errorPlace f_lastKind f_lastValue f_codeSize f_methodCount f_methodTokens f_cellCount f_activeCalls (nI i) f_ticksLeft f_state f_pos f_expressionStart f_pendingCount f_frameTop f_localCount a_tokenCode a_tokenValue a_outKind a_outValue a_codeOp a_codeArg a_codeKind a_codePlace a_methodSign a_methodStart a_declared a_cellKind a_cellValue a_callReturn a_pendingLevel a_pendingPlace a_pendingMore a_frameKind a_frameMore a_localName
  rw [ls_gn_1 hi (by rw [ho]; decide)]
  unfold wX_execute_46
  refine br_f (nI_ge (b := 2000000) hs (by decide)) (br_f (by decide) (nm_r (nI_1 i) ⟨vp_in_nI hi (by decide), nm_r (by rw [nI_clamp (by omega), ho]) ?_⟩))
  exact br_f (by decide) (br_f (by decide) (br_f (by decide) (br_f (by decide) (br_f (by decide) (br_f (by decide) (br_f (by decide) (br_f (by decide) (br_f (by decide) (br_t rfl g)))))))))
set_option maxHeartbeats 200000 in
theorem gx_9 (hi : i < 761) (hs : s < 2000000) (ho : a_codeOp i = 9) (g : wpX_assign (ls_XN post f s) (f_tickLimit, f_tokenCount, f_outCount, 0, f_errorPlace, f_lastKind, f_lastValue, f_codeSize, f_methodCount, f_methodTokens, f_cellCount, f_activeCalls, nI (i + 1), f_ticksLeft, f_state, f_pos, f_expressionStart, f_pendingCount, f_frameTop, f_localCount, a_tokenCode, a_tokenValue, a_outKind, a_outValue, a_codeOp, a_codeArg, a_codeKind, a_codePlace, a_methodSign, a_methodStart, a_declared, a_cellKind, a_cellValue, a_callReturn, a_pendingLevel, a_pendingPlace, a_pendingMore, a_frameKind, a_frameMore, a_localName) (nI i)) : ls_XH post (f + 1) s (f_tickLimit, f_tokenCount, f_outCount, 0, f_errorPlace, f_lastKind, f_lastValue, f_codeSize, f_methodCount, f_methodTokens, f_cellCount, f_activeCalls, nI i, f_ticksLeft, f_state, f_pos, f_expressionStart, f_pendingCount, f_frameTop, f_localCount, a_tokenCode, a_tokenValue, a_outKind, a_outValue, a_codeOp, a_codeArg, a_codeKind, a_codePlace, a_methodSign, a_methodStart, a_declared, a_cellKind, a_cellValue, a_callReturn, a_pendingLevel, a_pendingPlace, a_pendingMore, a_frameKind, a_frameMore, a_localName) := by
  show wX_execute_46 post (f + 1) (ls_gn 0 (nI i) a_codeOp) (nI s) f_tickLimit f_tokenCount f_outCount 0 f_errorPlace f_lastKind f_lastValue f_codeSize f_methodCount f_methodTokens f_cellCount f_activeCalls (nI i) f_ticksLeft f_state f_pos f_expressionStart f_pendingCount f_frameTop f_localCount a_tokenCode a_tokenValue a_outKind a_outValue a_codeOp a_codeArg a_codeKind a_codePlace a_methodSign a_methodStart a_declared a_cellKind a_cellValue a_callReturn a_pendingLevel a_pendingPlace a_pendingMore a_frameKind a_frameMore a_localName
  rw [ls_gn_1 hi (by rw [ho]; decide)]
  unfold wX_execute_46
  refine br_f (nI_ge (b := 2000000) hs (by decide)) (br_f (by decide) (nm_r (nI_1 i) ⟨vp_in_nI hi (by decide), nm_r (by rw [nI_clamp (by omega), ho]) ?_⟩))
  exact br_f (by decide) (br_f (by decide) (br_f (by decide) (br_f (by decide) (br_f (by decide) (br_f (by decide) (br_f (by decide) (br_f (by decide) (br_f (by decide) (br_f (by decide) (br_t rfl g))))))))))
set_option maxHeartbeats 200000 in
theorem gx_10 (hi : i < 761) (hs : s < 2000000) (ho : a_codeOp i = 10) (g : wpX_update (ls_XN post f s) (f_tickLimit, f_tokenCount, f_outCount, 0, f_errorPlace, f_lastKind, f_lastValue, f_codeSize, f_methodCount, f_methodTokens, f_cellCount, f_activeCalls, nI (i + 1), f_ticksLeft, f_state, f_pos, f_expressionStart, f_pendingCount, f_frameTop, f_localCount, a_tokenCode, a_tokenValue, a_outKind, a_outValue, a_codeOp, a_codeArg, a_codeKind, a_codePlace, a_methodSign, a_methodStart, a_declared, a_cellKind, a_cellValue, a_callReturn, a_pendingLevel, a_pendingPlace, a_pendingMore, a_frameKind, a_frameMore, a_localName) (nI i)) : ls_XH post (f + 1) s (f_tickLimit, f_tokenCount, f_outCount, 0, f_errorPlace, f_lastKind, f_lastValue, f_codeSize, f_methodCount, f_methodTokens, f_cellCount, f_activeCalls, nI i, f_ticksLeft, f_state, f_pos, f_expressionStart, f_pendingCount, f_frameTop, f_localCount, a_tokenCode, a_tokenValue, a_outKind, a_outValue, a_codeOp, a_codeArg, a_codeKind, a_codePlace, a_methodSign, a_methodStart, a_declared, a_cellKind, a_cellValue, a_callReturn, a_pendingLevel, a_pendingPlace, a_pendingMore, a_frameKind, a_frameMore, a_localName) := by
  show wX_execute_46 post (f + 1) (ls_gn 0 (nI i) a_codeOp) (nI s) f_tickLimit f_tokenCount f_outCount 0 f_errorPlace f_lastKind f_lastValue f_codeSize f_methodCount f_methodTokens f_cellCount f_activeCalls (nI i) f_ticksLeft f_state f_pos f_expressionStart f_pendingCount f_frameTop f_localCount a_tokenCode a_tokenValue a_outKind a_outValue a_codeOp a_codeArg a_codeKind a_codePlace a_methodSign a_methodStart a_declared a_cellKind a_cellValue a_callReturn a_pendingLevel a_pendingPlace a_pendingMore a_frameKind a_frameMore a_localName
  rw [ls_gn_1 hi (by rw [ho]; decide)]
  unfold wX_execute_46
  refine br_f (nI_ge (b := 2000000) hs (by decide)) (br_f (by decide) (nm_r (nI_1 i) ⟨vp_in_nI hi (by decide), nm_r (by rw [nI_clamp (by omega), ho]) ?_⟩))
  exact br_f (by decide) (br_f (by decide) (br_f (by decide) (br_f (by decide) (br_f (by decide) (br_f (by decide) (br_f (by decide) (br_f (by decide) (br_f (by decide) (br_f (by decide) (br_f (by decide) (br_t rfl g)))))))))))
set_option maxHeartbeats 200000 in
theorem gx_11 (hi : i < 761) (hs : s < 2000000) (ho : a_codeOp i = 11) (g : wpX_call (ls_XN post f s) (f_tickLimit, f_tokenCount, f_outCount, 0, f_errorPlace, f_lastKind, f_lastValue, f_codeSize, f_methodCount, f_methodTokens, f_cellCount, f_activeCalls, nI (i + 1), f_ticksLeft, f_state, f_pos, f_expressionStart, f_pendingCount, f_frameTop, f_localCount, a_tokenCode, a_tokenValue, a_outKind, a_outValue, a_codeOp, a_codeArg, a_codeKind, a_codePlace, a_methodSign, a_methodStart, a_declared, a_cellKind, a_cellValue, a_callReturn, a_pendingLevel, a_pendingPlace, a_pendingMore, a_frameKind, a_frameMore, a_localName) (nI i)) : ls_XH post (f + 1) s (f_tickLimit, f_tokenCount, f_outCount, 0, f_errorPlace, f_lastKind, f_lastValue, f_codeSize, f_methodCount, f_methodTokens, f_cellCount, f_activeCalls, nI i, f_ticksLeft, f_state, f_pos, f_expressionStart, f_pendingCount, f_frameTop, f_localCount, a_tokenCode, a_tokenValue, a_outKind, a_outValue, a_codeOp, a_codeArg, a_codeKind, a_codePlace, a_methodSign, a_methodStart, a_declared, a_cellKind, a_cellValue, a_callReturn, a_pendingLevel, a_pendingPlace, a_pendingMore, a_frameKind, a_frameMore, a_localName) := by
  show wX_execute_46 post (f + 1) (ls_gn 0 (nI i) a_codeOp) (nI s) f_tickLimit f_tokenCount f_outCount 0 f_errorPlace f_lastKind f_lastValue f_codeSize f_methodCount f_methodTokens f_cellCount f_activeCalls (nI i) f_ticksLeft f_state f_pos f_expressionStart f_pendingCount f_frameTop f_localCount a_tokenCode a_tokenValue a_outKind a_outValue a_codeOp a_codeArg a_codeKind a_codePlace a_methodSign a_methodStart a_declared a_cellKind a_cellValue a_callReturn a_pendingLevel a_pendingPlace a_pendingMore a_frameKind a_frameMore a_localName
  rw [ls_gn_1 hi (by rw [ho]; decide)]
  unfold wX_execute_46
  refine br_f (nI_ge (b := 2000000) hs (by decide)) (br_f (by decide) (nm_r (nI_1 i) ⟨vp_in_nI hi (by decide), nm_r (by rw [nI_clamp (by omega), ho]) ?_⟩))
  exact br_f (by decide) (br_f (by decide) (br_f (by decide) (br_f (by decide) (br_f (by decide) (br_f (by decide) (br_f (by decide) (br_f (by decide) (br_f (by decide) (br_f (by decide) (br_f (by decide) (br_f (by decide) (br_t rfl g))))))))))))
set_option maxHeartbeats 200000 in
theorem gx_13 (hi : i < 761) (hs : s < 2000000) (ho : a_codeOp i = 13) (g : wpX_keepResult (ls_XN post f s) (f_tickLimit, f_tokenCount, f_outCount, 0, f_errorPlace, f_lastKind, f_lastValue, f_codeSize, f_methodCount, f_methodTokens, f_cellCount, f_activeCalls, nI (i + 1), f_ticksLeft, f_state, f_pos, f_expressionStart, f_pendingCount, f_frameTop, f_localCount, a_tokenCode, a_tokenValue, a_outKind, a_outValue, a_codeOp, a_codeArg, a_codeKind, a_codePlace, a_methodSign, a_methodStart, a_declared, a_cellKind, a_cellValue, a_callReturn, a_pendingLevel, a_pendingPlace, a_pendingMore, a_frameKind, a_frameMore, a_localName) ) : ls_XH post (f + 1) s (f_tickLimit, f_tokenCount, f_outCount, 0, f_errorPlace, f_lastKind, f_lastValue, f_codeSize, f_methodCount, f_methodTokens, f_cellCount, f_activeCalls, nI i, f_ticksLeft, f_state, f_pos, f_expressionStart, f_pendingCount, f_frameTop, f_localCount, a_tokenCode, a_tokenValue, a_outKind, a_outValue, a_codeOp, a_codeArg, a_codeKind, a_codePlace, a_methodSign, a_methodStart, a_declared, a_cellKind, a_cellValue, a_callReturn, a_pendingLevel, a_pendingPlace, a_pendingMore, a_frameKind, a_frameMore, a_localName) := by
  show wX_execute_46 post (f + 1) (ls_gn 0 (nI i) a_codeOp) (nI s) f_tickLimit f_tokenCount f_outCount 0 f_errorPlace f_lastKind f_lastValue f_codeSize f_methodCount f_methodTokens f_cellCount f_activeCalls (nI i) f_ticksLeft f_state f_pos f_expressionStart f_pendingCount f_frameTop f_localCount a_tokenCode a_tokenValue a_outKind a_outValue a_codeOp a_codeArg a_codeKind a_codePlace a_methodSign a_methodStart a_declared a_cellKind a_cellValue a_callReturn a_pendingLevel a_pendingPlace a_pendingMore a_frameKind a_frameMore a_localName
  rw [ls_gn_1 hi (by rw [ho]; decide)]
  unfold wX_execute_46
  refine br_f (nI_ge (b := 2000000) hs (by decide)) (br_f (by decide) (nm_r (nI_1 i) ⟨vp_in_nI hi (by decide), nm_r (by rw [nI_clamp (by omega), ho]) ?_⟩))
  exact br_f (by decide) (br_f (by decide) (br_f (by decide) (br_f (by decide) (br_f (by decide) (br_f (by decide) (br_f (by decide) (br_f (by decide) (br_f (by decide) (br_f (by decide) (br_f (by decide) (br_f (by decide) (br_f (by decide) (br_f (by decide) (br_t rfl g))))))))))))))
set_option maxHeartbeats 200000 in
theorem gx_15 (hi : i < 761) (hs : s < 2000000) (ho : a_codeOp i = 15) (g : wpX_jumpUnless (ls_XN post f s) (f_tickLimit, f_tokenCount, f_outCount, 0, f_errorPlace, f_lastKind, f_lastValue, f_codeSize, f_methodCount, f_methodTokens, f_cellCount, f_activeCalls, nI (i + 1), f_ticksLeft, f_state, f_pos, f_expressionStart, f_pendingCount, f_frameTop, f_localCount, a_tokenCode, a_tokenValue, a_outKind, a_outValue, a_codeOp, a_codeArg, a_codeKind, a_codePlace, a_methodSign, a_methodStart, a_declared, a_cellKind, a_cellValue, a_callReturn, a_pendingLevel, a_pendingPlace, a_pendingMore, a_frameKind, a_frameMore, a_localName) (nI i)) : ls_XH post (f + 1) s (f_tickLimit, f_tokenCount, f_outCount, 0, f_errorPlace, f_lastKind, f_lastValue, f_codeSize, f_methodCount, f_methodTokens, f_cellCount, f_activeCalls, nI i, f_ticksLeft, f_state, f_pos, f_expressionStart, f_pendingCount, f_frameTop, f_localCount, a_tokenCode, a_tokenValue, a_outKind, a_outValue, a_codeOp, a_codeArg, a_codeKind, a_codePlace, a_methodSign, a_methodStart, a_declared, a_cellKind, a_cellValue, a_callReturn, a_pendingLevel, a_pendingPlace, a_pendingMore, a_frameKind, a_frameMore, a_localName) := by
  show wX_execute_46 post (f + 1) (ls_gn 0 (nI i) a_codeOp) (nI s) f_tickLimit f_tokenCount f_outCount 0 f_errorPlace f_lastKind f_lastValue f_codeSize f_methodCount f_methodTokens f_cellCount f_activeCalls (nI i) f_ticksLeft f_state f_pos f_expressionStart f_pendingCount f_frameTop f_localCount a_tokenCode a_tokenValue a_outKind a_outValue a_codeOp a_codeArg a_codeKind a_codePlace a_methodSign a_methodStart a_declared a_cellKind a_cellValue a_callReturn a_pendingLevel a_pendingPlace a_pendingMore a_frameKind a_frameMore a_localName
  rw [ls_gn_1 hi (by rw [ho]; decide)]
  unfold wX_execute_46
  refine br_f (nI_ge (b := 2000000) hs (by decide)) (br_f (by decide) (nm_r (nI_1 i) ⟨vp_in_nI hi (by decide), nm_r (by rw [nI_clamp (by omega), ho]) ?_⟩))
  exact br_f (by decide) (br_f (by decide) (br_f (by decide) (br_f (by decide) (br_f (by decide) (br_f (by decide) (br_f (by decide) (br_f (by decide) (br_f (by decide) (br_f (by decide) (br_f (by decide) (br_f (by decide) (br_f (by decide) (br_f (by decide) (br_f (by decide) (br_f (by decide) (br_t rfl g))))))))))))))))
set_option maxHeartbeats 200000 in
theorem gx_16 (hi : i < 761) (hs : s < 2000000) (ho : a_codeOp i = 16) (g : wpX_print (ls_XN post f s) (f_tickLimit, f_tokenCount, f_outCount, 0, f_errorPlace, f_lastKind, f_lastValue, f_codeSize, f_methodCount, f_methodTokens, f_cellCount, f_activeCalls, nI (i + 1), f_ticksLeft, f_state, f_pos, f_expressionStart, f_pendingCount, f_frameTop, f_localCount, a_tokenCode, a_tokenValue, a_outKind, a_outValue, a_codeOp, a_codeArg, a_codeKind, a_codePlace, a_methodSign, a_methodStart, a_declared, a_cellKind, a_cellValue, a_callReturn, a_pendingLevel, a_pendingPlace, a_pendingMore, a_frameKind, a_frameMore, a_localName) (nI i)) : ls_XH post (f + 1) s (f_tickLimit, f_tokenCount, f_outCount, 0, f_errorPlace, f_lastKind, f_lastValue, f_codeSize, f_methodCount, f_methodTokens, f_cellCount, f_activeCalls, nI i, f_ticksLeft, f_state, f_pos, f_expressionStart, f_pendingCount, f_frameTop, f_localCount, a_tokenCode, a_tokenValue, a_outKind, a_outValue, a_codeOp, a_codeArg, a_codeKind, a_codePlace, a_methodSign, a_methodStart, a_declared, a_cellKind, a_cellValue, a_callReturn, a_pendingLevel, a_pendingPlace, a_pendingMore, a_frameKind, a_frameMore, a_localName) := by
  show wX_execute_46 post (f + 1) (ls_gn 0 (nI i) a_codeOp) (nI s) f_tickLimit f_tokenCount f_outCount 0 f_errorPlace f_lastKind f_lastValue f_codeSize f_methodCount f_methodTokens f_cellCount f_activeCalls (nI i) f_ticksLeft f_state f_pos f_expressionStart f_pendingCount f_frameTop f_localCount a_tokenCode a_tokenValue a_outKind a_outValue a_codeOp a_codeArg a_codeKind a_codePlace a_methodSign a_methodStart a_declared a_cellKind a_cellValue a_callReturn a_pendingLevel a_pendingPlace a_pendingMore a_frameKind a_frameMore a_localName
  rw [ls_gn_1 hi (by rw [ho]; decide)]
  unfold wX_execute_46
  refine br_f (nI_ge (b := 2000000) hs (by decide)) (br_f (by decide) (nm_r (nI_1 i) ⟨vp_in_nI hi (by decide), nm_r (by rw [nI_clamp (by omega), ho]) ?_⟩))
  exact br_f (by decide) (br_f (by decide) (br_f (by decide) (br_f (by decide) (br_f (by decide) (br_f (by decide) (br_f (by decide) (br_f (by decide) (br_f (by decide) (br_f (by decide) (br_f (by decide) (br_f (by decide) (br_f (by decide) (br_f (by decide) (br_f (by decide) (br_f (by decide) (br_f (by decide) (br_t rfl g)))))))))))))))))
set_option maxHeartbeats 200000 in
theorem gx_17 (hi : i < 761) (hs : s < 2000000) (ho : a_codeOp i = 17) (g : wpX_returnValue (ls_XN post f s) (f_tickLimit, f_tokenCount, f_outCount, 0, f_errorPlace, f_lastKind, f_lastValue, f_codeSize, f_methodCount, f_methodTokens, f_cellCount, f_activeCalls, nI (i + 1), f_ticksLeft, f_state, f_pos, f_expressionStart, f_pendingCount, f_frameTop, f_localCount, a_tokenCode, a_tokenValue, a_outKind, a_outValue, a_codeOp, a_codeArg, a_codeKind, a_codePlace, a_methodSign, a_methodStart, a_declared, a_cellKind, a_cellValue, a_callReturn, a_pendingLevel, a_pendingPlace, a_pendingMore, a_frameKind, a_frameMore, a_localName) (nI i)) : ls_XH post (f + 1) s (f_tickLimit, f_tokenCount, f_outCount, 0, f_errorPlace, f_lastKind, f_lastValue, f_codeSize, f_methodCount, f_methodTokens, f_cellCount, f_activeCalls, nI i, f_ticksLeft, f_state, f_pos, f_expressionStart, f_pendingCount, f_frameTop, f_localCount, a_tokenCode, a_tokenValue, a_outKind, a_outValue, a_codeOp, a_codeArg, a_codeKind, a_codePlace, a_methodSign, a_methodStart, a_declared, a_cellKind, a_cellValue, a_callReturn, a_pendingLevel, a_pendingPlace, a_pendingMore, a_frameKind, a_frameMore, a_localName) := by
  show wX_execute_46 post (f + 1) (ls_gn 0 (nI i) a_codeOp) (nI s) f_tickLimit f_tokenCount f_outCount 0 f_errorPlace f_lastKind f_lastValue f_codeSize f_methodCount f_methodTokens f_cellCount f_activeCalls (nI i) f_ticksLeft f_state f_pos f_expressionStart f_pendingCount f_frameTop f_localCount a_tokenCode a_tokenValue a_outKind a_outValue a_codeOp a_codeArg a_codeKind a_codePlace a_methodSign a_methodStart a_declared a_cellKind a_cellValue a_callReturn a_pendingLevel a_pendingPlace a_pendingMore a_frameKind a_frameMore a_localName
  rw [ls_gn_1 hi (by rw [ho]; decide)]
  unfold wX_execute_46
  refine br_f (nI_ge (b := 2000000) hs (by decide)) (br_f (by decide) (nm_r (nI_1 i) ⟨vp_in_nI hi (by decide), nm_r (by rw [nI_clamp (by omega), ho]) ?_⟩))
  exact br_f (by decide) (br_f (by decide) (br_f (by decide) (br_f (by decide) (br_f (by decide) (br_f (by decide) (br_f (by decide) (br_f (by decide) (br_f (by decide) (br_f (by decide) (br_f (by decide) (br_f (by decide) (br_f (by decide) (br_f (by decide) (br_f (by decide) (br_f (by decide) (br_f (by decide) (br_f (by decide) (br_t rfl g))))))))))))))))))
set_option maxHeartbeats 200000 in
theorem gx_18 (hi : i < 761) (hs : s < 2000000) (ho : a_codeOp i = 18) (g : wpX_returnZero (ls_XN post f s) (f_tickLimit, f_tokenCount, f_outCount, 0, f_errorPlace, f_lastKind, f_lastValue, f_codeSize, f_methodCount, f_methodTokens, f_cellCount, f_activeCalls, nI (i + 1), f_ticksLeft, f_state, f_pos, f_expressionStart, f_pendingCount, f_frameTop, f_localCount, a_tokenCode, a_tokenValue, a_outKind, a_outValue, a_codeOp, a_codeArg, a_codeKind, a_codePlace, a_methodSign, a_methodStart, a_declared, a_cellKind, a_cellValue, a_callReturn, a_pendingLevel, a_pendingPlace, a_pendingMore, a_frameKind, a_frameMore, a_localName) (nI i)) : ls_XH post (f + 1) s (f_tickLimit, f_tokenCount, f_outCount, 0, f_errorPlace, f_lastKind, f_lastValue, f_codeSize, f_methodCount, f_methodTokens, f_cellCount, f_activeCalls, nI i, f_ticksLeft, f_state, f_pos, f_expressionStart, f_pendingCount, f_frameTop, f_localCount, a_tokenCode, a_tokenValue, a_outKind, a_outValue, a_codeOp, a_codeArg, a_codeKind, a_codePlace, a_methodSign, a_methodStart, a_declared, a_cellKind, a_cellValue, a_callReturn, a_pendingLevel, a_pendingPlace, a_pendingMore, a_frameKind, a_frameMore, a_localName) := by
  show wX_execute_46 post (f + 1) (ls_gn 0 (nI i) a_codeOp) (nI s) f_tickLimit f_tokenCount f_outCount 0 f_errorPlace f_lastKind f_lastValue f_codeSize f_methodCount f_methodTokens f_cellCount f_activeCalls (nI i) f_ticksLeft f_state f_pos f_expressionStart f_pendingCount f_frameTop f_localCount a_tokenCode a_tokenValue a_outKind a_outValue a_codeOp a_codeArg a_codeKind a_codePlace a_methodSign a_methodStart a_declared a_cellKind a_cellValue a_callReturn a_pendingLevel a_pendingPlace a_pendingMore a_frameKind a_frameMore a_localName
  rw [ls_gn_1 hi (by rw [ho]; decide)]
  unfold wX_execute_46
  refine br_f (nI_ge (b := 2000000) hs (by decide)) (br_f (by decide) (nm_r (nI_1 i) ⟨vp_in_nI hi (by decide), nm_r (by rw [nI_clamp (by omega), ho]) ?_⟩))
  exact br_f (by decide) (br_f (by decide) (br_f (by decide) (br_f (by decide) (br_f (by decide) (br_f (by decide) (br_f (by decide) (br_f (by decide) (br_f (by decide) (br_f (by decide) (br_f (by decide) (br_f (by decide) (br_f (by decide) (br_f (by decide) (br_f (by decide) (br_f (by decide) (br_f (by decide) (br_f (by decide) (br_f (by decide) (br_t rfl g)))))))))))))))))))
set_option maxHeartbeats 200000 in
theorem gx_19 (hi : i < 761) (hs : s < 2000000) (ho : a_codeOp i = 19) (g : wpX_putZero (ls_XN post f s) (f_tickLimit, f_tokenCount, f_outCount, 0, f_errorPlace, f_lastKind, f_lastValue, f_codeSize, f_methodCount, f_methodTokens, f_cellCount, f_activeCalls, nI (i + 1), f_ticksLeft, f_state, f_pos, f_expressionStart, f_pendingCount, f_frameTop, f_localCount, a_tokenCode, a_tokenValue, a_outKind, a_outValue, a_codeOp, a_codeArg, a_codeKind, a_codePlace, a_methodSign, a_methodStart, a_declared, a_cellKind, a_cellValue, a_callReturn, a_pendingLevel, a_pendingPlace, a_pendingMore, a_frameKind, a_frameMore, a_localName) (nI i)) : ls_XH post (f + 1) s (f_tickLimit, f_tokenCount, f_outCount, 0, f_errorPlace, f_lastKind, f_lastValue, f_codeSize, f_methodCount, f_methodTokens, f_cellCount, f_activeCalls, nI i, f_ticksLeft, f_state, f_pos, f_expressionStart, f_pendingCount, f_frameTop, f_localCount, a_tokenCode, a_tokenValue, a_outKind, a_outValue, a_codeOp, a_codeArg, a_codeKind, a_codePlace, a_methodSign, a_methodStart, a_declared, a_cellKind, a_cellValue, a_callReturn, a_pendingLevel, a_pendingPlace, a_pendingMore, a_frameKind, a_frameMore, a_localName) := by
  show wX_execute_46 post (f + 1) (ls_gn 0 (nI i) a_codeOp) (nI s) f_tickLimit f_tokenCount f_outCount 0 f_errorPlace f_lastKind f_lastValue f_codeSize f_methodCount f_methodTokens f_cellCount f_activeCalls (nI i) f_ticksLeft f_state f_pos f_expressionStart f_pendingCount f_frameTop f_localCount a_tokenCode a_tokenValue a_outKind a_outValue a_codeOp a_codeArg a_codeKind a_codePlace a_methodSign a_methodStart a_declared a_cellKind a_cellValue a_callReturn a_pendingLevel a_pendingPlace a_pendingMore a_frameKind a_frameMore a_localName
  rw [ls_gn_1 hi (by rw [ho]; decide)]
  unfold wX_execute_46
  refine br_f (nI_ge (b := 2000000) hs (by decide)) (br_f (by decide) (nm_r (nI_1 i) ⟨vp_in_nI hi (by decide), nm_r (by rw [nI_clamp (by omega), ho]) ?_⟩))
  exact br_f (by decide) (br_f (by decide) (br_f (by decide) (br_f (by decide) (br_f (by decide) (br_f (by decide) (br_f (by decide) (br_f (by decide) (br_f (by decide) (br_f (by decide) (br_f (by decide) (br_f (by decide) (br_f (by decide) (br_f (by decide) (br_f (by decide) (br_f (by decide) (br_f (by decide) (br_f (by decide) (br_f (by decide) (br_f (by decide) (br_t rfl g))))))))))))))))))))
set_option maxHeartbeats 200000 in
theorem gx_20 (hi : i < 761) (hs : s < 2000000) (ho : a_codeOp i = 20) (g : wpX_declare (ls_XN post f s) (f_tickLimit, f_tokenCount, f_outCount, 0, f_errorPlace, f_lastKind, f_lastValue, f_codeSize, f_methodCount, f_methodTokens, f_cellCount, f_activeCalls, nI (i + 1), f_ticksLeft, f_state, f_pos, f_expressionStart, f_pendingCount, f_frameTop, f_localCount, a_tokenCode, a_tokenValue, a_outKind, a_outValue, a_codeOp, a_codeArg, a_codeKind, a_codePlace, a_methodSign, a_methodStart, a_declared, a_cellKind, a_cellValue, a_callReturn, a_pendingLevel, a_pendingPlace, a_pendingMore, a_frameKind, a_frameMore, a_localName) (nI i)) : ls_XH post (f + 1) s (f_tickLimit, f_tokenCount, f_outCount, 0, f_errorPlace, f_lastKind, f_lastValue, f_codeSize, f_methodCount, f_methodTokens, f_cellCount, f_activeCalls, nI i, f_ticksLeft, f_state, f_pos, f_expressionStart, f_pendingCount, f_frameTop, f_localCount, a_tokenCode, a_tokenValue, a_outKind, a_outValue, a_codeOp, a_codeArg, a_codeKind, a_codePlace, a_methodSign, a_methodStart, a_declared, a_cellKind, a_cellValue, a_callReturn, a_pendingLevel, a_pendingPlace, a_pendingMore, a_frameKind, a_frameMore, a_localName) := by
  show wX_execute_46 post (f + 1) (ls_gn 0 (nI i) a_codeOp) (nI s) f_tickLimit f_tokenCount f_outCount 0 f_errorPlace f_lastKind f_lastValue f_codeSize f_methodCount f_methodTokens f_cellCount f_activeCalls (nI i) f_ticksLeft f_state f_pos f_expressionStart f_pendingCount f_frameTop f_localCount a_tokenCode a_tokenValue a_outKind a_outValue a_codeOp a_codeArg a_codeKind a_codePlace a_methodSign a_methodStart a_declared a_cellKind a_cellValue a_callReturn a_pendingLevel a_pendingPlace a_pendingMore a_frameKind a_frameMore a_localName
  rw [ls_gn_1 hi (by rw [ho]; decide)]
  unfold wX_execute_46
  refine br_f (nI_ge (b := 2000000) hs (by decide)) (br_f (by decide) (nm_r (nI_1 i) ⟨vp_in_nI hi (by decide), nm_r (by rw [nI_clamp (by omega), ho]) ?_⟩))
  exact br_f (by decide) (br_f (by decide) (br_f (by decide) (br_f (by decide) (br_f (by decide) (br_f (by decide) (br_f (by decide) (br_f (by decide) (br_f (by decide) (br_f (by decide) (br_f (by decide) (br_f (by decide) (br_f (by decide) (br_f (by decide) (br_f (by decide) (br_f (by decide) (br_f (by decide) (br_f (by decide) (br_f (by decide) (br_f (by decide) (br_f (by decide) (br_t rfl g)))))))))))))))))))))
set_option maxHeartbeats 200000 in
theorem gx_21 (hi : i < 761) (hs : s < 2000000) (ho : a_codeOp i = 21) (g : wpX_define (ls_XN post f s) (f_tickLimit, f_tokenCount, f_outCount, 0, f_errorPlace, f_lastKind, f_lastValue, f_codeSize, f_methodCount, f_methodTokens, f_cellCount, f_activeCalls, nI (i + 1), f_ticksLeft, f_state, f_pos, f_expressionStart, f_pendingCount, f_frameTop, f_localCount, a_tokenCode, a_tokenValue, a_outKind, a_outValue, a_codeOp, a_codeArg, a_codeKind, a_codePlace, a_methodSign, a_methodStart, a_declared, a_cellKind, a_cellValue, a_callReturn, a_pendingLevel, a_pendingPlace, a_pendingMore, a_frameKind, a_frameMore, a_localName) (nI i)) : ls_XH post (f + 1) s (f_tickLimit, f_tokenCount, f_outCount, 0, f_errorPlace, f_lastKind, f_lastValue, f_codeSize, f_methodCount, f_methodTokens, f_cellCount, f_activeCalls, nI i, f_ticksLeft, f_state, f_pos, f_expressionStart, f_pendingCount, f_frameTop, f_localCount, a_tokenCode, a_tokenValue, a_outKind, a_outValue, a_codeOp, a_codeArg, a_codeKind, a_codePlace, a_methodSign, a_methodStart, a_declared, a_cellKind, a_cellValue, a_callReturn, a_pendingLevel, a_pendingPlace, a_pendingMore, a_frameKind, a_frameMore, a_localName) := by
  show wX_execute_46 post (f + 1) (ls_gn 0 (nI i) a_codeOp) (nI s) f_tickLimit f_tokenCount f_outCount 0 f_errorPlace f_lastKind f_lastValue f_codeSize f_methodCount f_methodTokens f_cellCount f_activeCalls (nI i) f_ticksLeft f_state f_pos f_expressionStart f_pendingCount f_frameTop f_localCount a_tokenCode a_tokenValue a_outKind a_outValue a_codeOp a_codeArg a_codeKind a_codePlace a_methodSign a_methodStart a_declared a_cellKind a_cellValue a_callReturn a_pendingLevel a_pendingPlace a_pendingMore a_frameKind a_frameMore a_localName
  rw [ls_gn_1 hi (by rw [ho]; decide)]
  unfold wX_execute_46
  refine br_f (nI_ge (b := 2000000) hs (by decide)) (br_f (by decide) (nm_r (nI_1 i) ⟨vp_in_nI hi (by decide), nm_r (by rw [nI_clamp (by omega), ho]) ?_⟩))
  exact br_f (by decide) (br_f (by decide) (br_f (by decide) (br_f (by decide) (br_f (by decide) (br_f (by decide) (br_f (by decide) (br_f (by decide) (br_f (by decide) (br_f (by decide) (br_f (by decide) (br_f (by decide) (br_f (by decide) (br_f (by decide) (br_f (by decide) (br_f (by decide) (br_f (by decide) (br_f (by decide) (br_f (by decide) (br_f (by decide) (br_f (by decide) (br_f (by decide) (br_t rfl g))))))))))))))))))))))
set_option maxHeartbeats 200000 in
theorem gx_12 (hi : i < 761) (hs : s < 2000000) (ho : a_codeOp i = 12) (g : wpX_popCell (fun _ => ls_XN post f s) (f_tickLimit, f_tokenCount, f_outCount, 0, f_errorPlace, f_lastKind, f_lastValue, f_codeSize, f_methodCount, f_methodTokens, f_cellCount, f_activeCalls, nI (i + 1), f_ticksLeft, f_state, f_pos, f_expressionStart, f_pendingCount, f_frameTop, f_localCount, a_tokenCode, a_tokenValue, a_outKind, a_outValue, a_codeOp, a_codeArg, a_codeKind, a_codePlace, a_methodSign, a_methodStart, a_declared, a_cellKind, a_cellValue, a_callReturn, a_pendingLevel, a_pendingPlace, a_pendingMore, a_frameKind, a_frameMore, a_localName)) : ls_XH post (f + 1) s (f_tickLimit, f_tokenCount, f_outCount, 0, f_errorPlace, f_lastKind, f_lastValue, f_codeSize, f_methodCount, f_methodTokens, f_cellCount, f_activeCalls, nI i, f_ticksLeft, f_state, f_pos, f_expressionStart, f_pendingCount, f_frameTop, f_localCount, a_tokenCode, a_tokenValue, a_outKind, a_outValue, a_codeOp, a_codeArg, a_codeKind, a_codePlace, a_methodSign, a_methodStart, a_declared, a_cellKind, a_cellValue, a_callReturn, a_pendingLevel, a_pendingPlace, a_pendingMore, a_frameKind, a_frameMore, a_localName) := by
  show wX_execute_46 post (f + 1) (ls_gn 0 (nI i) a_codeOp) (nI s) f_tickLimit f_tokenCount f_outCount 0 f_errorPlace f_lastKind f_lastValue f_codeSize f_methodCount f_methodTokens f_cellCount f_activeCalls (nI i) f_ticksLeft f_state f_pos f_expressionStart f_pendingCount f_frameTop f_localCount a_tokenCode a_tokenValue a_outKind a_outValue a_codeOp a_codeArg a_codeKind a_codePlace a_methodSign a_methodStart a_declared a_cellKind a_cellValue a_callReturn a_pendingLevel a_pendingPlace a_pendingMore a_frameKind a_frameMore a_localName
  rw [ls_gn_1 hi (by rw [ho]; decide)]
  unfold wX_execute_46
  refine br_f (nI_ge (b := 2000000) hs (by decide)) (br_f (by decide) (nm_r (nI_1 i) ⟨vp_in_nI hi (by decide), nm_r (by rw [nI_clamp (by omega), ho]) ?_⟩))
  exact br_f (by decide) (br_f (by decide) (br_f (by decide) (br_f (by decide) (br_f (by decide) (br_f (by decide) (br_f (by decide) (br_f (by decide) (br_f (by decide) (br_f (by decide) (br_f (by decide) (br_f (by decide) (br_f (by decide) (br_t rfl g)))))))))))))
set_option maxHeartbeats 200000 in
theorem gx_14 (hi : i < 761) (hs : s < 2000000) (ho : a_codeOp i = 14) (g : ls_XN post f s (f_tickLimit, f_tokenCount, f_outCount, 0, f_errorPlace, f_lastKind, f_lastValue, f_codeSize, f_methodCount, f_methodTokens, f_cellCount, f_activeCalls, nI i + a_codeArg i, f_ticksLeft, f_state, f_pos, f_expressionStart, f_pendingCount, f_frameTop, f_localCount, a_tokenCode, a_tokenValue, a_outKind, a_outValue, a_codeOp, a_codeArg, a_codeKind, a_codePlace, a_methodSign, a_methodStart, a_declared, a_cellKind, a_cellValue, a_callReturn, a_pendingLevel, a_pendingPlace, a_pendingMore, a_frameKind, a_frameMore, a_localName)) : ls_XH post (f + 1) s (f_tickLimit, f_tokenCount, f_outCount, 0, f_errorPlace, f_lastKind, f_lastValue, f_codeSize, f_methodCount, f_methodTokens, f_cellCount, f_activeCalls, nI i, f_ticksLeft, f_state, f_pos, f_expressionStart, f_pendingCount, f_frameTop, f_localCount, a_tokenCode, a_tokenValue, a_outKind, a_outValue, a_codeOp, a_codeArg, a_codeKind, a_codePlace, a_methodSign, a_methodStart, a_declared, a_cellKind, a_cellValue, a_callReturn, a_pendingLevel, a_pendingPlace, a_pendingMore, a_frameKind, a_frameMore, a_localName) := by
  show wX_execute_46 post (f + 1) (ls_gn 0 (nI i) a_codeOp) (nI s) f_tickLimit f_tokenCount f_outCount 0 f_errorPlace f_lastKind f_lastValue f_codeSize f_methodCount f_methodTokens f_cellCount f_activeCalls (nI i) f_ticksLeft f_state f_pos f_expressionStart f_pendingCount f_frameTop f_localCount a_tokenCode a_tokenValue a_outKind a_outValue a_codeOp a_codeArg a_codeKind a_codePlace a_methodSign a_methodStart a_declared a_cellKind a_cellValue a_callReturn a_pendingLevel a_pendingPlace a_pendingMore a_frameKind a_frameMore a_localName
  rw [ls_gn_1 hi (by rw [ho]; decide)]
  unfold wX_execute_46
  refine br_f (nI_ge (b := 2000000) hs (by decide)) (br_f (by decide) (nm_r (nI_1 i) ⟨vp_in_nI hi (by decide), nm_r (by rw [nI_clamp (by omega), ho]) ?_⟩))
  exact br_f (by decide) (br_f (by decide) (br_f (by decide) (br_f (by decide) (br_f (by decide) (br_f (by decide) (br_f (by decide) (br_f (by decide) (br_f (by decide) (br_f (by decide) (br_f (by decide) (br_f (by decide) (br_f (by decide) (br_f (by decide) (br_f (by decide) (br_t rfl ⟨vp_in_nI hi (by decide), nm_r (by rw [nI_clamp (by omega)]) g⟩)))))))))))))))
end
end
section
/-! The reference's loop, and its small methods -/
def ls_YH (post : SY → Prop) (f s : Nat) (v : SY) : Prop := match v with
  | (f_most, f_n, f_stored, f_nm, f_nEnv, f_base, f_ns, f_no, f_nc, f_pc, f_mode, f_err, f_errAt, f_ticks, f_calls, f_outs, f_resK, f_part, f_resV, f_cnt, f_full, f_flag, f_need, a_tk, a_tv, a_tp, a_mName, a_mKind, a_mCount, a_mPar, a_mAt, a_vName, a_vDecl, a_vKind, a_vVal, a_sk, a_sv, a_oKind, a_oAt, a_oArgs, a_cKind, a_cA, a_cB, a_outK, a_outV) => wY_execute_52 post f (nI s) f_most f_n f_stored f_nm f_nEnv f_base f_ns f_no f_nc f_pc f_mode f_err f_errAt f_ticks f_calls f_outs f_resK f_part f_resV f_cnt f_full f_flag f_need a_tk a_tv a_tp a_mName a_mKind a_mCount a_mPar a_mAt a_vName a_vDecl a_vKind a_vVal a_sk a_sv a_oKind a_oAt a_oArgs a_cKind a_cA a_cB a_outK a_outV
def ls_LN (vn : Nat → Int32) (b : Nat) : List Nat → Prop
  | [] => True
  | x :: r => vn (b + r.length) = nI (x + 54) ∧ ls_LN vn b r
section
variable {f_most f_n f_stored f_nm f_nEnv f_base f_ns f_no f_nc f_pc f_mode f_err f_errAt f_ticks f_calls f_outs f_resK f_part f_cnt f_full f_flag f_need : Int32}
variable {f_resV : Int64}
variable {a_tk a_tp a_mName a_mKind a_mCount a_mPar a_mAt a_vName a_vDecl a_vKind a_sk a_oKind a_oAt a_oArgs a_cKind a_cA a_cB a_outK : Nat → Int32}
variable {a_tv a_vVal a_sv a_outV : Nat → Int64}
variable {post : SY → Prop} {f s : Nat}
set_option maxHeartbeats 200000 in
theorem gy_93 {md : Nat} (hm : md < 4)
    (g0 : md = 0 → wpY_statement (ls_YH post f (s + 1)) (f_most, f_n, f_stored, f_nm, f_nEnv, f_base, f_ns, f_no, f_nc, f_pc, nI md, f_err, f_errAt, f_ticks, f_calls, f_outs, f_resK, f_part, f_resV, f_cnt, f_full, f_flag, f_need, a_tk, a_tv, a_tp, a_mName, a_mKind, a_mCount, a_mPar, a_mAt, a_vName, a_vDecl, a_vKind, a_vVal, a_sk, a_sv, a_oKind, a_oAt, a_oArgs, a_cKind, a_cA, a_cB, a_outK, a_outV))
    (g1 : md = 1 → wpY_expr (ls_YH post f (s + 1)) (f_most, f_n, f_stored, f_nm, f_nEnv, f_base, f_ns, f_no, f_nc, f_pc, nI md, f_err, f_errAt, f_ticks, f_calls, f_outs, f_resK, f_part, f_resV, f_cnt, f_full, f_flag, f_need, a_tk, a_tv, a_tp, a_mName, a_mKind, a_mCount, a_mPar, a_mAt, a_vName, a_vDecl, a_vKind, a_vVal, a_sk, a_sv, a_oKind, a_oAt, a_oArgs, a_cKind, a_cA, a_cB, a_outK, a_outV))
    (g2 : md = 2 → wpY_value (ls_YH post f (s + 1)) (f_most, f_n, f_stored, f_nm, f_nEnv, f_base, f_ns, f_no, f_nc, f_pc, nI md, f_err, f_errAt, f_ticks, f_calls, f_outs, f_resK, f_part, f_resV, f_cnt, f_full, f_flag, f_need, a_tk, a_tv, a_tp, a_mName, a_mKind, a_mCount, a_mPar, a_mAt, a_vName, a_vDecl, a_vKind, a_vVal, a_sk, a_sv, a_oKind, a_oAt, a_oArgs, a_cKind, a_cA, a_cB, a_outK, a_outV))
    (g3 : md = 3 → wpY_after (ls_YH post f (s + 1)) (f_most, f_n, f_stored, f_nm, f_nEnv, f_base, f_ns, f_no, f_nc, f_pc, nI md, f_err, f_errAt, f_ticks, f_calls, f_outs, f_resK, f_part, f_resV, f_cnt, f_full, f_flag, f_need, a_tk, a_tv, a_tp, a_mName, a_mKind, a_mCount, a_mPar, a_mAt, a_vName, a_vDecl, a_vKind, a_vVal, a_sk, a_sv, a_oKind, a_oAt, a_oArgs, a_cKind, a_cA, a_cB, a_outK, a_outV)) : wY_execute_93 post (wY_execute_52 post f) (nI (s + 1)) f_most f_n f_stored f_nm f_nEnv f_base f_ns f_no f_nc f_pc (nI md) f_err f_errAt f_ticks f_calls f_outs f_resK f_part f_resV f_cnt f_full f_flag f_need a_tk a_tv a_tp a_mName a_mKind a_mCount a_mPar a_mAt a_vName a_vDecl a_vKind a_vVal a_sk a_sv a_oKind a_oAt a_oArgs a_cKind a_cA a_cB a_outK a_outV := by
  unfold wY_execute_93
  rcases (show md = 0 ∨ md = 1 ∨ md = 2 ∨ md = 3 by omega) with rfl | rfl | rfl | rfl
  · exact br_t rfl (g0 rfl)
  · exact br_f (by decide) (br_t rfl (g1 rfl))
  · exact br_f (by decide) (br_f (by decide) (br_t rfl (g2 rfl)))
  · exact br_f (by decide) (br_f (by decide) (br_f (by decide) (g3 rfl)))
set_option maxHeartbeats 200000 in
theorem gy_go {md nc pc n : Nat} (hs : s < 2000000) (hm : md < 4) (hb : nc < 1000 ∧ pc < 1000 ∧ n < 1000) (hg : md = 0 → 0 < nc ∨ pc < n)
    (g0 : md = 0 → wpY_statement (ls_YH post f (s + 1)) (f_most, nI n, f_stored, f_nm, f_nEnv, f_base, f_ns, f_no, nI nc, nI pc, nI md, 0, f_errAt, f_ticks, f_calls, f_outs, f_resK, f_part, f_resV, f_cnt, f_full, f_flag, f_need, a_tk, a_tv, a_tp, a_mName, a_mKind, a_mCount, a_mPar, a_mAt, a_vName, a_vDecl, a_vKind, a_vVal, a_sk, a_sv, a_oKind, a_oAt, a_oArgs, a_cKind, a_cA, a_cB, a_outK, a_outV))
    (g1 : md = 1 → wpY_expr (ls_YH post f (s + 1)) (f_most, nI n, f_stored, f_nm, f_nEnv, f_base, f_ns, f_no, nI nc, nI pc, nI md, 0, f_errAt, f_ticks, f_calls, f_outs, f_resK, f_part, f_resV, f_cnt, f_full, f_flag, f_need, a_tk, a_tv, a_tp, a_mName, a_mKind, a_mCount, a_mPar, a_mAt, a_vName, a_vDecl, a_vKind, a_vVal, a_sk, a_sv, a_oKind, a_oAt, a_oArgs, a_cKind, a_cA, a_cB, a_outK, a_outV))
    (g2 : md = 2 → wpY_value (ls_YH post f (s + 1)) (f_most, nI n, f_stored, f_nm, f_nEnv, f_base, f_ns, f_no, nI nc, nI pc, nI md, 0, f_errAt, f_ticks, f_calls, f_outs, f_resK, f_part, f_resV, f_cnt, f_full, f_flag, f_need, a_tk, a_tv, a_tp, a_mName, a_mKind, a_mCount, a_mPar, a_mAt, a_vName, a_vDecl, a_vKind, a_vVal, a_sk, a_sv, a_oKind, a_oAt, a_oArgs, a_cKind, a_cA, a_cB, a_outK, a_outV))
    (g3 : md = 3 → wpY_after (ls_YH post f (s + 1)) (f_most, nI n, f_stored, f_nm, f_nEnv, f_base, f_ns, f_no, nI nc, nI pc, nI md, 0, f_errAt, f_ticks, f_calls, f_outs, f_resK, f_part, f_resV, f_cnt, f_full, f_flag, f_need, a_tk, a_tv, a_tp, a_mName, a_mKind, a_mCount, a_mPar, a_mAt, a_vName, a_vDecl, a_vKind, a_vVal, a_sk, a_sv, a_oKind, a_oAt, a_oArgs, a_cKind, a_cA, a_cB, a_outK, a_outV)) : ls_YH post (f + 1) s (f_most, nI n, f_stored, f_nm, f_nEnv, f_base, f_ns, f_no, nI nc, nI pc, nI md, 0, f_errAt, f_ticks, f_calls, f_outs, f_resK, f_part, f_resV, f_cnt, f_full, f_flag, f_need, a_tk, a_tv, a_tp, a_mName, a_mKind, a_mCount, a_mPar, a_mAt, a_vName, a_vDecl, a_vKind, a_vVal, a_sk, a_sv, a_oKind, a_oAt, a_oArgs, a_cKind, a_cA, a_cB, a_outK, a_outV) := by
  show wY_execute_52 post (f + 1) (nI s) f_most (nI n) f_stored f_nm f_nEnv f_base f_ns f_no (nI nc) (nI pc) (nI md) 0 f_errAt f_ticks f_calls f_outs f_resK f_part f_resV f_cnt f_full f_flag f_need a_tk a_tv a_tp a_mName a_mKind a_mCount a_mPar a_mAt a_vName a_vDecl a_vKind a_vVal a_sk a_sv a_oKind a_oAt a_oArgs a_cKind a_cA a_cB a_outK a_outV
  unfold wY_execute_52
  refine br_t rfl (nm_r (nI_1 s) (br_f (nI_ge (b := 2000000) hs (by decide)) ?_))
  rcases (show md = 0 ∨ md ≠ 0 by omega) with h0 | h0
  · subst h0
    refine br_t rfl ?_
    by_cases c : 0 < nc
    · exact br_t (nI_lt (a := 0) c (by omega)) (gy_93 hm g0 g1 g2 g3)
    · refine br_f (nI_nlt (a := 0) (b := nc) (by omega) (by decide)) (br_f (nI_ge (a := pc) (b := n) ?_ (by omega)) (gy_93 hm g0 g1 g2 g3))
      rcases hg rfl with h | h
      · omega
      · exact h
  · exact br_f (fun q => h0 ((nI_eq (b := 0) (by omega) (by decide)).mp q)) (gy_93 hm g0 g1 g2 g3)
set_option maxHeartbeats 200000 in
theorem gy_err (h : f_err ≠ 0) (hp : post (f_most, f_n, f_stored, f_nm, f_nEnv, f_base, f_ns, f_no, f_nc, f_pc, f_mode, f_err, f_errAt, f_ticks, f_calls, f_outs, f_resK, f_part, f_resV, f_cnt, f_full, f_flag, f_need, a_tk, a_tv, a_tp, a_mName, a_mKind, a_mCount, a_mPar, a_mAt, a_vName, a_vDecl, a_vKind, a_vVal, a_sk, a_sv, a_oKind, a_oAt, a_oArgs, a_cKind, a_cA, a_cB, a_outK, a_outV)) : ls_YH post (f + 1) s (f_most, f_n, f_stored, f_nm, f_nEnv, f_base, f_ns, f_no, f_nc, f_pc, f_mode, f_err, f_errAt, f_ticks, f_calls, f_outs, f_resK, f_part, f_resV, f_cnt, f_full, f_flag, f_need, a_tk, a_tv, a_tp, a_mName, a_mKind, a_mCount, a_mPar, a_mAt, a_vName, a_vDecl, a_vKind, a_vVal, a_sk, a_sv, a_oKind, a_oAt, a_oArgs, a_cKind, a_cA, a_cB, a_outK, a_outV) := by
  show wY_execute_52 post (f + 1) (nI s) f_most f_n f_stored f_nm f_nEnv f_base f_ns f_no f_nc f_pc f_mode f_err f_errAt f_ticks f_calls f_outs f_resK f_part f_resV f_cnt f_full f_flag f_need a_tk a_tv a_tp a_mName a_mKind a_mCount a_mPar a_mAt a_vName a_vDecl a_vKind a_vVal a_sk a_sv a_oKind a_oAt a_oArgs a_cKind a_cA a_cB a_outK a_outV
  unfold wY_execute_52
  exact br_f h hp
set_option maxHeartbeats 200000 in
theorem gy_end {pc n : Nat} (hb : n < 1000 ∧ pc < 1000) (h : n ≤ pc) (hp : post (f_most, nI n, f_stored, f_nm, f_nEnv, f_base, f_ns, f_no, 0, nI pc, 0, 0, f_errAt, f_ticks, f_calls, f_outs, f_resK, f_part, f_resV, f_cnt, f_full, f_flag, f_need, a_tk, a_tv, a_tp, a_mName, a_mKind, a_mCount, a_mPar, a_mAt, a_vName, a_vDecl, a_vKind, a_vVal, a_sk, a_sv, a_oKind, a_oAt, a_oArgs, a_cKind, a_cA, a_cB, a_outK, a_outV)) : ls_YH post (f + 1) s (f_most, nI n, f_stored, f_nm, f_nEnv, f_base, f_ns, f_no, 0, nI pc, 0, 0, f_errAt, f_ticks, f_calls, f_outs, f_resK, f_part, f_resV, f_cnt, f_full, f_flag, f_need, a_tk, a_tv, a_tp, a_mName, a_mKind, a_mCount, a_mPar, a_mAt, a_vName, a_vDecl, a_vKind, a_vVal, a_sk, a_sv, a_oKind, a_oAt, a_oArgs, a_cKind, a_cA, a_cB, a_outK, a_outV) := by
  show wY_execute_52 post (f + 1) (nI s) f_most (nI n) f_stored f_nm f_nEnv f_base f_ns f_no 0 (nI pc) 0 0 f_errAt f_ticks f_calls f_outs f_resK f_part f_resV f_cnt f_full f_flag f_need a_tk a_tv a_tp a_mName a_mKind a_mCount a_mPar a_mAt a_vName a_vDecl a_vKind a_vVal a_sk a_sv a_oKind a_oAt a_oArgs a_cKind a_cA a_cB a_outK a_outV
  unfold wY_execute_52
  refine br_t rfl (nm_r (nI_1 s) (br_c (fun _ => hp) (fun _ => ?_)))
  exact br_t rfl (br_f (by decide) (br_t (nI_le h (by omega)) hp))
set_option maxHeartbeats 200000 in
theorem hy_tick {tc mt p : Nat} (hm : mt < 1000) (hp : p < 384) (ht : tc ≤ mt) (h1 : tc < mt → post (nI mt, f_n, f_stored, f_nm, f_nEnv, f_base, f_ns, f_no, f_nc, f_pc, f_mode, f_err, f_errAt, nI (tc + 1), f_calls, f_outs, f_resK, f_part, f_resV, f_cnt, f_full, f_flag, f_need, a_tk, a_tv, a_tp, a_mName, a_mKind, a_mCount, a_mPar, a_mAt, a_vName, a_vDecl, a_vKind, a_vVal, a_sk, a_sv, a_oKind, a_oAt, a_oArgs, a_cKind, a_cA, a_cB, a_outK, a_outV)) (h0 : tc = mt → post (nI mt, f_n, f_stored, f_nm, f_nEnv, f_base, f_ns, f_no, f_nc, f_pc, f_mode, 9, ls_pl a_tp p, nI tc, f_calls, f_outs, f_resK, f_part, f_resV, f_cnt, f_full, f_flag, f_need, a_tk, a_tv, a_tp, a_mName, a_mKind, a_mCount, a_mPar, a_mAt, a_vName, a_vDecl, a_vKind, a_vVal, a_sk, a_sv, a_oKind, a_oAt, a_oArgs, a_cKind, a_cA, a_cB, a_outK, a_outV)) : wpY_tick post (nI mt, f_n, f_stored, f_nm, f_nEnv, f_base, f_ns, f_no, f_nc, f_pc, f_mode, f_err, f_errAt, nI tc, f_calls, f_outs, f_resK, f_part, f_resV, f_cnt, f_full, f_flag, f_need, a_tk, a_tv, a_tp, a_mName, a_mKind, a_mCount, a_mPar, a_mAt, a_vName, a_vDecl, a_vKind, a_vVal, a_sk, a_sv, a_oKind, a_oAt, a_oArgs, a_cKind, a_cA, a_cB, a_outK, a_outV) (nI p) := by
  unfold wpY_tick
  dsimp only
  by_cases e : tc = mt
  · subst e
    exact br_t rfl (hy_fail hp (h0 rfl))
  · exact br_f (fun q => e ((nI_eq (by omega) (by omega)).mp q)) (nm_r (nI_1 tc) (h1 (by omega)))
set_option maxHeartbeats 200000 in
theorem ls_pm1 {b : Nat} (h : b < 1000) : nI b - 1 < nI b := by
  cases b with
  | zero => decide
  | succ b => rw [nI_pred]; exact nI_lt (by omega) (by omega)
set_option maxHeartbeats 200000 in
theorem hy_variable {q : Int32 → Prop} {L : List Nat} {b nm : Nat} (hnm : nm < 16) (hL : ∀ x ∈ L, x < 16) (hb : b + L.length ≤ 80) (hN : ls_LN a_vName b L)
    (h1 : ∀ j, ls_addr L nm = 16 + j → j < L.length → q (nI (b + j)))
    (h2 : ls_addr L nm = nm → 0 ≤ a_vDecl (80 + nm) → q (nI (80 + nm)))
    (h3 : ls_addr L nm = nm → ¬ 0 ≤ a_vDecl (80 + nm) → q (-1)) : wpY_variable q (f_most, f_n, f_stored, f_nm, nI (b + L.length), nI b, f_ns, f_no, f_nc, f_pc, f_mode, f_err, f_errAt, f_ticks, f_calls, f_outs, f_resK, f_part, f_resV, f_cnt, f_full, f_flag, f_need, a_tk, a_tv, a_tp, a_mName, a_mKind, a_mCount, a_mPar, a_mAt, a_vName, a_vDecl, a_vKind, a_vVal, a_sk, a_sv, a_oKind, a_oAt, a_oArgs, a_cKind, a_cA, a_cB, a_outK, a_outV) (nI (nm + 54)) := by
  unfold wpY_variable
  dsimp only
  have K : ∀ (M : List Nat) (fu : Nat) (ne : Int32), M.length < fu → b + M.length ≤ 80 → (∀ x ∈ M, x < 16) → ls_LN a_vName b M → (∀ j, ls_addr M nm = 16 + j → j < M.length → q (nI (b + j))) → (ls_addr M nm = nm → 0 ≤ a_vDecl (80 + nm) → q (nI (80 + nm))) → (ls_addr M nm = nm → ¬ 0 ≤ a_vDecl (80 + nm) → q (-1)) → wY_variable_7 q (nI (nm + 54)) f_most f_n f_stored f_nm ne (nI b) f_ns f_no f_nc f_pc f_mode f_err f_errAt f_ticks f_calls f_outs f_resK f_part f_resV f_cnt f_full f_flag f_need a_tk a_tv a_tp a_mName a_mKind a_mCount a_mPar a_mAt a_vName a_vDecl a_vKind a_vVal a_sk a_sv a_oKind a_oAt a_oArgs a_cKind a_cA a_cB a_outK a_outV fu (nI (b + M.length) - 1) := by
    intro M
    induction M with
    | nil =>
      intro fu ne hf hb' _ _ _ h2 h3
      obtain ⟨fu', rfl⟩ : ∃ fu', fu = fu' + 1 := ⟨fu - 1, by omega⟩
      unfold wY_variable_7
      refine br_t (ls_pm1 (by omega)) ?_
      rw [show (26 : Int32) = nI 26 from rfl, nI_add, show 26 + (nm + 54) = 80 + nm by omega, nI_clamp (by omega)]
      refine ⟨vp_in_nI (by omega) (by decide), br_c (fun g => h2 rfl g) (fun g => h3 rfl g)⟩
    | cons x r ih =>
      intro fu ne hf hb' hM hN h1 h2 h3
      obtain ⟨fu', rfl⟩ : ∃ fu', fu = fu' + 1 := ⟨fu - 1, by omega⟩
      rw [List.length_cons] at hf hb'
      rw [List.length_cons, show b + (r.length + 1) = (b + r.length) + 1 by omega, nI_pred]
      unfold wY_variable_7
      obtain ⟨n1, n2⟩ := hN
      have hx := hM x (List.mem_cons_self ..)
      refine br_f (nI_nlt (by omega) (by omega)) ⟨vp_in_nI (by omega) (by decide), ?_⟩
      rw [nI_clamp (by omega), n1]
      by_cases e : x = nm
      · subst e
        refine br_t rfl (h1 r.length ?_ (by rw [List.length_cons]; omega))
        show (if x = x then _ else _) = _
        rw [if_pos rfl]
      · have ea : ls_addr (x :: r) nm = ls_addr r nm := by
          show (if x = nm then _ else _) = _
          rw [if_neg e]
        refine br_f (fun g => e (by have := (nI_eq (a := x + 54) (b := nm + 54) (by omega) (by omega)).mp g; omega)) ?_
        refine nm_r (e' := nI (b + r.length) - 1) ?_ (ih fu' ne (by omega) (by omega) (fun y hy => hM y (List.mem_cons_of_mem _ hy)) n2 (fun j hj hl => h1 j (by rw [ea]; exact hj) (by rw [List.length_cons]; omega)) (fun g => h2 (by rw [ea]; exact g)) (fun g => h3 (by rw [ea]; exact g)))
        rw [Int32.sub_eq_add_neg]
  exact nm_e ⟨L.length + 1, K L (L.length + 1) _ (by omega) hb hL hN h1 h2 h3⟩
set_option maxHeartbeats 200000 in
theorem hy_local {ne a d k : Nat} {x : Int64} (hn : ne < 96) (ha : a < 128) (hd : d < 128) (hk : k < 128) (hp : post (f_most, f_n, f_stored, f_nm, nI (ne + 1), f_base, f_ns, f_no, f_nc, f_pc, f_mode, f_err, f_errAt, f_ticks, f_calls, f_outs, f_resK, f_part, f_resV, f_cnt, f_full, f_flag, f_need, a_tk, a_tv, a_tp, a_mName, a_mKind, a_mCount, a_mPar, a_mAt, upd a_vName ne (nI a), upd a_vDecl ne (nI d), upd a_vKind ne (nI k), vp_updL a_vVal ne x, a_sk, a_sv, a_oKind, a_oAt, a_oArgs, a_cKind, a_cA, a_cB, a_outK, a_outV)) : wpY_local post (f_most, f_n, f_stored, f_nm, nI ne, f_base, f_ns, f_no, f_nc, f_pc, f_mode, f_err, f_errAt, f_ticks, f_calls, f_outs, f_resK, f_part, f_resV, f_cnt, f_full, f_flag, f_need, a_tk, a_tv, a_tp, a_mName, a_mKind, a_mCount, a_mPar, a_mAt, a_vName, a_vDecl, a_vKind, a_vVal, a_sk, a_sv, a_oKind, a_oAt, a_oArgs, a_cKind, a_cA, a_cB, a_outK, a_outV) (nI a) (nI d) (nI k) x := by
  have i : vp_in (nI ne) 96 := vp_in_nI hn (by decide)
  have e : (nI ne).toNatClampNeg = ne := nI_clamp (by omega)
  exact ⟨i, nm_r (by rw [e, ls_vnb2 ha]) ⟨i, nm_r (by rw [e, ls_vnb2 hd]) ⟨i, nm_r (by rw [e, ls_vnb2 hk]) (nm_r (nI_1 ne) ⟨i, nm_r (by rw [e]) hp⟩)⟩⟩⟩
set_option maxHeartbeats 200000 in
theorem hy_declareGlobal {a d k : Nat} {x : Int64} (ha : a < 16) (hd : d < 128) (hk : k < 128) (hp : post (f_most, f_n, f_stored, f_nm, f_nEnv, f_base, f_ns, f_no, f_nc, f_pc, f_mode, f_err, f_errAt, f_ticks, f_calls, f_outs, f_resK, f_part, f_resV, f_cnt, f_full, f_flag, f_need, a_tk, a_tv, a_tp, a_mName, a_mKind, a_mCount, a_mPar, a_mAt, a_vName, upd a_vDecl (80 + a) (nI d), upd a_vKind (80 + a) (nI k), vp_updL a_vVal (80 + a) x, a_sk, a_sv, a_oKind, a_oAt, a_oArgs, a_cKind, a_cA, a_cB, a_outK, a_outV)) : wpY_declareGlobal post (f_most, f_n, f_stored, f_nm, f_nEnv, f_base, f_ns, f_no, f_nc, f_pc, f_mode, f_err, f_errAt, f_ticks, f_calls, f_outs, f_resK, f_part, f_resV, f_cnt, f_full, f_flag, f_need, a_tk, a_tv, a_tp, a_mName, a_mKind, a_mCount, a_mPar, a_mAt, a_vName, a_vDecl, a_vKind, a_vVal, a_sk, a_sv, a_oKind, a_oAt, a_oArgs, a_cKind, a_cA, a_cB, a_outK, a_outV) (nI (a + 54)) (nI d) (nI k) x := by
  have e0 : (26 : Int32) + nI (a + 54) = nI (80 + a) := by rw [show (26 : Int32) = nI 26 from rfl, nI_add, show 26 + (a + 54) = 80 + a by omega]
  have i : vp_in (nI (80 + a)) 96 := vp_in_nI (by omega) (by decide)
  have e : (nI (80 + a)).toNatClampNeg = 80 + a := nI_clamp (by omega)
  unfold wpY_declareGlobal
  dsimp only
  rw [e0]
  exact ⟨i, nm_r (by rw [e, ls_vnb2 hd]) ⟨i, nm_r (by rw [e, ls_vnb2 hk]) ⟨i, nm_r (by rw [e]) hp⟩⟩⟩
set_option maxHeartbeats 200000 in
theorem hy_leaveBlock {nc kd a : Nat} (hn : nc < 700) (hk : kd < 100) (e1 : a_cKind nc = nI kd) (e2 : a_cA nc = nI a) (h1 : kd = 1 → post (f_most, f_n, f_stored, f_nm, nI a, f_base, f_ns, f_no, nI nc, f_pc, f_mode, f_err, f_errAt, f_ticks, f_calls, f_outs, f_resK, f_part, f_resV, f_cnt, f_full, f_flag, f_need, a_tk, a_tv, a_tp, a_mName, a_mKind, a_mCount, a_mPar, a_mAt, a_vName, a_vDecl, a_vKind, a_vVal, a_sk, a_sv, a_oKind, a_oAt, a_oArgs, a_cKind, a_cA, a_cB, a_outK, a_outV)) (h0 : kd ≠ 1 → post (f_most, f_n, f_stored, f_nm, f_nEnv, f_base, f_ns, f_no, nI nc, f_pc, f_mode, f_err, f_errAt, f_ticks, f_calls, f_outs, f_resK, f_part, f_resV, f_cnt, f_full, f_flag, f_need, a_tk, a_tv, a_tp, a_mName, a_mKind, a_mCount, a_mPar, a_mAt, a_vName, a_vDecl, a_vKind, a_vVal, a_sk, a_sv, a_oKind, a_oAt, a_oArgs, a_cKind, a_cA, a_cB, a_outK, a_outV)) : wpY_leaveBlock post (f_most, f_n, f_stored, f_nm, f_nEnv, f_base, f_ns, f_no, nI (nc + 1), f_pc, f_mode, f_err, f_errAt, f_ticks, f_calls, f_outs, f_resK, f_part, f_resV, f_cnt, f_full, f_flag, f_need, a_tk, a_tv, a_tp, a_mName, a_mKind, a_mCount, a_mPar, a_mAt, a_vName, a_vDecl, a_vKind, a_vVal, a_sk, a_sv, a_oKind, a_oAt, a_oArgs, a_cKind, a_cA, a_cB, a_outK, a_outV) := by
  have i : vp_in (nI nc) 700 := vp_in_nI hn (by decide)
  have e : (nI nc).toNatClampNeg = nc := nI_clamp (by omega)
  unfold wpY_leaveBlock
  dsimp only
  refine nm_r (nI_pred nc) ⟨i, ?_⟩
  rw [e, e1]
  by_cases k1 : kd = 1
  · subst k1
    exact br_t rfl ⟨i, nm_r e2 (h1 rfl)⟩
  · exact br_f (mt (ls_k8 hk (by decide)).mp k1) (h0 k1)
set_option maxHeartbeats 200000 in
theorem hy_zeroKind {q : Int32 → Prop} {t : Nat} (ht : t < 100) (hp : q (nI (if t = 5 then 3 else t))) : wpY_zeroKind q (f_most, f_n, f_stored, f_nm, f_nEnv, f_base, f_ns, f_no, f_nc, f_pc, f_mode, f_err, f_errAt, f_ticks, f_calls, f_outs, f_resK, f_part, f_resV, f_cnt, f_full, f_flag, f_need, a_tk, a_tv, a_tp, a_mName, a_mKind, a_mCount, a_mPar, a_mAt, a_vName, a_vDecl, a_vKind, a_vVal, a_sk, a_sv, a_oKind, a_oAt, a_oArgs, a_cKind, a_cA, a_cB, a_outK, a_outV) (nI t) := by
  unfold wpY_zeroKind
  dsimp only
  by_cases e : t = 5
  · subst e
    exact br_t rfl hp
  · rw [if_neg e] at hp
    exact br_f (mt (ls_k8 ht (by decide)).mp e) hp
set_option maxHeartbeats 200000 in
theorem hy_test {no p : Nat} (h : no < 400) (hp : p < 1000) (g : post (f_most, f_n, f_stored, f_nm, f_nEnv, f_base, f_ns, nI (no + 1), f_nc, nI (p + 2), 1, f_err, f_errAt, f_ticks, f_calls, f_outs, f_resK, f_part, f_resV, f_cnt, f_full, f_flag, f_need, a_tk, a_tv, a_tp, a_mName, a_mKind, a_mCount, a_mPar, a_mAt, a_vName, a_vDecl, a_vKind, a_vVal, a_sk, a_sv, upd a_oKind no 1, upd a_oAt no (nI p), upd a_oArgs no 0, a_cKind, a_cA, a_cB, a_outK, a_outV)) : wpY_test post (f_most, f_n, f_stored, f_nm, f_nEnv, f_base, f_ns, nI no, f_nc, f_pc, f_mode, f_err, f_errAt, f_ticks, f_calls, f_outs, f_resK, f_part, f_resV, f_cnt, f_full, f_flag, f_need, a_tk, a_tv, a_tp, a_mName, a_mKind, a_mCount, a_mPar, a_mAt, a_vName, a_vDecl, a_vKind, a_vVal, a_sk, a_sv, a_oKind, a_oAt, a_oArgs, a_cKind, a_cA, a_cB, a_outK, a_outV) (nI p) := by
  unfold wpY_test
  dsimp only
  refine hy_openOp (kd := 1) h (by decide) (by omega) ?_
  exact nm_r (by rw [show (2 : Int32) = nI 2 from rfl, nI_add]) g
end
end
section
/-! The reference leaves statements out -/
/-- the tokens of a unit, as they stand in the reference's array -/
def ls_tks (T : Nat → Nat) (e lo hi : Nat) (tk : Nat → Int32) : Prop := hi + e ≤ 384 ∧ ∀ i, lo ≤ i → i < hi → tk (i + e) = nI (T i) ∧ T i < 100
/-- the kinds that skip has put down, innermost first -/
def ls_S1 (ck : Nat → Int32) (b : Nat) : List Nat → Prop
  | [] => True
  | x :: r => ck (b + r.length) = nI x ∧ ls_S1 ck b r
section
variable {f_most f_n f_stored f_nm f_nEnv f_base f_ns f_no f_nc f_pc f_mode f_err f_errAt f_ticks f_calls f_outs f_resK f_part f_cnt f_full f_flag f_need : Int32}
variable {f_resV : Int64}
variable {a_tk a_tp a_mName a_mKind a_mCount a_mPar a_mAt a_vName a_vDecl a_vKind a_sk a_oKind a_oAt a_oArgs a_cKind a_cA a_cB a_outK : Nat → Int32}
variable {a_tv a_vVal a_sv a_outV : Nat → Int64}
variable {T : Nat → Nat} {e lo hi p q : Nat} {rp : Int32 → Prop} {pr : Int32 → SY → Prop}
set_option maxHeartbeats 200000 in
theorem ls_S1_up {ck : Nat → Int32} {b j : Nat} {x : Int32} : ∀ {S : List Nat}, b + S.length ≤ j → ls_S1 ck b S → ls_S1 (upd ck j x) b S
  | [], _, _ => trivial
  | y :: r, hl, h => by
    rw [List.length_cons] at hl
    exact ⟨(pk_un (by omega)).trans h.1, ls_S1_up (by omega) h.2⟩
set_option maxHeartbeats 200000 in
theorem hy_behind1 (ht : ls_tks T e lo hi a_tk) : ∀ (j p d fu : Nat), j < fu → lo ≤ p → p + j ≤ hi → d + j < 1000 → ls_br T 0 j p (d + 1) 0 → rp (nI (p + j + e)) → wY_behind_4 rp f_most f_n f_stored f_nm f_nEnv f_base f_ns f_no f_nc f_pc f_mode f_err f_errAt f_ticks f_calls f_outs f_resK f_part f_resV f_cnt f_full f_flag f_need a_tk a_tv a_tp a_mName a_mKind a_mCount a_mPar a_mAt a_vName a_vDecl a_vKind a_vVal a_sk a_sv a_oKind a_oAt a_oArgs a_cKind a_cA a_cB a_outK a_outV fu (nI (p + e)) (nI (d + 1)) := by
  obtain ⟨h384, htk⟩ := ht
  intro j
  induction j with
  | zero =>
    intro p d fu _ _ _ _ hb _
    have hb' : d + 1 = 0 := hb
    omega
  | succ j ih =>
    intro p d fu hf hl hh hd hb hp
    obtain ⟨fu', rfl⟩ : ∃ fu', fu = fu' + 1 := ⟨fu - 1, by omega⟩
    obtain ⟨_, hb⟩ := hb
    obtain ⟨e1, e2⟩ := htk p (by omega) (by omega)
    have iv : vp_in (nI (p + e)) 384 := vp_in_nI (by omega) (by decide)
    have ec : (nI (p + e)).toNatClampNeg = p + e := nI_clamp (by omega)
    have N : ∀ w : Nat, w < 100 → T p ≠ w → ¬ nI (T p) = nI w := fun w hw h => mt (ls_k8 e2 hw).mp h
    -- what is behind the token
    have G54 : ∀ d' : Nat, d' + j < 1001 → ls_br T 0 j (p + 1) d' 0 → wY_behind_54 rp (wY_behind_4 rp f_most f_n f_stored f_nm f_nEnv f_base f_ns f_no f_nc f_pc f_mode f_err f_errAt f_ticks f_calls f_outs f_resK f_part f_resV f_cnt f_full f_flag f_need a_tk a_tv a_tp a_mName a_mKind a_mCount a_mPar a_mAt a_vName a_vDecl a_vKind a_vVal a_sk a_sv a_oKind a_oAt a_oArgs a_cKind a_cA a_cB a_outK a_outV fu') (nI (p + e)) (nI d') f_most f_n f_stored f_nm f_nEnv f_base f_ns f_no f_nc f_pc f_mode f_err f_errAt f_ticks f_calls f_outs f_resK f_part f_resV f_cnt f_full f_flag f_need a_tk a_tv a_tp a_mName a_mKind a_mCount a_mPar a_mAt a_vName a_vDecl a_vKind a_vVal a_sk a_sv a_oKind a_oAt a_oArgs a_cKind a_cA a_cB a_outK a_outV := by
      intro d' hd' hb'
      unfold wY_behind_54
      refine nm_r (nI_1 _) ?_
      rw [show p + e + 1 = (p + 1) + e by omega]
      by_cases d0 : d' = 0
      · subst d0
        refine br_f (by decide) ?_
        cases j with
        | zero => rw [show p + (0 + 1) + e = p + 1 + e by omega] at hp; exact hp
        | succ j => exact absurd hb'.1 (by omega)
      · obtain ⟨d2, rfl⟩ : ∃ d2, d' = d2 + 1 := ⟨d' - 1, by omega⟩
        refine br_t (nI_lt (a := 0) (by omega) (by omega)) ?_
        cases j with
        | zero =>
          have hb2 : d2 + 1 = 0 := hb'
          omega
        | succ j' =>
          exact ih (p + 1) d2 fu' (by omega) (by omega) (by omega) (by omega) hb' (by rw [show p + 1 + (j' + 1) + e = p + (j' + 1 + 1) + e by omega]; exact hp)
    have G29 : ∀ d' : Nat, d' + j < 1001 → (T p = 16 ∨ T p = 18 → 0 < d' ∧ ls_br T 0 j (p + 1) (d' - 1) 0) → (T p ≠ 16 → T p ≠ 18 → ls_br T 0 j (p + 1) d' 0) → wY_behind_29 rp (wY_behind_4 rp f_most f_n f_stored f_nm f_nEnv f_base f_ns f_no f_nc f_pc f_mode f_err f_errAt f_ticks f_calls f_outs f_resK f_part f_resV f_cnt f_full f_flag f_need a_tk a_tv a_tp a_mName a_mKind a_mCount a_mPar a_mAt a_vName a_vDecl a_vKind a_vVal a_sk a_sv a_oKind a_oAt a_oArgs a_cKind a_cA a_cB a_outK a_outV fu') (nI (p + e)) (nI d') f_most f_n f_stored f_nm f_nEnv f_base f_ns f_no f_nc f_pc f_mode f_err f_errAt f_ticks f_calls f_outs f_resK f_part f_resV f_cnt f_full f_flag f_need a_tk a_tv a_tp a_mName a_mKind a_mCount a_mPar a_mAt a_vName a_vDecl a_vKind a_vVal a_sk a_sv a_oKind a_oAt a_oArgs a_cKind a_cA a_cB a_outK a_outV := by
      intro d' hd' h1 h2
      unfold wY_behind_29
      refine ⟨iv, ?_⟩
      rw [ec, e1]
      have G51 : (T p = 16 ∨ T p = 18) → wY_behind_51 rp (wY_behind_4 rp f_most f_n f_stored f_nm f_nEnv f_base f_ns f_no f_nc f_pc f_mode f_err f_errAt f_ticks f_calls f_outs f_resK f_part f_resV f_cnt f_full f_flag f_need a_tk a_tv a_tp a_mName a_mKind a_mCount a_mPar a_mAt a_vName a_vDecl a_vKind a_vVal a_sk a_sv a_oKind a_oAt a_oArgs a_cKind a_cA a_cB a_outK a_outV fu') (nI (p + e)) (nI d') f_most f_n f_stored f_nm f_nEnv f_base f_ns f_no f_nc f_pc f_mode f_err f_errAt f_ticks f_calls f_outs f_resK f_part f_resV f_cnt f_full f_flag f_need a_tk a_tv a_tp a_mName a_mKind a_mCount a_mPar a_mAt a_vName a_vDecl a_vKind a_vVal a_sk a_sv a_oKind a_oAt a_oArgs a_cKind a_cA a_cB a_outK a_outV := by
        intro c
        obtain ⟨c1, c2⟩ := h1 c
        unfold wY_behind_51
        obtain ⟨d2, rfl⟩ : ∃ d2, d' = d2 + 1 := ⟨d' - 1, by omega⟩
        exact nm_r (pk_m1 d2) (G54 d2 (by omega) c2)
      by_cases c16 : T p = 16
      · exact br_t (by rw [c16]; rfl) (G51 (Or.inl c16))
      · refine br_f (N 16 (by decide) c16) ⟨iv, ?_⟩
        by_cases c18 : T p = 18
        · exact br_t (by rw [c18]; rfl) (G51 (Or.inr c18))
        · exact br_f (N 18 (by decide) c18) (G54 d' hd' (h2 c16 c18))
    have G26 : (T p = 15 ∨ T p = 17) → wY_behind_26 rp (wY_behind_4 rp f_most f_n f_stored f_nm f_nEnv f_base f_ns f_no f_nc f_pc f_mode f_err f_errAt f_ticks f_calls f_outs f_resK f_part f_resV f_cnt f_full f_flag f_need a_tk a_tv a_tp a_mName a_mKind a_mCount a_mPar a_mAt a_vName a_vDecl a_vKind a_vVal a_sk a_sv a_oKind a_oAt a_oArgs a_cKind a_cA a_cB a_outK a_outV fu') (nI (p + e)) (nI (d + 1)) f_most f_n f_stored f_nm f_nEnv f_base f_ns f_no f_nc f_pc f_mode f_err f_errAt f_ticks f_calls f_outs f_resK f_part f_resV f_cnt f_full f_flag f_need a_tk a_tv a_tp a_mName a_mKind a_mCount a_mPar a_mAt a_vName a_vDecl a_vKind a_vVal a_sk a_sv a_oKind a_oAt a_oArgs a_cKind a_cA a_cB a_outK a_outV := by
      intro c
      unfold wY_behind_26
      refine nm_r (nI_1 _) (G29 (d + 2) (by omega) (fun q => by omega) (fun _ _ => ?_))
      rw [ls_bd_o c] at hb
      exact hb
    unfold wY_behind_4
    refine ⟨iv, ?_⟩
    rw [ec, e1]
    by_cases c15 : T p = 15
    · exact br_t (by rw [c15]; rfl) (G26 (Or.inl c15))
    · refine br_f (N 15 (by decide) c15) ⟨iv, ?_⟩
      by_cases c17 : T p = 17
      · exact br_t (by rw [c17]; rfl) (G26 (Or.inr c17))
      · refine br_f (N 17 (by decide) c17) (G29 (d + 1) (by omega) (fun c => ⟨by omega, ?_⟩) (fun n16 n18 => ?_))
        · rw [ls_bd_c c] at hb; exact hb
        · rw [ls_bd_n ⟨c15, n16, c17, n18⟩] at hb; exact hb
set_option maxHeartbeats 200000 in
theorem hy_behind (ht : ls_tks T e lo hi a_tk) (hl : lo ≤ p) (hh : q ≤ hi) (h : ls_bhd T p q) (hp : rp (nI (q + e))) : wpY_behind rp (f_most, f_n, f_stored, f_nm, f_nEnv, f_base, f_ns, f_no, f_nc, f_pc, f_mode, f_err, f_errAt, f_ticks, f_calls, f_outs, f_resK, f_part, f_resV, f_cnt, f_full, f_flag, f_need, a_tk, a_tv, a_tp, a_mName, a_mKind, a_mCount, a_mPar, a_mAt, a_vName, a_vDecl, a_vKind, a_vVal, a_sk, a_sv, a_oKind, a_oAt, a_oArgs, a_cKind, a_cA, a_cB, a_outK, a_outV) (nI (p + e)) := by
  obtain ⟨h1, j, rfl, hb⟩ := h
  have ht' := ht
  obtain ⟨h384, htk⟩ := ht
  obtain ⟨e1, e2⟩ := htk p (by omega) (by omega)
  have iv : vp_in (nI (p + e)) 384 := vp_in_nI (by omega) (by decide)
  have ec : (nI (p + e)).toNatClampNeg = p + e := nI_clamp (by omega)
  have N : ∀ w : Nat, w < 100 → T p ≠ w → ¬ nI (T p) = nI w := fun w hw h => mt (ls_k8 e2 hw).mp h
  unfold wpY_behind
  refine ⟨j + 2, ?_⟩
  unfold wY_behind_4
  have G26 : wY_behind_26 rp (wY_behind_4 rp f_most f_n f_stored f_nm f_nEnv f_base f_ns f_no f_nc f_pc f_mode f_err f_errAt f_ticks f_calls f_outs f_resK f_part f_resV f_cnt f_full f_flag f_need a_tk a_tv a_tp a_mName a_mKind a_mCount a_mPar a_mAt a_vName a_vDecl a_vKind a_vVal a_sk a_sv a_oKind a_oAt a_oArgs a_cKind a_cA a_cB a_outK a_outV (j + 1)) (nI (p + e)) 0 f_most f_n f_stored f_nm f_nEnv f_base f_ns f_no f_nc f_pc f_mode f_err f_errAt f_ticks f_calls f_outs f_resK f_part f_resV f_cnt f_full f_flag f_need a_tk a_tv a_tp a_mName a_mKind a_mCount a_mPar a_mAt a_vName a_vDecl a_vKind a_vVal a_sk a_sv a_oKind a_oAt a_oArgs a_cKind a_cA a_cB a_outK a_outV := by
    unfold wY_behind_26
    refine nm_r (e' := nI 1) rfl ?_
    unfold wY_behind_29
    refine ⟨iv, ?_⟩
    rw [ec, e1]
    refine br_f (N 16 (by decide) (by omega)) ⟨iv, br_f (N 18 (by decide) (by omega)) ?_⟩
    unfold wY_behind_54
    refine nm_r (nI_1 _) (br_t (by decide) ?_)
    rw [show p + e + 1 = (p + 1) + e by omega]
    exact hy_behind1 ht' j (p + 1) 0 (j + 1) (by omega) (by omega) (by omega) (by omega) hb hp
  refine ⟨iv, ?_⟩
  rw [ec, e1]
  by_cases c15 : T p = 15
  · exact br_t (by rw [c15]; rfl) G26
  · refine br_f (N 15 (by decide) c15) ⟨iv, ?_⟩
    exact br_t (by rw [show T p = 17 by omega]; rfl) G26
set_option maxHeartbeats 200000 in
theorem ls_f20_lt : ∀ {j p q}, ls_f20 T j p q → p < q
  | 0, p, q, h => by have := h.2; omega
  | j + 1, p, q, h => by have := ls_f20_lt h.2; omega
set_option maxHeartbeats 200000 in
theorem ls_br_pos {b : Nat} : ∀ {j p}, ls_br T b j p 1 0 → 0 < j
  | 0, p, h => by have h' : (1 : Nat) = 0 := h; omega
  | j + 1, p, h => by omega
set_option maxHeartbeats 200000 in
theorem ls_bhd_lt (h : ls_bhd T p q) : p + 2 ≤ q := by
  obtain ⟨_, j, rfl, hb⟩ := h
  have := ls_br_pos hb
  omega
set_option maxHeartbeats 200000 in
theorem ls_one_lt (h : ls_one T p q) : p < q := by
  unfold ls_one at h
  split at h
  · have := ls_bhd_lt h; omega
  · obtain ⟨i, h⟩ := h; exact ls_f20_lt h
set_option maxHeartbeats 200000 in
theorem ls_sk_lt : ∀ {j p S}, ls_sk T j p S q → p < q
  | 0, p, S, h => h.elim
  | j + 1, p, S, h => by
    rcases h with ⟨_, p2, h2, h3⟩ | ⟨_, _, p1, h1, h2⟩
    · have := ls_bhd_lt h2
      have := ls_sk_lt h3
      omega
    · have := ls_one_lt h1
      split at h2
      · omega
      · have := ls_sk_lt h2; omega
set_option maxHeartbeats 1000000 in
theorem hy_skip1 {n nc0 x1 : Nat} (ht : ls_tks T e lo hi a_tk) (hn : n < 1000) (hx : x1 < 1000) (hlim : x1 < 140 → e = 0 ∧ hi = n ∧ ∀ p, n ≤ p → T p = 72) (hq : q ≤ hi) (hq2 : 140 ≤ x1 → q < hi)
    (hp : ∀ ck ca cb : Nat → Int32, (∀ i, i < nc0 → ck i = a_cKind i ∧ ca i = a_cA i ∧ cb i = a_cB i) → pr (nI (q + e)) (f_most, nI n, f_stored, f_nm, f_nEnv, f_base, f_ns, f_no, nI nc0, f_pc, f_mode, f_err, f_errAt, f_ticks, f_calls, f_outs, f_resK, f_part, f_resV, f_cnt, f_full, f_flag, f_need, a_tk, a_tv, a_tp, a_mName, a_mKind, a_mCount, a_mPar, a_mAt, a_vName, a_vDecl, a_vKind, a_vVal, a_sk, a_sv, a_oKind, a_oAt, a_oArgs, ck, ca, cb, a_outK, a_outV)) : ∀ (j p fu : Nat) (S : List Nat) (ck ca cb : Nat → Int32), j < fu → lo ≤ p → (∀ x ∈ S, 6 ≤ x ∧ x ≤ 8) → ls_S1 ck nc0 S → (∀ i, i < nc0 → ck i = a_cKind i ∧ ca i = a_cA i ∧ cb i = a_cB i) → 3 * (nc0 + S.length) + (hi - p) ≤ 2096 → ls_sk T j p S q →
    wY_skip_7 pr (nI x1) (nI nc0) fu (nI (p + e)) f_most (nI n) f_stored f_nm f_nEnv f_base f_ns f_no (nI (nc0 + S.length)) f_pc f_mode f_err f_errAt f_ticks f_calls f_outs f_resK f_part f_resV f_cnt f_full f_flag f_need a_tk a_tv a_tp a_mName a_mKind a_mCount a_mPar a_mAt a_vName a_vDecl a_vKind a_vVal a_sk a_sv a_oKind a_oAt a_oArgs ck ca cb a_outK a_outV := by
  have ht' := ht
  obtain ⟨h384, htk⟩ := ht
  intro j
  induction j with
  | zero => intro p fu S ck ca cb _ _ _ _ _ _ h; exact h.elim
  | succ j ih =>
    intro p fu S ck ca cb hf hl hS hS1 hbl hbd h
    obtain ⟨fu', rfl⟩ : ∃ fu', fu = fu' + 1 := ⟨fu - 1, by omega⟩
    have pq := ls_sk_lt h
    obtain ⟨e1, e2⟩ := htk p (by omega) (by omega)
    have iv : vp_in (nI (p + e)) 384 := vp_in_nI (by omega) (by decide)
    have ec : (nI (p + e)).toNatClampNeg = p + e := nI_clamp (by omega)
    have N : ∀ p w : Nat, T p < 100 → w < 100 → T p ≠ w → ¬ nI (T p) = nI w := fun p w h2 hw h => mt (ls_k8 h2 hw).mp h
    -- the inner loop that takes finished kinds away
    have LP : ∀ p1 (M : List Nat) (g : Nat), M.length < g → lo ≤ p1 → p < p1 → p1 ≤ q → (∀ x ∈ M, 6 ≤ x ∧ x ≤ 8) → ls_S1 ck nc0 M → M.length ≤ S.length → (match ls_dr (T p1 = 7) M with | none => q = p1 | some S' => ls_sk T j (p1 + 1) (7 :: S') q) →
        wY_skip_125 pr (wY_skip_7 pr (nI x1) (nI nc0) fu') (nI x1) (nI (p1 + e)) (nI nc0) (if T p1 = 7 then 0 else 1) f_most (nI n) f_stored f_nm f_nEnv f_base f_ns f_no f_pc f_mode f_err f_errAt f_ticks f_calls f_outs f_resK f_part f_resV f_cnt f_full f_flag f_need a_tk a_tv a_tp a_mName a_mKind a_mCount a_mPar a_mAt a_vName a_vDecl a_vKind a_vVal a_sk a_sv a_oKind a_oAt a_oArgs ck ca cb a_outK a_outV g (nI (nc0 + M.length)) := by
      intro p1 M
      induction M with
      | nil =>
        intro g hg l1 l2 l3 _ _ _ hm
        obtain ⟨g', rfl⟩ : ∃ g', g = g' + 1 := ⟨g - 1, by omega⟩
        unfold wY_skip_125
        refine br_t (nI_le (Nat.le_refl _) (by omega)) ?_
        unfold wY_skip_167
        refine br_t rfl ?_
        have hm' : q = p1 := hm
        rw [← hm']
        exact hp ck ca cb hbl
      | cons x r ihM =>
        intro g hg l1 l2 l3 hM hM1 hMl hm
        obtain ⟨g', rfl⟩ : ∃ g', g = g' + 1 := ⟨g - 1, by omega⟩
        rw [List.length_cons] at hg hMl
        obtain ⟨m1, m2⟩ := hM1
        have hx := hM x (List.mem_cons_self ..)
        unfold wY_skip_125
        rw [List.length_cons, show nc0 + (r.length + 1) = nc0 + r.length + 1 by omega, nI_pred, nI_clamp (by omega), m1]
        refine br_f (nI_ge (by omega) (by omega)) ⟨vp_in_nI (by omega) (by decide), ?_⟩
        have POP : ¬ (x = 6 ∧ T p1 = 7) → wY_skip_125 pr (wY_skip_7 pr (nI x1) (nI nc0) fu') (nI x1) (nI (p1 + e)) (nI nc0) (if T p1 = 7 then 0 else 1) f_most (nI n) f_stored f_nm f_nEnv f_base f_ns f_no f_pc f_mode f_err f_errAt f_ticks f_calls f_outs f_resK f_part f_resV f_cnt f_full f_flag f_need a_tk a_tv a_tp a_mName a_mKind a_mCount a_mPar a_mAt a_vName a_vDecl a_vKind a_vVal a_sk a_sv a_oKind a_oAt a_oArgs ck ca cb a_outK a_outV g' (nI (nc0 + r.length)) := by
          intro hne
          refine ihM g' (by omega) l1 l2 l3 (fun y hy => hM y (List.mem_cons_of_mem _ hy)) m2 (by omega) ?_
          have : ls_dr (T p1 = 7) (x :: r) = ls_dr (T p1 = 7) r := by
            show (if x = 6 ∧ T p1 = 7 then _ else _) = _
            rw [if_neg hne]
          rw [this] at hm
          exact hm
        by_cases x6 : x = 6
        · subst x6
          refine br_t rfl ?_
          by_cases t7 : T p1 = 7
          · rw [if_pos t7]
            refine br_t rfl ?_
            unfold wY_skip_167
            rw [nI_pred]
            refine br_f (fun g => by have := (nI_eq (by omega) (by omega)).mp g; omega) ⟨vp_in_nI (by omega) (by decide), nm_r (e' := upd ck (nc0 + r.length) (nI 7)) (by rw [nI_clamp (by omega)]; rfl) (nm_r (nI_1 _) ?_)⟩
            have hm' : ls_sk T j (p1 + 1) (7 :: r) q := by
              have : ls_dr (T p1 = 7) (6 :: r) = some r := by
                show (if (6 : Nat) = 6 ∧ T p1 = 7 then _ else _) = _
                rw [if_pos ⟨rfl, t7⟩]
              rw [this] at hm
              exact hm
            have := ih (p1 + 1) fu' (7 :: r) (upd ck (nc0 + r.length) (nI 7)) ca cb (by omega) (by omega) (fun y hy => by
              rcases List.mem_cons.mp hy with rfl | hy
              · omega
              · exact hM y (List.mem_cons_of_mem _ hy)) ⟨pk_us, ls_S1_up (Nat.le_refl _) m2⟩ (fun i hi' => ⟨(pk_un (by omega)).trans (hbl i hi').1, (hbl i hi').2.1, (hbl i hi').2.2⟩) (by rw [List.length_cons]; omega) hm'
            rw [List.length_cons, show nc0 + (r.length + 1) = nc0 + r.length + 1 by omega, show p1 + 1 + e = p1 + e + 1 by omega] at this
            exact this
          · have P := POP (fun q => t7 q.2)
            rw [if_neg t7] at P ⊢
            exact br_f (by decide) (nm_r rfl P)
        · exact br_f (mt (ls_k8 (by omega) (by decide)).mp x6) (nm_r rfl (POP (fun q => x6 q.1)))
    have AFT : ∀ p1, lo ≤ p1 → p < p1 → p1 ≤ q → (match ls_dr (T p1 = 7) S with | none => q = p1 | some S' => ls_sk T j (p1 + 1) (7 :: S') q) → wY_skip_92 pr (wY_skip_7 pr (nI x1) (nI nc0) fu') (nI x1) (nI (p1 + e)) (nI nc0) f_most (nI n) f_stored f_nm f_nEnv f_base f_ns f_no (nI (nc0 + S.length)) f_pc f_mode f_err f_errAt f_ticks f_calls f_outs f_resK f_part f_resV f_cnt f_full f_flag f_need a_tk a_tv a_tp a_mName a_mKind a_mCount a_mPar a_mAt a_vName a_vDecl a_vKind a_vVal a_sk a_sv a_oKind a_oAt a_oArgs ck ca cb a_outK a_outV := by
      intro p1 hl1 hp1 hq1 hm
      have L := LP p1 S (S.length + 1) (by omega) hl1 hp1 hq1 hS hS1 (Nat.le_refl _) hm
      have G107 : p1 < hi → wY_skip_107 pr (wY_skip_7 pr (nI x1) (nI nc0) fu') (nI x1) (nI (p1 + e)) (nI nc0) f_most (nI n) f_stored f_nm f_nEnv f_base f_ns f_no (nI (nc0 + S.length)) f_pc f_mode f_err f_errAt f_ticks f_calls f_outs f_resK f_part f_resV f_cnt f_full f_flag f_need a_tk a_tv a_tp a_mName a_mKind a_mCount a_mPar a_mAt a_vName a_vDecl a_vKind a_vVal a_sk a_sv a_oKind a_oAt a_oArgs ck ca cb a_outK a_outV := by
        intro hh
        obtain ⟨f1, f2⟩ := htk p1 hl1 hh
        unfold wY_skip_107
        refine ⟨vp_in_nI (by omega) (by decide), ?_⟩
        rw [nI_clamp (by omega), f1]
        by_cases t7 : T p1 = 7
        · rw [if_pos t7] at L
          exact br_t (by rw [t7]; rfl) ⟨_, L⟩
        · rw [if_neg t7] at L
          exact br_f (N p1 7 f2 (by decide) t7) ⟨_, L⟩
      unfold wY_skip_92
      by_cases x140 : 140 ≤ x1
      · exact br_t (nI_le (a := 140) x140 (by omega)) (G107 (by have := hq2 x140; omega))
      · refine br_f (nI_ge (b := 140) (by omega) (by decide)) ?_
        obtain ⟨l1, l2, l3⟩ := hlim (by omega)
        by_cases c : n ≤ p1
        · refine br_t (nI_le (by omega) (by omega)) ⟨S.length + 1, ?_⟩
          rw [if_neg (by rw [l3 p1 c]; decide)] at L
          exact L
        · exact br_f (nI_ge (by omega) (by omega)) (G107 (by omega))
    unfold wY_skip_7
    refine ⟨iv, ?_⟩
    rw [ec, e1]
    rcases h with ⟨c68, p2, h2, h3⟩ | ⟨n6, n8, p1, h1, h2⟩
    · have p2l := ls_bhd_lt h2
      have p2q := ls_sk_lt h3
      have G29 : wY_skip_29 pr (wY_skip_7 pr (nI x1) (nI nc0) fu') (nI x1) (nI (p + e)) (nI nc0) f_most (nI n) f_stored f_nm f_nEnv f_base f_ns f_no (nI (nc0 + S.length)) f_pc f_mode f_err f_errAt f_ticks f_calls f_outs f_resK f_part f_resV f_cnt f_full f_flag f_need a_tk a_tv a_tp a_mName a_mKind a_mCount a_mPar a_mAt a_vName a_vDecl a_vKind a_vVal a_sk a_sv a_oKind a_oAt a_oArgs ck ca cb a_outK a_outV := by
        unfold wY_skip_29
        refine ⟨iv, ?_⟩
        rw [ec, e1]
        refine hy_hold (kd := T p) (a := 0) (b := 0) (by omega) (by omega) (by decide) (by decide) ?_
        dsimp only
        rw [nI_1, show p + e + 1 = (p + 1) + e by omega]
        refine hy_behind ht' (by omega) (by omega) h2 ?_
        have := ih p2 fu' (T p :: S) (upd ck (nc0 + S.length) (nI (T p))) (upd ca (nc0 + S.length) (nI 0)) (upd cb (nc0 + S.length) (nI 0)) (by omega) (by omega) (fun x hx => by
          rcases List.mem_cons.mp hx with rfl | hx
          · omega
          · exact hS x hx) ⟨pk_us, ls_S1_up (Nat.le_refl _) hS1⟩ (fun i hi' => ⟨(pk_un (by omega)).trans (hbl i hi').1, (pk_un (by omega)).trans (hbl i hi').2.1, (pk_un (by omega)).trans (hbl i hi').2.2⟩) (by rw [List.length_cons]; omega) h3
        rw [List.length_cons, show nc0 + (S.length + 1) = nc0 + S.length + 1 by omega] at this
        exact this
      rcases c68 with c | c
      · exact br_t (by rw [c]; rfl) G29
      · exact br_f (N p 6 e2 (by decide) (by omega)) ⟨iv, br_t (by rw [c]; rfl) G29⟩
    · have p1l := ls_one_lt h1
      have p1q : p1 ≤ q := by
        split at h2
        · omega
        · have := ls_sk_lt h2; omega
      refine br_f (N p 6 e2 (by decide) n6) ⟨iv, br_f (N p 8 e2 (by decide) n8) ⟨iv, ?_⟩⟩
      unfold ls_one at h1
      by_cases c17 : T p = 17
      · rw [if_pos c17] at h1
        exact br_t (by rw [c17]; rfl) (hy_behind ht' hl (by omega) h1 (AFT p1 (by omega) p1l p1q h2))
      · rw [if_neg c17] at h1
        obtain ⟨i, h1⟩ := h1
        refine br_f (N p 17 e2 (by decide) c17) ⟨i + 1, ?_⟩
        -- to the semicolon
        have W : ∀ (i p' : Nat), lo ≤ p' → p ≤ p' → ls_f20 T i p' p1 → wY_skip_72 pr (wY_skip_7 pr (nI x1) (nI nc0) fu') (nI x1) (nI nc0) f_most (nI n) f_stored f_nm f_nEnv f_base f_ns f_no (nI (nc0 + S.length)) f_pc f_mode f_err f_errAt f_ticks f_calls f_outs f_resK f_part f_resV f_cnt f_full f_flag f_need a_tk a_tv a_tp a_mName a_mKind a_mCount a_mPar a_mAt a_vName a_vDecl a_vKind a_vVal a_sk a_sv a_oKind a_oAt a_oArgs ck ca cb a_outK a_outV (i + 1) (nI (p' + e)) := by
          intro i
          induction i with
          | zero =>
            intro p' l1 l2 hf
            obtain ⟨f1, f2⟩ := hf
            obtain ⟨g1, g2⟩ := htk p' l1 (by omega)
            unfold wY_skip_72
            refine ⟨vp_in_nI (by omega) (by decide), ?_⟩
            rw [nI_clamp (by omega), g1]
            refine br_t (by rw [f1]; rfl) (nm_r (nI_1 _) ?_)
            rw [show p' + e + 1 = p1 + e by omega]
            exact AFT p1 (by omega) p1l p1q h2
          | succ i ihi =>
            intro p' l1 l2 hf
            obtain ⟨f1, f2⟩ := hf
            have lt := ls_f20_lt f2
            obtain ⟨g1, g2⟩ := htk p' l1 (by omega)
            unfold wY_skip_72
            refine ⟨vp_in_nI (by omega) (by decide), ?_⟩
            rw [nI_clamp (by omega), g1]
            refine br_f (N p' 20 g2 (by decide) f1) (nm_r (nI_1 _) ?_)
            rw [show p' + e + 1 = (p' + 1) + e by omega]
            exact ihi (p' + 1) (by omega) (by omega) f2
        exact W i p hl (Nat.le_refl _) h1
set_option maxHeartbeats 200000 in
theorem hy_skip {n nc0 j : Nat} (ht : ls_tks T e lo hi a_tk) (hn : n < 1000) (hl : lo ≤ p) (hlim : p + e < 140 → e = 0 ∧ hi = n ∧ ∀ p, n ≤ p → T p = 72) (hq : q ≤ hi) (hq2 : 140 ≤ p + e → q < hi) (hb : 3 * nc0 + (hi - p) ≤ 2096) (h : ls_sk T j p [] q)
    (hp : ∀ ck ca cb : Nat → Int32, (∀ i, i < nc0 → ck i = a_cKind i ∧ ca i = a_cA i ∧ cb i = a_cB i) → pr (nI (q + e)) (f_most, nI n, f_stored, f_nm, f_nEnv, f_base, f_ns, f_no, nI nc0, f_pc, f_mode, f_err, f_errAt, f_ticks, f_calls, f_outs, f_resK, f_part, f_resV, f_cnt, f_full, f_flag, f_need, a_tk, a_tv, a_tp, a_mName, a_mKind, a_mCount, a_mPar, a_mAt, a_vName, a_vDecl, a_vKind, a_vVal, a_sk, a_sv, a_oKind, a_oAt, a_oArgs, ck, ca, cb, a_outK, a_outV)) : wpY_skip pr (f_most, nI n, f_stored, f_nm, f_nEnv, f_base, f_ns, f_no, nI nc0, f_pc, f_mode, f_err, f_errAt, f_ticks, f_calls, f_outs, f_resK, f_part, f_resV, f_cnt, f_full, f_flag, f_need, a_tk, a_tv, a_tp, a_mName, a_mKind, a_mCount, a_mPar, a_mAt, a_vName, a_vDecl, a_vKind, a_vVal, a_sk, a_sv, a_oKind, a_oAt, a_oArgs, a_cKind, a_cA, a_cB, a_outK, a_outV) (nI (p + e)) :=
  ⟨j + 1, hy_skip1 ht hn (by have := ls_sk_lt h; have := ht.1; omega) hlim hq hq2 hp j p (j + 1) [] a_cKind a_cA a_cB (Nat.lt_succ_self _) hl (by simp) trivial (fun _ _ => ⟨rfl, rfl, rfl⟩) hb h⟩
end
end
