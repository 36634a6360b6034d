def uN (x : Int64) : Nat := x.toUInt64.toNat
set_option maxHeartbeats 200000 in
theorem uN_lt (x : Int64) : uN x < 18446744073709551616 := x.toUInt64.toNat_lt
set_option maxHeartbeats 200000 in
theorem uN_inj {x y : Int64} (h : uN x = uN y) : x = y := congrArg UInt64.toInt64 (UInt64.toNat_inj.mp h)
set_option maxHeartbeats 200000 in
theorem uN_shr (x : Int64) (s : UInt64) : uN (x.toUInt64 >>> s).toInt64 = uN x / 2 ^ (s.toNat % 64) := by
  show (x.toUInt64 >>> s).toNat = _
  rw [UInt64.toNat_shiftRight, Nat.shiftRight_eq_div_pow]
  rfl
set_option maxHeartbeats 200000 in
theorem uN_lo (x : Int64) : uN (x &&& 4294967295) = uN x % 4294967296 := by
  show (x.toUInt64 &&& Int64.toUInt64 4294967295).toNat = _
  rw [UInt64.toNat_and]
  exact Nat.and_two_pow_sub_one_eq_mod _ 32
set_option maxHeartbeats 200000 in
theorem uN_sk (x : Int64) {k : Nat} (hk : k < 64) : uN (x.toUInt64 >>> ((nI k).toInt64.toUInt64 &&& Int64.toUInt64 63)).toInt64 = uN x / 2 ^ k := by
  have h : ((nI k).toInt64.toUInt64 &&& Int64.toUInt64 63).toNat % 64 = k := by
    rw [nI_l (by omega), UInt64.toNat_and]
    have e : (lN k).toUInt64.toNat = k % 2 ^ 64 := rfl
    have e2 : (Int64.toUInt64 63).toNat = 2 ^ 6 - 1 := by decide
    rw [e, e2, Nat.and_two_pow_sub_one_eq_mod]
    omega
  rw [uN_shr, h]
set_option maxHeartbeats 200000 in
theorem s_u : ∀ n, n < 32 → (((nI n).toUInt32 &&& Int32.toUInt32 31).toBitVec % 32).toNat = n := by decide +kernel
set_option maxHeartbeats 200000 in
theorem ls_uN32 (z : Int64) : z.toInt32 = nI (uN z) := by
  have e : z = lN (uN z) := uN_inj (by
    have h : (lN (uN z)).toUInt64.toNat = uN z % 2 ^ 64 := rfl
    show uN z = (lN (uN z)).toUInt64.toNat
    rw [h]
    have := uN_lt z
    omega)
  rw [← lN_i (uN z), ← e]
set_option maxHeartbeats 200000 in
theorem ls_nImod (n : Nat) : nI n = nI (n % 4294967296) := by
  apply Int32.toBitVec_inj.mp
  show BitVec.ofNat 32 n = BitVec.ofNat 32 (n % 4294967296)
  apply BitVec.eq_of_toNat_eq
  rw [BitVec.toNat_ofNat, BitVec.toNat_ofNat]
  omega
set_option maxHeartbeats 200000 in
/-- the unsigned shift of an int, the one way and the other -/
theorem ls_ush (x : Int64) (z : Int32) : (x.toInt32.toUInt32 >>> ((z &&& 31).toUInt32 &&& Int32.toUInt32 31)).toInt32 = ((x &&& 4294967295).toUInt64 >>> ((z &&& 31).toInt64.toUInt64 &&& Int64.toUInt64 63)).toInt64.toInt32 := by
  obtain ⟨j, hj, ej⟩ := pk_andE z (m := 31) 5 (by decide)
  have hj : j < 32 := hj
  rw [ej, ls_uN32 x, ls_nImod (uN x), pk_ushrN (by omega) (nI j) j (s_u j hj), ls_uN32, uN_sk _ (by omega), uN_lo]
section
variable {f_most f_n f_stored f_nm f_nEnv f_base f_ns f_no f_nc f_pc f_mode f_err f_errAt f_ticks f_calls f_outs f_resK f_part f_cnt f_full f_flag f_need : Int32}
variable {f_resV : Int64}
variable {a_tk a_tp a_mName a_mKind a_mCount a_mPar a_mAt a_vName a_vDecl a_vKind a_sk a_oKind a_oAt a_oArgs a_cKind a_cA a_cB a_outK : Nat → Int32}
variable {a_tv a_vVal a_sv a_outV : Nat → Int64}
variable {post : SY → Prop} {p2 : Int32 → SY → Prop} {q : Int32 → Prop} {at0 m k w : Nat} {v : Int64}
def ls_pl (tp : Nat → Int32) (p : Nat) : Int32 := if p < 140 then nI p else tp p
set_option maxHeartbeats 200000 in
theorem hy_fail {c : Int32} (h : at0 < 384) (hp : post (f_most, f_n, f_stored, f_nm, f_nEnv, f_base, f_ns, f_no, f_nc, f_pc, f_mode, c, ls_pl a_tp at0, f_ticks, f_calls, f_outs, f_resK, f_part, f_resV, f_cnt, f_full, f_flag, f_need, a_tk, a_tv, a_tp, a_mName, a_mKind, a_mCount, a_mPar, a_mAt, a_vName, a_vDecl, a_vKind, a_vVal, a_sk, a_sv, a_oKind, a_oAt, a_oArgs, a_cKind, a_cA, a_cB, a_outK, a_outV)) : wpY_fail post (f_most, f_n, f_stored, f_nm, f_nEnv, f_base, f_ns, f_no, f_nc, f_pc, f_mode, f_err, f_errAt, f_ticks, f_calls, f_outs, f_resK, f_part, f_resV, f_cnt, f_full, f_flag, f_need, a_tk, a_tv, a_tp, a_mName, a_mKind, a_mCount, a_mPar, a_mAt, a_vName, a_vDecl, a_vKind, a_vVal, a_sk, a_sv, a_oKind, a_oAt, a_oArgs, a_cKind, a_cA, a_cB, a_outK, a_outV) c (nI at0) := by
  unfold ls_pl at hp
  unfold wpY_fail
  dsimp only
  by_cases p : at0 < 140
  · rw [if_pos p] at hp
    exact br_f (nI_ge (b := 140) p (by decide)) hp
  · rw [if_neg p] at hp
    refine br_t (nI_le (a := 140) (by omega) (by omega)) ⟨vp_in_nI h (by decide), ?_⟩
    rw [nI_clamp (by omega)]
    exact hp
set_option maxHeartbeats 200000 in
theorem hy_push (h : m < 400) (hk : k < 128) (hp : post (f_most, f_n, f_stored, f_nm, f_nEnv, f_base, nI (m + 1), f_no, f_nc, f_pc, f_mode, f_err, f_errAt, f_ticks, f_calls, f_outs, f_resK, f_part, f_resV, f_cnt, f_full, f_flag, f_need, a_tk, a_tv, a_tp, a_mName, a_mKind, a_mCount, a_mPar, a_mAt, a_vName, a_vDecl, a_vKind, a_vVal, upd a_sk m (nI k), vp_updL a_sv m v, a_oKind, a_oAt, a_oArgs, a_cKind, a_cA, a_cB, a_outK, a_outV)) : wpY_push post (f_most, f_n, f_stored, f_nm, f_nEnv, f_base, nI m, f_no, f_nc, f_pc, f_mode, f_err, f_errAt, f_ticks, f_calls, f_outs, f_resK, f_part, f_resV, f_cnt, f_full, f_flag, f_need, a_tk, a_tv, a_tp, a_mName, a_mKind, a_mCount, a_mPar, a_mAt, a_vName, a_vDecl, a_vKind, a_vVal, a_sk, a_sv, a_oKind, a_oAt, a_oArgs, a_cKind, a_cA, a_cB, a_outK, a_outV) (nI k) v := by
  have i : vp_in (nI m) 400 := vp_in_nI h (by decide)
  have e : (nI m).toNatClampNeg = m := nI_clamp (by omega)
  exact ⟨i, nm_r (by rw [e, ls_vnb2 hk]) (nm_r (nI_1 m) ⟨i, nm_r (by rw [e]) hp⟩)⟩
set_option maxHeartbeats 200000 in
theorem hy_openOp {kd p no : Nat} (h : no < 400) (hk : kd < 128) (hpp : p < 32768) (hp : post (f_most, f_n, f_stored, f_nm, f_nEnv, f_base, f_ns, nI (no + 1), f_nc, f_pc, f_mode, f_err, f_errAt, f_ticks, f_calls, f_outs, f_resK, f_part, f_resV, f_cnt, f_full, f_flag, f_need, a_tk, a_tv, a_tp, a_mName, a_mKind, a_mCount, a_mPar, a_mAt, a_vName, a_vDecl, a_vKind, a_vVal, a_sk, a_sv, upd a_oKind no (nI kd), upd a_oAt no (nI p), upd a_oArgs no 0, a_cKind, a_cA, a_cB, a_outK, a_outV)) : wpY_openOp post (f_most, f_n, f_stored, f_nm, f_nEnv, f_base, f_ns, nI no, f_nc, f_pc, f_mode, f_err, f_errAt, f_ticks, f_calls, f_outs, f_resK, f_part, f_resV, f_cnt, f_full, f_flag, f_need, a_tk, a_tv, a_tp, a_mName, a_mKind, a_mCount, a_mPar, a_mAt, a_vName, a_vDecl, a_vKind, a_vVal, a_sk, a_sv, a_oKind, a_oAt, a_oArgs, a_cKind, a_cA, a_cB, a_outK, a_outV) (nI kd) (nI p) := by
  have i : vp_in (nI no) 400 := vp_in_nI h (by decide)
  have e : (nI no).toNatClampNeg = no := nI_clamp (by omega)
  exact ⟨i, nm_r (by rw [e, ls_vnb2 hk]) ⟨i, nm_r (by rw [e, show vp_nar .byte 0 = 0 from ls_vnb (n := 0) (by decide)]) (nm_r (nI_1 no) ⟨i, nm_r (by rw [e, ls_vns2 hpp]) hp⟩)⟩⟩
set_option maxHeartbeats 200000 in
theorem hy_hold {kd a b nc : Nat} (h : nc < 700) (hk : kd < 128) (ha : a < 32768) (hb : b < 32768) (hp : post (f_most, f_n, f_stored, f_nm, f_nEnv, f_base, f_ns, f_no, nI (nc + 1), f_pc, f_mode, f_err, f_errAt, f_ticks, f_calls, f_outs, f_resK, f_part, f_resV, f_cnt, f_full, f_flag, f_need, a_tk, a_tv, a_tp, a_mName, a_mKind, a_mCount, a_mPar, a_mAt, a_vName, a_vDecl, a_vKind, a_vVal, a_sk, a_sv, a_oKind, a_oAt, a_oArgs, upd a_cKind nc (nI kd), upd a_cA nc (nI a), upd a_cB nc (nI b), a_outK, a_outV)) : wpY_hold post (f_most, f_n, f_stored, f_nm, f_nEnv, f_base, f_ns, f_no, nI nc, f_pc, f_mode, f_err, f_errAt, f_ticks, f_calls, f_outs, f_resK, f_part, f_resV, f_cnt, f_full, f_flag, f_need, a_tk, a_tv, a_tp, a_mName, a_mKind, a_mCount, a_mPar, a_mAt, a_vName, a_vDecl, a_vKind, a_vVal, a_sk, a_sv, a_oKind, a_oAt, a_oArgs, a_cKind, a_cA, a_cB, a_outK, a_outV) (nI kd) (nI a) (nI b) := by
  have i : vp_in (nI nc) 700 := vp_in_nI h (by decide)
  have e : (nI nc).toNatClampNeg = nc := nI_clamp (by omega)
  exact ⟨i, nm_r (by rw [e, ls_vnb2 hk]) ⟨i, nm_r (by rw [e, ls_vns2 ha]) (nm_r (nI_1 nc) ⟨i, nm_r (by rw [e, ls_vns2 hb]) hp⟩)⟩⟩
set_option maxHeartbeats 200000 in
theorem hy_fit {f t : Nat} (hf : f ≤ 5) (ht : t ≤ 5) (h1 : ls_fit f t = true → q 1) (h0 : ls_fit f t = false → q 0) : wpY_fit q (f_most, f_n, f_stored, f_nm, f_nEnv, f_base, f_ns, f_no, f_nc, f_pc, f_mode, f_err, f_errAt, f_ticks, f_calls, f_outs, f_resK, f_part, f_resV, f_cnt, f_full, f_flag, f_need, a_tk, a_tv, a_tp, a_mName, a_mKind, a_mCount, a_mPar, a_mAt, a_vName, a_vDecl, a_vKind, a_vVal, a_sk, a_sv, a_oKind, a_oAt, a_oArgs, a_cKind, a_cA, a_cB, a_outK, a_outV) (nI f) (nI t) := by
  have N : ∀ a w, a < 100 → w < 100 → a ≠ w → ¬ nI a = nI w := fun a w ha hw h => mt (ls_k8 ha hw).mp h
  have E : ∀ a w, a = w → nI a = nI w := fun a w h => by rw [h]
  have D : ∀ b : Bool, ls_fit f t = b → (b = true → q 1) := fun b h hb => h1 (by rw [h, hb])
  have T : (t = 5 ∨ f = t ∨ (t = 3 ∧ (f = 1 ∨ f = 2)) ∨ (t = 4 ∧ (f = 1 ∨ f = 2 ∨ f = 3))) → q 1 := by
    intro h
    apply h1
    unfold ls_fit
    simp only [Bool.or_eq_true, Bool.and_eq_true, decide_eq_true_eq]
    omega
  have F : ¬ (t = 5 ∨ f = t ∨ (t = 3 ∧ (f = 1 ∨ f = 2)) ∨ (t = 4 ∧ (f = 1 ∨ f = 2 ∨ f = 3))) → q 0 := by
    intro h
    apply h0
    cases hb : ls_fit f t with
    | false => rfl
    | true =>
      exfalso
      apply h
      unfold ls_fit at hb
      simp only [Bool.or_eq_true, Bool.and_eq_true, decide_eq_true_eq] at hb
      omega
  by_cases t5 : t = 5
  · exact br_t (E t 5 t5) (T (Or.inl t5))
  refine br_f (N t 5 (by omega) (by decide) t5) ?_
  by_cases ft : f = t
  · exact br_t (E f t ft) (T (Or.inr (Or.inl ft)))
  refine br_f (N f t (by omega) (by omega) ft) ?_
  by_cases t3 : t = 3
  · refine br_t (E t 3 t3) ?_
    by_cases f1 : f = 1
    · exact br_t (E f 1 f1) (T (by omega))
    refine br_f (N f 1 (by omega) (by decide) f1) ?_
    by_cases f2 : f = 2
    · exact br_t (E f 2 f2) (T (by omega))
    · exact br_f (N f 2 (by omega) (by decide) f2) (F (by omega))
  refine br_f (N t 3 (by omega) (by decide) t3) ?_
  by_cases t4 : t = 4
  · refine br_t (E t 4 t4) ?_
    by_cases f0 : f = 0
    · exact br_t (by rw [f0]; decide) (F (by omega))
    refine br_f (nI_nle (by omega) (by omega)) ?_
    by_cases f4 : 4 ≤ f
    · exact br_t (nI_le (a := 4) f4 (by omega)) (F (by omega))
    · exact br_f (nI_ge (b := 4) (by omega) (by decide)) (T (by omega))
  · exact br_f (N t 4 (by omega) (by decide) t4) (F (by omega))
set_option maxHeartbeats 200000 in
theorem hy_narrow {r : Int64 → Prop} (hk : k < 100) (hp : r (ls_nar k v)) : wpY_narrow r (f_most, f_n, f_stored, f_nm, f_nEnv, f_base, f_ns, f_no, f_nc, f_pc, f_mode, f_err, f_errAt, f_ticks, f_calls, f_outs, f_resK, f_part, f_resV, f_cnt, f_full, f_flag, f_need, a_tk, a_tv, a_tp, a_mName, a_mKind, a_mCount, a_mPar, a_mAt, a_vName, a_vDecl, a_vKind, a_vVal, a_sk, a_sv, a_oKind, a_oAt, a_oArgs, a_cKind, a_cA, a_cB, a_outK, a_outV) v (nI k) := by
  unfold ls_nar at hp
  by_cases k1 : k = 1
  · rw [if_pos k1] at hp
    exact br_t ((ls_k8 hk (by decide)).mpr k1) hp
  rw [if_neg k1] at hp
  refine br_f (mt (ls_k8 hk (by decide)).mp k1) ?_
  by_cases k2 : k = 2
  · rw [if_pos k2] at hp
    exact br_t ((ls_k8 hk (by decide)).mpr k2) hp
  rw [if_neg k2] at hp
  refine br_f (mt (ls_k8 hk (by decide)).mp k2) ?_
  by_cases k3 : k = 3
  · rw [if_pos k3] at hp
    exact br_t ((ls_k8 hk (by decide)).mpr k3) hp
  · rw [if_neg k3] at hp
    exact br_f (mt (ls_k8 hk (by decide)).mp k3) hp
set_option maxHeartbeats 200000 in
/-- the conversion of the top operand -/
theorem hy_convert {t a b : Nat} {tf : Nat → Nat} (hm : m < 399) (ht : t ≤ 5) (hab : a ≤ b) (hb : b ≤ 384) (htf : ∀ i, a ≤ i → i < b → a_tk i = nI (tf i) ∧ tf i < 100) (e2 : a_sk m = nI k) (hk : k ≤ 4) (e3 : a_sv m = v)
    (h1 : ∀ k' sk', ls_cnv t (!ls_hasn tf a (b - a)) k v = some k' → sk' m = nI k' → (∀ j, j ≠ m → sk' j = a_sk j) → p2 1 (f_most, f_n, f_stored, f_nm, f_nEnv, f_base, nI (m + 1), f_no, f_nc, f_pc, f_mode, f_err, f_errAt, f_ticks, f_calls, f_outs, f_resK, f_part, f_resV, f_cnt, f_full, f_flag, f_need, a_tk, a_tv, a_tp, a_mName, a_mKind, a_mCount, a_mPar, a_mAt, a_vName, a_vDecl, a_vKind, a_vVal, sk', a_sv, a_oKind, a_oAt, a_oArgs, a_cKind, a_cA, a_cB, a_outK, a_outV))
    (h0 : ls_cnv t (!ls_hasn tf a (b - a)) k v = none → p2 0 (f_most, f_n, f_stored, f_nm, f_nEnv, f_base, nI (m + 1), f_no, f_nc, f_pc, f_mode, f_err, f_errAt, f_ticks, f_calls, f_outs, f_resK, f_part, f_resV, f_cnt, f_full, f_flag, f_need, a_tk, a_tv, a_tp, a_mName, a_mKind, a_mCount, a_mPar, a_mAt, a_vName, a_vDecl, a_vKind, a_vVal, a_sk, a_sv, a_oKind, a_oAt, a_oArgs, a_cKind, a_cA, a_cB, a_outK, a_outV)) : wpY_convert p2 (f_most, f_n, f_stored, f_nm, f_nEnv, f_base, nI (m + 1), f_no, f_nc, f_pc, f_mode, f_err, f_errAt, f_ticks, f_calls, f_outs, f_resK, f_part, f_resV, f_cnt, f_full, f_flag, f_need, a_tk, a_tv, a_tp, a_mName, a_mKind, a_mCount, a_mPar, a_mAt, a_vName, a_vDecl, a_vKind, a_vVal, a_sk, a_sv, a_oKind, a_oAt, a_oArgs, a_cKind, a_cA, a_cB, a_outK, a_outV) (nI t) (nI a) (nI b) := by
  have im : vp_in (nI m) 400 := vp_in_nI (by omega) (by decide)
  have em : (nI m).toNatClampNeg = m := nI_clamp (by omega)
  have en : nI (m + 1) - 1 = nI m := nI_pred m
  have K : ∀ ok : Nat, ok ≤ 1 → (ok = 1 ↔ (ls_fit k t = true ∨ ((!ls_hasn tf a (b - a)) = true ∧ (k = 1 ∨ k = 2 ∨ k = 3) ∧ (t = 1 ∨ t = 2) ∧ ls_nar t v = v))) → wY_convert_113 p2 (nI t) (nI ok) f_most f_n f_stored f_nm f_nEnv f_base (nI (m + 1)) f_no f_nc f_pc f_mode f_err f_errAt f_ticks f_calls f_outs f_resK f_part f_resV f_cnt f_full f_flag f_need a_tk a_tv a_tp a_mName a_mKind a_mCount a_mPar a_mAt a_vName a_vDecl a_vKind a_vVal a_sk a_sv a_oKind a_oAt a_oArgs a_cKind a_cA a_cB a_outK a_outV := by
    intro ok lo hok
    unfold ls_cnv at h1 h0
    by_cases o : ok = 1
    · rw [if_pos (hok.mp o)] at h1
      subst o
      refine br_f (by decide) ?_
      by_cases t5 : t = 5
      · rw [if_pos t5] at h1
        exact br_t (by rw [t5]; rfl) ⟨rfl, h1 _ a_sk rfl e2 (fun _ _ => rfl)⟩
      · rw [if_neg t5] at h1
        refine br_f (mt (ls_k8 (b := 5) (by omega) (by decide)).mp t5) ?_
        rw [en]
        exact ⟨im, nm_r (by rw [em, ls_vnb2 (by omega)]) ⟨rfl, h1 _ (upd a_sk m (nI t)) rfl pk_us (fun j hj => pk_un hj)⟩⟩
    · rw [if_neg (fun h => o (hok.mpr h))] at h0
      have : ok = 0 := by omega
      subst this
      exact br_t rfl ⟨rfl, h0 rfl⟩
  unfold wpY_convert
  dsimp only
  rw [en]
  refine ⟨im, ?_⟩
  rw [em, e2, e3]
  refine nm_e ?_
  refine hy_fit (by omega) ht (fun hf => br_f (by decide) (K 1 (by decide) ⟨fun _ => Or.inl hf, fun _ => rfl⟩)) (fun hf => br_t rfl ?_)
  have nofit : ¬ ls_fit k t = true := by rw [hf]; decide
  have NO : ¬ ((!ls_hasn tf a (b - a)) = true ∧ (k = 1 ∨ k = 2 ∨ k = 3) ∧ (t = 1 ∨ t = 2) ∧ ls_nar t v = v) → wY_convert_113 p2 (nI t) 0 f_most f_n f_stored f_nm f_nEnv f_base (nI (m + 1)) f_no f_nc f_pc f_mode f_err f_errAt f_ticks f_calls f_outs f_resK f_part f_resV f_cnt f_full f_flag f_need a_tk a_tv a_tp a_mName a_mKind a_mCount a_mPar a_mAt a_vName a_vDecl a_vKind a_vVal a_sk a_sv a_oKind a_oAt a_oArgs a_cKind a_cA a_cB a_outK a_outV := fun h =>
    K 0 (by decide) ⟨fun e => by omega, fun e => e.elim (fun g => absurd g nofit) (fun g => absurd g h)⟩
  by_cases t0 : t = 0
  · exact br_t (by rw [t0]; decide) (NO (fun h => by omega))
  refine br_f (nI_nle (by omega) (by omega)) ?_
  by_cases t3 : 3 ≤ t
  · exact br_t (nI_le (a := 3) t3 (by omega)) (NO (fun h => by omega))
  refine br_f (nI_ge (b := 3) (by omega) (by decide)) ?_
  by_cases k0 : k = 0
  · exact br_t (by rw [k0]; decide) (NO (fun h => by omega))
  refine br_f (nI_nle (by omega) (by omega)) ?_
  by_cases k4 : 4 ≤ k
  · exact br_t (nI_le (a := 4) k4 (by omega)) (NO (fun h => by omega))
  refine br_f (nI_ge (b := 4) (by omega) (by decide)) ⟨im, ?_⟩
  refine hy_narrow (by omega) ⟨im, ?_⟩
  by_cases nv : ls_nar t v = v
  · refine br_t nv ?_
    have L : ∀ d i ok : Nat, i + d = b → a ≤ i → ok ≤ 1 → (ok = 1 ∧ ls_hasn tf i d = false ↔ ls_hasn tf a (b - a) = false) → wY_convert_84 p2 (nI t) (nI b) f_most f_n f_stored f_nm f_nEnv f_base (nI (m + 1)) f_no f_nc f_pc f_mode f_err f_errAt f_ticks f_calls f_outs f_resK f_part f_resV f_cnt f_full f_flag f_need a_tk a_tv a_tp a_mName a_mKind a_mCount a_mPar a_mAt a_vName a_vDecl a_vKind a_vVal a_sk a_sv a_oKind a_oAt a_oArgs a_cKind a_cA a_cB a_outK a_outV (d + 1) (nI ok) (nI i) := by
      intro d
      induction d with
      | zero =>
        intro i ok hi hai lo hq
        refine br_t (nI_le (by omega) (by omega)) (K ok lo ⟨fun o => Or.inr ⟨?_, by omega, by omega, nv⟩, fun o => ?_⟩)
        · rw [hq.mp ⟨o, rfl⟩]; rfl
        · rcases o with o | o
          · exact absurd o nofit
          · exact (hq.mpr (by have := o.1; cases hh : ls_hasn tf a (b - a) with | false => rfl | true => rw [hh] at this; cases this)).1
      | succ d ih =>
        intro i ok hi hai lo hq
        obtain ⟨g1, g2⟩ := htf i hai (by omega)
        refine br_f (nI_ge (by omega) (by omega)) ⟨vp_in_nI (by omega) (by decide), ?_⟩
        rw [nI_clamp (by omega), g1]
        have eh : ls_hasn tf i (d + 1) = (decide (ls_nam (tf i)) || ls_hasn tf (i + 1) d) := rfl
        refine hy_isName g2 (fun n => br_f (by decide) (nm_r (nI_1 i) ?_)) (fun n => br_t rfl (nm_r (nI_1 i) ?_))
        · refine ih (i + 1) 0 (by omega) (by omega) (by decide) ⟨fun h => by omega, fun h => ?_⟩
          have := hq.mpr h
          rw [eh, decide_eq_true n] at this
          cases this.2
        · refine ih (i + 1) ok (by omega) (by omega) lo ?_
          rw [eh, decide_eq_false n, Bool.false_or] at hq
          exact hq
    exact ⟨_, L (b - a) a 1 (by omega) (Nat.le_refl _) (by decide) ⟨fun h => h.2, fun h => ⟨rfl, h⟩⟩⟩
  · exact br_f nv (NO (fun h => nv h.2.2.2))
end
