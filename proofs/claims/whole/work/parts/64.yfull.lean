/-! The reference: assignments, the end of an expression, returns, statements -/
section
variable {f_most f_n f_stored f_nm f_nEnv f_base f_ns f_no f_nc f_pc f_mode f_err f_errAt f_ticks f_calls f_outs f_resK f_part f_cnt f_full f_flag f_need : Int32}
variable {f_resV : Int64}
variable {a_tk a_tp a_mName a_mKind a_mCount a_mPar a_mAt a_vName a_vDecl a_vKind a_sk a_oKind a_oAt a_oArgs a_cKind a_cA a_cB a_outK : Nat → Int32}
variable {a_tv a_vVal a_sv a_outV : Nat → Int64}
variable {post : SY → Prop} {p a m no nc : Nat} {L : List Nat} {b : Nat}
set_option maxHeartbeats 200000 in
theorem ls_upd_id {f : Nat → Int32} {i : Nat} {x : Int32} (h : f i = x) : upd f i x = f := by
  funext j
  by_cases e : j = i
  · subst e; rw [pk_us, h]
  · rw [pk_un e]
set_option maxHeartbeats 200000 in
theorem ls_yp_lt {nm : Nat} (hnm : nm < 16) (hb : b + L.length ≤ 80) : ls_yp b L nm < 96 := by
  unfold ls_yp
  rcases ls_addr_c (L := L) (nm := nm) with h | ⟨j, h1, h2⟩
  · rw [h, if_pos hnm]; omega
  · rw [h2, if_neg (by omega)]; omega
set_option maxHeartbeats 200000 in
theorem ls_yp_g {nm : Nat} (h : ls_addr L nm < 16) : ls_yp b L nm = 80 + nm := by
  unfold ls_yp
  rw [if_pos h]
set_option maxHeartbeats 200000 in
theorem ls_cnv5 {c : Bool} {k : Nat} {v : Int64} : ls_cnv 5 c k v ≠ none := by
  unfold ls_cnv
  rw [if_pos (Or.inl (by unfold ls_fit; simp))]
  simp
set_option maxHeartbeats 200000 in
theorem hy_assign_153 {j k : Nat} (hm : m < 399) (hj : j < 96) (e1 : a_sk m = nI k) (hk : k < 128) (g : post (f_most, f_n, f_stored, f_nm, f_nEnv, f_base, nI (m + 1), f_no, f_nc, f_pc, f_mode, f_err, f_errAt, f_ticks, f_calls, f_outs, f_resK, f_part, f_resV, f_cnt, f_full, f_flag, f_need, a_tk, a_tv, a_tp, a_mName, a_mKind, a_mCount, a_mPar, a_mAt, a_vName, a_vDecl, upd a_vKind j (nI k), vp_updL a_vVal j (a_sv m), a_sk, a_sv, a_oKind, a_oAt, a_oArgs, a_cKind, a_cA, a_cB, a_outK, a_outV)) : wY_assign_153 post (nI j) f_most f_n f_stored f_nm f_nEnv f_base (nI (m + 1)) f_no f_nc f_pc f_mode f_err f_errAt f_ticks f_calls f_outs f_resK f_part f_resV f_cnt f_full f_flag f_need a_tk a_tv a_tp a_mName a_mKind a_mCount a_mPar a_mAt a_vName a_vDecl a_vKind a_vVal a_sk a_sv a_oKind a_oAt a_oArgs a_cKind a_cA a_cB a_outK a_outV := by
  unfold wY_assign_153
  rw [nI_pred, nI_clamp (by omega), nI_clamp (by omega), e1, ls_vnb hk]
  exact ⟨vp_in_nI (by omega) (by decide), vp_in_nI hj (by decide), nm_e ⟨vp_in_nI (by omega) (by decide), vp_in_nI hj (by decide), nm_e g⟩⟩
set_option maxHeartbeats 200000 in
/-- a plain assignment -/
theorem hy_assign_e {q nm t k : Nat} {v : Int64} {tf : Nat → Nat} (hp : p ≤ 384) (hq : q + 2 ≤ p) (hm : m < 399) (hnm : nm < 16) (e1 : a_tk q = nI (nm + 54)) (e2 : a_tk (q + 1) = 21) (hL : ∀ x ∈ L, x < 16) (hb : b + L.length ≤ 80) (hN : ls_LN a_vName b L) (he : f_err = 0)
    (htf : ∀ i, q + 2 ≤ i → i < p → a_tk i = nI (tf i) ∧ tf i < 100) (e3 : a_sk m = nI k) (hk : k ≤ 4) (e4 : a_sv m = v) (ht : t ≤ 5)
    (ed : (16 ≤ ls_addr L nm ∨ 0 ≤ a_vDecl (80 + nm)) → a_vDecl (ls_yp b L nm) = nI t) (ed0 : ls_addr L nm < 16 → ¬ 0 ≤ a_vDecl (80 + nm) → t = 5)
    (h1 : ∀ k' sk', ls_cnv t (!ls_hasn tf (q + 2) (p - (q + 2))) k v = some k' → sk' m = nI k' → (∀ j, j ≠ m → sk' j = a_sk j) → post (f_most, f_n, f_stored, f_nm, nI (b + L.length), nI b, nI (m + 1), f_no, f_nc, nI p, f_mode, f_err, f_errAt, f_ticks, f_calls, f_outs, f_resK, f_part, f_resV, f_cnt, f_full, f_flag, f_need, a_tk, a_tv, a_tp, a_mName, a_mKind, a_mCount, a_mPar, a_mAt, a_vName, upd a_vDecl (ls_yp b L nm) (nI t), upd a_vKind (ls_yp b L nm) (nI k'), vp_updL a_vVal (ls_yp b L nm) v, sk', a_sv, a_oKind, a_oAt, a_oArgs, a_cKind, a_cA, a_cB, a_outK, a_outV))
    (h0 : ls_cnv t (!ls_hasn tf (q + 2) (p - (q + 2))) k v = none → post (f_most, f_n, f_stored, f_nm, nI (b + L.length), nI b, nI (m + 1), f_no, f_nc, nI p, f_mode, 3, ls_pl a_tp (q + 1), f_ticks, f_calls, f_outs, f_resK, f_part, f_resV, f_cnt, f_full, f_flag, f_need, a_tk, a_tv, a_tp, a_mName, a_mKind, a_mCount, a_mPar, a_mAt, a_vName, a_vDecl, a_vKind, a_vVal, a_sk, a_sv, a_oKind, a_oAt, a_oArgs, a_cKind, a_cA, a_cB, a_outK, a_outV)) : wpY_assign post (f_most, f_n, f_stored, f_nm, nI (b + L.length), nI b, nI (m + 1), f_no, f_nc, nI p, f_mode, f_err, f_errAt, f_ticks, f_calls, f_outs, f_resK, f_part, f_resV, f_cnt, f_full, f_flag, f_need, a_tk, a_tv, a_tp, a_mName, a_mKind, a_mCount, a_mPar, a_mAt, a_vName, a_vDecl, a_vKind, a_vVal, a_sk, a_sv, a_oKind, a_oAt, a_oArgs, a_cKind, a_cA, a_cB, a_outK, a_outV) (nI q) := by
  have lt := ls_yp_lt (L := L) (b := b) hnm hb
  unfold wpY_assign
  dsimp only
  rw [nI_1, nI_clamp (by omega), e2]
  refine ⟨vp_in_nI (by omega) (by decide), nm_e (br_t rfl ?_)⟩
  unfold wY_assign_26
  refine br_t he ⟨vp_in_nI (by omega) (by decide), ?_⟩
  rw [nI_clamp (by omega), e1]
  have G : ∀ vd : Nat → Int32, vd (ls_yp b L nm) = nI t → (∀ k' sk', ls_cnv t (!ls_hasn tf (q + 2) (p - (q + 2))) k v = some k' → sk' m = nI k' → (∀ j, j ≠ m → sk' j = a_sk j) → post (f_most, f_n, f_stored, f_nm, nI (b + L.length), nI b, nI (m + 1), f_no, f_nc, nI p, f_mode, f_err, f_errAt, f_ticks, f_calls, f_outs, f_resK, f_part, f_resV, f_cnt, f_full, f_flag, f_need, a_tk, a_tv, a_tp, a_mName, a_mKind, a_mCount, a_mPar, a_mAt, a_vName, vd, upd a_vKind (ls_yp b L nm) (nI k'), vp_updL a_vVal (ls_yp b L nm) v, sk', a_sv, a_oKind, a_oAt, a_oArgs, a_cKind, a_cA, a_cB, a_outK, a_outV)) → (ls_cnv t (!ls_hasn tf (q + 2) (p - (q + 2))) k v = none → post (f_most, f_n, f_stored, f_nm, nI (b + L.length), nI b, nI (m + 1), f_no, f_nc, nI p, f_mode, 3, ls_pl a_tp (q + 1), f_ticks, f_calls, f_outs, f_resK, f_part, f_resV, f_cnt, f_full, f_flag, f_need, a_tk, a_tv, a_tp, a_mName, a_mKind, a_mCount, a_mPar, a_mAt, a_vName, vd, a_vKind, a_vVal, a_sk, a_sv, a_oKind, a_oAt, a_oArgs, a_cKind, a_cA, a_cB, a_outK, a_outV)) → wY_assign_66 post (nI q) 21 (nI (ls_yp b L nm)) f_most f_n f_stored f_nm (nI (b + L.length)) (nI b) (nI (m + 1)) f_no f_nc (nI p) f_mode f_err f_errAt f_ticks f_calls f_outs f_resK f_part f_resV f_cnt f_full f_flag f_need a_tk a_tv a_tp a_mName a_mKind a_mCount a_mPar a_mAt a_vName vd a_vKind a_vVal a_sk a_sv a_oKind a_oAt a_oArgs a_cKind a_cA a_cB a_outK a_outV := by
    intro vd hvd g1 g0
    unfold wY_assign_66
    rw [nI_clamp (by omega), hvd]
    refine ⟨vp_in_nI lt (by decide), nm_e (br_t rfl ?_)⟩
    rw [show (2 : Int32) = nI 2 from rfl, nI_add]
    refine hy_convert (tf := tf) hm ht hq hp htf e3 hk e4 (fun k' sk' hc hs hs' => br_f (by decide) ?_) (fun hc => br_t rfl ?_)
    · have k5 : k' < 128 := by
        unfold ls_cnv at hc
        split at hc
        · injection hc with hc
          split at hc <;> omega
        · cases hc
      refine hy_assign_153 hm lt hs k5 ?_
      rw [e4]
      exact g1 k' sk' hc hs hs'
    · rw [nI_1]
      exact hy_fail (by omega) (g0 hc)
  refine hy_var hnm hL hb hN (fun c => br_t (nI_le (a := 0) (by omega) (by omega)) ?_) (fun c1 c2 => br_f (by decide) ⟨vp_in_nI (by omega) (by decide), ?_⟩)
  · refine G a_vDecl (ed c) (fun k' sk' hc hs hs' => ?_) h0
    have := h1 k' sk' hc hs hs'
    rw [ls_upd_id (ed c)] at this
    exact this
  · have t5 := ed0 c1 c2
    subst t5
    have ey := ls_yp_g (b := b) c1
    have e0 : (26 : Int32) + nI (nm + 54) = nI (80 + nm) := by rw [show (26 : Int32) = nI 26 from rfl, nI_add, show 26 + (nm + 54) = 80 + nm by omega]
    refine nm_r e0 ⟨vp_in_nI (by omega) (by decide), nm_r (e' := upd a_vDecl (80 + nm) (nI 5)) (by rw [nI_clamp (by omega), show vp_nar .byte 5 = nI 5 from ls_vnb (n := 5) (by decide)]) ?_⟩
    have := G (upd a_vDecl (ls_yp b L nm) (nI 5)) pk_us h1 (fun hc => absurd hc ls_cnv5)
    rw [ey] at this
    exact this
set_option maxHeartbeats 200000 in
/-- an assignment that computes: the operation is done -/
theorem hy_assign_u {q nm t k w : Nat} {v : Int64} (hp : p ≤ 384) (hq : q + 2 ≤ p) (hm : m < 399) (hnm : nm < 16) (e1 : a_tk q = nI (nm + 54)) (hw : w ≠ 21 ∧ w < 100) (hL : ∀ x ∈ L, x < 16) (hb : b + L.length ≤ 80) (hN : ls_LN a_vName b L) (he : f_err = 0)
    (e3 : a_sk m = nI k) (hk : k ≤ 4) (e4 : a_sv m = v) (ht : t ≤ 5) (hd : 16 ≤ ls_addr L nm ∨ 0 ≤ a_vDecl (80 + nm)) (ed : a_vDecl (ls_yp b L nm) = nI t)
    (h1 : ∀ sk' sv' kd v', kd = (if t = 5 then k else t) → v' = (if t = 5 then v else ls_nar t v) → sk' m = nI kd → sv' m = v' → (∀ j, j ≠ m → sk' j = a_sk j ∧ sv' j = a_sv j) → post (f_most, f_n, f_stored, f_nm, nI (b + L.length), nI b, nI (m + 1), f_no, f_nc, nI p, f_mode, f_err, f_errAt, f_ticks, f_calls, f_outs, f_resK, f_part, f_resV, f_cnt, f_full, f_flag, f_need, a_tk, a_tv, a_tp, a_mName, a_mKind, a_mCount, a_mPar, a_mAt, a_vName, a_vDecl, upd a_vKind (ls_yp b L nm) (nI kd), vp_updL a_vVal (ls_yp b L nm) v', sk', sv', a_oKind, a_oAt, a_oArgs, a_cKind, a_cA, a_cB, a_outK, a_outV)) : wY_assign_26 post (nI q) (nI w) f_most f_n f_stored f_nm (nI (b + L.length)) (nI b) (nI (m + 1)) f_no f_nc (nI p) f_mode f_err f_errAt f_ticks f_calls f_outs f_resK f_part f_resV f_cnt f_full f_flag f_need a_tk a_tv a_tp a_mName a_mKind a_mCount a_mPar a_mAt a_vName a_vDecl a_vKind a_vVal a_sk a_sv a_oKind a_oAt a_oArgs a_cKind a_cA a_cB a_outK a_outV := by
  have lt := ls_yp_lt (L := L) (b := b) hnm hb
  unfold wY_assign_26
  refine br_t he ⟨vp_in_nI (by omega) (by decide), ?_⟩
  rw [nI_clamp (by omega), e1]
  refine hy_var hnm hL hb hN (fun c => br_t (nI_le (a := 0) (by omega) (by omega)) ?_) (fun c1 c2 => ?_)
  · unfold wY_assign_66
    rw [nI_clamp (by omega), ed]
    refine ⟨vp_in_nI lt (by decide), nm_e (br_f (mt (ls_k8 (b := 21) hw.2 (by decide)).mp hw.1) ?_)⟩
    have im : vp_in (nI m) 400 := vp_in_nI (by omega) (by decide)
    by_cases t5 : t = 5
    · subst t5
      refine br_t rfl (hy_assign_153 hm lt e3 (by omega) ?_)
      rw [e4]
      exact h1 a_sk a_sv k v (by rw [if_pos rfl]) (by rw [if_pos rfl]) e3 e4 (fun _ _ => ⟨rfl, rfl⟩)
    · refine br_f (mt (ls_k8 (b := 5) (by omega) (by decide)).mp t5) ?_
      rw [nI_pred, nI_clamp (by omega), ls_vnb2 (by omega), e4]
      refine ⟨im, nm_e ⟨im, hy_narrow (by omega) ⟨im, nm_e ?_⟩⟩⟩
      refine hy_assign_153 hm lt pk_us (by omega) ?_
      rw [pk_uLs]
      exact h1 _ _ t (ls_nar t v) (by rw [if_neg t5]) (by rw [if_neg t5]) pk_us pk_uLs (fun j hj => ⟨pk_un hj, pk_uLn hj⟩)
  · rcases hd with g | g
    · omega
    · exact absurd g c2
set_option maxHeartbeats 200000 in
theorem hy_assign_o {q w a b' : Nat} {x y : Int64} (hp : q + 1 < 384) (hm : m + 1 < 400) (hw : 43 ≤ w ∧ w ≤ 53) (e2 : a_tk (q + 1) = nI w) (s1 : a_sk m = nI a) (s2 : a_sk (m + 1) = nI b') (s3 : a_sv m = x) (s4 : a_sv (m + 1) = y) (wa : ls_wf a x) (wb : ls_wf b' y)
    (h1 : ∀ k' v', ls_bin (w - 19) a b' x y = .ok (k', v') → wY_assign_26 post (nI q) (nI w) f_most f_n f_stored f_nm f_nEnv f_base (nI (m + 1)) f_no f_nc f_pc f_mode f_err f_errAt f_ticks f_calls f_outs f_resK f_part f_resV f_cnt f_full f_flag f_need a_tk a_tv a_tp a_mName a_mKind a_mCount a_mPar a_mAt a_vName a_vDecl a_vKind a_vVal (upd a_sk m (nI k')) (vp_updL a_sv m v') a_oKind a_oAt a_oArgs a_cKind a_cA a_cB a_outK a_outV)
    (h0 : ∀ e : Nat, e ≠ 0 → e < 100 → ls_bin (w - 19) a b' x y = .error e → post (f_most, f_n, f_stored, f_nm, f_nEnv, f_base, nI (m + 1), f_no, f_nc, f_pc, f_mode, nI e, ls_pl a_tp (q + 1), f_ticks, f_calls, f_outs, f_resK, f_part, f_resV, f_cnt, f_full, f_flag, f_need, a_tk, a_tv, a_tp, a_mName, a_mKind, a_mCount, a_mPar, a_mAt, a_vName, a_vDecl, a_vKind, a_vVal, a_sk, a_sv, a_oKind, a_oAt, a_oArgs, a_cKind, a_cA, a_cB, a_outK, a_outV)) : wpY_assign post (f_most, f_n, f_stored, f_nm, f_nEnv, f_base, nI (m + 2), f_no, f_nc, f_pc, f_mode, f_err, f_errAt, f_ticks, f_calls, f_outs, f_resK, f_part, f_resV, f_cnt, f_full, f_flag, f_need, a_tk, a_tv, a_tp, a_mName, a_mKind, a_mCount, a_mPar, a_mAt, a_vName, a_vDecl, a_vKind, a_vVal, a_sk, a_sv, a_oKind, a_oAt, a_oArgs, a_cKind, a_cA, a_cB, a_outK, a_outV) (nI q) := by
  unfold wpY_assign
  dsimp only
  rw [nI_1, nI_clamp (by omega), e2]
  refine ⟨vp_in_nI hp (by decide), nm_e (br_f (mt (ls_k8 (b := 21) (by omega) (by decide)).mp (by omega)) ?_)⟩
  have e3 : nI w - 19 = nI (w - 19) := by
    obtain ⟨j, rfl⟩ : ∃ j, w = j + 19 := ⟨w - 19, by omega⟩
    rw [Nat.add_sub_cancel, ← nI_add]
    exact Int32.add_sub_cancel (nI j) 19
  rw [e3]
  refine hy_operate hm hp ⟨by omega, by omega⟩ s1 s2 s3 s4 wa wb h1 (fun e he => ?_)
  have : e ≠ 0 ∧ e < 100 := by
    unfold ls_bin at he
    split at he
    · injection he with he; omega
    · split at he
      · injection he with he; omega
      · cases he
  unfold wY_assign_26
  exact br_f (fun g => this.1 ((ls_k8 (b := 0) this.2 (by decide)).mp g)) (h0 e this.1 this.2 he)
end
section
variable {f_most f_n f_stored f_nm f_nEnv f_base f_ns f_no f_nc f_pc f_mode f_err f_errAt f_ticks f_calls f_outs f_resK f_part f_cnt f_full f_flag f_need : Int32}
variable {f_resV : Int64}
variable {a_tk a_tp a_mName a_mKind a_mCount a_mPar a_mAt a_vName a_vDecl a_vKind a_sk a_oKind a_oAt a_oArgs a_cKind a_cA a_cB a_outK : Nat → Int32}
variable {a_tv a_vVal a_sv a_outV : Nat → Int64}
variable {post : SY → Prop} {p m : Nat} {T : Nat → Nat} {e lo hi q : Nat}
set_option maxHeartbeats 200000 in
/-- an if whose condition holds -/
theorem hy_fd_t {x1 : Nat} {v : Int64} (hx : x1 < 384) (hm : m < 399) (e1 : a_tk x1 = 6) (e2 : a_sk m = 0) (e3 : a_sv m = v) (hv : v ≠ 0) (g : post (f_most, f_n, f_stored, f_nm, f_nEnv, f_base, nI m, f_no, f_nc, nI (p + 1), 0, f_err, f_errAt, f_ticks, f_calls, f_outs, f_resK, 1, f_resV, f_cnt, f_full, f_flag, f_need, a_tk, a_tv, a_tp, a_mName, a_mKind, a_mCount, a_mPar, a_mAt, a_vName, a_vDecl, a_vKind, a_vVal, a_sk, a_sv, a_oKind, a_oAt, a_oArgs, a_cKind, a_cA, a_cB, a_outK, a_outV)) : wpY_fullDone post (f_most, f_n, f_stored, f_nm, f_nEnv, f_base, nI (m + 1), f_no, f_nc, nI p, f_mode, f_err, f_errAt, f_ticks, f_calls, f_outs, f_resK, f_part, f_resV, f_cnt, f_full, f_flag, f_need, a_tk, a_tv, a_tp, a_mName, a_mKind, a_mCount, a_mPar, a_mAt, a_vName, a_vDecl, a_vKind, a_vVal, a_sk, a_sv, a_oKind, a_oAt, a_oArgs, a_cKind, a_cA, a_cB, a_outK, a_outV) (nI x1) := by
  unfold wpY_fullDone
  dsimp only
  rw [nI_pred, nI_clamp (by omega), nI_clamp (by omega), e1, e2, e3]
  refine ⟨vp_in_nI hx (by decide), nm_e ⟨vp_in_nI (by omega) (by decide), nm_e ⟨vp_in_nI (by omega) (by decide), nm_e (br_t rfl ?_)⟩⟩⟩
  unfold wY_fullDone_49
  refine nm_r (nI_pred m) (br_t rfl (br_f (by decide) (br_f hv ?_)))
  unfold wY_fullDone_125 wY_fullDone_168 wY_fullDone_173
  rw [nI_1]
  exact br_f hv ⟨rfl, rfl, br_f hv g⟩
set_option maxHeartbeats 200000 in
theorem hy_fd_k {x1 k a : Nat} (hx : x1 < 384) (hm : m < 399) (e1 : a_tk x1 = nI a) (ha : a = 6 ∨ a = 8) (e2 : a_sk m = nI k) (hk : k ≠ 0 ∧ k < 100) (g : post (f_most, f_n, f_stored, f_nm, f_nEnv, f_base, nI m, f_no, f_nc, f_pc, 0, 3, ls_pl a_tp x1, f_ticks, f_calls, f_outs, f_resK, f_part, f_resV, f_cnt, f_full, f_flag, f_need, a_tk, a_tv, a_tp, a_mName, a_mKind, a_mCount, a_mPar, a_mAt, a_vName, a_vDecl, a_vKind, a_vVal, a_sk, a_sv, a_oKind, a_oAt, a_oArgs, a_cKind, a_cA, a_cB, a_outK, a_outV)) : wpY_fullDone post (f_most, f_n, f_stored, f_nm, f_nEnv, f_base, nI (m + 1), f_no, f_nc, f_pc, f_mode, f_err, f_errAt, f_ticks, f_calls, f_outs, f_resK, f_part, f_resV, f_cnt, f_full, f_flag, f_need, a_tk, a_tv, a_tp, a_mName, a_mKind, a_mCount, a_mPar, a_mAt, a_vName, a_vDecl, a_vKind, a_vVal, a_sk, a_sv, a_oKind, a_oAt, a_oArgs, a_cKind, a_cA, a_cB, a_outK, a_outV) (nI x1) := by
  unfold wpY_fullDone
  dsimp only
  rw [nI_pred, nI_clamp (by omega), nI_clamp (by omega), e1, e2]
  have G : wY_fullDone_49 post (nI x1) (nI a) (nI k) (a_sv m) f_most f_n f_stored f_nm f_nEnv f_base (nI (m + 1)) f_no f_nc f_pc 0 f_err f_errAt f_ticks f_calls f_outs f_resK f_part f_resV f_cnt f_full f_flag f_need a_tk a_tv a_tp a_mName a_mKind a_mCount a_mPar a_mAt a_vName a_vDecl a_vKind a_vVal a_sk a_sv a_oKind a_oAt a_oArgs a_cKind a_cA a_cB a_outK a_outV := by
    unfold wY_fullDone_49
    exact nm_r (nI_pred m) (br_f (mt (ls_k8 (b := 0) hk.2 (by decide)).mp hk.1) (hy_fail hx g))
  refine ⟨vp_in_nI hx (by decide), nm_e ⟨vp_in_nI (by omega) (by decide), nm_e ⟨vp_in_nI (by omega) (by decide), nm_e ?_⟩⟩⟩
  rcases ha with rfl | rfl
  · exact br_t rfl G
  · exact br_f (by decide) (br_t rfl G)
set_option maxHeartbeats 200000 in
/-- an if whose condition does not hold -/
theorem hy_fd_f {x1 n nc0 j : Nat} (hx : x1 < 384) (hm : m < 399) (e1 : a_tk x1 = 6) (e2 : a_sk m = 0) (e3 : a_sv m = 0) (ht : ls_tks T e lo hi a_tk) (hn : n < 1000) (hl : lo ≤ p + 1) (hlim : p + 1 + e < 140 → e = 0 ∧ hi = n ∧ ∀ p, n ≤ p → T p = 72) (hx2 : 140 ≤ x1 ↔ 140 ≤ p + 1 + e) (hq : q ≤ hi) (hq2 : 140 ≤ p + 1 + e → q < hi) (hb : 3 * nc0 + (hi - (p + 1)) ≤ 2096) (h : ls_sk T j (p + 1) [] q)
    (g7 : T q = 7 → ∀ ck ca cb : Nat → Int32, (∀ i, i < nc0 → ck i = a_cKind i ∧ ca i = a_cA i ∧ cb i = a_cB i) → post (f_most, nI n, f_stored, f_nm, f_nEnv, f_base, nI m, f_no, nI nc0, nI (q + 1 + e), 0, f_err, f_errAt, f_ticks, f_calls, f_outs, f_resK, 1, f_resV, f_cnt, f_full, f_flag, f_need, a_tk, a_tv, a_tp, a_mName, a_mKind, a_mCount, a_mPar, a_mAt, a_vName, a_vDecl, a_vKind, a_vVal, a_sk, a_sv, a_oKind, a_oAt, a_oArgs, ck, ca, cb, a_outK, a_outV))
    (g0 : T q ≠ 7 → ∀ ck ca cb : Nat → Int32, (∀ i, i < nc0 → ck i = a_cKind i ∧ ca i = a_cA i ∧ cb i = a_cB i) → post (f_most, nI n, f_stored, f_nm, f_nEnv, f_base, nI m, f_no, nI nc0, nI (q + e), 0, f_err, f_errAt, f_ticks, f_calls, f_outs, f_resK, 0, f_resV, f_cnt, f_full, f_flag, f_need, a_tk, a_tv, a_tp, a_mName, a_mKind, a_mCount, a_mPar, a_mAt, a_vName, a_vDecl, a_vKind, a_vVal, a_sk, a_sv, a_oKind, a_oAt, a_oArgs, ck, ca, cb, a_outK, a_outV)) : wpY_fullDone post (f_most, nI n, f_stored, f_nm, f_nEnv, f_base, nI (m + 1), f_no, nI nc0, nI (p + e), f_mode, f_err, f_errAt, f_ticks, f_calls, f_outs, f_resK, f_part, f_resV, f_cnt, f_full, f_flag, f_need, a_tk, a_tv, a_tp, a_mName, a_mKind, a_mCount, a_mPar, a_mAt, a_vName, a_vDecl, a_vKind, a_vVal, a_sk, a_sv, a_oKind, a_oAt, a_oArgs, a_cKind, a_cA, a_cB, a_outK, a_outV) (nI x1) := by
  unfold wpY_fullDone
  dsimp only
  rw [nI_pred, nI_clamp (by omega), nI_clamp (by omega), e1, e2, e3]
  refine ⟨vp_in_nI hx (by decide), nm_e ⟨vp_in_nI (by omega) (by decide), nm_e ⟨vp_in_nI (by omega) (by decide), nm_e (br_t rfl ?_)⟩⟩⟩
  unfold wY_fullDone_49
  refine nm_r (nI_pred m) (br_t rfl (br_f (by decide) (br_t rfl ?_)))
  rw [nI_1, show p + e + 1 = p + 1 + e by omega]
  have ht' := ht
  obtain ⟨h384, htk⟩ := ht
  refine hy_skip ht' hn hl hlim hq hq2 hb h (fun ck ca cb hc => ?_)
  have P172 : T q ≠ 7 → wY_fullDone_172 post 0 f_most (nI n) f_stored f_nm f_nEnv f_base (nI m) f_no (nI nc0) (nI (q + e)) 0 f_err f_errAt f_ticks f_calls f_outs f_resK f_part f_resV f_cnt f_full f_flag f_need a_tk a_tv a_tp a_mName a_mKind a_mCount a_mPar a_mAt a_vName a_vDecl a_vKind a_vVal a_sk a_sv a_oKind a_oAt a_oArgs ck ca cb a_outK a_outV := by
    intro n7
    unfold wY_fullDone_172 wY_fullDone_173
    exact ⟨rfl, rfl, br_t rfl (br_t rfl (g0 n7 ck ca cb hc))⟩
  have P154 : q < hi → wY_fullDone_154 post 0 f_most (nI n) f_stored f_nm f_nEnv f_base (nI m) f_no (nI nc0) (nI (q + e)) 0 f_err f_errAt f_ticks f_calls f_outs f_resK f_part f_resV f_cnt f_full f_flag f_need a_tk a_tv a_tp a_mName a_mKind a_mCount a_mPar a_mAt a_vName a_vDecl a_vKind a_vVal a_sk a_sv a_oKind a_oAt a_oArgs ck ca cb a_outK a_outV := by
    intro lt
    have lq := ls_sk_lt h
    obtain ⟨f1, f2⟩ := htk q (by omega) lt
    unfold wY_fullDone_154
    refine ⟨vp_in_nI (by omega) (by decide), ?_⟩
    rw [nI_clamp (by omega), f1]
    by_cases c7 : T q = 7
    · refine br_t (by rw [c7]; rfl) ?_
      unfold wY_fullDone_168 wY_fullDone_173
      refine ⟨rfl, rfl, br_t rfl (br_f (by decide) (nm_r (nI_1 _) ?_))⟩
      rw [show q + e + 1 = q + 1 + e by omega]
      exact g7 c7 ck ca cb hc
    · exact br_f (mt (ls_k8 (b := 7) f2 (by decide)).mp c7) (P172 c7)
  dsimp only
  unfold wY_fullDone_125
  refine br_t rfl ?_
  by_cases x140 : 140 ≤ x1
  · exact br_t (nI_le (a := 140) x140 (by omega)) (P154 (hq2 (hx2.mp x140)))
  · refine br_f (nI_ge (b := 140) (by omega) (by decide)) ?_
    obtain ⟨l1, l2, l3⟩ := hlim (by have := mt hx2.mpr x140; omega)
    by_cases c : n ≤ q
    · exact br_t (nI_le (by omega) (by omega)) (P172 (by rw [l3 q c]; decide))
    · exact br_f (nI_ge (by omega) (by omega)) (P154 (by omega))
set_option maxHeartbeats 200000 in
/-- a loop's condition -/
theorem hy_fd_l {x1 n nc0 j : Nat} {v : Int64} (hx : x1 < 384) (hm : m < 399) (hnc : nc0 < 700) (e1 : a_tk x1 = 8) (e2 : a_sk m = 0) (e3 : a_sv m = v) (ht : ls_tks T e lo hi a_tk) (hn : n < 1000) (hl : lo ≤ p + 1) (hlim : p + 1 + e < 140 → e = 0 ∧ hi = n ∧ ∀ p, n ≤ p → T p = 72) (hq : q ≤ hi) (hq2 : 140 ≤ p + 1 + e → q < hi) (hb : 3 * nc0 + (hi - (p + 1)) ≤ 2096) (h : ls_sk T j (p + 1) [] q)
    (g1 : v ≠ 0 → ∀ ck ca cb : Nat → Int32, (∀ i, i < nc0 → ck i = a_cKind i ∧ ca i = a_cA i ∧ cb i = a_cB i) → post (f_most, nI n, f_stored, f_nm, f_nEnv, f_base, nI m, f_no, nI (nc0 + 1), nI (p + 1 + e), 0, f_err, f_errAt, f_ticks, f_calls, f_outs, f_resK, f_part, f_resV, f_cnt, f_full, f_flag, f_need, a_tk, a_tv, a_tp, a_mName, a_mKind, a_mCount, a_mPar, a_mAt, a_vName, a_vDecl, a_vKind, a_vVal, a_sk, a_sv, a_oKind, a_oAt, a_oArgs, upd ck nc0 (nI 2), upd ca nc0 (nI x1), upd cb nc0 (nI (q + e)), a_outK, a_outV))
    (g0 : v = 0 → ∀ ck ca cb : Nat → Int32, (∀ i, i < nc0 → ck i = a_cKind i ∧ ca i = a_cA i ∧ cb i = a_cB i) → post (f_most, nI n, f_stored, f_nm, f_nEnv, f_base, nI m, f_no, nI nc0, nI (q + e), 0, f_err, f_errAt, f_ticks, f_calls, f_outs, f_resK, f_part, f_resV, f_cnt, f_full, f_flag, f_need, a_tk, a_tv, a_tp, a_mName, a_mKind, a_mCount, a_mPar, a_mAt, a_vName, a_vDecl, a_vKind, a_vVal, a_sk, a_sv, a_oKind, a_oAt, a_oArgs, ck, ca, cb, a_outK, a_outV)) : wpY_fullDone post (f_most, nI n, f_stored, f_nm, f_nEnv, f_base, nI (m + 1), f_no, nI nc0, nI (p + e), f_mode, f_err, f_errAt, f_ticks, f_calls, f_outs, f_resK, f_part, f_resV, f_cnt, f_full, f_flag, f_need, a_tk, a_tv, a_tp, a_mName, a_mKind, a_mCount, a_mPar, a_mAt, a_vName, a_vDecl, a_vKind, a_vVal, a_sk, a_sv, a_oKind, a_oAt, a_oArgs, a_cKind, a_cA, a_cB, a_outK, a_outV) (nI x1) := by
  have h384 := ht.1
  unfold wpY_fullDone
  dsimp only
  rw [nI_pred, nI_clamp (by omega), nI_clamp (by omega), e1, e2, e3]
  refine ⟨vp_in_nI hx (by decide), nm_e ⟨vp_in_nI (by omega) (by decide), nm_e ⟨vp_in_nI (by omega) (by decide), nm_e (br_f (by decide) (br_t rfl ?_))⟩⟩⟩
  unfold wY_fullDone_49
  refine nm_r (nI_pred m) (br_t rfl (br_t rfl ?_))
  unfold wY_fullDone_92 wpY_loop
  dsimp only
  rw [nI_1, show p + e + 1 = p + 1 + e by omega]
  refine br_c (fun v0 => ?_) (fun v0 => ?_)
  · refine hy_skip ht hn hl hlim hq hq2 hb h (fun ck ca cb hc => br_t rfl ?_)
    unfold wY_loop_22
    exact br_t rfl (g0 v0 ck ca cb hc)
  · refine hy_skip ht hn hl hlim hq hq2 hb h (fun ck ca cb hc => br_f (by decide) (hy_hold (kd := 2) hnc (by decide) (by omega) (by omega) ?_))
    dsimp only
    unfold wY_loop_22
    rw [nI_1, show p + e + 1 = p + 1 + e by omega]
    exact br_f (by decide) (nm_e (g1 v0 ck ca cb hc))
end
