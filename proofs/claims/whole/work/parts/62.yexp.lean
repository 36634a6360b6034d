/-! The reference: expressions and operands -/
def ls_yp (b : Nat) (L : List Nat) (nm : Nat) : Nat := if ls_addr L nm < 16 then 80 + nm else b + (ls_addr L nm - 16)
section
variable {f_most f_n f_stored f_nm f_nEnv f_base f_ns f_no f_nc f_pc f_mode f_err f_errAt f_ticks f_calls f_outs f_resK f_part f_cnt f_full f_flag f_need : Int32}
variable {f_resV : Int64}
variable {a_tk a_tp a_mName a_mKind a_mCount a_mPar a_mAt a_vName a_vDecl a_vKind a_sk a_oKind a_oAt a_oArgs a_cKind a_cA a_cB a_outK : Nat → Int32}
variable {a_tv a_vVal a_sv a_outV : Nat → Int64}
variable {post : SY → Prop} {p a m no b : Nat} {L : List Nat}
set_option maxHeartbeats 200000 in
theorem ls_addr_c : ∀ {L : List Nat} {nm : Nat}, ls_addr L nm = nm ∨ ∃ j, j < L.length ∧ ls_addr L nm = 16 + j
  | [], nm => Or.inl rfl
  | x :: r, nm => by
    show (if x = nm then 16 + r.length else ls_addr r nm) = nm ∨ ∃ j, j < r.length + 1 ∧ (if x = nm then 16 + r.length else ls_addr r nm) = 16 + j
    split
    · exact Or.inr ⟨r.length, by omega, rfl⟩
    · rcases ls_addr_c (L := r) (nm := nm) with h | ⟨j, h1, h2⟩
      · exact Or.inl h
      · exact Or.inr ⟨j, by omega, h2⟩
set_option maxHeartbeats 200000 in
theorem hy_var {q : Int32 → Prop} {nm : Nat} (hnm : nm < 16) (hL : ∀ x ∈ L, x < 16) (hb : b + L.length ≤ 80) (hN : ls_LN a_vName b L)
    (h1 : (16 ≤ ls_addr L nm ∨ 0 ≤ a_vDecl (80 + nm)) → q (nI (ls_yp b L nm)))
    (h0 : ls_addr L nm < 16 → ¬ 0 ≤ a_vDecl (80 + nm) → q (-1)) : wpY_variable q (f_most, f_n, f_stored, f_nm, nI (b + L.length), nI b, f_ns, f_no, f_nc, f_pc, f_mode, f_err, f_errAt, f_ticks, f_calls, f_outs, f_resK, f_part, f_resV, f_cnt, f_full, f_flag, f_need, a_tk, a_tv, a_tp, a_mName, a_mKind, a_mCount, a_mPar, a_mAt, a_vName, a_vDecl, a_vKind, a_vVal, a_sk, a_sv, a_oKind, a_oAt, a_oArgs, a_cKind, a_cA, a_cB, a_outK, a_outV) (nI (nm + 54)) := by
  refine hy_variable hnm hL hb hN (fun j hj _ => ?_) (fun e h => ?_) (fun e h => h0 (by omega) h)
  · have := h1 (Or.inl (by omega))
    unfold ls_yp at this
    rw [if_neg (by omega), hj, Nat.add_sub_cancel_left] at this
    exact this
  · have := h1 (Or.inr h)
    unfold ls_yp at this
    rw [if_pos (by omega)] at this
    exact this
set_option maxHeartbeats 200000 in
theorem hy_expr_0 (hp : p < 384) (e1 : a_tk p = nI a) (ha : a < 100) (hn : ¬ ls_nam a) (g : post (f_most, f_n, f_stored, f_nm, f_nEnv, f_base, f_ns, f_no, f_nc, nI p, 2, f_err, f_errAt, f_ticks, f_calls, f_outs, f_resK, f_part, f_resV, f_cnt, f_full, f_flag, f_need, a_tk, a_tv, a_tp, a_mName, a_mKind, a_mCount, a_mPar, a_mAt, a_vName, a_vDecl, a_vKind, a_vVal, a_sk, a_sv, a_oKind, a_oAt, a_oArgs, a_cKind, a_cA, a_cB, a_outK, a_outV)) : wpY_expr post (f_most, f_n, f_stored, f_nm, f_nEnv, f_base, f_ns, f_no, f_nc, nI p, f_mode, f_err, f_errAt, f_ticks, f_calls, f_outs, f_resK, f_part, f_resV, f_cnt, f_full, f_flag, f_need, a_tk, a_tv, a_tp, a_mName, a_mKind, a_mCount, a_mPar, a_mAt, a_vName, a_vDecl, a_vKind, a_vVal, a_sk, a_sv, a_oKind, a_oAt, a_oArgs, a_cKind, a_cA, a_cB, a_outK, a_outV) := by
  unfold wpY_expr
  dsimp only
  refine ⟨vp_in_nI hp (by decide), ?_⟩
  rw [nI_clamp (by omega), e1]
  exact hy_isName ha (fun q => absurd q hn) (fun _ => br_t rfl g)
set_option maxHeartbeats 200000 in
theorem hy_expr_1 {w : Nat} (hp : p + 1 < 384) (e1 : a_tk p = nI a) (ha : a < 100) (hn : ls_nam a) (e2 : a_tk (p + 1) = nI w) (hw : w < 100) (hb : ¬ ls_asg w) (g : post (f_most, f_n, f_stored, f_nm, f_nEnv, f_base, f_ns, f_no, f_nc, nI p, 2, f_err, f_errAt, f_ticks, f_calls, f_outs, f_resK, f_part, f_resV, f_cnt, f_full, f_flag, f_need, a_tk, a_tv, a_tp, a_mName, a_mKind, a_mCount, a_mPar, a_mAt, a_vName, a_vDecl, a_vKind, a_vVal, a_sk, a_sv, a_oKind, a_oAt, a_oArgs, a_cKind, a_cA, a_cB, a_outK, a_outV)) : wpY_expr post (f_most, f_n, f_stored, f_nm, f_nEnv, f_base, f_ns, f_no, f_nc, nI p, f_mode, f_err, f_errAt, f_ticks, f_calls, f_outs, f_resK, f_part, f_resV, f_cnt, f_full, f_flag, f_need, a_tk, a_tv, a_tp, a_mName, a_mKind, a_mCount, a_mPar, a_mAt, a_vName, a_vDecl, a_vKind, a_vVal, a_sk, a_sv, a_oKind, a_oAt, a_oArgs, a_cKind, a_cA, a_cB, a_outK, a_outV) := by
  unfold wpY_expr
  dsimp only
  refine ⟨vp_in_nI (by omega) (by decide), ?_⟩
  rw [nI_clamp (by omega), e1, nI_1]
  refine hy_isName ha (fun _ => br_f (by decide) ⟨vp_in_nI hp (by decide), ?_⟩) (fun q => absurd hn q)
  rw [nI_clamp (by omega), e2]
  exact hy_isAssign hw (fun q => absurd q hb) (fun _ => br_t rfl g)
set_option maxHeartbeats 200000 in
theorem hy_expr_100 (hno : no < 400) (hp : p < 1000) (g : post (f_most, f_n, f_stored, f_nm, f_nEnv, f_base, f_ns, nI (no + 1), f_nc, nI (p + 2), 1, f_err, f_errAt, f_ticks, f_calls, f_outs, f_resK, f_part, f_resV, f_cnt, f_full, f_flag, f_need, a_tk, a_tv, a_tp, a_mName, a_mKind, a_mCount, a_mPar, a_mAt, a_vName, a_vDecl, a_vKind, a_vVal, a_sk, a_sv, upd a_oKind no (nI 4), upd a_oAt no (nI p), upd a_oArgs no 0, a_cKind, a_cA, a_cB, a_outK, a_outV)) : wY_expr_100 post f_most f_n f_stored f_nm f_nEnv f_base f_ns (nI no) f_nc (nI p) f_mode f_err f_errAt f_ticks f_calls f_outs f_resK f_part f_resV f_cnt f_full f_flag f_need a_tk a_tv a_tp a_mName a_mKind a_mCount a_mPar a_mAt a_vName a_vDecl a_vKind a_vVal a_sk a_sv a_oKind a_oAt a_oArgs a_cKind a_cA a_cB a_outK a_outV := by
  unfold wY_expr_100
  refine hy_openOp (kd := 4) hno (by decide) (by omega) ?_
  exact nm_r (by rw [show (2 : Int32) = nI 2 from rfl, nI_add]) g
set_option maxHeartbeats 200000 in
theorem hy_expr_a (hp : p + 1 < 384) (hno : no < 400) (e1 : a_tk p = nI a) (ha : a < 100) (hn : ls_nam a) (e2 : a_tk (p + 1) = 21) (g : post (f_most, f_n, f_stored, f_nm, f_nEnv, f_base, f_ns, nI (no + 1), f_nc, nI (p + 2), 1, f_err, f_errAt, f_ticks, f_calls, f_outs, f_resK, f_part, f_resV, f_cnt, f_full, f_flag, f_need, a_tk, a_tv, a_tp, a_mName, a_mKind, a_mCount, a_mPar, a_mAt, a_vName, a_vDecl, a_vKind, a_vVal, a_sk, a_sv, upd a_oKind no (nI 4), upd a_oAt no (nI p), upd a_oArgs no 0, a_cKind, a_cA, a_cB, a_outK, a_outV)) : wpY_expr post (f_most, f_n, f_stored, f_nm, f_nEnv, f_base, f_ns, nI no, f_nc, nI p, f_mode, f_err, f_errAt, f_ticks, f_calls, f_outs, f_resK, f_part, f_resV, f_cnt, f_full, f_flag, f_need, a_tk, a_tv, a_tp, a_mName, a_mKind, a_mCount, a_mPar, a_mAt, a_vName, a_vDecl, a_vKind, a_vVal, a_sk, a_sv, a_oKind, a_oAt, a_oArgs, a_cKind, a_cA, a_cB, a_outK, a_outV) := by
  unfold wpY_expr
  dsimp only
  have iv : vp_in (nI (p + 1)) 384 := vp_in_nI hp (by decide)
  refine ⟨vp_in_nI (by omega) (by decide), ?_⟩
  rw [nI_clamp (by omega), e1, nI_1]
  refine hy_isName ha (fun _ => br_f (by decide) ⟨iv, ?_⟩) (fun q => absurd hn q)
  rw [nI_clamp (by omega), e2]
  refine hy_isAssign (t := 21) (by decide) (fun _ => br_f (by decide) ⟨iv, br_t rfl ?_⟩) (fun q => absurd (Or.inl rfl) q)
  exact hy_expr_100 hno (by omega) g
set_option maxHeartbeats 200000 in
theorem hy_expr_u {w nm k : Nat} (hp : p + 1 < 384) (hno : no < 400) (hm : m < 400) (hnm : nm < 16) (e1 : a_tk p = nI (nm + 54)) (e2 : a_tk (p + 1) = nI w) (hw : 43 ≤ w ∧ w ≤ 53) (hL : ∀ x ∈ L, x < 16) (hb : b + L.length ≤ 80) (hN : ls_LN a_vName b L)
    (ek : 16 ≤ ls_addr L nm ∨ 0 ≤ a_vDecl (80 + nm) → a_vKind (ls_yp b L nm) = nI k ∧ k < 128)
    (h1 : (16 ≤ ls_addr L nm ∨ 0 ≤ a_vDecl (80 + nm)) → post (f_most, f_n, f_stored, f_nm, nI (b + L.length), nI b, nI (m + 1), nI (no + 1), f_nc, nI (p + 2), 1, f_err, f_errAt, f_ticks, f_calls, f_outs, f_resK, f_part, f_resV, f_cnt, f_full, f_flag, f_need, a_tk, a_tv, a_tp, a_mName, a_mKind, a_mCount, a_mPar, a_mAt, a_vName, a_vDecl, a_vKind, a_vVal, upd a_sk m (nI k), vp_updL a_sv m (a_vVal (ls_yp b L nm)), upd a_oKind no (nI 4), upd a_oAt no (nI p), upd a_oArgs no 0, a_cKind, a_cA, a_cB, a_outK, a_outV))
    (h0 : ls_addr L nm < 16 → ¬ 0 ≤ a_vDecl (80 + nm) → post (f_most, f_n, f_stored, f_nm, nI (b + L.length), nI b, nI m, nI no, f_nc, nI p, 2, 2, ls_pl a_tp p, f_ticks, f_calls, f_outs, f_resK, f_part, f_resV, f_cnt, f_full, f_flag, f_need, a_tk, a_tv, a_tp, a_mName, a_mKind, a_mCount, a_mPar, a_mAt, a_vName, a_vDecl, a_vKind, a_vVal, a_sk, a_sv, a_oKind, a_oAt, a_oArgs, a_cKind, a_cA, a_cB, a_outK, a_outV)) : wpY_expr post (f_most, f_n, f_stored, f_nm, nI (b + L.length), nI b, nI m, nI no, f_nc, nI p, f_mode, f_err, f_errAt, f_ticks, f_calls, f_outs, f_resK, f_part, f_resV, f_cnt, f_full, f_flag, f_need, a_tk, a_tv, a_tp, a_mName, a_mKind, a_mCount, a_mPar, a_mAt, a_vName, a_vDecl, a_vKind, a_vVal, a_sk, a_sv, a_oKind, a_oAt, a_oArgs, a_cKind, a_cA, a_cB, a_outK, a_outV) := by
  unfold wpY_expr
  dsimp only
  have iv : vp_in (nI (p + 1)) 384 := vp_in_nI hp (by decide)
  have iv0 : vp_in (nI p) 384 := vp_in_nI (by omega) (by decide)
  refine ⟨iv0, ?_⟩
  rw [nI_clamp (by omega), e1, nI_1]
  refine hy_isName (by omega) (fun _ => br_f (by decide) ⟨iv, ?_⟩) (fun q => absurd ⟨by omega, by omega⟩ q)
  rw [nI_clamp (by omega), e2]
  refine hy_isAssign (by omega) (fun _ => br_f (by decide) ⟨iv, br_f (mt (ls_k8 (b := 21) (by omega) (by decide)).mp (by omega)) ⟨iv0, ?_⟩⟩) (fun q => absurd (Or.inr hw) q)
  have yp : ls_yp b L nm < 96 := by
    unfold ls_yp
    rcases ls_addr_c (L := L) (nm := nm) with h | ⟨j, h1, h2⟩
    · rw [h, if_pos hnm]; omega
    · rw [h2, if_neg (by omega)]; omega
  refine hy_var hnm hL hb hN (fun c => br_t (nI_le (a := 0) (by omega) (by omega)) ⟨vp_in_nI yp (by decide), vp_in_nI yp (by decide), ?_⟩) (fun c1 c2 => br_f (by decide) (hy_fail (by omega) (h0 c1 c2)))
  rw [nI_clamp (by omega), (ek c).1]
  exact hy_push hm (ek c).2 (hy_expr_100 hno (by omega) (h1 c))
set_option maxHeartbeats 200000 in
theorem hy_value_94_0 (hp : p < 1000) (g : post (f_most, f_n, f_stored, f_nm, f_nEnv, f_base, f_ns, f_no, f_nc, nI (p + 1), f_mode, f_err, f_errAt, f_ticks, f_calls, f_outs, f_resK, f_part, f_resV, f_cnt, f_full, f_flag, f_need, a_tk, a_tv, a_tp, a_mName, a_mKind, a_mCount, a_mPar, a_mAt, a_vName, a_vDecl, a_vKind, a_vVal, a_sk, a_sv, a_oKind, a_oAt, a_oArgs, a_cKind, a_cA, a_cB, a_outK, a_outV)) : wY_value_94 post 0 f_most f_n f_stored f_nm f_nEnv f_base f_ns f_no f_nc (nI p) f_mode f_err f_errAt f_ticks f_calls f_outs f_resK f_part f_resV f_cnt f_full f_flag f_need a_tk a_tv a_tp a_mName a_mKind a_mCount a_mPar a_mAt a_vName a_vDecl a_vKind a_vVal a_sk a_sv a_oKind a_oAt a_oArgs a_cKind a_cA a_cB a_outK a_outV := br_t rfl (nm_r (nI_1 p) g)
set_option maxHeartbeats 200000 in
/-- a sign -/
theorem hy_value_s (hp : p < 384) (hno : no < 400) (e1 : a_tk p = nI a) (ha : 22 ≤ a ∧ a ≤ 25) (g : post (f_most, f_n, f_stored, f_nm, f_nEnv, f_base, f_ns, nI (no + 1), f_nc, nI (p + 1), f_mode, f_err, f_errAt, f_ticks, f_calls, f_outs, f_resK, f_part, f_resV, f_cnt, f_full, f_flag, f_need, a_tk, a_tv, a_tp, a_mName, a_mKind, a_mCount, a_mPar, a_mAt, a_vName, a_vDecl, a_vKind, a_vVal, a_sk, a_sv, upd a_oKind no (nI 5), upd a_oAt no (nI p), upd a_oArgs no 0, a_cKind, a_cA, a_cB, a_outK, a_outV)) : wpY_value post (f_most, f_n, f_stored, f_nm, f_nEnv, f_base, f_ns, nI no, f_nc, nI p, f_mode, f_err, f_errAt, f_ticks, f_calls, f_outs, f_resK, f_part, f_resV, f_cnt, f_full, f_flag, f_need, a_tk, a_tv, a_tp, a_mName, a_mKind, a_mCount, a_mPar, a_mAt, a_vName, a_vDecl, a_vKind, a_vVal, a_sk, a_sv, a_oKind, a_oAt, a_oArgs, a_cKind, a_cA, a_cB, a_outK, a_outV) := by
  unfold wpY_value
  dsimp only
  have N : ∀ w : Nat, w < 100 → a ≠ w → ¬ nI a = nI w := fun w hw h => mt (ls_k8 (by omega) hw).mp h
  refine ⟨vp_in_nI hp (by decide), nm_r (by rw [nI_clamp (by omega), e1]) (hy_isSign (by omega) (fun _ => br_f (by decide) ?_) (fun q => absurd ha q))⟩
  unfold wY_value_24 wY_value_49 wY_value_50 wY_value_72
  refine br_f (N 15 (by decide) (by omega)) (br_f (N 15 (by decide) (by omega)) (hy_openOp (kd := 5) hno (by decide) (by omega) ?_))
  exact br_f (N 15 (by decide) (by omega)) (hy_value_94_0 (by omega) g)
set_option maxHeartbeats 200000 in
theorem hy_value_g {w : Nat} (hp : p + 1 < 384) (hno : no < 400) (e1 : a_tk p = 15) (e2 : a_tk (p + 1) = nI w) (hw : 5 ≤ w ∧ w < 100) (g : post (f_most, f_n, f_stored, f_nm, f_nEnv, f_base, f_ns, nI (no + 1), f_nc, nI (p + 1), 1, f_err, f_errAt, f_ticks, f_calls, f_outs, f_resK, f_part, f_resV, f_cnt, f_full, f_flag, f_need, a_tk, a_tv, a_tp, a_mName, a_mKind, a_mCount, a_mPar, a_mAt, a_vName, a_vDecl, a_vKind, a_vVal, a_sk, a_sv, upd a_oKind no (nI 2), upd a_oAt no (nI p), upd a_oArgs no 0, a_cKind, a_cA, a_cB, a_outK, a_outV)) : wpY_value post (f_most, f_n, f_stored, f_nm, f_nEnv, f_base, f_ns, nI no, f_nc, nI p, f_mode, f_err, f_errAt, f_ticks, f_calls, f_outs, f_resK, f_part, f_resV, f_cnt, f_full, f_flag, f_need, a_tk, a_tv, a_tp, a_mName, a_mKind, a_mCount, a_mPar, a_mAt, a_vName, a_vDecl, a_vKind, a_vVal, a_sk, a_sv, a_oKind, a_oAt, a_oArgs, a_cKind, a_cA, a_cB, a_outK, a_outV) := by
  unfold wpY_value
  dsimp only
  refine ⟨vp_in_nI (by omega) (by decide), nm_r (e' := nI 15) (by rw [nI_clamp (by omega), e1]; rfl) (hy_isSign (by decide) (fun q => absurd q (by decide)) (fun _ => br_t rfl (br_t rfl ?_)))⟩
  unfold wY_value_24 wY_value_49 wY_value_50 wY_value_72
  rw [nI_1]
  refine br_t rfl ⟨vp_in_nI hp (by decide), ?_⟩
  rw [nI_clamp (by omega), e2]
  refine br_t (nI_le (a := 5) hw.1 (by omega)) (br_t rfl (br_t rfl (hy_openOp (kd := 2) hno (by decide) (by omega) ?_)))
  exact br_t rfl (br_t rfl (hy_value_94_0 (by omega) g))
set_option maxHeartbeats 200000 in
theorem hy_value_c {w : Nat} (hp : p + 1 < 384) (hno : no < 400) (e1 : a_tk p = 15) (e2 : a_tk (p + 1) = nI w) (hw : w < 5) (g : post (f_most, f_n, f_stored, f_nm, f_nEnv, f_base, f_ns, nI (no + 1), f_nc, nI (p + 3), f_mode, f_err, f_errAt, f_ticks, f_calls, f_outs, f_resK, f_part, f_resV, f_cnt, f_full, f_flag, f_need, a_tk, a_tv, a_tp, a_mName, a_mKind, a_mCount, a_mPar, a_mAt, a_vName, a_vDecl, a_vKind, a_vVal, a_sk, a_sv, upd a_oKind no (nI 6), upd a_oAt no (nI p), upd a_oArgs no 0, a_cKind, a_cA, a_cB, a_outK, a_outV)) : wpY_value post (f_most, f_n, f_stored, f_nm, f_nEnv, f_base, f_ns, nI no, f_nc, nI p, f_mode, f_err, f_errAt, f_ticks, f_calls, f_outs, f_resK, f_part, f_resV, f_cnt, f_full, f_flag, f_need, a_tk, a_tv, a_tp, a_mName, a_mKind, a_mCount, a_mPar, a_mAt, a_vName, a_vDecl, a_vKind, a_vVal, a_sk, a_sv, a_oKind, a_oAt, a_oArgs, a_cKind, a_cA, a_cB, a_outK, a_outV) := by
  unfold wpY_value
  dsimp only
  refine ⟨vp_in_nI (by omega) (by decide), nm_r (e' := nI 15) (by rw [nI_clamp (by omega), e1]; rfl) (hy_isSign (by decide) (fun q => absurd q (by decide)) (fun _ => br_t rfl (br_t rfl ?_)))⟩
  unfold wY_value_24 wY_value_49 wY_value_50 wY_value_72
  rw [nI_1]
  refine br_t rfl ⟨vp_in_nI hp (by decide), ?_⟩
  rw [nI_clamp (by omega), e2]
  refine br_f (nI_ge (b := 5) hw (by decide)) (br_t rfl (br_f (by decide) (hy_openOp (kd := 6) hno (by decide) (by omega) ?_)))
  exact br_t rfl (br_f (by decide) (br_f (by decide) (nm_r (by rw [show (3 : Int32) = nI 3 from rfl, nI_add]) g)))
set_option maxHeartbeats 200000 in
theorem hy_value_b (hp : p < 384) (hm : m < 400) (e1 : a_tk p = nI a) (ha : a = 13 ∨ a = 14) (g : post (f_most, f_n, f_stored, f_nm, f_nEnv, f_base, nI (m + 1), f_no, f_nc, nI (p + 1), 3, f_err, f_errAt, f_ticks, f_calls, f_outs, f_resK, f_part, f_resV, f_cnt, f_full, f_flag, f_need, a_tk, a_tv, a_tp, a_mName, a_mKind, a_mCount, a_mPar, a_mAt, a_vName, a_vDecl, a_vKind, a_vVal, upd a_sk m (nI 0), vp_updL a_sv m (if a = 13 then 1 else 0), a_oKind, a_oAt, a_oArgs, a_cKind, a_cA, a_cB, a_outK, a_outV)) : wpY_value post (f_most, f_n, f_stored, f_nm, f_nEnv, f_base, nI m, f_no, f_nc, nI p, f_mode, f_err, f_errAt, f_ticks, f_calls, f_outs, f_resK, f_part, f_resV, f_cnt, f_full, f_flag, f_need, a_tk, a_tv, a_tp, a_mName, a_mKind, a_mCount, a_mPar, a_mAt, a_vName, a_vDecl, a_vKind, a_vVal, a_sk, a_sv, a_oKind, a_oAt, a_oArgs, a_cKind, a_cA, a_cB, a_outK, a_outV) := by
  unfold wpY_value
  dsimp only
  refine ⟨vp_in_nI hp (by decide), nm_r (by rw [nI_clamp (by omega), e1]) (hy_isSign (by omega) (fun q => by omega) (fun _ => br_t rfl ?_))⟩
  rcases ha with rfl | rfl
  · refine br_f (by decide) (br_t rfl ?_)
    unfold wY_value_130
    exact hy_push (k := 0) hm (by decide) (nm_r (nI_1 p) g)
  · refine br_f (by decide) (br_f (by decide) (br_t rfl ?_))
    unfold wY_value_130
    exact hy_push (k := 0) hm (by decide) (nm_r (nI_1 p) g)
set_option maxHeartbeats 200000 in
theorem hy_value_n (hp : p < 384) (hm : m < 400) (e1 : a_tk p = nI a) (ha : a = 70 ∨ a = 71) (g : post (f_most, f_n, f_stored, f_nm, f_nEnv, f_base, nI (m + 1), f_no, f_nc, nI (p + 1), 3, f_err, f_errAt, f_ticks, f_calls, f_outs, f_resK, f_part, f_resV, f_cnt, f_full, f_flag, f_need, a_tk, a_tv, a_tp, a_mName, a_mKind, a_mCount, a_mPar, a_mAt, a_vName, a_vDecl, a_vKind, a_vVal, upd a_sk m (nI (a - 67)), vp_updL a_sv m (a_tv p), a_oKind, a_oAt, a_oArgs, a_cKind, a_cA, a_cB, a_outK, a_outV)) : wpY_value post (f_most, f_n, f_stored, f_nm, f_nEnv, f_base, nI m, f_no, f_nc, nI p, f_mode, f_err, f_errAt, f_ticks, f_calls, f_outs, f_resK, f_part, f_resV, f_cnt, f_full, f_flag, f_need, a_tk, a_tv, a_tp, a_mName, a_mKind, a_mCount, a_mPar, a_mAt, a_vName, a_vDecl, a_vKind, a_vVal, a_sk, a_sv, a_oKind, a_oAt, a_oArgs, a_cKind, a_cA, a_cB, a_outK, a_outV) := by
  unfold wpY_value
  dsimp only
  have N : ∀ w : Nat, w < 100 → a ≠ w → ¬ nI a = nI w := fun w hw h => mt (ls_k8 (by omega) hw).mp h
  refine ⟨vp_in_nI hp (by decide), nm_r (by rw [nI_clamp (by omega), e1]) (hy_isSign (by omega) (fun q => by omega) (fun _ => br_t rfl ?_))⟩
  refine br_f (N 15 (by decide) (by omega)) (br_f (N 13 (by decide) (by omega)) (br_f (N 14 (by decide) (by omega)) (br_f (nI_nlt (b := 70) (by omega) (by omega)) ⟨vp_in_nI hp (by decide), ?_⟩)))
  rw [nI_clamp (by omega)]
  have e3 : nI a - 67 = nI (a - 67) := by
    rcases ha with rfl | rfl <;> decide
  rw [e3]
  exact hy_push hm (by omega) (nm_r (nI_1 p) g)
set_option maxHeartbeats 200000 in
theorem hy_value_v {w nm k : Nat} (hp : p + 1 < 384) (hm : m < 400) (hnm : nm < 16) (e1 : a_tk p = nI (nm + 54)) (e2 : a_tk (p + 1) = nI w) (hw : w < 100 ∧ w ≠ 15) (hL : ∀ x ∈ L, x < 16) (hb : b + L.length ≤ 80) (hN : ls_LN a_vName b L)
    (ek : 16 ≤ ls_addr L nm ∨ 0 ≤ a_vDecl (80 + nm) → a_vKind (ls_yp b L nm) = nI k ∧ k < 128)
    (h1 : (16 ≤ ls_addr L nm ∨ 0 ≤ a_vDecl (80 + nm)) → post (f_most, f_n, f_stored, f_nm, nI (b + L.length), nI b, nI (m + 1), f_no, f_nc, nI (p + 1), 3, f_err, f_errAt, f_ticks, f_calls, f_outs, f_resK, f_part, f_resV, f_cnt, f_full, f_flag, f_need, a_tk, a_tv, a_tp, a_mName, a_mKind, a_mCount, a_mPar, a_mAt, a_vName, a_vDecl, a_vKind, a_vVal, upd a_sk m (nI k), vp_updL a_sv m (a_vVal (ls_yp b L nm)), a_oKind, a_oAt, a_oArgs, a_cKind, a_cA, a_cB, a_outK, a_outV))
    (h0 : ls_addr L nm < 16 → ¬ 0 ≤ a_vDecl (80 + nm) → post (f_most, f_n, f_stored, f_nm, nI (b + L.length), nI b, nI m, f_no, f_nc, nI (p + 1), 3, 2, ls_pl a_tp p, f_ticks, f_calls, f_outs, f_resK, f_part, f_resV, f_cnt, f_full, f_flag, f_need, a_tk, a_tv, a_tp, a_mName, a_mKind, a_mCount, a_mPar, a_mAt, a_vName, a_vDecl, a_vKind, a_vVal, a_sk, a_sv, a_oKind, a_oAt, a_oArgs, a_cKind, a_cA, a_cB, a_outK, a_outV)) : wpY_value post (f_most, f_n, f_stored, f_nm, nI (b + L.length), nI b, nI m, f_no, f_nc, nI p, f_mode, f_err, f_errAt, f_ticks, f_calls, f_outs, f_resK, f_part, f_resV, f_cnt, f_full, f_flag, f_need, a_tk, a_tv, a_tp, a_mName, a_mKind, a_mCount, a_mPar, a_mAt, a_vName, a_vDecl, a_vKind, a_vVal, a_sk, a_sv, a_oKind, a_oAt, a_oArgs, a_cKind, a_cA, a_cB, a_outK, a_outV) := by
  unfold wpY_value
  dsimp only
  have N : ∀ w : Nat, w < 100 → nm + 54 ≠ w → ¬ nI (nm + 54) = nI w := fun w hw h => mt (ls_k8 (by omega) hw).mp h
  refine ⟨vp_in_nI (by omega) (by decide), nm_r (by rw [nI_clamp (by omega), e1]) (hy_isSign (by omega) (fun q => by omega) (fun _ => br_t rfl ?_))⟩
  rw [nI_1]
  refine br_f (N 15 (by decide) (by omega)) (br_f (N 13 (by decide) (by omega)) (br_f (N 14 (by decide) (by omega)) (br_t (nI_lt (b := 70) (by omega) (by decide)) ⟨vp_in_nI hp (by decide), ?_⟩)))
  rw [nI_clamp (by omega), e2]
  refine br_f (mt (ls_k8 hw.1 (by decide)).mp hw.2) ?_
  have yp : ls_yp b L nm < 96 := by
    unfold ls_yp
    rcases ls_addr_c (L := L) (nm := nm) with h | ⟨j, h1, h2⟩
    · rw [h, if_pos hnm]; omega
    · rw [h2, if_neg (by omega)]; omega
  refine hy_var hnm hL hb hN (fun c => br_t (nI_le (a := 0) (by omega) (by omega)) ⟨vp_in_nI yp (by decide), vp_in_nI yp (by decide), ?_⟩) (fun c1 c2 => br_f (by decide) (hy_fail (by omega) (nm_r (nI_1 p) (h0 c1 c2))))
  rw [nI_clamp (by omega), (ek c).1]
  exact hy_push hm (ek c).2 (nm_r (nI_1 p) (h1 c))
set_option maxHeartbeats 200000 in
/-- a call: without arguments, or with some -/
theorem hy_value_f {w nm : Nat} (hp : p + 2 < 384) (hno : no < 400) (hnm : nm < 16) (e1 : a_tk p = nI (nm + 54)) (e2 : a_tk (p + 1) = 15) (e3 : a_tk (p + 2) = nI w) (hw : w < 100)
    (h1 : w = 16 → post (f_most, f_n, f_stored, f_nm, f_nEnv, f_base, f_ns, nI (no + 1), f_nc, nI (p + 2), 3, f_err, f_errAt, f_ticks, f_calls, f_outs, f_resK, f_part, f_resV, f_cnt, f_full, f_flag, f_need, a_tk, a_tv, a_tp, a_mName, a_mKind, a_mCount, a_mPar, a_mAt, a_vName, a_vDecl, a_vKind, a_vVal, a_sk, a_sv, upd a_oKind no (nI 3), upd a_oAt no (nI p), upd (upd (upd a_oArgs no 0) no 1) no 0, a_cKind, a_cA, a_cB, a_outK, a_outV))
    (h0 : w ≠ 16 → post (f_most, f_n, f_stored, f_nm, f_nEnv, f_base, f_ns, nI (no + 1), f_nc, nI (p + 2), 1, f_err, f_errAt, f_ticks, f_calls, f_outs, f_resK, f_part, f_resV, f_cnt, f_full, f_flag, f_need, a_tk, a_tv, a_tp, a_mName, a_mKind, a_mCount, a_mPar, a_mAt, a_vName, a_vDecl, a_vKind, a_vVal, a_sk, a_sv, upd a_oKind no (nI 3), upd a_oAt no (nI p), upd (upd a_oArgs no 0) no 1, a_cKind, a_cA, a_cB, a_outK, a_outV)) : wpY_value post (f_most, f_n, f_stored, f_nm, f_nEnv, f_base, f_ns, nI no, f_nc, nI p, f_mode, f_err, f_errAt, f_ticks, f_calls, f_outs, f_resK, f_part, f_resV, f_cnt, f_full, f_flag, f_need, a_tk, a_tv, a_tp, a_mName, a_mKind, a_mCount, a_mPar, a_mAt, a_vName, a_vDecl, a_vKind, a_vVal, a_sk, a_sv, a_oKind, a_oAt, a_oArgs, a_cKind, a_cA, a_cB, a_outK, a_outV) := by
  unfold wpY_value
  dsimp only
  have N : ∀ w : Nat, w < 100 → nm + 54 ≠ w → ¬ nI (nm + 54) = nI w := fun w hw h => mt (ls_k8 (by omega) hw).mp h
  refine ⟨vp_in_nI (by omega) (by decide), nm_r (by rw [nI_clamp (by omega), e1]) (hy_isSign (by omega) (fun q => by omega) (fun _ => br_t rfl ?_))⟩
  rw [nI_1]
  refine br_f (N 15 (by decide) (by omega)) (br_f (N 13 (by decide) (by omega)) (br_f (N 14 (by decide) (by omega)) (br_t (nI_lt (b := 70) (by omega) (by decide)) ⟨vp_in_nI (by omega) (by decide), ?_⟩)))
  rw [nI_clamp (by omega), e2]
  refine br_t rfl (nm_e ?_)
  refine hy_openOp (kd := 3) hno (by decide) (by omega) ?_
  dsimp only
  rw [nI_pred, nI_clamp (by omega), nI_1, nI_clamp (by omega), e3]
  have b1 : vp_nar .byte 1 = 1 := ls_vnb (n := 1) (by decide)
  have b0 : vp_nar .byte 0 = 0 := ls_vnb (n := 0) (by decide)
  refine ⟨vp_in_nI hno (by decide), nm_r (by rw [b1]) ⟨vp_in_nI (by omega) (by decide), br_c (fun q => ?_) (fun q => ?_)⟩⟩
  · exact ⟨vp_in_nI hno (by decide), nm_r (by rw [b0]) (nm_e (h1 ((ls_k8 hw (by decide)).mp q)))⟩
  · exact nm_e (h0 (fun g => q (by rw [g]; rfl)))
end
