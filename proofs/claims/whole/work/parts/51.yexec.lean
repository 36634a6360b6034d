/-! The reference's loop, and its small methods -/
def ls_YH (post : SY → Prop) (f s : Nat) (v : SY) : Prop := match v with
  | (f_most, f_n, f_stored, f_nm, f_nEnv, f_base, f_ns, f_no, f_nc, f_pc, f_mode, f_err, f_errAt, f_ticks, f_calls, f_outs, f_resK, f_part, f_resV, f_cnt, f_full, f_flag, f_need, a_tk, a_tv, a_tp, a_mName, a_mKind, a_mCount, a_mPar, a_mAt, a_vName, a_vDecl, a_vKind, a_vVal, a_sk, a_sv, a_oKind, a_oAt, a_oArgs, a_cKind, a_cA, a_cB, a_outK, a_outV) => wY_execute_52 post f (nI s) f_most f_n f_stored f_nm f_nEnv f_base f_ns f_no f_nc f_pc f_mode f_err f_errAt f_ticks f_calls f_outs f_resK f_part f_resV f_cnt f_full f_flag f_need a_tk a_tv a_tp a_mName a_mKind a_mCount a_mPar a_mAt a_vName a_vDecl a_vKind a_vVal a_sk a_sv a_oKind a_oAt a_oArgs a_cKind a_cA a_cB a_outK a_outV
def ls_LN (vn : Nat → Int32) (b : Nat) : List Nat → Prop
  | [] => True
  | x :: r => vn (b + r.length) = nI (x + 54) ∧ ls_LN vn b r
section
variable {f_most f_n f_stored f_nm f_nEnv f_base f_ns f_no f_nc f_pc f_mode f_err f_errAt f_ticks f_calls f_outs f_resK f_part f_cnt f_full f_flag f_need : Int32}
variable {f_resV : Int64}
variable {a_tk a_tp a_mName a_mKind a_mCount a_mPar a_mAt a_vName a_vDecl a_vKind a_sk a_oKind a_oAt a_oArgs a_cKind a_cA a_cB a_outK : Nat → Int32}
variable {a_tv a_vVal a_sv a_outV : Nat → Int64}
variable {post : SY → Prop} {f s : Nat}
set_option maxHeartbeats 200000 in
theorem gy_93 {md : Nat} (hm : md < 4)
    (g0 : md = 0 → wpY_statement (ls_YH post f (s + 1)) (f_most, f_n, f_stored, f_nm, f_nEnv, f_base, f_ns, f_no, f_nc, f_pc, nI md, f_err, f_errAt, f_ticks, f_calls, f_outs, f_resK, f_part, f_resV, f_cnt, f_full, f_flag, f_need, a_tk, a_tv, a_tp, a_mName, a_mKind, a_mCount, a_mPar, a_mAt, a_vName, a_vDecl, a_vKind, a_vVal, a_sk, a_sv, a_oKind, a_oAt, a_oArgs, a_cKind, a_cA, a_cB, a_outK, a_outV))
    (g1 : md = 1 → wpY_expr (ls_YH post f (s + 1)) (f_most, f_n, f_stored, f_nm, f_nEnv, f_base, f_ns, f_no, f_nc, f_pc, nI md, f_err, f_errAt, f_ticks, f_calls, f_outs, f_resK, f_part, f_resV, f_cnt, f_full, f_flag, f_need, a_tk, a_tv, a_tp, a_mName, a_mKind, a_mCount, a_mPar, a_mAt, a_vName, a_vDecl, a_vKind, a_vVal, a_sk, a_sv, a_oKind, a_oAt, a_oArgs, a_cKind, a_cA, a_cB, a_outK, a_outV))
    (g2 : md = 2 → wpY_value (ls_YH post f (s + 1)) (f_most, f_n, f_stored, f_nm, f_nEnv, f_base, f_ns, f_no, f_nc, f_pc, nI md, f_err, f_errAt, f_ticks, f_calls, f_outs, f_resK, f_part, f_resV, f_cnt, f_full, f_flag, f_need, a_tk, a_tv, a_tp, a_mName, a_mKind, a_mCount, a_mPar, a_mAt, a_vName, a_vDecl, a_vKind, a_vVal, a_sk, a_sv, a_oKind, a_oAt, a_oArgs, a_cKind, a_cA, a_cB, a_outK, a_outV))
    (g3 : md = 3 → wpY_after (ls_YH post f (s + 1)) (f_most, f_n, f_stored, f_nm, f_nEnv, f_base, f_ns, f_no, f_nc, f_pc, nI md, f_err, f_errAt, f_ticks, f_calls, f_outs, f_resK, f_part, f_resV, f_cnt, f_full, f_flag, f_need, a_tk, a_tv, a_tp, a_mName, a_mKind, a_mCount, a_mPar, a_mAt, a_vName, a_vDecl, a_vKind, a_vVal, a_sk, a_sv, a_oKind, a_oAt, a_oArgs, a_cKind, a_cA, a_cB, a_outK, a_outV)) : wY_execute_93 post (wY_execute_52 post f) (nI (s + 1)) f_most f_n f_stored f_nm f_nEnv f_base f_ns f_no f_nc f_pc (nI md) f_err f_errAt f_ticks f_calls f_outs f_resK f_part f_resV f_cnt f_full f_flag f_need a_tk a_tv a_tp a_mName a_mKind a_mCount a_mPar a_mAt a_vName a_vDecl a_vKind a_vVal a_sk a_sv a_oKind a_oAt a_oArgs a_cKind a_cA a_cB a_outK a_outV := by
  unfold wY_execute_93
  rcases (show md = 0 ∨ md = 1 ∨ md = 2 ∨ md = 3 by omega) with rfl | rfl | rfl | rfl
  · exact br_t rfl (g0 rfl)
  · exact br_f (by decide) (br_t rfl (g1 rfl))
  · exact br_f (by decide) (br_f (by decide) (br_t rfl (g2 rfl)))
  · exact br_f (by decide) (br_f (by decide) (br_f (by decide) (g3 rfl)))
set_option maxHeartbeats 200000 in
theorem gy_go {md nc pc n : Nat} (hs : s < 2000000) (hm : md < 4) (hb : nc < 1000 ∧ pc < 1000 ∧ n < 1000) (hg : md = 0 → 0 < nc ∨ pc < n)
    (g0 : md = 0 → wpY_statement (ls_YH post f (s + 1)) (f_most, nI n, f_stored, f_nm, f_nEnv, f_base, f_ns, f_no, nI nc, nI pc, nI md, 0, f_errAt, f_ticks, f_calls, f_outs, f_resK, f_part, f_resV, f_cnt, f_full, f_flag, f_need, a_tk, a_tv, a_tp, a_mName, a_mKind, a_mCount, a_mPar, a_mAt, a_vName, a_vDecl, a_vKind, a_vVal, a_sk, a_sv, a_oKind, a_oAt, a_oArgs, a_cKind, a_cA, a_cB, a_outK, a_outV))
    (g1 : md = 1 → wpY_expr (ls_YH post f (s + 1)) (f_most, nI n, f_stored, f_nm, f_nEnv, f_base, f_ns, f_no, nI nc, nI pc, nI md, 0, f_errAt, f_ticks, f_calls, f_outs, f_resK, f_part, f_resV, f_cnt, f_full, f_flag, f_need, a_tk, a_tv, a_tp, a_mName, a_mKind, a_mCount, a_mPar, a_mAt, a_vName, a_vDecl, a_vKind, a_vVal, a_sk, a_sv, a_oKind, a_oAt, a_oArgs, a_cKind, a_cA, a_cB, a_outK, a_outV))
    (g2 : md = 2 → wpY_value (ls_YH post f (s + 1)) (f_most, nI n, f_stored, f_nm, f_nEnv, f_base, f_ns, f_no, nI nc, nI pc, nI md, 0, f_errAt, f_ticks, f_calls, f_outs, f_resK, f_part, f_resV, f_cnt, f_full, f_flag, f_need, a_tk, a_tv, a_tp, a_mName, a_mKind, a_mCount, a_mPar, a_mAt, a_vName, a_vDecl, a_vKind, a_vVal, a_sk, a_sv, a_oKind, a_oAt, a_oArgs, a_cKind, a_cA, a_cB, a_outK, a_outV))
    (g3 : md = 3 → wpY_after (ls_YH post f (s + 1)) (f_most, nI n, f_stored, f_nm, f_nEnv, f_base, f_ns, f_no, nI nc, nI pc, nI md, 0, f_errAt, f_ticks, f_calls, f_outs, f_resK, f_part, f_resV, f_cnt, f_full, f_flag, f_need, a_tk, a_tv, a_tp, a_mName, a_mKind, a_mCount, a_mPar, a_mAt, a_vName, a_vDecl, a_vKind, a_vVal, a_sk, a_sv, a_oKind, a_oAt, a_oArgs, a_cKind, a_cA, a_cB, a_outK, a_outV)) : ls_YH post (f + 1) s (f_most, nI n, f_stored, f_nm, f_nEnv, f_base, f_ns, f_no, nI nc, nI pc, nI md, 0, f_errAt, f_ticks, f_calls, f_outs, f_resK, f_part, f_resV, f_cnt, f_full, f_flag, f_need, a_tk, a_tv, a_tp, a_mName, a_mKind, a_mCount, a_mPar, a_mAt, a_vName, a_vDecl, a_vKind, a_vVal, a_sk, a_sv, a_oKind, a_oAt, a_oArgs, a_cKind, a_cA, a_cB, a_outK, a_outV) := by
  show wY_execute_52 post (f + 1) (nI s) f_most (nI n) f_stored f_nm f_nEnv f_base f_ns f_no (nI nc) (nI pc) (nI md) 0 f_errAt f_ticks f_calls f_outs f_resK f_part f_resV f_cnt f_full f_flag f_need a_tk a_tv a_tp a_mName a_mKind a_mCount a_mPar a_mAt a_vName a_vDecl a_vKind a_vVal a_sk a_sv a_oKind a_oAt a_oArgs a_cKind a_cA a_cB a_outK a_outV
  unfold wY_execute_52
  refine br_t rfl (nm_r (nI_1 s) (br_f (nI_ge (b := 2000000) hs (by decide)) ?_))
  rcases (show md = 0 ∨ md ≠ 0 by omega) with h0 | h0
  · subst h0
    refine br_t rfl ?_
    by_cases c : 0 < nc
    · exact br_t (nI_lt (a := 0) c (by omega)) (gy_93 hm g0 g1 g2 g3)
    · refine br_f (nI_nlt (a := 0) (b := nc) (by omega) (by decide)) (br_f (nI_ge (a := pc) (b := n) ?_ (by omega)) (gy_93 hm g0 g1 g2 g3))
      rcases hg rfl with h | h
      · omega
      · exact h
  · exact br_f (fun q => h0 ((nI_eq (b := 0) (by omega) (by decide)).mp q)) (gy_93 hm g0 g1 g2 g3)
set_option maxHeartbeats 200000 in
theorem gy_err (h : f_err ≠ 0) (hp : post (f_most, f_n, f_stored, f_nm, f_nEnv, f_base, f_ns, f_no, f_nc, f_pc, f_mode, f_err, f_errAt, f_ticks, f_calls, f_outs, f_resK, f_part, f_resV, f_cnt, f_full, f_flag, f_need, a_tk, a_tv, a_tp, a_mName, a_mKind, a_mCount, a_mPar, a_mAt, a_vName, a_vDecl, a_vKind, a_vVal, a_sk, a_sv, a_oKind, a_oAt, a_oArgs, a_cKind, a_cA, a_cB, a_outK, a_outV)) : ls_YH post (f + 1) s (f_most, f_n, f_stored, f_nm, f_nEnv, f_base, f_ns, f_no, f_nc, f_pc, f_mode, f_err, f_errAt, f_ticks, f_calls, f_outs, f_resK, f_part, f_resV, f_cnt, f_full, f_flag, f_need, a_tk, a_tv, a_tp, a_mName, a_mKind, a_mCount, a_mPar, a_mAt, a_vName, a_vDecl, a_vKind, a_vVal, a_sk, a_sv, a_oKind, a_oAt, a_oArgs, a_cKind, a_cA, a_cB, a_outK, a_outV) := by
  show wY_execute_52 post (f + 1) (nI s) f_most f_n f_stored f_nm f_nEnv f_base f_ns f_no f_nc f_pc f_mode f_err f_errAt f_ticks f_calls f_outs f_resK f_part f_resV f_cnt f_full f_flag f_need a_tk a_tv a_tp a_mName a_mKind a_mCount a_mPar a_mAt a_vName a_vDecl a_vKind a_vVal a_sk a_sv a_oKind a_oAt a_oArgs a_cKind a_cA a_cB a_outK a_outV
  unfold wY_execute_52
  exact br_f h hp
set_option maxHeartbeats 200000 in
theorem gy_end {pc n : Nat} (hb : n < 1000 ∧ pc < 1000) (h : n ≤ pc) (hp : post (f_most, nI n, f_stored, f_nm, f_nEnv, f_base, f_ns, f_no, 0, nI pc, 0, 0, f_errAt, f_ticks, f_calls, f_outs, f_resK, f_part, f_resV, f_cnt, f_full, f_flag, f_need, a_tk, a_tv, a_tp, a_mName, a_mKind, a_mCount, a_mPar, a_mAt, a_vName, a_vDecl, a_vKind, a_vVal, a_sk, a_sv, a_oKind, a_oAt, a_oArgs, a_cKind, a_cA, a_cB, a_outK, a_outV)) : ls_YH post (f + 1) s (f_most, nI n, f_stored, f_nm, f_nEnv, f_base, f_ns, f_no, 0, nI pc, 0, 0, f_errAt, f_ticks, f_calls, f_outs, f_resK, f_part, f_resV, f_cnt, f_full, f_flag, f_need, a_tk, a_tv, a_tp, a_mName, a_mKind, a_mCount, a_mPar, a_mAt, a_vName, a_vDecl, a_vKind, a_vVal, a_sk, a_sv, a_oKind, a_oAt, a_oArgs, a_cKind, a_cA, a_cB, a_outK, a_outV) := by
  show wY_execute_52 post (f + 1) (nI s) f_most (nI n) f_stored f_nm f_nEnv f_base f_ns f_no 0 (nI pc) 0 0 f_errAt f_ticks f_calls f_outs f_resK f_part f_resV f_cnt f_full f_flag f_need a_tk a_tv a_tp a_mName a_mKind a_mCount a_mPar a_mAt a_vName a_vDecl a_vKind a_vVal a_sk a_sv a_oKind a_oAt a_oArgs a_cKind a_cA a_cB a_outK a_outV
  unfold wY_execute_52
  refine br_t rfl (nm_r (nI_1 s) (br_c (fun _ => hp) (fun _ => ?_)))
  exact br_t rfl (br_f (by decide) (br_t (nI_le h (by omega)) hp))
set_option maxHeartbeats 200000 in
theorem hy_tick {tc mt p : Nat} (hm : mt < 1000) (hp : p < 384) (ht : tc ≤ mt) (h1 : tc < mt → post (nI mt, f_n, f_stored, f_nm, f_nEnv, f_base, f_ns, f_no, f_nc, f_pc, f_mode, f_err, f_errAt, nI (tc + 1), f_calls, f_outs, f_resK, f_part, f_resV, f_cnt, f_full, f_flag, f_need, a_tk, a_tv, a_tp, a_mName, a_mKind, a_mCount, a_mPar, a_mAt, a_vName, a_vDecl, a_vKind, a_vVal, a_sk, a_sv, a_oKind, a_oAt, a_oArgs, a_cKind, a_cA, a_cB, a_outK, a_outV)) (h0 : tc = mt → post (nI mt, f_n, f_stored, f_nm, f_nEnv, f_base, f_ns, f_no, f_nc, f_pc, f_mode, 9, ls_pl a_tp p, nI tc, f_calls, f_outs, f_resK, f_part, f_resV, f_cnt, f_full, f_flag, f_need, a_tk, a_tv, a_tp, a_mName, a_mKind, a_mCount, a_mPar, a_mAt, a_vName, a_vDecl, a_vKind, a_vVal, a_sk, a_sv, a_oKind, a_oAt, a_oArgs, a_cKind, a_cA, a_cB, a_outK, a_outV)) : wpY_tick post (nI mt, f_n, f_stored, f_nm, f_nEnv, f_base, f_ns, f_no, f_nc, f_pc, f_mode, f_err, f_errAt, nI tc, f_calls, f_outs, f_resK, f_part, f_resV, f_cnt, f_full, f_flag, f_need, a_tk, a_tv, a_tp, a_mName, a_mKind, a_mCount, a_mPar, a_mAt, a_vName, a_vDecl, a_vKind, a_vVal, a_sk, a_sv, a_oKind, a_oAt, a_oArgs, a_cKind, a_cA, a_cB, a_outK, a_outV) (nI p) := by
  unfold wpY_tick
  dsimp only
  by_cases e : tc = mt
  · subst e
    exact br_t rfl (hy_fail hp (h0 rfl))
  · exact br_f (fun q => e ((nI_eq (by omega) (by omega)).mp q)) (nm_r (nI_1 tc) (h1 (by omega)))
set_option maxHeartbeats 200000 in
theorem ls_pm1 {b : Nat} (h : b < 1000) : nI b - 1 < nI b := by
  cases b with
  | zero => decide
  | succ b => rw [nI_pred]; exact nI_lt (by omega) (by omega)
set_option maxHeartbeats 200000 in
theorem hy_variable {q : Int32 → Prop} {L : List Nat} {b nm : Nat} (hnm : nm < 16) (hL : ∀ x ∈ L, x < 16) (hb : b + L.length ≤ 80) (hN : ls_LN a_vName b L)
    (h1 : ∀ j, ls_addr L nm = 16 + j → j < L.length → q (nI (b + j)))
    (h2 : ls_addr L nm = nm → 0 ≤ a_vDecl (80 + nm) → q (nI (80 + nm)))
    (h3 : ls_addr L nm = nm → ¬ 0 ≤ a_vDecl (80 + nm) → q (-1)) : wpY_variable q (f_most, f_n, f_stored, f_nm, nI (b + L.length), nI b, f_ns, f_no, f_nc, f_pc, f_mode, f_err, f_errAt, f_ticks, f_calls, f_outs, f_resK, f_part, f_resV, f_cnt, f_full, f_flag, f_need, a_tk, a_tv, a_tp, a_mName, a_mKind, a_mCount, a_mPar, a_mAt, a_vName, a_vDecl, a_vKind, a_vVal, a_sk, a_sv, a_oKind, a_oAt, a_oArgs, a_cKind, a_cA, a_cB, a_outK, a_outV) (nI (nm + 54)) := by
  unfold wpY_variable
  dsimp only
  have K : ∀ (M : List Nat) (fu : Nat) (ne : Int32), M.length < fu → b + M.length ≤ 80 → (∀ x ∈ M, x < 16) → ls_LN a_vName b M → (∀ j, ls_addr M nm = 16 + j → j < M.length → q (nI (b + j))) → (ls_addr M nm = nm → 0 ≤ a_vDecl (80 + nm) → q (nI (80 + nm))) → (ls_addr M nm = nm → ¬ 0 ≤ a_vDecl (80 + nm) → q (-1)) → wY_variable_7 q (nI (nm + 54)) f_most f_n f_stored f_nm ne (nI b) f_ns f_no f_nc f_pc f_mode f_err f_errAt f_ticks f_calls f_outs f_resK f_part f_resV f_cnt f_full f_flag f_need a_tk a_tv a_tp a_mName a_mKind a_mCount a_mPar a_mAt a_vName a_vDecl a_vKind a_vVal a_sk a_sv a_oKind a_oAt a_oArgs a_cKind a_cA a_cB a_outK a_outV fu (nI (b + M.length) - 1) := by
    intro M
    induction M with
    | nil =>
      intro fu ne hf hb' _ _ _ h2 h3
      obtain ⟨fu', rfl⟩ : ∃ fu', fu = fu' + 1 := ⟨fu - 1, by omega⟩
      unfold wY_variable_7
      refine br_t (ls_pm1 (by omega)) ?_
      rw [show (26 : Int32) = nI 26 from rfl, nI_add, show 26 + (nm + 54) = 80 + nm by omega, nI_clamp (by omega)]
      refine ⟨vp_in_nI (by omega) (by decide), br_c (fun g => h2 rfl g) (fun g => h3 rfl g)⟩
    | cons x r ih =>
      intro fu ne hf hb' hM hN h1 h2 h3
      obtain ⟨fu', rfl⟩ : ∃ fu', fu = fu' + 1 := ⟨fu - 1, by omega⟩
      rw [List.length_cons] at hf hb'
      rw [List.length_cons, show b + (r.length + 1) = (b + r.length) + 1 by omega, nI_pred]
      unfold wY_variable_7
      obtain ⟨n1, n2⟩ := hN
      have hx := hM x (List.mem_cons_self ..)
      refine br_f (nI_nlt (by omega) (by omega)) ⟨vp_in_nI (by omega) (by decide), ?_⟩
      rw [nI_clamp (by omega), n1]
      by_cases e : x = nm
      · subst e
        refine br_t rfl (h1 r.length ?_ (by rw [List.length_cons]; omega))
        show (if x = x then _ else _) = _
        rw [if_pos rfl]
      · have ea : ls_addr (x :: r) nm = ls_addr r nm := by
          show (if x = nm then _ else _) = _
          rw [if_neg e]
        refine br_f (fun g => e (by have := (nI_eq (a := x + 54) (b := nm + 54) (by omega) (by omega)).mp g; omega)) ?_
        refine nm_r (e' := nI (b + r.length) - 1) ?_ (ih fu' ne (by omega) (by omega) (fun y hy => hM y (List.mem_cons_of_mem _ hy)) n2 (fun j hj hl => h1 j (by rw [ea]; exact hj) (by rw [List.length_cons]; omega)) (fun g => h2 (by rw [ea]; exact g)) (fun g => h3 (by rw [ea]; exact g)))
        rw [Int32.sub_eq_add_neg]
  exact nm_e ⟨L.length + 1, K L (L.length + 1) _ (by omega) hb hL hN h1 h2 h3⟩
set_option maxHeartbeats 200000 in
theorem hy_local {ne a d k : Nat} {x : Int64} (hn : ne < 96) (ha : a < 128) (hd : d < 128) (hk : k < 128) (hp : post (f_most, f_n, f_stored, f_nm, nI (ne + 1), f_base, f_ns, f_no, f_nc, f_pc, f_mode, f_err, f_errAt, f_ticks, f_calls, f_outs, f_resK, f_part, f_resV, f_cnt, f_full, f_flag, f_need, a_tk, a_tv, a_tp, a_mName, a_mKind, a_mCount, a_mPar, a_mAt, upd a_vName ne (nI a), upd a_vDecl ne (nI d), upd a_vKind ne (nI k), vp_updL a_vVal ne x, a_sk, a_sv, a_oKind, a_oAt, a_oArgs, a_cKind, a_cA, a_cB, a_outK, a_outV)) : wpY_local post (f_most, f_n, f_stored, f_nm, nI ne, f_base, f_ns, f_no, f_nc, f_pc, f_mode, f_err, f_errAt, f_ticks, f_calls, f_outs, f_resK, f_part, f_resV, f_cnt, f_full, f_flag, f_need, a_tk, a_tv, a_tp, a_mName, a_mKind, a_mCount, a_mPar, a_mAt, a_vName, a_vDecl, a_vKind, a_vVal, a_sk, a_sv, a_oKind, a_oAt, a_oArgs, a_cKind, a_cA, a_cB, a_outK, a_outV) (nI a) (nI d) (nI k) x := by
  have i : vp_in (nI ne) 96 := vp_in_nI hn (by decide)
  have e : (nI ne).toNatClampNeg = ne := nI_clamp (by omega)
  exact ⟨i, nm_r (by rw [e, ls_vnb2 ha]) ⟨i, nm_r (by rw [e, ls_vnb2 hd]) ⟨i, nm_r (by rw [e, ls_vnb2 hk]) (nm_r (nI_1 ne) ⟨i, nm_r (by rw [e]) hp⟩)⟩⟩⟩
set_option maxHeartbeats 200000 in
theorem hy_declareGlobal {a d k : Nat} {x : Int64} (ha : a < 16) (hd : d < 128) (hk : k < 128) (hp : post (f_most, f_n, f_stored, f_nm, f_nEnv, f_base, f_ns, f_no, f_nc, f_pc, f_mode, f_err, f_errAt, f_ticks, f_calls, f_outs, f_resK, f_part, f_resV, f_cnt, f_full, f_flag, f_need, a_tk, a_tv, a_tp, a_mName, a_mKind, a_mCount, a_mPar, a_mAt, a_vName, upd a_vDecl (80 + a) (nI d), upd a_vKind (80 + a) (nI k), vp_updL a_vVal (80 + a) x, a_sk, a_sv, a_oKind, a_oAt, a_oArgs, a_cKind, a_cA, a_cB, a_outK, a_outV)) : wpY_declareGlobal post (f_most, f_n, f_stored, f_nm, f_nEnv, f_base, f_ns, f_no, f_nc, f_pc, f_mode, f_err, f_errAt, f_ticks, f_calls, f_outs, f_resK, f_part, f_resV, f_cnt, f_full, f_flag, f_need, a_tk, a_tv, a_tp, a_mName, a_mKind, a_mCount, a_mPar, a_mAt, a_vName, a_vDecl, a_vKind, a_vVal, a_sk, a_sv, a_oKind, a_oAt, a_oArgs, a_cKind, a_cA, a_cB, a_outK, a_outV) (nI (a + 54)) (nI d) (nI k) x := by
  have e0 : (26 : Int32) + nI (a + 54) = nI (80 + a) := by rw [show (26 : Int32) = nI 26 from rfl, nI_add, show 26 + (a + 54) = 80 + a by omega]
  have i : vp_in (nI (80 + a)) 96 := vp_in_nI (by omega) (by decide)
  have e : (nI (80 + a)).toNatClampNeg = 80 + a := nI_clamp (by omega)
  unfold wpY_declareGlobal
  dsimp only
  rw [e0]
  exact ⟨i, nm_r (by rw [e, ls_vnb2 hd]) ⟨i, nm_r (by rw [e, ls_vnb2 hk]) ⟨i, nm_r (by rw [e]) hp⟩⟩⟩
set_option maxHeartbeats 200000 in
theorem hy_leaveBlock {nc kd a : Nat} (hn : nc < 700) (hk : kd < 100) (e1 : a_cKind nc = nI kd) (e2 : a_cA nc = nI a) (h1 : kd = 1 → post (f_most, f_n, f_stored, f_nm, nI a, f_base, f_ns, f_no, nI nc, f_pc, f_mode, f_err, f_errAt, f_ticks, f_calls, f_outs, f_resK, f_part, f_resV, f_cnt, f_full, f_flag, f_need, a_tk, a_tv, a_tp, a_mName, a_mKind, a_mCount, a_mPar, a_mAt, a_vName, a_vDecl, a_vKind, a_vVal, a_sk, a_sv, a_oKind, a_oAt, a_oArgs, a_cKind, a_cA, a_cB, a_outK, a_outV)) (h0 : kd ≠ 1 → post (f_most, f_n, f_stored, f_nm, f_nEnv, f_base, f_ns, f_no, nI nc, f_pc, f_mode, f_err, f_errAt, f_ticks, f_calls, f_outs, f_resK, f_part, f_resV, f_cnt, f_full, f_flag, f_need, a_tk, a_tv, a_tp, a_mName, a_mKind, a_mCount, a_mPar, a_mAt, a_vName, a_vDecl, a_vKind, a_vVal, a_sk, a_sv, a_oKind, a_oAt, a_oArgs, a_cKind, a_cA, a_cB, a_outK, a_outV)) : wpY_leaveBlock post (f_most, f_n, f_stored, f_nm, f_nEnv, f_base, f_ns, f_no, nI (nc + 1), f_pc, f_mode, f_err, f_errAt, f_ticks, f_calls, f_outs, f_resK, f_part, f_resV, f_cnt, f_full, f_flag, f_need, a_tk, a_tv, a_tp, a_mName, a_mKind, a_mCount, a_mPar, a_mAt, a_vName, a_vDecl, a_vKind, a_vVal, a_sk, a_sv, a_oKind, a_oAt, a_oArgs, a_cKind, a_cA, a_cB, a_outK, a_outV) := by
  have i : vp_in (nI nc) 700 := vp_in_nI hn (by decide)
  have e : (nI nc).toNatClampNeg = nc := nI_clamp (by omega)
  unfold wpY_leaveBlock
  dsimp only
  refine nm_r (nI_pred nc) ⟨i, ?_⟩
  rw [e, e1]
  by_cases k1 : kd = 1
  · subst k1
    exact br_t rfl ⟨i, nm_r e2 (h1 rfl)⟩
  · exact br_f (mt (ls_k8 hk (by decide)).mp k1) (h0 k1)
set_option maxHeartbeats 200000 in
theorem hy_zeroKind {q : Int32 → Prop} {t : Nat} (ht : t < 100) (hp : q (nI (if t = 5 then 3 else t))) : wpY_zeroKind q (f_most, f_n, f_stored, f_nm, f_nEnv, f_base, f_ns, f_no, f_nc, f_pc, f_mode, f_err, f_errAt, f_ticks, f_calls, f_outs, f_resK, f_part, f_resV, f_cnt, f_full, f_flag, f_need, a_tk, a_tv, a_tp, a_mName, a_mKind, a_mCount, a_mPar, a_mAt, a_vName, a_vDecl, a_vKind, a_vVal, a_sk, a_sv, a_oKind, a_oAt, a_oArgs, a_cKind, a_cA, a_cB, a_outK, a_outV) (nI t) := by
  unfold wpY_zeroKind
  dsimp only
  by_cases e : t = 5
  · subst e
    exact br_t rfl hp
  · rw [if_neg e] at hp
    exact br_f (mt (ls_k8 ht (by decide)).mp e) hp
set_option maxHeartbeats 200000 in
theorem hy_test {no p : Nat} (h : no < 400) (hp : p < 1000) (g : post (f_most, f_n, f_stored, f_nm, f_nEnv, f_base, f_ns, nI (no + 1), f_nc, nI (p + 2), 1, f_err, f_errAt, f_ticks, f_calls, f_outs, f_resK, f_part, f_resV, f_cnt, f_full, f_flag, f_need, a_tk, a_tv, a_tp, a_mName, a_mKind, a_mCount, a_mPar, a_mAt, a_vName, a_vDecl, a_vKind, a_vVal, a_sk, a_sv, upd a_oKind no 1, upd a_oAt no (nI p), upd a_oArgs no 0, a_cKind, a_cA, a_cB, a_outK, a_outV)) : wpY_test post (f_most, f_n, f_stored, f_nm, f_nEnv, f_base, f_ns, nI no, f_nc, f_pc, f_mode, f_err, f_errAt, f_ticks, f_calls, f_outs, f_resK, f_part, f_resV, f_cnt, f_full, f_flag, f_need, a_tk, a_tv, a_tp, a_mName, a_mKind, a_mCount, a_mPar, a_mAt, a_vName, a_vDecl, a_vKind, a_vVal, a_sk, a_sv, a_oKind, a_oAt, a_oArgs, a_cKind, a_cA, a_cB, a_outK, a_outV) (nI p) := by
  unfold wpY_test
  dsimp only
  refine hy_openOp (kd := 1) h (by decide) (by omega) ?_
  exact nm_r (by rw [show (2 : Int32) = nI 2 from rfl, nI_add]) g
end
