/-! Steps of both, side by side -/
section
variable {T : Nat → Nat} {V : Nat → Int32} {C : Nat → LsC} {kF : LsK} {n N d e ta tz : Nat} {yn : Nat} {cr mk D : Nat → Int32} {co ca ck cp tk : Nat → Int32} {tv : Nat → Int64} {tp : Nat → Int32}
variable {t st pos es : Nat} {pe : List LsP} {fr : List LsF} {L : List Nat} {k : LsK} {as : List LsA} {Ls : List (List Nat)} {xs ys : List LsV} {os cs : List LsP}
set_option maxHeartbeats 200000 in
/-- how high the stacks are -/
theorem ls_cu_len (h : ls_cu yn cr mk D (ls_UA co ca ck cp tk tv tp) (T, V, C, kF, n, N, d, e, ta, tz) t as (st, pos, es, pe, fr, L, k) Ls xs ys os cs) : xs.length ≤ 32 * (as.length + 1) ∧ ys.length ≤ 32 * (as.length + 1) ∧ os.length ≤ 33 * (as.length + 1) ∧ cs.length ≤ 71 * as.length + 70 ∧ ls_sl Ls ≤ 8 * as.length ∧ Ls.length = as.length ∧ L.length ≤ 8 ∧ (∀ x ∈ L, x < 16) ∧ pos ≤ n ∧ n ≤ 140 ∧ t ≤ N ∧ N ≤ 1120 := by
  by_cases hs : st = 4 ∨ st = 5
  · obtain ⟨h1, h2, h3, h4, x1, y1, x0, y0, o0, c0, f, r, ins, g1, g2, g3, g4, g5, g6, g7⟩ := ls_cu_e h hs
    obtain ⟨u1, u2, u3, _⟩ := h1
    have X := ls_tl_ch u1 (by omega) h4 hs
    obtain ⟨r1, r2, r3⟩ := ls_ro_len g2
    obtain ⟨s1, s2, s3, s4, s5, s6⟩ := ls_sus_len ls_UA_ex g7
    have c := ls_ct_len g6
    have n15 := ls_n15 u1 u2.1 (show t ≤ N by omega)
    rw [h4] at n15
    dsimp only at n15
    have X3 := X.2.2.1
    have X4 := X.2.2.2.1
    have n140 := u1.1.1
    have N1 := u1.2.2.2.1
    subst g4
    simp only [List.length_cons, List.length_append, List.length_map]
    have LX : xs.length = x1.length + (if st = 5 then 1 else 0) ∧ ys.length = y1.length + (if st = 5 then 1 else 0) := by
      by_cases s5 : st = 5
      · rw [if_pos s5] at g1 ⊢
        obtain ⟨z, e1, e2⟩ := g1
        subst e1 e2
        exact ⟨rfl, rfl⟩
      · rw [if_neg s5] at g1 ⊢
        obtain ⟨e1, e2⟩ := g1
        subst e1 e2
        exact ⟨rfl, rfl⟩
    refine ⟨by omega, by omega, by omega, by omega, by omega, s6, X.2.2.2.2.1, X.2.2.2.2.2.1, X.2.2.2.2.2.2.2.2, n140, by omega, N1⟩
  · have hc : C t = (st, pos, es, pe, fr, L, k) := h.2.2.2.1
    have U := h.1
    obtain ⟨u1, u2, u3, _⟩ := U
    have tt : ta ≤ t ∧ t ≤ tz := h.2.2.1
    have hI := (u1.2.2.2.2 t (by omega)).2.1
    rw [hc] at hI
    obtain ⟨i1, i2, i3, _, _, _, i7⟩ := hI
    rw [if_neg hs] at i7
    have pe0 := i7.2.2.1
    subst pe0
    obtain ⟨h1, h2, h3, h4, c0, g6, g7⟩ := ls_cu_s h hs
    obtain ⟨s1, s2, s3, s4, s5, s6⟩ := ls_sus_len ls_UA_ex g7
    have c := ls_ct_len g6
    have n15 := ls_n15 u1 u2.1 (show t ≤ N by omega)
    rw [h4] at n15
    dsimp only at n15
    exact ⟨by omega, by omega, by omega, by omega, by omega, s6, i2, i3, i1, u1.1.1, by omega, u1.2.2.2.1⟩
set_option maxHeartbeats 200000 in
theorem ls_sus_l8 : ∀ {as : List LsA} {kd Ls xs ys os cs}, ls_sus yn cr mk D (ls_UA co ca ck cp tk tv tp) as kd Ls xs ys os cs → ∀ M ∈ Ls, M.length ≤ 8
  | [], kd, Ls, xs, ys, os, cs, h, M, hM => by
    obtain ⟨_, h1, _⟩ := h
    subst h1
    cases hM
  | (U, t) :: as, kd, Ls, xs, ys, os, cs, h, M, hM => by
    obtain ⟨T, V, C, kF, n, N, d, e, ta, tz⟩ := U
    obtain ⟨ha, pos, es, pe, f, r, L, k, q, m, ins, Ls', xs', ys', os', c1, cs', h1, h2, h3, h4, h5, h6, h7, h8, h9, h10, h11, h12, h13, h14, h15⟩ := h
    subst h8
    rcases List.mem_cons.mp hM with rfl | hM
    · obtain ⟨g1, _, g3, _⟩ := ha
      exact (ls_tl_ch g1 (by omega) h3 (Or.inr rfl)).2.2.2.2.1
    · exact ls_sus_l8 h15 M hM
set_option maxHeartbeats 200000 in
theorem ls_cu_l8 (h : ls_cu yn cr mk D (ls_UA co ca ck cp tk tv tp) (T, V, C, kF, n, N, d, e, ta, tz) t as (st, pos, es, pe, fr, L, k) Ls xs ys os cs) : ∀ M ∈ L :: Ls, M.length ≤ 8 := by
  intro M hM
  rcases List.mem_cons.mp hM with rfl | hM
  · exact (ls_cu_len h).2.2.2.2.2.2.1
  · obtain ⟨h1, h2, h3, h4, x1, y1, x0, y0, o0, c0, h5, h6, h7, h8, h9⟩ := h
    exact ls_sus_l8 h9 M hM
set_option maxHeartbeats 200000 in
/-- where a pending operator, or an operand's end, has its token -/
theorem ls_T5 (h : ls_tl T V n C N kF) (ht : t ≤ N) (ec : C t = (5, pos, es, pe, fr, L, k)) : T pos ≠ 72 := by
  intro q
  have := ls_qe h pe t k ht ec (by rw [q]; decide)
  omega
end
section
variable {f_tickLimit f_tokenCount f_outCount f_error f_errorPlace f_lastKind f_codeSize f_methodCount f_methodTokens f_cellCount f_activeCalls f_next f_ticksLeft f_state f_pos f_expressionStart f_pendingCount f_frameTop f_localCount : Int32}
variable {f_lastValue : Int64}
variable {a_tokenCode a_tokenValue a_outKind a_codeOp a_codeArg a_codeKind a_codePlace a_methodSign a_methodStart a_declared a_cellKind a_callReturn a_pendingLevel a_pendingPlace a_pendingMore a_frameKind a_frameMore a_localName : Nat → Int32}
variable {a_outValue a_cellValue : Nat → Int64}
set_option maxHeartbeats 200000 in
theorem xr_of {u' : SX} {u : SX} (h : ∀ (post : SX → Prop) (f s : Nat), s < 2000000 → ls_XN post f s u' → ls_XH post (f + 1) s u) : ls_xr 1 u u' := by
  intro post f s hs hh
  refine h post f s (by omega) ?_
  obtain ⟨f_tickLimit, f_tokenCount, f_outCount, f_error, f_errorPlace, f_lastKind, f_lastValue, f_codeSize, f_methodCount, f_methodTokens, f_cellCount, f_activeCalls, f_next, f_ticksLeft, f_state, f_pos, f_expressionStart, f_pendingCount, f_frameTop, f_localCount, a_tokenCode, a_tokenValue, a_outKind, a_outValue, a_codeOp, a_codeArg, a_codeKind, a_codePlace, a_methodSign, a_methodStart, a_declared, a_cellKind, a_cellValue, a_callReturn, a_pendingLevel, a_pendingPlace, a_pendingMore, a_frameKind, a_frameMore, a_localName⟩ := u'
  exact ls_XN_of hh
end
section
variable {f_most f_n f_stored f_nm f_nEnv f_base f_ns f_no f_nc f_pc f_mode f_err f_errAt f_ticks f_calls f_outs f_resK f_part f_cnt f_full f_flag f_need : Int32}
variable {f_resV : Int64}
variable {a_tk a_tp a_mName a_mKind a_mCount a_mPar a_mAt a_vName a_vDecl a_vKind a_sk a_oKind a_oAt a_oArgs a_cKind a_cA a_cB a_outK : Nat → Int32}
variable {a_tv a_vVal a_sv a_outV : Nat → Int64}
variable {nc pc n : Nat} {v' : SY}
set_option maxHeartbeats 200000 in
theorem yr_expr (hb : nc < 1000 ∧ pc < 1000 ∧ n < 1000) (h : ∀ post : SY → Prop, post v' → wpY_expr post (f_most, nI n, f_stored, f_nm, f_nEnv, f_base, f_ns, f_no, nI nc, nI pc, nI 1, 0, f_errAt, f_ticks, f_calls, f_outs, f_resK, f_part, f_resV, f_cnt, f_full, f_flag, f_need, a_tk, a_tv, a_tp, a_mName, a_mKind, a_mCount, a_mPar, a_mAt, a_vName, a_vDecl, a_vKind, a_vVal, a_sk, a_sv, a_oKind, a_oAt, a_oArgs, a_cKind, a_cA, a_cB, a_outK, a_outV)) : ls_yr 1 (f_most, nI n, f_stored, f_nm, f_nEnv, f_base, f_ns, f_no, nI nc, nI pc, nI 1, 0, f_errAt, f_ticks, f_calls, f_outs, f_resK, f_part, f_resV, f_cnt, f_full, f_flag, f_need, a_tk, a_tv, a_tp, a_mName, a_mKind, a_mCount, a_mPar, a_mAt, a_vName, a_vDecl, a_vKind, a_vVal, a_sk, a_sv, a_oKind, a_oAt, a_oArgs, a_cKind, a_cA, a_cB, a_outK, a_outV) v' := fun post f s hs hh =>
  gy_go (by omega) (by decide) hb (fun q => absurd q (by decide)) (fun q => absurd q (by decide)) (fun _ => h _ hh) (fun q => absurd q (by decide)) (fun q => absurd q (by decide))
set_option maxHeartbeats 200000 in
theorem yr_value (hb : nc < 1000 ∧ pc < 1000 ∧ n < 1000) (h : ∀ post : SY → Prop, post v' → wpY_value post (f_most, nI n, f_stored, f_nm, f_nEnv, f_base, f_ns, f_no, nI nc, nI pc, nI 2, 0, f_errAt, f_ticks, f_calls, f_outs, f_resK, f_part, f_resV, f_cnt, f_full, f_flag, f_need, a_tk, a_tv, a_tp, a_mName, a_mKind, a_mCount, a_mPar, a_mAt, a_vName, a_vDecl, a_vKind, a_vVal, a_sk, a_sv, a_oKind, a_oAt, a_oArgs, a_cKind, a_cA, a_cB, a_outK, a_outV)) : ls_yr 1 (f_most, nI n, f_stored, f_nm, f_nEnv, f_base, f_ns, f_no, nI nc, nI pc, nI 2, 0, f_errAt, f_ticks, f_calls, f_outs, f_resK, f_part, f_resV, f_cnt, f_full, f_flag, f_need, a_tk, a_tv, a_tp, a_mName, a_mKind, a_mCount, a_mPar, a_mAt, a_vName, a_vDecl, a_vKind, a_vVal, a_sk, a_sv, a_oKind, a_oAt, a_oArgs, a_cKind, a_cA, a_cB, a_outK, a_outV) v' := fun post f s hs hh =>
  gy_go (by omega) (by decide) hb (fun q => absurd q (by decide)) (fun q => absurd q (by decide)) (fun q => absurd q (by decide)) (fun _ => h _ hh) (fun q => absurd q (by decide))
set_option maxHeartbeats 200000 in
theorem yr_after (hb : nc < 1000 ∧ pc < 1000 ∧ n < 1000) (h : ∀ post : SY → Prop, post v' → wpY_after post (f_most, nI n, f_stored, f_nm, f_nEnv, f_base, f_ns, f_no, nI nc, nI pc, nI 3, 0, f_errAt, f_ticks, f_calls, f_outs, f_resK, f_part, f_resV, f_cnt, f_full, f_flag, f_need, a_tk, a_tv, a_tp, a_mName, a_mKind, a_mCount, a_mPar, a_mAt, a_vName, a_vDecl, a_vKind, a_vVal, a_sk, a_sv, a_oKind, a_oAt, a_oArgs, a_cKind, a_cA, a_cB, a_outK, a_outV)) : ls_yr 1 (f_most, nI n, f_stored, f_nm, f_nEnv, f_base, f_ns, f_no, nI nc, nI pc, nI 3, 0, f_errAt, f_ticks, f_calls, f_outs, f_resK, f_part, f_resV, f_cnt, f_full, f_flag, f_need, a_tk, a_tv, a_tp, a_mName, a_mKind, a_mCount, a_mPar, a_mAt, a_vName, a_vDecl, a_vKind, a_vVal, a_sk, a_sv, a_oKind, a_oAt, a_oArgs, a_cKind, a_cA, a_cB, a_outK, a_outV) v' := fun post f s hs hh =>
  gy_go (by omega) (by decide) hb (fun q => absurd q (by decide)) (fun q => absurd q (by decide)) (fun q => absurd q (by decide)) (fun q => absurd q (by decide)) (fun _ => h _ hh)
set_option maxHeartbeats 200000 in
theorem yr_stmt (hb : nc < 1000 ∧ pc < 1000 ∧ n < 1000) (hg : 0 < nc ∨ pc < n) (h : ∀ post : SY → Prop, post v' → wpY_statement post (f_most, nI n, f_stored, f_nm, f_nEnv, f_base, f_ns, f_no, nI nc, nI pc, nI 0, 0, f_errAt, f_ticks, f_calls, f_outs, f_resK, f_part, f_resV, f_cnt, f_full, f_flag, f_need, a_tk, a_tv, a_tp, a_mName, a_mKind, a_mCount, a_mPar, a_mAt, a_vName, a_vDecl, a_vKind, a_vVal, a_sk, a_sv, a_oKind, a_oAt, a_oArgs, a_cKind, a_cA, a_cB, a_outK, a_outV)) : ls_yr 1 (f_most, nI n, f_stored, f_nm, f_nEnv, f_base, f_ns, f_no, nI nc, nI pc, nI 0, 0, f_errAt, f_ticks, f_calls, f_outs, f_resK, f_part, f_resV, f_cnt, f_full, f_flag, f_need, a_tk, a_tv, a_tp, a_mName, a_mKind, a_mCount, a_mPar, a_mAt, a_vName, a_vDecl, a_vKind, a_vVal, a_sk, a_sv, a_oKind, a_oAt, a_oArgs, a_cKind, a_cA, a_cB, a_outK, a_outV) v' := fun post f s hs hh =>
  gy_go (by omega) (by decide) hb (fun _ => hg) (fun _ => h _ hh) (fun q => absurd q (by decide)) (fun q => absurd q (by decide)) (fun q => absurd q (by decide))
end
section
variable {f_tickLimit f_tokenCount f_outCount f_error f_errorPlace f_lastKind f_codeSize f_methodCount f_methodTokens f_cellCount f_activeCalls f_next f_ticksLeft f_state f_pos f_expressionStart f_pendingCount f_frameTop f_localCount : Int32}
variable {f_lastValue : Int64}
variable {a_tokenCode a_tokenValue a_outKind a_codeOp a_codeArg a_codeKind a_codePlace a_methodSign a_methodStart a_declared a_cellKind a_callReturn a_pendingLevel a_pendingPlace a_pendingMore a_frameKind a_frameMore a_localName : Nat → Int32}
variable {a_outValue a_cellValue : Nat → Int64}
variable {f_n f_stored f_nm f_nEnv f_base f_ns f_no f_nc f_pc f_mode f_err f_ticks f_calls f_outs f_part f_cnt f_full f_flag f_need : Int32}
variable {a_tk a_tp a_mName a_mKind a_mCount a_mPar a_mAt a_vName a_vDecl a_vKind a_sk a_oKind a_oAt a_oArgs a_cKind a_cA a_cB a_outK : Nat → Int32}
variable {a_tv a_vVal a_sv a_outV : Nat → Int64}
variable {oc mc mu yn er : Nat} {pl : Int32}
set_option maxHeartbeats 200000 in
/-- both stop with an error -/
theorem ls_G_err {mt : Nat} (hmt : mt ≤ 400) (hlm : f_tickLimit = nI mt) (her : er ≠ 0 ∧ er < 10) (ho : oc ≤ 32 ∧ ∀ i, i < oc → a_outKind i = a_outK i ∧ a_outValue i = a_outV i) (hg : ls_gl a_declared a_cellKind a_cellValue a_vDecl a_vKind a_vVal) (hM : ls_MT (ls_UA a_codeOp a_codeArg a_codeKind a_codePlace a_tk a_tv a_tp) mc mu a_tk a_methodSign a_methodStart a_mName a_mKind a_mCount a_mPar a_mAt) : ls_G 1 (f_tickLimit, f_tokenCount, nI oc, nI er, pl, f_lastKind, f_lastValue, f_codeSize, nI mc, nI mu, f_cellCount, f_activeCalls, f_next, f_ticksLeft, f_state, f_pos, f_expressionStart, f_pendingCount, f_frameTop, f_localCount, a_tokenCode, a_tokenValue, a_outKind, a_outValue, a_codeOp, a_codeArg, a_codeKind, a_codePlace, a_methodSign, a_methodStart, a_declared, a_cellKind, a_cellValue, a_callReturn, a_pendingLevel, a_pendingPlace, a_pendingMore, a_frameKind, a_frameMore, a_localName) (f_tickLimit, nI yn, nI (140 + mu), nI mc, f_nEnv, f_base, f_ns, f_no, f_nc, f_pc, f_mode, nI er, pl, f_ticks, f_calls, nI oc, f_lastKind, f_part, f_lastValue, f_cnt, f_full, f_flag, f_need, a_tk, a_tv, a_tp, a_mName, a_mKind, a_mCount, a_mPar, a_mAt, a_vName, a_vDecl, a_vKind, a_vVal, a_sk, a_sv, a_oKind, a_oAt, a_oArgs, a_cKind, a_cA, a_cB, a_outK, a_outV) := by
  have ne : nI er ≠ 0 := fun q => her.1 ((ls_k8 (b := 0) (by omega) (by decide)).mp q)
  refine ⟨(f_tickLimit, f_tokenCount, nI oc, nI er, pl, f_lastKind, f_lastValue, f_codeSize, nI mc, nI mu, f_cellCount, f_activeCalls, f_next, f_ticksLeft, f_state, f_pos, f_expressionStart, f_pendingCount, f_frameTop, f_localCount, a_tokenCode, a_tokenValue, a_outKind, a_outValue, a_codeOp, a_codeArg, a_codeKind, a_codePlace, a_methodSign, a_methodStart, a_declared, a_cellKind, a_cellValue, a_callReturn, a_pendingLevel, a_pendingPlace, a_pendingMore, a_frameKind, a_frameMore, a_localName), fun post f s hf hs hp => ?_, fun post f s hf hs hp => ?_⟩
  · obtain ⟨f', rfl⟩ : ∃ f', f = f' + 1 := ⟨f - 1, by omega⟩
    exact ls_XH_end (ls_gn_e ne) hp
  · obtain ⟨f', rfl⟩ : ∃ f', f = f' + 1 := ⟨f - 1, by omega⟩
    exact gy_err ne (hp _ ⟨oc, er, mc, mu, yn, ⟨rfl, mt, hmt, hlm⟩, rfl, rfl, her.2, rfl, ⟨ho.1, rfl, rfl, ho.2⟩, rfl, rfl, rfl, rfl, rfl, rfl, rfl, hg, hM⟩)
end
section
variable {tl : Nat} {as : List LsA} {st st' : Nat} {fr fr' : List LsF} {N t t' : Nat}
set_option maxHeartbeats 200000 in
theorem ls_Phi_lt (hl : ls_lo5 st' fr' ≤ ls_lo5 st fr) (ht : t < t') (hN : t' ≤ N) : ls_Phi tl as st' fr' N t' + 2 * (t' - t) ≤ ls_Phi tl as st fr N t := by
  unfold ls_Phi
  have : 2240 * (2 * tl + as.length + ls_a5 as + ls_lo5 st' fr') ≤ 2240 * (2 * tl + as.length + ls_a5 as + ls_lo5 st fr) := Nat.mul_le_mul_left _ (by omega)
  omega
set_option maxHeartbeats 200000 in
theorem ls_md_5 {pe : List LsP} : ls_md 5 pe = 3 := rfl
set_option maxHeartbeats 200000 in
theorem ls_md_s {pe : List LsP} (h : st ≠ 4 ∧ st ≠ 5) : ls_md st pe = 0 := by
  unfold ls_md
  rw [if_neg h.1, if_neg h.2]
set_option maxHeartbeats 200000 in
theorem ls_pt_x (h : st ≠ 0 ∧ st ≠ 1) : ls_pt st fr = 0 := by
  unfold ls_pt
  rw [if_neg (by omega)]
set_option maxHeartbeats 200000 in
theorem ls_lo5_x (h : st ≠ 0 ∧ st ≠ 1) : ls_lo5 st fr = ls_l5 fr := by
  unfold ls_lo5
  rw [if_neg (by omega)]
  rfl
end
section
variable {f_tickLimit f_tokenCount f_outCount f_error f_errorPlace f_lastKind f_codeSize f_methodCount f_methodTokens f_cellCount f_activeCalls f_next f_ticksLeft f_state f_pos f_expressionStart f_pendingCount f_frameTop f_localCount : Int32}
variable {f_lastValue : Int64}
variable {a_tokenCode a_tokenValue a_outKind a_codeOp a_codeArg a_codeKind a_codePlace a_methodSign a_methodStart a_declared a_cellKind a_callReturn a_pendingLevel a_pendingPlace a_pendingMore a_frameKind a_frameMore a_localName : Nat → Int32}
variable {a_outValue a_cellValue : Nat → Int64}
variable {f_cnt f_full f_flag f_need : Int32}
variable {a_tk a_tp a_mName a_mKind a_mCount a_mPar a_mAt a_vName a_vDecl a_vKind a_sk a_oKind a_oAt a_oArgs a_cKind a_cA a_cB a_outK : Nat → Int32}
variable {a_tv a_vVal a_sv a_outV : Nat → Int64}
variable {yn mt tl oc mc mu : Nat} {T : Nat → Nat} {V : Nat → Int32} {C : Nat → LsC} {kF : LsK} {n N d e ta tz t : Nat} {as : List LsA} {st pos es : Nat} {pe : List LsP} {fr : List LsF} {L : List Nat} {k : LsK} {Ls : List (List Nat)} {xs ys : List LsV} {os cs : List LsP} {F : Nat}
set_option maxHeartbeats 200000 in
/-- an operand is put on both stacks -/
theorem gs_opd {pos' a b : Nat} {k' : LsK} {z : LsV} (ih : ls_IH F) (h : ls_S yn mt tl oc mc mu ((T, V, C, kF, n, N, d, e, ta, tz)) t as ((4, pos, es, pe, fr, L, k)) Ls xs ys os cs f_tickLimit a_outKind a_outValue a_codeOp a_codeArg a_codeKind a_codePlace a_methodSign a_methodStart a_declared a_cellKind a_cellValue a_callReturn a_tk a_tv a_tp a_mName a_mKind a_mCount a_mPar a_mAt a_vName a_vDecl a_vKind a_vVal a_sk a_sv a_oKind a_oAt a_oArgs a_cKind a_cA a_cB a_outK a_outV) (hF : ls_Phi tl as 4 fr N t = F) (hc : C (t + 1) = (5, pos', es, pe, fr, L, k')) (hw : ls_wf z.1 z.2) (ha : a ≤ 2) (hb : b ≤ 2)
    (hx : 88 + xs.length < 376 → ls_xr a (f_tickLimit, f_tokenCount, nI oc, 0, f_errorPlace, f_lastKind, f_lastValue, f_codeSize, nI mc, nI mu, nI (88 + xs.length), nI as.length, nI (k.1 - d), nI tl, f_state, f_pos, f_expressionStart, f_pendingCount, f_frameTop, f_localCount, a_tokenCode, a_tokenValue, a_outKind, a_outValue, a_codeOp, a_codeArg, a_codeKind, a_codePlace, a_methodSign, a_methodStart, a_declared, a_cellKind, a_cellValue, a_callReturn, a_pendingLevel, a_pendingPlace, a_pendingMore, a_frameKind, a_frameMore, a_localName) (f_tickLimit, f_tokenCount, nI oc, 0, f_errorPlace, f_lastKind, f_lastValue, f_codeSize, nI mc, nI mu, nI (88 + (z :: xs).length), nI as.length, nI (k'.1 - d), nI tl, f_state, f_pos, f_expressionStart, f_pendingCount, f_frameTop, f_localCount, a_tokenCode, a_tokenValue, a_outKind, a_outValue, a_codeOp, a_codeArg, a_codeKind, a_codePlace, a_methodSign, a_methodStart, a_declared, upd a_cellKind (88 + xs.length) (nI z.1), vp_updL a_cellValue (88 + xs.length) z.2, a_callReturn, a_pendingLevel, a_pendingPlace, a_pendingMore, a_frameKind, a_frameMore, a_localName))
    (hy : ys.length < 400 → ls_yr b (nI mt, nI yn, nI (140 + mu), nI mc, nI (ls_sl Ls + L.length), nI (ls_sl Ls), nI ys.length, nI os.length, nI cs.length, nI (pos + e), nI (ls_md 4 pe), 0, f_errorPlace, nI (mt - tl), nI as.length, nI oc, f_lastKind, nI 0, f_lastValue, f_cnt, f_full, f_flag, f_need, a_tk, a_tv, a_tp, a_mName, a_mKind, a_mCount, a_mPar, a_mAt, a_vName, a_vDecl, a_vKind, a_vVal, a_sk, a_sv, a_oKind, a_oAt, a_oArgs, a_cKind, a_cA, a_cB, a_outK, a_outV) (nI mt, nI yn, nI (140 + mu), nI mc, nI (ls_sl Ls + L.length), nI (ls_sl Ls), nI (z :: ys).length, nI os.length, nI cs.length, nI (pos' + e), nI 3, 0, f_errorPlace, nI (mt - tl), nI as.length, nI oc, f_lastKind, nI 0, f_lastValue, f_cnt, f_full, f_flag, f_need, a_tk, a_tv, a_tp, a_mName, a_mKind, a_mCount, a_mPar, a_mAt, a_vName, a_vDecl, a_vKind, a_vVal, upd a_sk ys.length (nI z.1), vp_updL a_sv ys.length z.2, a_oKind, a_oAt, a_oArgs, a_cKind, a_cA, a_cB, a_outK, a_outV)) : ls_G F (f_tickLimit, f_tokenCount, nI oc, 0, f_errorPlace, f_lastKind, f_lastValue, f_codeSize, nI mc, nI mu, nI (88 + xs.length), nI as.length, nI (k.1 - d), nI tl, f_state, f_pos, f_expressionStart, f_pendingCount, f_frameTop, f_localCount, a_tokenCode, a_tokenValue, a_outKind, a_outValue, a_codeOp, a_codeArg, a_codeKind, a_codePlace, a_methodSign, a_methodStart, a_declared, a_cellKind, a_cellValue, a_callReturn, a_pendingLevel, a_pendingPlace, a_pendingMore, a_frameKind, a_frameMore, a_localName) (nI mt, nI yn, nI (140 + mu), nI mc, nI (ls_sl Ls + L.length), nI (ls_sl Ls), nI ys.length, nI os.length, nI cs.length, nI (pos + e), nI (ls_md 4 pe), 0, f_errorPlace, nI (mt - tl), nI as.length, nI oc, f_lastKind, nI 0, f_lastValue, f_cnt, f_full, f_flag, f_need, a_tk, a_tv, a_tp, a_mName, a_mKind, a_mCount, a_mPar, a_mAt, a_vName, a_vDecl, a_vKind, a_vVal, a_sk, a_sv, a_oKind, a_oAt, a_oArgs, a_cKind, a_cA, a_cB, a_outK, a_outV) := by
  obtain ⟨hcu, hX, hY, hO, hE, hG, hV, hl, ho, hM⟩ := h
  have cu' := ls_cu_opd (z := z) hcu hc
  have B := ls_cu_len cu'
  have lt := (ls_tl4 hcu.1.1 (by have := hcu.2.2.1; have := hcu.1.2.2.1; omega) hcu.2.2.2.1).1
  obtain ⟨b1, b2, _⟩ := B
  rw [List.length_cons] at b1 b2
  have as8 := hl.2.2.2.1
  have P := ls_Phi_lt (tl := tl) (as := as) (st := 4) (st' := 5) (fr := fr) (fr' := fr) (N := N) (t := t) (t' := t + 1) (by rw [ls_lo5_x (by omega), ls_lo5_x (by omega)]; exact Nat.le_refl _) (by omega) lt
  have S' : ls_S yn mt tl oc mc mu ((T, V, C, kF, n, N, d, e, ta, tz)) (t + 1) as ((5, pos', es, pe, fr, L, k')) Ls (z :: xs) (z :: ys) os cs f_tickLimit a_outKind a_outValue a_codeOp a_codeArg a_codeKind a_codePlace a_methodSign a_methodStart a_declared (upd a_cellKind (88 + xs.length) (nI z.1)) (vp_updL a_cellValue (88 + xs.length) z.2) a_callReturn a_tk a_tv a_tp a_mName a_mKind a_mCount a_mPar a_mAt a_vName a_vDecl a_vKind a_vVal (upd a_sk ys.length (nI z.1)) (vp_updL a_sv ys.length z.2) a_oKind a_oAt a_oArgs a_cKind a_cA a_cB a_outK a_outV := by
    refine ⟨cu', ls_stk_push hw hX, ?_, hO, hE, ?_, ?_, hl, ho, hM⟩
    · have := ls_stk_push (o := 0) hw hY
      rw [Nat.zero_add] at this
      exact this
    · intro i hi
      rcases hG i hi with g | g
      · exact Or.inl (ls_sm_x (by omega) g)
      · exact Or.inr g
    · refine ls_lev_mono (fun c p hc' h16 hp g => ls_sm_x ?_ g) ?_ (fun _ _ => rfl) hV
      · have := (ls_cu_len hcu).2.2.2.2.2.1
        rw [List.length_cons] at hc'
        omega
      · exact ls_cu_l8 hcu
  have G : ls_G (ls_Phi tl as 5 fr N (t + 1)) (f_tickLimit, f_tokenCount, nI oc, 0, f_errorPlace, f_lastKind, f_lastValue, f_codeSize, nI mc, nI mu, nI (88 + (z :: xs).length), nI as.length, nI (k'.1 - d), nI tl, f_state, f_pos, f_expressionStart, f_pendingCount, f_frameTop, f_localCount, a_tokenCode, a_tokenValue, a_outKind, a_outValue, a_codeOp, a_codeArg, a_codeKind, a_codePlace, a_methodSign, a_methodStart, a_declared, upd a_cellKind (88 + xs.length) (nI z.1), vp_updL a_cellValue (88 + xs.length) z.2, a_callReturn, a_pendingLevel, a_pendingPlace, a_pendingMore, a_frameKind, a_frameMore, a_localName) (nI mt, nI yn, nI (140 + mu), nI mc, nI (ls_sl Ls + L.length), nI (ls_sl Ls), nI (z :: ys).length, nI os.length, nI cs.length, nI (pos' + e), nI 3, 0, f_errorPlace, nI (mt - tl), nI as.length, nI oc, f_lastKind, nI 0, f_lastValue, f_cnt, f_full, f_flag, f_need, a_tk, a_tv, a_tp, a_mName, a_mKind, a_mCount, a_mPar, a_mAt, a_vName, a_vDecl, a_vKind, a_vVal, upd a_sk ys.length (nI z.1), vp_updL a_sv ys.length z.2, a_oKind, a_oAt, a_oArgs, a_cKind, a_cA, a_cB, a_outK, a_outV) := by
    have G0 : ls_G (ls_Phi tl as 5 fr N (t + 1)) (f_tickLimit, f_tokenCount, nI oc, 0, f_errorPlace, f_lastKind, f_lastValue, f_codeSize, nI mc, nI mu, nI (88 + (z :: xs).length), nI as.length, nI (k'.1 - d), nI tl, f_state, f_pos, f_expressionStart, f_pendingCount, f_frameTop, f_localCount, a_tokenCode, a_tokenValue, a_outKind, a_outValue, a_codeOp, a_codeArg, a_codeKind, a_codePlace, a_methodSign, a_methodStart, a_declared, upd a_cellKind (88 + xs.length) (nI z.1), vp_updL a_cellValue (88 + xs.length) z.2, a_callReturn, a_pendingLevel, a_pendingPlace, a_pendingMore, a_frameKind, a_frameMore, a_localName) (nI mt, nI yn, nI (140 + mu), nI mc, nI (ls_sl Ls + L.length), nI (ls_sl Ls), nI (z :: ys).length, nI os.length, nI cs.length, nI (pos' + e), nI (ls_md 5 pe), 0, f_errorPlace, nI (mt - tl), nI as.length, nI oc, f_lastKind, nI (ls_pt 5 fr), f_lastValue, f_cnt, f_full, f_flag, f_need, a_tk, a_tv, a_tp, a_mName, a_mKind, a_mCount, a_mPar, a_mAt, a_vName, a_vDecl, a_vKind, a_vVal, upd a_sk ys.length (nI z.1), vp_updL a_sv ys.length z.2, a_oKind, a_oAt, a_oArgs, a_cKind, a_cA, a_cB, a_outK, a_outV) := ih S' (by omega) (fun q => absurd q.1 (by decide))
    rw [ls_md_5, ls_pt_x (by omega)] at G0
    exact G0
  exact ls_G_go (hx (by omega)) (hy (by omega)) G (by omega) (by omega)
end
