/-! Statements begin -/
section
variable {T : Nat → Nat} {V : Nat → Int32} {C : Nat → LsC} {kF : LsK} {n N d e ta tz : Nat} {yn : Nat} {cr mk D : Nat → Int32} {co ca ck cp tk : Nat → Int32} {tv : Nat → Int64} {tp : Nat → Int32}
variable {t st pos es : Nat} {pe : List LsP} {k : LsK} {as : List LsA} {Ls : List (List Nat)} {xs ys : List LsV} {os : List LsP}
set_option maxHeartbeats 200000 in
/-- the reference goes on -/
theorem ls_hg {fr : List LsF} {L : List Nat} {cs : List LsP} (h : ls_cu yn cr mk D (ls_UA co ca ck cp tk tv tp) (T, V, C, kF, n, N, d, e, ta, tz) t as (st, pos, es, [], fr, L, k) Ls xs ys os cs) (hs : st < 4) (h3 : ¬ (st = 3 ∧ ls_fk fr = 2)) (h72 : T pos ≠ 72 ∨ as ≠ []) : (0 < cs.length ∨ pos + e < yn) ∧ t < tz ∧ t < N ∧ d ≤ k.1 ∧ k.1 - d < 761 ∧ (tk (pos + e) = nI (T pos) ∧ T pos < 100 ∧ pos + e < 384 ∧ ls_pl tp (pos + e) = nI pos) := by
  obtain ⟨a1, a2, a3, a4, c0, a5, a6⟩ := ls_cu_s h (by omega)
  have U := a1
  obtain ⟨g1, _, g3, _⟩ := a1
  have lt := ls_UK_lt a2 g3.2 g1 a3.2 a4 (by omega) h3
  have dd := ls_d_le U a3 a4
  have tp' := ls_tokp U a2 ⟨a3.1, lt⟩ a4 h72
  refine ⟨?_, lt, by omega, dd.1, dd.2, tp'.1, tp'.2.1, tp'.2.2.1, tp'.2.2.2.1⟩
  by_cases a0 : as = []
  · right
    obtain ⟨⟨_, e0, _, _, y0⟩, _⟩ := a2.1 a0
    have := ls_txt_lt g1.1 (h72.resolve_right (fun q => q a0))
    omega
  · left
    obtain ⟨cX, e1, _⟩ := ls_ct_app a5
    cases as with
    | nil => exact absurd rfl a0
    | cons A as =>
      obtain ⟨U', t'⟩ := A
      obtain ⟨T', V', C', kF', n', N', d', e', ta', tz'⟩ := U'
      obtain ⟨ha, pos', es', pe', f', r', L', k', q', m, ins, Ls', xs', ys', os', c1, cs', h1, h2, h3, h4, h5, h6, h7, h8, h9, h10, h11, h12, h13, h14, h15⟩ := a6
      rw [e1, h13, List.length_append, List.length_cons]
      omega
end
section
variable {f_tickLimit f_tokenCount f_outCount f_error f_errorPlace f_lastKind f_codeSize f_methodCount f_methodTokens f_cellCount f_activeCalls f_next f_ticksLeft f_state f_pos f_expressionStart f_pendingCount f_frameTop f_localCount : Int32}
variable {f_lastValue : Int64}
variable {a_tokenCode a_tokenValue a_outKind a_codeOp a_codeArg a_codeKind a_codePlace a_methodSign a_methodStart a_declared a_cellKind a_callReturn a_pendingLevel a_pendingPlace a_pendingMore a_frameKind a_frameMore a_localName : Nat → Int32}
variable {a_outValue a_cellValue : Nat → Int64}
variable {f_cnt f_full f_flag f_need : Int32}
variable {a_tk a_tp a_mName a_mKind a_mCount a_mPar a_mAt a_vName a_vDecl a_vKind a_sk a_oKind a_oAt a_oArgs a_cKind a_cA a_cB a_outK : Nat → Int32}
variable {a_tv a_vVal a_sv a_outV : Nat → Int64}
variable {yn mt tl oc mc mu : Nat} {T : Nat → Nat} {V : Nat → Int32} {C : Nat → LsC} {kF : LsK} {n N d e ta tz t : Nat} {as : List LsA} {st pos es : Nat} {pe : List LsP} {fr : List LsF} {L : List Nat} {k : LsK} {Ls : List (List Nat)} {xs ys : List LsV} {os cs : List LsP} {F : Nat}
set_option maxHeartbeats 200000 in
/-- a statement's tick -/
theorem gs_tick {u' : SX} {v' : SY} {F' a : Nat} (h : ls_S yn mt tl oc mc mu ((T, V, C, kF, n, N, d, e, ta, tz)) t as ((1, pos, es, [], fr, L, k)) Ls xs ys os cs f_tickLimit a_outKind a_outValue a_codeOp a_codeArg a_codeKind a_codePlace a_methodSign a_methodStart a_declared a_cellKind a_cellValue a_callReturn a_tk a_tv a_tp a_mName a_mKind a_mCount a_mPar a_mAt a_vName a_vDecl a_vKind a_vVal a_sk a_sv a_oKind a_oAt a_oArgs a_cKind a_cA a_cB a_outK a_outV) (hT : 6 ≤ T pos) (h7 : T pos ≠ 7) (h18 : T pos ≠ 18) (h72 : T pos ≠ 72) (op1 : a_codeOp (k.1 - d) = 1) (pl1 : a_codePlace (k.1 - d) = nI pos) (hF2 : 2 ≤ F) (ha : 0 < tl → F' + (1 + a) ≤ F) (hb : 0 < tl → F' + 1 ≤ F)
    (hx : 0 < tl → ls_xr a (f_tickLimit, f_tokenCount, nI oc, 0, f_errorPlace, f_lastKind, f_lastValue, f_codeSize, nI mc, nI mu, nI (88 + xs.length), nI as.length, nI (k.1 - d + 1), nI (tl - 1), f_state, f_pos, f_expressionStart, f_pendingCount, f_frameTop, f_localCount, a_tokenCode, a_tokenValue, a_outKind, a_outValue, a_codeOp, a_codeArg, a_codeKind, a_codePlace, a_methodSign, a_methodStart, a_declared, a_cellKind, a_cellValue, a_callReturn, a_pendingLevel, a_pendingPlace, a_pendingMore, a_frameKind, a_frameMore, a_localName) u')
    (hy : 0 < tl → ∀ post : SY → Prop, post v' → wpY_begin post (nI mt, nI yn, nI (140 + mu), nI mc, nI (ls_sl Ls + L.length), nI (ls_sl Ls), nI ys.length, nI os.length, nI cs.length, nI (pos + e), nI 0, 0, f_errorPlace, nI (mt - (tl - 1)), nI as.length, nI oc, f_lastKind, nI (ls_pt 1 fr), f_lastValue, f_cnt, f_full, f_flag, f_need, a_tk, a_tv, a_tp, a_mName, a_mKind, a_mCount, a_mPar, a_mAt, a_vName, a_vDecl, a_vKind, a_vVal, a_sk, a_sv, a_oKind, a_oAt, a_oArgs, a_cKind, a_cA, a_cB, a_outK, a_outV) (nI (T pos)))
    (G : 0 < tl → ls_G F' u' v') : ls_G F (f_tickLimit, f_tokenCount, nI oc, 0, f_errorPlace, f_lastKind, f_lastValue, f_codeSize, nI mc, nI mu, nI (88 + xs.length), nI as.length, nI (k.1 - d), nI tl, f_state, f_pos, f_expressionStart, f_pendingCount, f_frameTop, f_localCount, a_tokenCode, a_tokenValue, a_outKind, a_outValue, a_codeOp, a_codeArg, a_codeKind, a_codePlace, a_methodSign, a_methodStart, a_declared, a_cellKind, a_cellValue, a_callReturn, a_pendingLevel, a_pendingPlace, a_pendingMore, a_frameKind, a_frameMore, a_localName) (nI mt, nI yn, nI (140 + mu), nI mc, nI (ls_sl Ls + L.length), nI (ls_sl Ls), nI ys.length, nI os.length, nI cs.length, nI (pos + e), nI 0, 0, f_errorPlace, nI (mt - tl), nI as.length, nI oc, f_lastKind, nI (ls_pt 1 fr), f_lastValue, f_cnt, f_full, f_flag, f_need, a_tk, a_tv, a_tp, a_mName, a_mKind, a_mCount, a_mPar, a_mAt, a_vName, a_vDecl, a_vKind, a_vVal, a_sk, a_sv, a_oKind, a_oAt, a_oArgs, a_cKind, a_cA, a_cB, a_outK, a_outV) := by
  have h' := h
  obtain ⟨hcu, hX, hY, hO, hE, hG, hV, hl, ho, hM⟩ := h'
  obtain ⟨hg, lt, ltN, d1, d2, t1, t2, t3, t4⟩ := ls_hg hcu (by omega) (fun q => by omega) (Or.inl h72)
  have LB := ls_cu_len hcu
  have as8 := hl.2.2.2.1
  have B := ls_Sb5 h t3
  have CT := ls_cs_top hcu (by omega) as8
  have mt4 := hl.2.2.1
  have tlm := hl.2.1
  have CL := LB.2.2.2.1
  by_cases t0 : 0 < tl
  · have hx1 : ls_xr (1 + a) (f_tickLimit, f_tokenCount, nI oc, 0, f_errorPlace, f_lastKind, f_lastValue, f_codeSize, nI mc, nI mu, nI (88 + xs.length), nI as.length, nI (k.1 - d), nI tl, f_state, f_pos, f_expressionStart, f_pendingCount, f_frameTop, f_localCount, a_tokenCode, a_tokenValue, a_outKind, a_outValue, a_codeOp, a_codeArg, a_codeKind, a_codePlace, a_methodSign, a_methodStart, a_declared, a_cellKind, a_cellValue, a_callReturn, a_pendingLevel, a_pendingPlace, a_pendingMore, a_frameKind, a_frameMore, a_localName) u' := ls_xr_t (xr_of (fun post f s hs hh => gx_1 d2 hs op1 (hx_tick (by omega) (fun _ => hh) (fun q => by omega)))) (hx t0)
    have hy1 : ls_yr 1 (nI mt, nI yn, nI (140 + mu), nI mc, nI (ls_sl Ls + L.length), nI (ls_sl Ls), nI ys.length, nI os.length, nI cs.length, nI (pos + e), nI 0, 0, f_errorPlace, nI (mt - tl), nI as.length, nI oc, f_lastKind, nI (ls_pt 1 fr), f_lastValue, f_cnt, f_full, f_flag, f_need, a_tk, a_tv, a_tp, a_mName, a_mKind, a_mCount, a_mPar, a_mAt, a_vName, a_vDecl, a_vKind, a_vVal, a_sk, a_sv, a_oKind, a_oAt, a_oArgs, a_cKind, a_cA, a_cB, a_outK, a_outV) v' := by
      refine yr_stmt B hg (fun post hp => hy_statement_m t3 (by omega) hE CT (hy_st_tick t3 t1 ⟨hT, t2⟩ h7 h18 (by omega) (by omega) rfl (fun _ => ?_) (fun q => by omega)))
      rw [show mt - tl + 1 = mt - (tl - 1) by omega]
      exact hy t0 post hp
    exact ls_G_go hx1 hy1 (G t0) (ha t0) (hb t0)
  · have z0 : tl = 0 := by omega
    have hx1 : ls_xr 1 (f_tickLimit, f_tokenCount, nI oc, 0, f_errorPlace, f_lastKind, f_lastValue, f_codeSize, nI mc, nI mu, nI (88 + xs.length), nI as.length, nI (k.1 - d), nI tl, f_state, f_pos, f_expressionStart, f_pendingCount, f_frameTop, f_localCount, a_tokenCode, a_tokenValue, a_outKind, a_outValue, a_codeOp, a_codeArg, a_codeKind, a_codePlace, a_methodSign, a_methodStart, a_declared, a_cellKind, a_cellValue, a_callReturn, a_pendingLevel, a_pendingPlace, a_pendingMore, a_frameKind, a_frameMore, a_localName) (f_tickLimit, f_tokenCount, nI oc, nI 9, nI pos, f_lastKind, f_lastValue, f_codeSize, nI mc, nI mu, nI (88 + xs.length), nI as.length, nI (k.1 - d + 1), nI tl, f_state, f_pos, f_expressionStart, f_pendingCount, f_frameTop, f_localCount, a_tokenCode, a_tokenValue, a_outKind, a_outValue, a_codeOp, a_codeArg, a_codeKind, a_codePlace, a_methodSign, a_methodStart, a_declared, a_cellKind, a_cellValue, a_callReturn, a_pendingLevel, a_pendingPlace, a_pendingMore, a_frameKind, a_frameMore, a_localName) := by
      refine xr_of (fun post f s hs hh => gx_1 d2 hs op1 (hx_tick (by omega) (fun q => absurd q t0) (fun _ => ?_)))
      rw [pl1]
      exact hh
    have hy1 : ls_yr 1 (nI mt, nI yn, nI (140 + mu), nI mc, nI (ls_sl Ls + L.length), nI (ls_sl Ls), nI ys.length, nI os.length, nI cs.length, nI (pos + e), nI 0, 0, f_errorPlace, nI (mt - tl), nI as.length, nI oc, f_lastKind, nI (ls_pt 1 fr), f_lastValue, f_cnt, f_full, f_flag, f_need, a_tk, a_tv, a_tp, a_mName, a_mKind, a_mCount, a_mPar, a_mAt, a_vName, a_vDecl, a_vKind, a_vVal, a_sk, a_sv, a_oKind, a_oAt, a_oArgs, a_cKind, a_cA, a_cB, a_outK, a_outV) (nI mt, nI yn, nI (140 + mu), nI mc, nI (ls_sl Ls + L.length), nI (ls_sl Ls), nI ys.length, nI os.length, nI cs.length, nI (pos + e), nI 0, nI 9, nI pos, nI (mt - tl), nI as.length, nI oc, f_lastKind, nI (ls_pt 1 fr), f_lastValue, f_cnt, f_full, f_flag, f_need, a_tk, a_tv, a_tp, a_mName, a_mKind, a_mCount, a_mPar, a_mAt, a_vName, a_vDecl, a_vKind, a_vVal, a_sk, a_sv, a_oKind, a_oAt, a_oArgs, a_cKind, a_cA, a_cB, a_outK, a_outV) := by
      refine yr_stmt B hg (fun post hp => hy_statement_m t3 (by omega) hE CT (hy_st_tick t3 t1 ⟨hT, t2⟩ h7 h18 (by omega) (by omega) rfl (fun q => by omega) (fun _ => ?_)))
      rw [t4]
      exact hp
    exact gs_err h ⟨by decide, by decide⟩ (by omega) (by omega) hx1 hy1
set_option maxHeartbeats 200000 in
/-- what the tick leaves to be done -/
theorem ls_Phi_tk {st' t' : Nat} {fr' : List LsF} (h0 : 0 < tl) (hlo : ls_lo5 st' fr' ≤ ls_lo5 st fr + 1) (hN : N ≤ 1120) (ht : t < N) (h1 : 1 ≤ t') : ls_Phi (tl - 1) as st' fr' N t' + 4 ≤ ls_Phi tl as st fr N t ∧ 2 ≤ ls_Phi tl as st fr N t := by
  unfold ls_Phi
  omega
set_option maxHeartbeats 200000 in
/-- the empty statement -/
theorem gs_semi (ih : ls_IH F) (h : ls_S yn mt tl oc mc mu ((T, V, C, kF, n, N, d, e, ta, tz)) t as ((1, pos, es, [], fr, L, k)) Ls xs ys os cs f_tickLimit a_outKind a_outValue a_codeOp a_codeArg a_codeKind a_codePlace a_methodSign a_methodStart a_declared a_cellKind a_cellValue a_callReturn a_tk a_tv a_tp a_mName a_mKind a_mCount a_mPar a_mAt a_vName a_vDecl a_vKind a_vVal a_sk a_sv a_oKind a_oAt a_oArgs a_cKind a_cA a_cB a_outK a_outV) (hF : ls_Phi tl as 1 fr N t = F) (h20 : T pos = 20) (hc : C (t + 1) = (3, pos + 1, es, [], fr, L, ls_em k 1 0 0 (nI pos))) : ls_G F (f_tickLimit, f_tokenCount, nI oc, 0, f_errorPlace, f_lastKind, f_lastValue, f_codeSize, nI mc, nI mu, nI (88 + xs.length), nI as.length, nI (k.1 - d), nI tl, f_state, f_pos, f_expressionStart, f_pendingCount, f_frameTop, f_localCount, a_tokenCode, a_tokenValue, a_outKind, a_outValue, a_codeOp, a_codeArg, a_codeKind, a_codePlace, a_methodSign, a_methodStart, a_declared, a_cellKind, a_cellValue, a_callReturn, a_pendingLevel, a_pendingPlace, a_pendingMore, a_frameKind, a_frameMore, a_localName) (nI mt, nI yn, nI (140 + mu), nI mc, nI (ls_sl Ls + L.length), nI (ls_sl Ls), nI ys.length, nI os.length, nI cs.length, nI (pos + e), nI 0, 0, f_errorPlace, nI (mt - tl), nI as.length, nI oc, f_lastKind, nI (ls_pt 1 fr), f_lastValue, f_cnt, f_full, f_flag, f_need, a_tk, a_tv, a_tp, a_mName, a_mKind, a_mCount, a_mPar, a_mAt, a_vName, a_vDecl, a_vKind, a_vVal, a_sk, a_sv, a_oKind, a_oAt, a_oArgs, a_cKind, a_cA, a_cB, a_outK, a_outV) := by
  have h' := h
  obtain ⟨hcu, hX, hY, hO, hE, hG, hV, hl, ho, hM⟩ := h'
  have U := hcu.1
  have tt := hcu.2.2.1
  have ec := hcu.2.2.2.1
  obtain ⟨hg, lt, ltN, d1, d2, t1, t2, t3, t4⟩ := ls_hg hcu (by omega) (fun q => by omega) (Or.inl (by omega))
  have LB := ls_cu_len hcu
  have cd := ls_cod U tt ec (Nat.le_refl _) (t' := t) ⟨Nat.le_refl _, tt.2⟩ ec (Nat.le_refl _)
  have kk := ls_fem U.1 (by omega) hc (by decide) (by decide) (by decide) (by decide)
  have cu' := ls_cu_nx hcu (by omega) (fun q => by omega) (by omega) hc
  have LO : ls_lo5 3 fr ≤ ls_lo5 1 fr + 1 := by
    rw [ls_lo5_x (st := 3) (by omega)]
    unfold ls_lo5
    split <;> omega
  have P2 : 2 ≤ F := by rw [← hF]; unfold ls_Phi; omega
  have PT : 0 < tl → ls_Phi (tl - 1) as 3 fr N (t + 1) + 4 ≤ ls_Phi tl as 1 fr N t := fun q => (ls_Phi_tk (t' := t + 1) q LO LB.2.2.2.2.2.2.2.2.2.2.2 ltN (by omega)).1
  refine gs_tick (a := 0) (F' := ls_Phi (tl - 1) as 3 fr N (t + 1)) (u' := (f_tickLimit, f_tokenCount, nI oc, 0, f_errorPlace, f_lastKind, f_lastValue, f_codeSize, nI mc, nI mu, nI (88 + xs.length), nI as.length, nI (k.1 - d + 1), nI (tl - 1), f_state, f_pos, f_expressionStart, f_pendingCount, f_frameTop, f_localCount, a_tokenCode, a_tokenValue, a_outKind, a_outValue, a_codeOp, a_codeArg, a_codeKind, a_codePlace, a_methodSign, a_methodStart, a_declared, a_cellKind, a_cellValue, a_callReturn, a_pendingLevel, a_pendingPlace, a_pendingMore, a_frameKind, a_frameMore, a_localName)) (v' := (nI mt, nI yn, nI (140 + mu), nI mc, nI (ls_sl Ls + L.length), nI (ls_sl Ls), nI ys.length, nI os.length, nI cs.length, nI (pos + 1 + e), nI 0, 0, f_errorPlace, nI (mt - (tl - 1)), nI as.length, nI oc, f_lastKind, nI 0, f_lastValue, f_cnt, f_full, f_flag, f_need, a_tk, a_tv, a_tp, a_mName, a_mKind, a_mCount, a_mPar, a_mAt, a_vName, a_vDecl, a_vKind, a_vVal, a_sk, a_sv, a_oKind, a_oAt, a_oArgs, a_cKind, a_cA, a_cB, a_outK, a_outV)) h (by omega) (by omega) (by omega) (by omega) (cd.2.2.1.trans kk.1) (cd.2.2.2.2.2.trans kk.2.2.2) P2 (fun q => by have := PT q; omega) (fun q => by have := PT q; omega) (fun _ => ls_xr_0) (fun _ post hp => ?_) (fun q => ?_)
  · rw [h20]
    refine hy_begin_s ?_
    rw [show pos + e + 1 = pos + 1 + e by omega]
    exact hp
  · have S' : ls_S yn mt (tl - 1) oc mc mu ((T, V, C, kF, n, N, d, e, ta, tz)) (t + 1) as ((3, pos + 1, es, [], fr, L, ls_em k 1 0 0 (nI pos))) Ls xs ys os cs f_tickLimit a_outKind a_outValue a_codeOp a_codeArg a_codeKind a_codePlace a_methodSign a_methodStart a_declared a_cellKind a_cellValue a_callReturn a_tk a_tv a_tp a_mName a_mKind a_mCount a_mPar a_mAt a_vName a_vDecl a_vKind a_vVal a_sk a_sv a_oKind a_oAt a_oArgs a_cKind a_cA a_cB a_outK a_outV := ⟨cu', hX, hY, hO, hE, hG, hV, ⟨hl.1, by have := hl.2.1; omega, hl.2.2⟩, ho, hM⟩
    have G0 : ls_G (ls_Phi (tl - 1) as 3 fr N (t + 1)) (f_tickLimit, f_tokenCount, nI oc, 0, f_errorPlace, f_lastKind, f_lastValue, f_codeSize, nI mc, nI mu, nI (88 + xs.length), nI as.length, nI ((ls_em k 1 0 0 (nI pos)).1 - d), nI (tl - 1), f_state, f_pos, f_expressionStart, f_pendingCount, f_frameTop, f_localCount, a_tokenCode, a_tokenValue, a_outKind, a_outValue, a_codeOp, a_codeArg, a_codeKind, a_codePlace, a_methodSign, a_methodStart, a_declared, a_cellKind, a_cellValue, a_callReturn, a_pendingLevel, a_pendingPlace, a_pendingMore, a_frameKind, a_frameMore, a_localName) (nI mt, nI yn, nI (140 + mu), nI mc, nI (ls_sl Ls + L.length), nI (ls_sl Ls), nI ys.length, nI os.length, nI cs.length, nI (pos + 1 + e), nI (ls_md 3 []), 0, f_errorPlace, nI (mt - (tl - 1)), nI as.length, nI oc, f_lastKind, nI (ls_pt 3 fr), f_lastValue, f_cnt, f_full, f_flag, f_need, a_tk, a_tv, a_tp, a_mName, a_mKind, a_mCount, a_mPar, a_mAt, a_vName, a_vDecl, a_vKind, a_vVal, a_sk, a_sv, a_oKind, a_oAt, a_oArgs, a_cKind, a_cA, a_cB, a_outK, a_outV) := ih S' (by have := PT q; omega) (ls_n2s h.1.1 h.1.2.2.1 h.1.2.2.2.1 (Or.inr (Or.inl rfl)))
    rw [show ls_md 3 [] = 0 from rfl, ls_pt_x (by omega), ls_ni d1 (show (ls_em k 1 0 0 (nI pos)).1 = k.1 + 1 from rfl)] at G0
    exact G0
end
