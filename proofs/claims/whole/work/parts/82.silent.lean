/-! Statements: steps of the reading where nothing runs, and the end -/
section
variable {f_tickLimit f_tokenCount f_outCount f_error f_errorPlace f_lastKind f_codeSize f_methodCount f_methodTokens f_cellCount f_activeCalls f_next f_ticksLeft f_state f_pos f_expressionStart f_pendingCount f_frameTop f_localCount : Int32}
variable {f_lastValue : Int64}
variable {a_tokenCode a_tokenValue a_outKind a_codeOp a_codeArg a_codeKind a_codePlace a_methodSign a_methodStart a_declared a_cellKind a_callReturn a_pendingLevel a_pendingPlace a_pendingMore a_frameKind a_frameMore a_localName : Nat → Int32}
variable {a_outValue a_cellValue : Nat → Int64}
variable {f_cnt f_full f_flag f_need : Int32}
variable {a_tk a_tp a_mName a_mKind a_mCount a_mPar a_mAt a_vName a_vDecl a_vKind a_sk a_oKind a_oAt a_oArgs a_cKind a_cA a_cB a_outK : Nat → Int32}
variable {a_tv a_vVal a_sv a_outV : Nat → Int64}
variable {yn mt tl oc mc mu : Nat} {T : Nat → Nat} {V : Nat → Int32} {C : Nat → LsC} {kF : LsK} {n N d e ta tz t : Nat} {as : List LsA} {st pos es : Nat} {pe : List LsP} {fr : List LsF} {L : List Nat} {k : LsK} {Ls : List (List Nat)} {xs ys : List LsV} {os cs : List LsP} {F : Nat}
set_option maxHeartbeats 200000 in
theorem gs_sil {t' st' pos' es' : Nat} {fr' : List LsF} {L' : List Nat} {k' : LsK} (ih : ls_IH F) (h : ls_S yn mt tl oc mc mu ((T, V, C, kF, n, N, d, e, ta, tz)) t as ((st, pos, es, [], fr, L, k)) Ls xs ys os cs f_tickLimit a_outKind a_outValue a_codeOp a_codeArg a_codeKind a_codePlace a_methodSign a_methodStart a_declared a_cellKind a_cellValue a_callReturn a_tk a_tv a_tp a_mName a_mKind a_mCount a_mPar a_mAt a_vName a_vDecl a_vKind a_vVal a_sk a_sv a_oKind a_oAt a_oArgs a_cKind a_cA a_cB a_outK a_outV) (hF : ls_Phi tl as st fr N t = F) (hst : st < 4) (hst' : st' < 4) (ht : t < t') (hN : t' ≤ N) (hcu' : ls_cu yn a_callReturn a_mKind a_declared (ls_UA a_codeOp a_codeArg a_codeKind a_codePlace a_tk a_tv a_tp) (T, V, C, kF, n, N, d, e, ta, tz) t' as (st', pos', es', [], fr', L', k') Ls xs ys os cs) (hp : pos' = pos) (hL : L' = L) (hk : k'.1 = k.1) (hn2 : ¬ (st' = 3 ∧ ls_fk fr' = 2)) (hpt : ls_pt st' fr' = ls_pt st fr) (hlo : ls_lo5 st' fr' ≤ ls_lo5 st fr) : ls_G F (f_tickLimit, f_tokenCount, nI oc, 0, f_errorPlace, f_lastKind, f_lastValue, f_codeSize, nI mc, nI mu, nI (88 + xs.length), nI as.length, nI (k.1 - d), nI tl, f_state, f_pos, f_expressionStart, f_pendingCount, f_frameTop, f_localCount, a_tokenCode, a_tokenValue, a_outKind, a_outValue, a_codeOp, a_codeArg, a_codeKind, a_codePlace, a_methodSign, a_methodStart, a_declared, a_cellKind, a_cellValue, a_callReturn, a_pendingLevel, a_pendingPlace, a_pendingMore, a_frameKind, a_frameMore, a_localName) (nI mt, nI yn, nI (140 + mu), nI mc, nI (ls_sl Ls + L.length), nI (ls_sl Ls), nI ys.length, nI os.length, nI cs.length, nI (pos + e), nI 0, 0, f_errorPlace, nI (mt - tl), nI as.length, nI oc, f_lastKind, nI (ls_pt st fr), f_lastValue, f_cnt, f_full, f_flag, f_need, a_tk, a_tv, a_tp, a_mName, a_mKind, a_mCount, a_mPar, a_mAt, a_vName, a_vDecl, a_vKind, a_vVal, a_sk, a_sv, a_oKind, a_oAt, a_oArgs, a_cKind, a_cA, a_cB, a_outK, a_outV) := by
  subst hp hL
  obtain ⟨hcu, hX, hY, hO, hE, hG, hV, hl, ho, hM⟩ := h
  have P := ls_Phi_lt (tl := tl) (as := as) (st := st) (st' := st') (fr := fr) (fr' := fr') (N := N) (t := t) (t' := t') hlo ht hN
  have S' : ls_S yn mt tl oc mc mu ((T, V, C, kF, n, N, d, e, ta, tz)) t' as ((st', pos', es', [], fr', L', k')) Ls xs ys os cs f_tickLimit a_outKind a_outValue a_codeOp a_codeArg a_codeKind a_codePlace a_methodSign a_methodStart a_declared a_cellKind a_cellValue a_callReturn a_tk a_tv a_tp a_mName a_mKind a_mCount a_mPar a_mAt a_vName a_vDecl a_vKind a_vVal a_sk a_sv a_oKind a_oAt a_oArgs a_cKind a_cA a_cB a_outK a_outV := ⟨hcu', hX, hY, hO, hE, hG, hV, hl, ho, hM⟩
  have G0 : ls_G (ls_Phi tl as st' fr' N t') (f_tickLimit, f_tokenCount, nI oc, 0, f_errorPlace, f_lastKind, f_lastValue, f_codeSize, nI mc, nI mu, nI (88 + xs.length), nI as.length, nI (k'.1 - d), nI tl, f_state, f_pos, f_expressionStart, f_pendingCount, f_frameTop, f_localCount, a_tokenCode, a_tokenValue, a_outKind, a_outValue, a_codeOp, a_codeArg, a_codeKind, a_codePlace, a_methodSign, a_methodStart, a_declared, a_cellKind, a_cellValue, a_callReturn, a_pendingLevel, a_pendingPlace, a_pendingMore, a_frameKind, a_frameMore, a_localName) (nI mt, nI yn, nI (140 + mu), nI mc, nI (ls_sl Ls + L'.length), nI (ls_sl Ls), nI ys.length, nI os.length, nI cs.length, nI (pos' + e), nI (ls_md st' []), 0, f_errorPlace, nI (mt - tl), nI as.length, nI oc, f_lastKind, nI (ls_pt st' fr'), f_lastValue, f_cnt, f_full, f_flag, f_need, a_tk, a_tv, a_tp, a_mName, a_mKind, a_mCount, a_mPar, a_mAt, a_vName, a_vDecl, a_vKind, a_vVal, a_sk, a_sv, a_oKind, a_oAt, a_oArgs, a_cKind, a_cA, a_cB, a_outK, a_outV) := ih S' (by omega) hn2
  rw [ls_md_s (by omega), hpt, hk] at G0
  exact ls_G_mono G0 (by omega)
end
section
variable {f_tickLimit f_tokenCount f_outCount f_error f_errorPlace f_lastKind f_codeSize f_methodCount f_methodTokens f_cellCount f_activeCalls f_next f_ticksLeft f_state f_pos f_expressionStart f_pendingCount f_frameTop f_localCount : Int32}
variable {f_lastValue : Int64}
variable {a_tokenCode a_tokenValue a_outKind a_codeOp a_codeArg a_codeKind a_codePlace a_methodSign a_methodStart a_declared a_cellKind a_callReturn a_pendingLevel a_pendingPlace a_pendingMore a_frameKind a_frameMore a_localName : Nat → Int32}
variable {a_outValue a_cellValue : Nat → Int64}
variable {f_cnt f_full f_flag f_need : Int32}
variable {a_tk a_tp a_mName a_mKind a_mCount a_mPar a_mAt a_vName a_vDecl a_vKind a_sk a_oKind a_oAt a_oArgs a_cKind a_cA a_cB a_outK : Nat → Int32}
variable {a_tv a_vVal a_sv a_outV : Nat → Int64}
variable {yn mt tl oc mc mu : Nat} {T : Nat → Nat} {V : Nat → Int32} {C : Nat → LsC} {kF : LsK} {n N d e ta tz t : Nat} {as : List LsA} {st pos es : Nat} {pe : List LsP} {fr : List LsF} {L : List Nat} {k : LsK} {Ls : List (List Nat)} {xs ys : List LsV} {os cs : List LsP} {F : Nat}
set_option maxHeartbeats 200000 in
/-- a statement, or a declaration, begins -/
theorem gs_s0 {st' : Nat} (ih : ls_IH F) (h : ls_S yn mt tl oc mc mu ((T, V, C, kF, n, N, d, e, ta, tz)) t as ((0, pos, es, [], fr, L, k)) Ls xs ys os cs f_tickLimit a_outKind a_outValue a_codeOp a_codeArg a_codeKind a_codePlace a_methodSign a_methodStart a_declared a_cellKind a_cellValue a_callReturn a_tk a_tv a_tp a_mName a_mKind a_mCount a_mPar a_mAt a_vName a_vDecl a_vKind a_vVal a_sk a_sv a_oKind a_oAt a_oArgs a_cKind a_cA a_cB a_outK a_outV) (hF : ls_Phi tl as 0 fr N t = F) (h12 : st' = 1 ∨ (st' = 2 ∧ (fr = [] ∨ ls_fk fr = 1))) (hc : C (t + 1) = (st', pos, es, [], fr, L, k)) : ls_G F (f_tickLimit, f_tokenCount, nI oc, 0, f_errorPlace, f_lastKind, f_lastValue, f_codeSize, nI mc, nI mu, nI (88 + xs.length), nI as.length, nI (k.1 - d), nI tl, f_state, f_pos, f_expressionStart, f_pendingCount, f_frameTop, f_localCount, a_tokenCode, a_tokenValue, a_outKind, a_outValue, a_codeOp, a_codeArg, a_codeKind, a_codePlace, a_methodSign, a_methodStart, a_declared, a_cellKind, a_cellValue, a_callReturn, a_pendingLevel, a_pendingPlace, a_pendingMore, a_frameKind, a_frameMore, a_localName) (nI mt, nI yn, nI (140 + mu), nI mc, nI (ls_sl Ls + L.length), nI (ls_sl Ls), nI ys.length, nI os.length, nI cs.length, nI (pos + e), nI 0, 0, f_errorPlace, nI (mt - tl), nI as.length, nI oc, f_lastKind, nI (ls_pt 0 fr), f_lastValue, f_cnt, f_full, f_flag, f_need, a_tk, a_tv, a_tp, a_mName, a_mKind, a_mCount, a_mPar, a_mAt, a_vName, a_vDecl, a_vKind, a_vVal, a_sk, a_sv, a_oKind, a_oAt, a_oArgs, a_cKind, a_cA, a_cB, a_outK, a_outV) := by
  have U := h.1.1
  have tt := h.1.2.2.1
  have lt := (ls_tl0 U.1 (by have := U.2.2.1; omega) h.1.2.2.2.1).1
  have cu' := ls_cu_nx h.1 (by omega) (fun q => by omega) (by omega) hc
  refine gs_sil (t' := t + 1) ih h hF (by omega) (by omega) (by omega) lt cu' rfl rfl rfl (fun q => by omega) ?_ ?_
  · unfold ls_pt
    rcases h12 with rfl | ⟨rfl, q⟩
    · simp
    · rw [if_neg (by omega), if_neg]
      rcases q with q | q
      · rw [q]; show ¬ (_ ∧ ((0 : Nat) = 3 ∨ (0 : Nat) = 4)); omega
      · rw [q]; omega
  · unfold ls_lo5
    rcases h12 with rfl | ⟨rfl, q⟩
    · simp
    · rw [if_neg (by omega), if_neg]
      · exact Nat.le_refl _
      · rcases q with q | q
        · rw [q]; show ¬ (_ ∧ (0 : Nat) = 5); omega
        · rw [q]; omega
set_option maxHeartbeats 200000 in
/-- a statement has ended: the list goes on -/
theorem gs_s3l (ih : ls_IH F) (h : ls_S yn mt tl oc mc mu ((T, V, C, kF, n, N, d, e, ta, tz)) t as ((3, pos, es, [], fr, L, k)) Ls xs ys os cs f_tickLimit a_outKind a_outValue a_codeOp a_codeArg a_codeKind a_codePlace a_methodSign a_methodStart a_declared a_cellKind a_cellValue a_callReturn a_tk a_tv a_tp a_mName a_mKind a_mCount a_mPar a_mAt a_vName a_vDecl a_vKind a_vVal a_sk a_sv a_oKind a_oAt a_oArgs a_cKind a_cA a_cB a_outK a_outV) (hF : ls_Phi tl as 3 fr N t = F) (hfr : fr = [] ∨ ls_fk fr = 1) (hc : C (t + 1) = (0, pos, es, [], fr, L, k)) : ls_G F (f_tickLimit, f_tokenCount, nI oc, 0, f_errorPlace, f_lastKind, f_lastValue, f_codeSize, nI mc, nI mu, nI (88 + xs.length), nI as.length, nI (k.1 - d), nI tl, f_state, f_pos, f_expressionStart, f_pendingCount, f_frameTop, f_localCount, a_tokenCode, a_tokenValue, a_outKind, a_outValue, a_codeOp, a_codeArg, a_codeKind, a_codePlace, a_methodSign, a_methodStart, a_declared, a_cellKind, a_cellValue, a_callReturn, a_pendingLevel, a_pendingPlace, a_pendingMore, a_frameKind, a_frameMore, a_localName) (nI mt, nI yn, nI (140 + mu), nI mc, nI (ls_sl Ls + L.length), nI (ls_sl Ls), nI ys.length, nI os.length, nI cs.length, nI (pos + e), nI 0, 0, f_errorPlace, nI (mt - tl), nI as.length, nI oc, f_lastKind, nI (ls_pt 3 fr), f_lastValue, f_cnt, f_full, f_flag, f_need, a_tk, a_tv, a_tp, a_mName, a_mKind, a_mCount, a_mPar, a_mAt, a_vName, a_vDecl, a_vKind, a_vVal, a_sk, a_sv, a_oKind, a_oAt, a_oArgs, a_cKind, a_cA, a_cB, a_outK, a_outV) := by
  have U := h.1.1
  have lt := (ls_tl3 U.1 (by have := U.2.2.1; have := h.1.2.2.1; omega) h.1.2.2.2.1).1
  have F1 : ls_fk fr ≠ 2 ∧ ls_fk fr ≠ 3 ∧ ls_fk fr ≠ 4 ∧ ls_fk fr ≠ 5 := by
    rcases hfr with q | q
    · rw [q]; show (0 : Nat) ≠ 2 ∧ (0 : Nat) ≠ 3 ∧ (0 : Nat) ≠ 4 ∧ (0 : Nat) ≠ 5; omega
    · rw [q]; omega
  have cu' := ls_cu_nx h.1 (by omega) (fun q => F1.1 q.2) (by omega) hc
  refine gs_sil (t' := t + 1) ih h hF (by omega) (by omega) (by omega) lt cu' rfl rfl rfl (fun q => by omega) ?_ ?_
  · rw [ls_pt_x (st := 3) (by omega)]
    unfold ls_pt
    rw [if_neg (by omega)]
  · rw [ls_lo5_x (st := 3) (by omega)]
    unfold ls_lo5
    omega
set_option maxHeartbeats 200000 in
/-- a part has ended -/
theorem gs_s3p {fk mo sp : Nat} {l : List Nat} {r : List LsF} (ih : ls_IH F) (h : ls_S yn mt tl oc mc mu ((T, V, C, kF, n, N, d, e, ta, tz)) t as ((3, pos, es, [], (fk, mo, sp, l) :: r, L, k)) Ls xs ys os cs f_tickLimit a_outKind a_outValue a_codeOp a_codeArg a_codeKind a_codePlace a_methodSign a_methodStart a_declared a_cellKind a_cellValue a_callReturn a_tk a_tv a_tp a_mName a_mKind a_mCount a_mPar a_mAt a_vName a_vDecl a_vKind a_vVal a_sk a_sv a_oKind a_oAt a_oArgs a_cKind a_cA a_cB a_outK a_outV) (hF : ls_Phi tl as 3 ((fk, mo, sp, l) :: r) N t = F) (hf : fk = 3 ∨ fk = 4) (hc : C (t + 1) = (3, pos, es, [], r, L, ls_aim k mo)) : ls_G F (f_tickLimit, f_tokenCount, nI oc, 0, f_errorPlace, f_lastKind, f_lastValue, f_codeSize, nI mc, nI mu, nI (88 + xs.length), nI as.length, nI (k.1 - d), nI tl, f_state, f_pos, f_expressionStart, f_pendingCount, f_frameTop, f_localCount, a_tokenCode, a_tokenValue, a_outKind, a_outValue, a_codeOp, a_codeArg, a_codeKind, a_codePlace, a_methodSign, a_methodStart, a_declared, a_cellKind, a_cellValue, a_callReturn, a_pendingLevel, a_pendingPlace, a_pendingMore, a_frameKind, a_frameMore, a_localName) (nI mt, nI yn, nI (140 + mu), nI mc, nI (ls_sl Ls + L.length), nI (ls_sl Ls), nI ys.length, nI os.length, nI cs.length, nI (pos + e), nI 0, 0, f_errorPlace, nI (mt - tl), nI as.length, nI oc, f_lastKind, nI (ls_pt 3 ((fk, mo, sp, l) :: r)), f_lastValue, f_cnt, f_full, f_flag, f_need, a_tk, a_tv, a_tp, a_mName, a_mKind, a_mCount, a_mPar, a_mAt, a_vName, a_vDecl, a_vKind, a_vVal, a_sk, a_sv, a_oKind, a_oAt, a_oArgs, a_cKind, a_cA, a_cB, a_outK, a_outV) := by
  have U := h.1.1
  have lt := (ls_tl3 U.1 (by have := U.2.2.1; have := h.1.2.2.1; omega) h.1.2.2.2.1).1
  have cu' := ls_cu_pop h.1 (by omega) hf (by omega) hc
  refine gs_sil (t' := t + 1) ih h hF (by omega) (by omega) (by omega) lt cu' rfl rfl rfl (ls_n2U h.1.1 h.1.2.2.1 h.1.2.2.2.1 (show fk ≠ 1 by omega)) ?_ ?_
  · rw [ls_pt_x (by omega), ls_pt_x (by omega)]
  · rw [ls_lo5_x (by omega), ls_lo5_x (by omega)]
    show ls_l5 r ≤ (if fk = 5 then 1 else 0) + ls_l5 r
    omega
set_option maxHeartbeats 200000 in
/-- the end of the text -/
theorem gs_halt (h : ls_S yn mt tl oc mc mu ((T, V, C, kF, n, N, d, e, ta, tz)) t as ((6, pos, es, pe, fr, L, k)) Ls xs ys os cs f_tickLimit a_outKind a_outValue a_codeOp a_codeArg a_codeKind a_codePlace a_methodSign a_methodStart a_declared a_cellKind a_cellValue a_callReturn a_tk a_tv a_tp a_mName a_mKind a_mCount a_mPar a_mAt a_vName a_vDecl a_vKind a_vVal a_sk a_sv a_oKind a_oAt a_oArgs a_cKind a_cA a_cB a_outK a_outV) (hfr : fr = []) (h1 : 1 ≤ F) : ls_G F (f_tickLimit, f_tokenCount, nI oc, 0, f_errorPlace, f_lastKind, f_lastValue, f_codeSize, nI mc, nI mu, nI (88 + xs.length), nI as.length, nI (k.1 - d), nI tl, f_state, f_pos, f_expressionStart, f_pendingCount, f_frameTop, f_localCount, a_tokenCode, a_tokenValue, a_outKind, a_outValue, a_codeOp, a_codeArg, a_codeKind, a_codePlace, a_methodSign, a_methodStart, a_declared, a_cellKind, a_cellValue, a_callReturn, a_pendingLevel, a_pendingPlace, a_pendingMore, a_frameKind, a_frameMore, a_localName) (nI mt, nI yn, nI (140 + mu), nI mc, nI (ls_sl Ls + L.length), nI (ls_sl Ls), nI ys.length, nI os.length, nI cs.length, nI (pos + e), nI 0, 0, f_errorPlace, nI (mt - tl), nI as.length, nI oc, f_lastKind, nI 0, f_lastValue, f_cnt, f_full, f_flag, f_need, a_tk, a_tv, a_tp, a_mName, a_mKind, a_mCount, a_mPar, a_mAt, a_vName, a_vDecl, a_vKind, a_vVal, a_sk, a_sv, a_oKind, a_oAt, a_oArgs, a_cKind, a_cA, a_cB, a_outK, a_outV) := by
  have h' := h
  obtain ⟨hcu, hX, hY, hO, hE, hG, hV, hl, ho, hM⟩ := h'
  have U := hcu.1
  have tt := hcu.2.2.1
  have ec := hcu.2.2.2.1
  subst hfr
  have A0 : as = [] := by
    apply Decidable.byContradiction
    intro q
    obtain ⟨_, _, _, _, _, _, q1, _⟩ := hcu.2.1.2 q
    cases q1
  obtain ⟨LM, _⟩ := ls_lim U hcu.2.1
  obtain ⟨e0, pz, y140, _⟩ := LM A0
  obtain ⟨⟨d0, _, ta0, tzN, yn0⟩, _⟩ := hcu.2.1.1 A0
  have tN : t = N := by
    apply Decidable.byContradiction
    intro q
    have := (U.1.2.1 t (by omega)).1
    rw [ec] at this
    have this' : (6 : Nat) < 6 := this
    omega
  have cs0 : cs = [] := by
    obtain ⟨_, _, _, _, x1, y1, x0, y0, o0, c0, _, _, _, h8, h9⟩ := hcu
    have c1 : cs = c0 := h8
    rw [A0] at h9
    rw [c1]
    exact h9.2.2.2.2.2
  have pn : pos = yn := by
    rw [tzN, ← tN, ec] at pz
    exact pz
  have cd := ls_cod U tt ec (Nat.le_refl _) (t' := t) ⟨Nat.le_refl _, tt.2⟩ ec (Nat.le_refl _)
  have op0 : a_codeOp (k.1 - d) = 0 := by
    obtain ⟨m, dd, r1, r2, r3⟩ := (U.1.2.2.2.2 t (by omega)).1
    rw [ec] at r1
    have r1' : ls_run T V m (6, pos, es, pe, [], L, k) = .ok (6, pos, es, pe, [], L, k) := by
      cases m with
      | zero => rfl
      | succ m => unfold ls_run; rw [if_pos rfl]
    rw [r1'] at r1
    injection r1 with r1
    rw [cd.2.2.1, r3, ← r1]
    exact pk_us
  refine ⟨(f_tickLimit, f_tokenCount, nI oc, 0, f_errorPlace, f_lastKind, f_lastValue, f_codeSize, nI mc, nI mu, nI (88 + xs.length), nI as.length, nI (k.1 - d), nI tl, f_state, f_pos, f_expressionStart, f_pendingCount, f_frameTop, f_localCount, a_tokenCode, a_tokenValue, a_outKind, a_outValue, a_codeOp, a_codeArg, a_codeKind, a_codePlace, a_methodSign, a_methodStart, a_declared, a_cellKind, a_cellValue, a_callReturn, a_pendingLevel, a_pendingPlace, a_pendingMore, a_frameKind, a_frameMore, a_localName), fun post f s hf hs hp => ?_, fun post f s hf hs hp => ?_⟩
  · obtain ⟨f', rfl⟩ : ∃ f', f = f' + 1 := ⟨f - 1, by omega⟩
    exact ls_XH_end (ls_gn_0 cd.2.1 op0) hp
  · obtain ⟨f', rfl⟩ : ∃ f', f = f' + 1 := ⟨f - 1, by omega⟩
    rw [cs0]
    exact gy_end ⟨by omega, by omega⟩ (by omega) (hp _ ⟨oc, 0, mc, mu, yn, ⟨hl.1, mt, hl.2.2.1, hl.1⟩, rfl, rfl, by omega, rfl, ⟨ho.1, rfl, rfl, ho.2⟩, rfl, rfl, rfl, rfl, rfl, rfl, rfl, hG, hM⟩)
end
