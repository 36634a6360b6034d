/-! Declarations of the text -/
section
variable {T : Nat → Nat} {V : Nat → Int32} {C : Nat → LsC} {kF : LsK} {n N d e ta tz : Nat} {yn : Nat} {cr mk D : Nat → Int32} {co ca ck cp tk : Nat → Int32} {tv : Nat → Int64} {tp : Nat → Int32}
variable {t st pos es : Nat} {L : List Nat} {k : LsK} {as : List LsA} {Ls : List (List Nat)} {xs ys : List LsV} {os cs : List LsP}
set_option maxHeartbeats 200000 in
/-- the text's own statements -/
theorem ls_top0 (h : ls_cu yn cr mk D (ls_UA co ca ck cp tk tv tp) (T, V, C, kF, n, N, d, e, ta, tz) t as (st, pos, es, [], [], L, k) Ls xs ys os cs) (hs : st < 4) : as = [] ∧ L = [] ∧ Ls = [] ∧ xs = [] ∧ ys = [] ∧ os = [] ∧ cs = [] ∧ d = 0 ∧ e = 0 ∧ ta = 0 ∧ tz = N ∧ yn = n := by
  obtain ⟨a1, a2, a3, a4, c0, a5, a6⟩ := ls_cu_s h (by omega)
  obtain ⟨g1, _, g3, _⟩ := a1
  have hI := (g1.2.2.2.2 t (by omega)).2.1
  rw [a4] at hI
  obtain ⟨_, _, _, i4, _⟩ := hI
  have i4' : L = [] := i4
  have as0 : as = [] := by
    apply Decidable.byContradiction
    intro q
    obtain ⟨_, _, _, _, _, _, w1, _⟩ := a2.2 q
    cases w1
  subst as0
  obtain ⟨_, s2, s3, s4, s5, s6⟩ := a6
  have c : cs = c0 := a5
  obtain ⟨⟨q1, q2, q3, q4, q5⟩, _⟩ := a2.1 rfl
  exact ⟨rfl, i4', s2, s3, s4, s5, c.trans s6, q1, q2, q3, q4, q5⟩
end
section
variable {f_tickLimit f_tokenCount f_outCount f_error f_errorPlace f_lastKind f_codeSize f_methodCount f_methodTokens f_cellCount f_activeCalls f_next f_ticksLeft f_state f_pos f_expressionStart f_pendingCount f_frameTop f_localCount : Int32}
variable {f_lastValue : Int64}
variable {a_tokenCode a_tokenValue a_outKind a_codeOp a_codeArg a_codeKind a_codePlace a_methodSign a_methodStart a_declared a_cellKind a_callReturn a_pendingLevel a_pendingPlace a_pendingMore a_frameKind a_frameMore a_localName : Nat → Int32}
variable {a_outValue a_cellValue : Nat → Int64}
variable {f_cnt f_full f_flag f_need : Int32}
variable {a_tk a_tp a_mName a_mKind a_mCount a_mPar a_mAt a_vName a_vDecl a_vKind a_sk a_oKind a_oAt a_oArgs a_cKind a_cA a_cB a_outK : Nat → Int32}
variable {a_tv a_vVal a_sv a_outV : Nat → Int64}
variable {yn mt tl oc mc mu : Nat} {T : Nat → Nat} {V : Nat → Int32} {C : Nat → LsC} {kF : LsK} {n N d e ta tz t : Nat} {as : List LsA} {st pos es : Nat} {pe : List LsP} {fr : List LsF} {L : List Nat} {k : LsK} {Ls : List (List Nat)} {xs ys : List LsV} {os cs : List LsP} {F : Nat}
set_option maxHeartbeats 2000000 in
/-- a variable of the text -/
theorem gs_dg (ih : ls_IH F) (h : ls_S yn mt tl oc mc mu ((T, V, C, kF, n, N, d, e, ta, tz)) t as ((2, pos, es, [], [], L, k)) Ls xs ys os cs f_tickLimit a_outKind a_outValue a_codeOp a_codeArg a_codeKind a_codePlace a_methodSign a_methodStart a_declared a_cellKind a_cellValue a_callReturn a_tk a_tv a_tp a_mName a_mKind a_mCount a_mPar a_mAt a_vName a_vDecl a_vKind a_vVal a_sk a_sv a_oKind a_oAt a_oArgs a_cKind a_cA a_cB a_outK a_outV) (hF : ls_Phi tl as 2 [] N t = F) (T6 : T pos < 6) (hnm : ls_nam (T (pos + 1)))
    (hw : (T (pos + 2) = 20 ∧ C (t + 1) = (0, pos + 3, es, [], [], L, ls_em (ls_em k 1 0 0 (nI pos)) 19 (nI (ls_addr L (T (pos + 1) - 54))) (nI (T pos)) (nI pos))) ∨ (T (pos + 2) = 21 ∧ C (t + 1) = (4, pos + 3, pos + 3, [], [(11, k.1, pos, [])], L, ls_em k 1 0 0 (nI pos)))) : ls_G F (f_tickLimit, f_tokenCount, nI oc, 0, f_errorPlace, f_lastKind, f_lastValue, f_codeSize, nI mc, nI mu, nI (88 + xs.length), nI as.length, nI (k.1 - d), nI tl, f_state, f_pos, f_expressionStart, f_pendingCount, f_frameTop, f_localCount, a_tokenCode, a_tokenValue, a_outKind, a_outValue, a_codeOp, a_codeArg, a_codeKind, a_codePlace, a_methodSign, a_methodStart, a_declared, a_cellKind, a_cellValue, a_callReturn, a_pendingLevel, a_pendingPlace, a_pendingMore, a_frameKind, a_frameMore, a_localName) (nI mt, nI yn, nI (140 + mu), nI mc, nI (ls_sl Ls + L.length), nI (ls_sl Ls), nI ys.length, nI os.length, nI cs.length, nI (pos + e), nI 0, 0, f_errorPlace, nI (mt - tl), nI as.length, nI oc, f_lastKind, nI 0, f_lastValue, f_cnt, f_full, f_flag, f_need, a_tk, a_tv, a_tp, a_mName, a_mKind, a_mCount, a_mPar, a_mAt, a_vName, a_vDecl, a_vKind, a_vVal, a_sk, a_sv, a_oKind, a_oAt, a_oArgs, a_cKind, a_cA, a_cB, a_outK, a_outV) := by
  have h' := h
  obtain ⟨hcu, hX, hY, hO, hE, hG, hV, hl, ho, hM⟩ := h'
  have U := hcu.1
  have tt := hcu.2.2.1
  have ec := hcu.2.2.2.1
  have hV : ls_lev (ls_sm a_declared a_cellKind a_cellValue a_vDecl a_vKind a_vVal) a_vName (L :: Ls) := hV
  have LB := ls_cu_len hcu
  have cd := ls_cod U tt ec (Nat.le_refl _) (t' := t) ⟨Nat.le_refl _, tt.2⟩ ec (Nat.le_refl _)
  obtain ⟨hg, lt, ltN, d1, d2, t1, t2, t3, t4⟩ := ls_hg hcu (by omega) (fun q => by omega) (Or.inl (by omega))
  have B : cs.length < 1000 ∧ pos + e < 1000 ∧ yn < 1000 := ls_Sb5 h t3
  have CTOP := ls_cs_top hcu (by omega) hl.2.2.2.1
  obtain ⟨z1, z2, z3, _, _, _, z7, _⟩ := ls_top0 hcu (by omega)
  have zN := U.2.2.1.2
  have N11 := U.1.2.2.2.1
  have tlm := hl.2.1
  have mt4 := hl.2.2.1
  have nm16 : T (pos + 1) - 54 < 16 := by have := hnm.2; omega
  have C3 : ∃ st' es' fr' k', C (t + 1) = (st', pos + 3, es', [], fr', L, k') := by
    rcases hw with ⟨_, q⟩ | ⟨_, q⟩
    · exact ⟨_, _, _, _, q⟩
    · exact ⟨_, _, _, _, q⟩
  obtain ⟨st', es', fr', k', hc0⟩ := C3
  have TN1 := ls_tokn (p := pos + 1) U ⟨tt.1, lt⟩ ec (by omega) (t' := t + 1) (by omega) hc0 (by omega)
  have TN2 := ls_tokn (p := pos + 2) U ⟨tt.1, lt⟩ ec (by omega) (t' := t + 1) (by omega) hc0 (by omega)
  have e1' : a_tk (pos + e + 1) = nI (T (pos + 1) - 54 + 54) := by rw [show pos + e + 1 = pos + 1 + e by omega, TN1.1, show T (pos + 1) - 54 + 54 = T (pos + 1) by have := hnm.1; omega]
  have e2' : a_tk (pos + e + 2) = nI (T (pos + 2)) := by rw [show pos + e + 2 = pos + 2 + e by omega, TN2.1]
  have p384 : pos + e + 2 < 384 := by have := TN2.2.2.1; omega
  have w2021 : T (pos + 2) = 20 ∨ T (pos + 2) = 21 := by
    rcases hw with ⟨q, _⟩ | ⟨q, _⟩
    · exact Or.inl q
    · exact Or.inr q
  have K1 : kF.2.1 k.1 = 1 ∧ kF.2.2.2.2 k.1 = nI pos := by
    rcases hw with ⟨_, q⟩ | ⟨_, q⟩
    · have kk := ls_fem2 U.1 (by omega) q (by decide) (by decide) (by decide) (by decide)
      exact ⟨kk.1, kk.2.2.2⟩
    · have kk := ls_fem U.1 (by omega) q (by decide) (by decide) (by decide) (by decide)
      exact ⟨kk.1, kk.2.2.2⟩
  have op1 : a_codeOp (k.1 - d) = 1 := cd.2.2.1.trans K1.1
  have pl1 : a_codePlace (k.1 - d) = nI pos := cd.2.2.2.2.2.trans K1.2
  have YS : ∀ post : SY → Prop, wpY_declaration post (nI mt, nI yn, nI (140 + mu), nI mc, nI (ls_sl Ls + L.length), nI (ls_sl Ls), nI ys.length, nI os.length, nI cs.length, nI (pos + e), nI 0, 0, f_errorPlace, nI (mt - tl), nI as.length, nI oc, f_lastKind, nI 0, f_lastValue, f_cnt, f_full, f_flag, f_need, a_tk, a_tv, a_tp, a_mName, a_mKind, a_mCount, a_mPar, a_mAt, a_vName, a_vDecl, a_vKind, a_vVal, a_sk, a_sv, a_oKind, a_oAt, a_oArgs, a_cKind, a_cA, a_cB, a_outK, a_outV) → wpY_statement post (nI mt, nI yn, nI (140 + mu), nI mc, nI (ls_sl Ls + L.length), nI (ls_sl Ls), nI ys.length, nI os.length, nI cs.length, nI (pos + e), nI 0, 0, f_errorPlace, nI (mt - tl), nI as.length, nI oc, f_lastKind, nI 0, f_lastValue, f_cnt, f_full, f_flag, f_need, a_tk, a_tv, a_tp, a_mName, a_mKind, a_mCount, a_mPar, a_mAt, a_vName, a_vDecl, a_vKind, a_vVal, a_sk, a_sv, a_oKind, a_oAt, a_oArgs, a_cKind, a_cA, a_cB, a_outK, a_outV) := fun post g => hy_statement_m t3 (by have := LB.2.2.2.1; omega) hE CTOP (hy_st_decl t3 t1 T6 g)
  have nc0 : nI cs.length = 0 := by rw [z7]; rfl
  have OL := LB.2.2.1
  have as8 := hl.2.2.2.1
  by_cases t0 : 0 < tl
  · have hl' : f_tickLimit = nI mt ∧ tl - 1 ≤ mt ∧ mt ≤ 400 ∧ as.length ≤ 8 ∧ yn ≤ 140 := ⟨hl.1, by omega, hl.2.2⟩
    have hx1 : ls_xr 1 (f_tickLimit, f_tokenCount, nI oc, 0, f_errorPlace, f_lastKind, f_lastValue, f_codeSize, nI mc, nI mu, nI (88 + xs.length), nI as.length, nI (k.1 - d), nI tl, f_state, f_pos, f_expressionStart, f_pendingCount, f_frameTop, f_localCount, a_tokenCode, a_tokenValue, a_outKind, a_outValue, a_codeOp, a_codeArg, a_codeKind, a_codePlace, a_methodSign, a_methodStart, a_declared, a_cellKind, a_cellValue, a_callReturn, a_pendingLevel, a_pendingPlace, a_pendingMore, a_frameKind, a_frameMore, a_localName) (f_tickLimit, f_tokenCount, nI oc, 0, f_errorPlace, f_lastKind, f_lastValue, f_codeSize, nI mc, nI mu, nI (88 + xs.length), nI as.length, nI (k.1 - d + 1), nI (tl - 1), f_state, f_pos, f_expressionStart, f_pendingCount, f_frameTop, f_localCount, a_tokenCode, a_tokenValue, a_outKind, a_outValue, a_codeOp, a_codeArg, a_codeKind, a_codePlace, a_methodSign, a_methodStart, a_declared, a_cellKind, a_cellValue, a_callReturn, a_pendingLevel, a_pendingPlace, a_pendingMore, a_frameKind, a_frameMore, a_localName) := xr_of (fun post f s hs hh => gx_1 d2 hs op1 (hx_tick (by omega) (fun _ => hh) (fun q => by omega)))
    have TE : mt - tl + 1 = mt - (tl - 1) := by omega
    rcases hw with ⟨w20, hc⟩ | ⟨w21, hc⟩
    · have kk2 := ls_fem U.1 (by omega) hc (by decide) (by decide) (by decide) (by decide)
      have cd2 := ls_cod (i := k.1 + 1) U tt ec (by omega) (t' := t + 1) ⟨by omega, by omega⟩ hc (by show k.1 + 1 ≤ k.1 + 1 + 1; omega)
      rw [show k.1 + 1 - d = k.1 - d + 1 by omega] at cd2
      have kz5 : (if T pos = 5 then 3 else T pos) ≤ 4 := by split <;> omega
      have wz : ls_wf (if T pos = 5 then 3 else T pos) 0 := ⟨kz5, fun _ => Or.inl rfl, fun _ => rfl⟩
      have k5 : T pos = 5 ∨ (if T pos = 5 then 3 else T pos) = T pos := by
        by_cases q : T pos = 5
        · exact Or.inl q
        · exact Or.inr (if_neg q)
      have sl80 : ls_sl Ls + L.length ≤ 80 := by rw [z3, z2]; show 0 + 0 ≤ 80; omega
      obtain ⟨hG', hV'⟩ := ls_wr (t := T pos) (k := if T pos = 5 then 3 else T pos) (v := 0) hG hV nm16 LB.2.2.2.2.2.1 (ls_cu_l8 hcu) sl80 (by omega) kz5 wz k5
      have ea : ls_addr L (T (pos + 1) - 54) = T (pos + 1) - 54 := by rw [z2]; rfl
      have ecell : ls_cell (ls_addr L (T (pos + 1) - 54)) as.length = T (pos + 1) - 54 := by
        unfold ls_cell
        rw [ea, if_pos nm16]
      have eyp : ls_yp (ls_sl Ls) L (T (pos + 1) - 54) = 80 + (T (pos + 1) - 54) := by
        unfold ls_yp
        rw [ea, if_pos nm16]
      rw [ecell, eyp] at hG' hV'
      have cu0 := ls_cu_nb hcu (by omega) (Or.inl rfl) (by omega) hc
      have cu' : ls_cu yn a_callReturn a_mKind (upd a_declared (T (pos + 1) - 54) (nI (T pos))) (ls_UA a_codeOp a_codeArg a_codeKind a_codePlace a_tk a_tv a_tp) (T, V, C, kF, n, N, d, e, ta, tz) (t + 1) as (0, pos + 3, es, [], [], L, ls_em (ls_em k 1 0 0 (nI pos)) 19 (nI (ls_addr L (T (pos + 1) - 54))) (nI (T pos)) (nI pos)) Ls xs ys os cs := by
        subst z1
        exact ls_cu_D0 cu0 (by omega)
      have hx2 : ls_xr 1 (f_tickLimit, f_tokenCount, nI oc, 0, f_errorPlace, f_lastKind, f_lastValue, f_codeSize, nI mc, nI mu, nI (88 + xs.length), nI as.length, nI (k.1 - d + 1), nI (tl - 1), f_state, f_pos, f_expressionStart, f_pendingCount, f_frameTop, f_localCount, a_tokenCode, a_tokenValue, a_outKind, a_outValue, a_codeOp, a_codeArg, a_codeKind, a_codePlace, a_methodSign, a_methodStart, a_declared, a_cellKind, a_cellValue, a_callReturn, a_pendingLevel, a_pendingPlace, a_pendingMore, a_frameKind, a_frameMore, a_localName) (f_tickLimit, f_tokenCount, nI oc, 0, f_errorPlace, f_lastKind, f_lastValue, f_codeSize, nI mc, nI mu, nI (88 + xs.length), nI as.length, nI (k.1 - d + 1 + 1), nI (tl - 1), f_state, f_pos, f_expressionStart, f_pendingCount, f_frameTop, f_localCount, a_tokenCode, a_tokenValue, a_outKind, a_outValue, a_codeOp, a_codeArg, a_codeKind, a_codePlace, a_methodSign, a_methodStart, upd a_declared (T (pos + 1) - 54) (nI (T pos)), upd a_cellKind (T (pos + 1) - 54) (nI (if T pos = 5 then 3 else T pos)), vp_updL a_cellValue (T (pos + 1) - 54) 0, a_callReturn, a_pendingLevel, a_pendingPlace, a_pendingMore, a_frameKind, a_frameMore, a_localName) := by
        refine xr_of (fun post f s hs hh => gx_19 cd2.2.1 hs (cd2.2.2.1.trans kk2.1) (hx_putZero (a := ls_addr L (T (pos + 1) - 54)) (t := T pos) cd2.2.1 (by rw [ea]; omega) as8 (by omega) (cd2.2.2.2.1.trans kk2.2.1) (cd2.2.2.2.2.1.trans kk2.2.2.1) ?_))
        rw [ecell]
        exact hh
      have hX' : ls_stk (upd a_cellKind (T (pos + 1) - 54) (nI (if T pos = 5 then 3 else T pos))) (vp_updL a_cellValue (T (pos + 1) - 54) 0) 88 xs := ls_stk_up (by omega) hX
      have P := ls_Phi_tk (tl := tl) (as := as) (st := 2) (st' := 0) (fr := []) (fr' := []) (N := N) (t := t) (t' := t + 1) t0 (by unfold ls_lo5; show 0 - _ ≤ _; omega) N11 ltN (by omega)
      have S' : ls_S yn mt (tl - 1) oc mc mu ((T, V, C, kF, n, N, d, e, ta, tz)) (t + 1) as ((0, pos + 3, es, [], [], L, ls_em (ls_em k 1 0 0 (nI pos)) 19 (nI (ls_addr L (T (pos + 1) - 54))) (nI (T pos)) (nI pos))) Ls xs ys os cs f_tickLimit a_outKind a_outValue a_codeOp a_codeArg a_codeKind a_codePlace a_methodSign a_methodStart (upd a_declared (T (pos + 1) - 54) (nI (T pos))) (upd a_cellKind (T (pos + 1) - 54) (nI (if T pos = 5 then 3 else T pos))) (vp_updL a_cellValue (T (pos + 1) - 54) 0) a_callReturn a_tk a_tv a_tp a_mName a_mKind a_mCount a_mPar a_mAt a_vName (upd a_vDecl (80 + (T (pos + 1) - 54)) (nI (T pos))) (upd a_vKind (80 + (T (pos + 1) - 54)) (nI (if T pos = 5 then 3 else T pos))) (vp_updL a_vVal (80 + (T (pos + 1) - 54)) 0) a_sk a_sv a_oKind a_oAt a_oArgs a_cKind a_cA a_cB a_outK a_outV := ⟨cu', hX', hY, hO, hE, hG', hV', hl', ho, hM⟩
      have G0 : ls_G (ls_Phi (tl - 1) as 0 [] N (t + 1)) (f_tickLimit, f_tokenCount, nI oc, 0, f_errorPlace, f_lastKind, f_lastValue, f_codeSize, nI mc, nI mu, nI (88 + xs.length), nI as.length, nI ((ls_em (ls_em k 1 0 0 (nI pos)) 19 (nI (ls_addr L (T (pos + 1) - 54))) (nI (T pos)) (nI pos)).1 - d), nI (tl - 1), f_state, f_pos, f_expressionStart, f_pendingCount, f_frameTop, f_localCount, a_tokenCode, a_tokenValue, a_outKind, a_outValue, a_codeOp, a_codeArg, a_codeKind, a_codePlace, a_methodSign, a_methodStart, upd a_declared (T (pos + 1) - 54) (nI (T pos)), upd a_cellKind (T (pos + 1) - 54) (nI (if T pos = 5 then 3 else T pos)), vp_updL a_cellValue (T (pos + 1) - 54) 0, a_callReturn, a_pendingLevel, a_pendingPlace, a_pendingMore, a_frameKind, a_frameMore, a_localName) (nI mt, nI yn, nI (140 + mu), nI mc, nI (ls_sl Ls + L.length), nI (ls_sl Ls), nI ys.length, nI os.length, nI cs.length, nI (pos + 3 + e), nI (ls_md 0 []), 0, f_errorPlace, nI (mt - (tl - 1)), nI as.length, nI oc, f_lastKind, nI (ls_pt 0 []), f_lastValue, f_cnt, f_full, f_flag, f_need, a_tk, a_tv, a_tp, a_mName, a_mKind, a_mCount, a_mPar, a_mAt, a_vName, upd a_vDecl (80 + (T (pos + 1) - 54)) (nI (T pos)), upd a_vKind (80 + (T (pos + 1) - 54)) (nI (if T pos = 5 then 3 else T pos)), vp_updL a_vVal (80 + (T (pos + 1) - 54)) 0, a_sk, a_sv, a_oKind, a_oAt, a_oArgs, a_cKind, a_cA, a_cB, a_outK, a_outV) := ih S' (by omega) (fun q => absurd q.1 (by decide))
      rw [show ls_md 0 [] = 0 from rfl, show ls_pt 0 [] = 0 from rfl, show (ls_em (ls_em k 1 0 0 (nI pos)) 19 (nI (ls_addr L (T (pos + 1) - 54))) (nI (T pos)) (nI pos)).1 - d = k.1 - d + 1 + 1 by show k.1 + 1 + 1 - d = _; omega] at G0
      refine ls_G_go (a := 1 + 1) (b := 1) (ls_xr_t hx1 hx2) (yr_stmt B hg (fun post hp => YS post ?_)) G0 (by omega) (by omega)
      rw [nc0]
      refine hy_decl_g p384 (by omega) nm16 t1 (by omega) e1' e2' w2021 rfl (by omega) (by omega) (fun _ _ => ?_) (fun _ q => by omega) (fun q => by omega)
      rw [show pos + e + 3 = pos + 3 + e by omega, TE]
      rw [nc0] at hp
      exact hp
    · have cu' := ls_cu_exp (ins := 0) hcu (by omega) (fun q => by omega) (f := (11, k.1, pos, [])) (L' := L) (by show 6 ≤ 11; omega) (Or.inl rfl) ⟨by omega, fun q => by have q' : (11 : Nat) = 6 := q; omega, fun _ q => absurd rfl q⟩ hc
      have P := ls_Phi_tk (tl := tl) (as := as) (st := 2) (st' := 4) (fr := []) (fr' := [(11, k.1, pos, [])]) (N := N) (t := t) (t' := t + 1) t0 (by rw [ls_lo5_x (st := 2) (by omega), ls_lo5_x (st := 4) (by omega)]; show 0 + 0 ≤ _; omega) N11 ltN (by omega)
      have S' : ls_S yn mt (tl - 1) oc mc mu ((T, V, C, kF, n, N, d, e, ta, tz)) (t + 1) as ((4, pos + 3, pos + 3, [], [(11, k.1, pos, [])], L, ls_em k 1 0 0 (nI pos))) Ls xs ys ((1, pos + e, 0) :: os) cs f_tickLimit a_outKind a_outValue a_codeOp a_codeArg a_codeKind a_codePlace a_methodSign a_methodStart a_declared a_cellKind a_cellValue a_callReturn a_tk a_tv a_tp a_mName a_mKind a_mCount a_mPar a_mAt a_vName a_vDecl a_vKind a_vVal a_sk a_sv (upd a_oKind os.length (nI 1)) (upd a_oAt os.length (nI (pos + e))) (upd a_oArgs os.length 0) a_cKind a_cA a_cB a_outK a_outV := ⟨cu', hX, hY, ⟨pk_us, pk_us, pk_us, ls_StP_ag (fun j hj => ⟨pk_un (by omega), pk_un (by omega), pk_un (by omega)⟩) hO⟩, hE, hG, hV, hl', ho, hM⟩
      have G0 : ls_G (ls_Phi (tl - 1) as 4 [(11, k.1, pos, [])] N (t + 1)) (f_tickLimit, f_tokenCount, nI oc, 0, f_errorPlace, f_lastKind, f_lastValue, f_codeSize, nI mc, nI mu, nI (88 + xs.length), nI as.length, nI ((ls_em k 1 0 0 (nI pos)).1 - d), nI (tl - 1), f_state, f_pos, f_expressionStart, f_pendingCount, f_frameTop, f_localCount, a_tokenCode, a_tokenValue, a_outKind, a_outValue, a_codeOp, a_codeArg, a_codeKind, a_codePlace, a_methodSign, a_methodStart, a_declared, a_cellKind, a_cellValue, a_callReturn, a_pendingLevel, a_pendingPlace, a_pendingMore, a_frameKind, a_frameMore, a_localName) (nI mt, nI yn, nI (140 + mu), nI mc, nI (ls_sl Ls + L.length), nI (ls_sl Ls), nI ys.length, nI (os.length + 1), nI cs.length, nI (pos + 3 + e), nI (ls_md 4 []), 0, f_errorPlace, nI (mt - (tl - 1)), nI as.length, nI oc, f_lastKind, nI (ls_pt 4 [(11, k.1, pos, [])]), f_lastValue, f_cnt, f_full, f_flag, f_need, a_tk, a_tv, a_tp, a_mName, a_mKind, a_mCount, a_mPar, a_mAt, a_vName, a_vDecl, a_vKind, a_vVal, a_sk, a_sv, upd a_oKind os.length (nI 1), upd a_oAt os.length (nI (pos + e)), upd a_oArgs os.length 0, a_cKind, a_cA, a_cB, a_outK, a_outV) := ih S' (by omega) (fun q => absurd q.1 (by decide))
      rw [show ls_md 4 [] = 1 from rfl, ls_pt_x (by omega), ls_ni d1 (show (ls_em k 1 0 0 (nI pos)).1 = k.1 + 1 from rfl)] at G0
      refine ls_G_go (a := 1) (b := 1) hx1 (yr_stmt B hg (fun post hp => YS post ?_)) G0 (by omega) (by omega)
      rw [nc0]
      refine hy_decl_g p384 (by omega) nm16 t1 (by omega) e1' e2' w2021 rfl (by omega) (by omega) (fun _ q => by omega) (fun _ _ => ?_) (fun q => by omega)
      rw [show pos + e + 3 = pos + 3 + e by omega, TE]
      rw [nc0] at hp
      exact hp
  · have hx1 : ls_xr 1 (f_tickLimit, f_tokenCount, nI oc, 0, f_errorPlace, f_lastKind, f_lastValue, f_codeSize, nI mc, nI mu, nI (88 + xs.length), nI as.length, nI (k.1 - d), nI tl, f_state, f_pos, f_expressionStart, f_pendingCount, f_frameTop, f_localCount, a_tokenCode, a_tokenValue, a_outKind, a_outValue, a_codeOp, a_codeArg, a_codeKind, a_codePlace, a_methodSign, a_methodStart, a_declared, a_cellKind, a_cellValue, a_callReturn, a_pendingLevel, a_pendingPlace, a_pendingMore, a_frameKind, a_frameMore, a_localName) (f_tickLimit, f_tokenCount, nI oc, nI 9, nI pos, f_lastKind, f_lastValue, f_codeSize, nI mc, nI mu, nI (88 + xs.length), nI as.length, nI (k.1 - d + 1), nI tl, f_state, f_pos, f_expressionStart, f_pendingCount, f_frameTop, f_localCount, a_tokenCode, a_tokenValue, a_outKind, a_outValue, a_codeOp, a_codeArg, a_codeKind, a_codePlace, a_methodSign, a_methodStart, a_declared, a_cellKind, a_cellValue, a_callReturn, a_pendingLevel, a_pendingPlace, a_pendingMore, a_frameKind, a_frameMore, a_localName) := by
      refine xr_of (fun post f s hs hh => gx_1 d2 hs op1 (hx_tick (by omega) (fun q => absurd q t0) (fun _ => ?_)))
      rw [pl1]
      exact hh
    have hy1 : ls_yr 1 (nI mt, nI yn, nI (140 + mu), nI mc, nI (ls_sl Ls + L.length), nI (ls_sl Ls), nI ys.length, nI os.length, nI cs.length, nI (pos + e), nI 0, 0, f_errorPlace, nI (mt - tl), nI as.length, nI oc, f_lastKind, nI 0, f_lastValue, f_cnt, f_full, f_flag, f_need, a_tk, a_tv, a_tp, a_mName, a_mKind, a_mCount, a_mPar, a_mAt, a_vName, a_vDecl, a_vKind, a_vVal, a_sk, a_sv, a_oKind, a_oAt, a_oArgs, a_cKind, a_cA, a_cB, a_outK, a_outV) (nI mt, nI yn, nI (140 + mu), nI mc, nI (ls_sl Ls + L.length), nI (ls_sl Ls), nI ys.length, nI os.length, nI cs.length, nI (pos + e), nI 0, nI 9, nI pos, nI (mt - tl), nI as.length, nI oc, f_lastKind, nI 0, f_lastValue, f_cnt, f_full, f_flag, f_need, a_tk, a_tv, a_tp, a_mName, a_mKind, a_mCount, a_mPar, a_mAt, a_vName, a_vDecl, a_vKind, a_vVal, a_sk, a_sv, a_oKind, a_oAt, a_oArgs, a_cKind, a_cA, a_cB, a_outK, a_outV) := by
      refine yr_stmt B hg (fun post hp => YS post ?_)
      rw [nc0]
      refine hy_decl_g p384 (by omega) nm16 t1 (by omega) e1' e2' w2021 rfl (by omega) (by omega) (fun q => by omega) (fun q => by omega) (fun _ => ?_)
      rw [t4]
      rw [nc0] at hp
      exact hp
    exact gs_err h ⟨by decide, by decide⟩ (by rw [← hF]; unfold ls_Phi; omega) (by rw [← hF]; unfold ls_Phi; omega) hx1 hy1
end
