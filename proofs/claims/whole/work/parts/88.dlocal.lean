/-! Declarations begin -/
section
variable {T : Nat → Nat} {V : Nat → Int32} {C : Nat → LsC} {kF : LsK} {n N d e ta tz : Nat} {yn : Nat} {cr mk D D' : Nat → Int32} {co ca ck cp tk : Nat → Int32} {tv : Nat → Int64} {tp : Nat → Int32}
variable {t st pos es : Nat} {fr : List LsF} {L : List Nat} {k : LsK} {as : List LsA} {Ls : List (List Nat)} {xs ys : List LsV} {os cs : List LsP}
set_option maxHeartbeats 200000 in
theorem ls_cu_Dn (h : ls_cu yn cr mk D (ls_UA co ca ck cp tk tv tp) (T, V, C, kF, n, N, d, e, ta, tz) t as (st, pos, es, [], fr, L, k) Ls xs ys os cs) (hs : ¬ (st = 4 ∨ st = 5)) (hD : ∀ c, c < 16 + 8 * as.length → D c ≠ -1 → D' c = D c) : ls_cu yn cr mk D' (ls_UA co ca ck cp tk tv tp) (T, V, C, kF, n, N, d, e, ta, tz) t as (st, pos, es, [], fr, L, k) Ls xs ys os cs := by
  obtain ⟨a1, a2, a3, a4, c0, a5, a6⟩ := ls_cu_s h hs
  exact ls_cu_sm a1 a2 a3 a4 hs a5 (ls_sus_dc hD ls_UA_ex a6)
set_option maxHeartbeats 200000 in
/-- a step that keeps the frames, below a block -/
theorem ls_cu_nb {st' pos' es' : Nat} {k' : LsK} {L' : List Nat} (h : ls_cu yn cr mk D (ls_UA co ca ck cp tk tv tp) (T, V, C, kF, n, N, d, e, ta, tz) t as (st, pos, es, [], fr, L, k) Ls xs ys os cs) (hs : st < 3) (hL : fr = [] ∨ ls_fk fr = 1) (hs' : ¬ (st' = 4 ∨ st' = 5)) (hc : C (t + 1) = (st', pos', es', [], fr, L', k')) : ls_cu yn cr mk D (ls_UA co ca ck cp tk tv tp) (T, V, C, kF, n, N, d, e, ta, tz) (t + 1) as (st', pos', es', [], fr, L', k') Ls xs ys os cs := by
  obtain ⟨a1, a2, a3, a4, c0, a5, a6⟩ := ls_cu_s h (by omega)
  have U := a1
  obtain ⟨g1, _, g3, _⟩ := a1
  have lt := ls_UK_lt a2 g3.2 g1 a3.2 a4 (by omega) (fun q => by omega)
  have CT : ls_ct (ls_sl Ls) e (ls_lp C ta tz t) c0 fr L' cs := by
    rcases hL with rfl | g
    · exact a5
    · cases fr with
      | nil => exact a5
      | cons f' r' =>
        obtain ⟨x1, x2, x3, x4⟩ := f'
        have g' : x1 = 1 := g
        subst g'
        exact a5
  exact ls_cu_go (t := t) U a2 rfl ⟨by omega, by omega⟩ hc hs' (ls_u2 (P := fun c => fr.length ≤ c.2.2.2.2.1.length) (by rw [a4]; exact Nat.le_refl _) (by rw [hc]; exact Nat.le_refl _)) (fun u u1 u2 => by omega) CT a6
end
section
variable {f_tickLimit f_tokenCount f_outCount f_error f_errorPlace f_lastKind f_codeSize f_methodCount f_methodTokens f_cellCount f_activeCalls f_next f_ticksLeft f_state f_pos f_expressionStart f_pendingCount f_frameTop f_localCount : Int32}
variable {f_lastValue : Int64}
variable {a_tokenCode a_tokenValue a_outKind a_codeOp a_codeArg a_codeKind a_codePlace a_methodSign a_methodStart a_declared a_cellKind a_callReturn a_pendingLevel a_pendingPlace a_pendingMore a_frameKind a_frameMore a_localName : Nat → Int32}
variable {a_outValue a_cellValue : Nat → Int64}
variable {f_cnt f_full f_flag f_need : Int32}
variable {a_tk a_tp a_mName a_mKind a_mCount a_mPar a_mAt a_vName a_vDecl a_vKind a_sk a_oKind a_oAt a_oArgs a_cKind a_cA a_cB a_outK : Nat → Int32}
variable {a_tv a_vVal a_sv a_outV : Nat → Int64}
variable {yn mt tl oc mc mu : Nat} {T : Nat → Nat} {V : Nat → Int32} {C : Nat → LsC} {kF : LsK} {n N d e ta tz t : Nat} {as : List LsA} {st pos es : Nat} {pe : List LsP} {fr : List LsF} {L : List Nat} {k : LsK} {Ls : List (List Nat)} {xs ys : List LsV} {os cs : List LsP} {F : Nat}
set_option maxHeartbeats 2000000 in
/-- a local variable -/
theorem gs_dl {st' es' : Nat} {fr' : List LsF} (ih : ls_IH F) (h : ls_S yn mt tl oc mc mu ((T, V, C, kF, n, N, d, e, ta, tz)) t as ((2, pos, es, [], fr, L, k)) Ls xs ys os cs f_tickLimit a_outKind a_outValue a_codeOp a_codeArg a_codeKind a_codePlace a_methodSign a_methodStart a_declared a_cellKind a_cellValue a_callReturn a_tk a_tv a_tp a_mName a_mKind a_mCount a_mPar a_mAt a_vName a_vDecl a_vKind a_vVal a_sk a_sv a_oKind a_oAt a_oArgs a_cKind a_cA a_cB a_outK a_outV) (hF : ls_Phi tl as 2 fr N t = F) (T6 : T pos < 6) (hfr : ls_fk fr = 1) (hnm : ls_nam (T (pos + 1))) (hl8 : L.length < 8)
    (hw : (T (pos + 2) = 20 ∧ st' = 0 ∧ fr' = fr ∧ es' = es) ∨ (T (pos + 2) = 21 ∧ st' = 4 ∧ fr' = (11, k.1, pos, []) :: fr ∧ es' = pos + 3)) (hc : C (t + 1) = (st', pos + 3, es', [], fr', (T (pos + 1) - 54) :: L, ls_em k 19 (nI (16 + L.length)) (nI (T pos)) (nI pos))) : ls_G F (f_tickLimit, f_tokenCount, nI oc, 0, f_errorPlace, f_lastKind, f_lastValue, f_codeSize, nI mc, nI mu, nI (88 + xs.length), nI as.length, nI (k.1 - d), nI tl, f_state, f_pos, f_expressionStart, f_pendingCount, f_frameTop, f_localCount, a_tokenCode, a_tokenValue, a_outKind, a_outValue, a_codeOp, a_codeArg, a_codeKind, a_codePlace, a_methodSign, a_methodStart, a_declared, a_cellKind, a_cellValue, a_callReturn, a_pendingLevel, a_pendingPlace, a_pendingMore, a_frameKind, a_frameMore, a_localName) (nI mt, nI yn, nI (140 + mu), nI mc, nI (ls_sl Ls + L.length), nI (ls_sl Ls), nI ys.length, nI os.length, nI cs.length, nI (pos + e), nI 0, 0, f_errorPlace, nI (mt - tl), nI as.length, nI oc, f_lastKind, nI 0, f_lastValue, f_cnt, f_full, f_flag, f_need, a_tk, a_tv, a_tp, a_mName, a_mKind, a_mCount, a_mPar, a_mAt, a_vName, a_vDecl, a_vKind, a_vVal, a_sk, a_sv, a_oKind, a_oAt, a_oArgs, a_cKind, a_cA, a_cB, a_outK, a_outV) := by
  have h' := h
  obtain ⟨hcu, hX, hY, hO, hE, hG, hV, hl, ho, hM⟩ := h'
  have U := hcu.1
  have tt := hcu.2.2.1
  have ec := hcu.2.2.2.1
  have hV : ls_lev (ls_sm a_declared a_cellKind a_cellValue a_vDecl a_vKind a_vVal) a_vName (L :: Ls) := hV
  have LB := ls_cu_len hcu
  have as8 := hl.2.2.2.1
  have cd := ls_cod U tt ec (Nat.le_refl _) (t' := t) ⟨Nat.le_refl _, tt.2⟩ ec (Nat.le_refl _)
  obtain ⟨hg, lt, ltN, d1, d2, t1, t2, t3, t4⟩ := ls_hg hcu (by omega) (fun q => by omega) (Or.inl (by omega))
  have B : cs.length < 1000 ∧ pos + e < 1000 ∧ yn < 1000 := ls_Sb5 h t3
  have CTOP := ls_cs_top hcu (by omega) as8
  have kk := ls_fem U.1 (by omega) hc (by decide) (by decide) (by decide) (by decide)
  have nm16 : T (pos + 1) - 54 < 16 := by have := hnm.2; omega
  have TN1 := ls_tokn (p := pos + 1) U ⟨tt.1, lt⟩ ec (by omega) (t' := t + 1) (by omega) hc (by omega)
  have TN2 := ls_tokn (p := pos + 2) U ⟨tt.1, lt⟩ ec (by omega) (t' := t + 1) (by omega) hc (by omega)
  have e1' : a_tk (pos + e + 1) = nI (T (pos + 1) - 54 + 54) := by rw [show pos + e + 1 = pos + 1 + e by omega, TN1.1, show T (pos + 1) - 54 + 54 = T (pos + 1) by have := hnm.1; omega]
  have e2' : a_tk (pos + e + 2) = nI (T (pos + 2)) := by rw [show pos + e + 2 = pos + 2 + e by omega, TN2.1]
  have p384 : pos + e + 2 < 384 := by have := TN2.2.2.1; omega
  have ecell : ls_cell (16 + L.length) as.length = 16 + 8 * as.length + L.length := by
    unfold ls_cell
    rw [if_neg (by omega)]; omega
  have NC0 : 0 < cs.length := by
    obtain ⟨b1, b2, b3, b4, c0, b5, b6⟩ := ls_cu_s hcu (by omega)
    cases fr with
    | nil => exact absurd hfr (by show (0 : Nat) ≠ 1; decide)
    | cons f r =>
      obtain ⟨f1, f2, f3, f4⟩ := f
      have q1 : f1 = 1 := hfr
      subst q1
      obtain ⟨cs', q, _⟩ := ls_ct_1.mp b5
      rw [q, List.length_cons]; omega
  have kz5 : (if T pos = 5 then 3 else T pos) ≤ 4 := by split <;> omega
  have wz : ls_wf (if T pos = 5 then 3 else T pos) 0 := by
    refine ⟨kz5, fun _ => Or.inl rfl, fun _ => rfl⟩
  have hG' : ls_gl (upd a_declared (16 + 8 * as.length + L.length) (nI (T pos))) (upd a_cellKind (16 + 8 * as.length + L.length) (nI (if T pos = 5 then 3 else T pos))) (vp_updL a_cellValue (16 + 8 * as.length + L.length) 0) (upd a_vDecl (ls_sl Ls + L.length) (nI (T pos))) (upd a_vKind (ls_sl Ls + L.length) (nI (if T pos = 5 then 3 else T pos))) (vp_updL a_vVal (ls_sl Ls + L.length) 0) := by
    intro i hi
    rcases hG i hi with g | ⟨g1, g2⟩
    · exact Or.inl (ls_sm_n (by omega) (by omega) g)
    · exact Or.inr ⟨(pk_un (by omega)).trans g1, (pk_un (by omega)).trans g2⟩
  have LsL := LB.2.2.2.2.2.1
  have hV' : ls_lev (ls_sm (upd a_declared (16 + 8 * as.length + L.length) (nI (T pos))) (upd a_cellKind (16 + 8 * as.length + L.length) (nI (if T pos = 5 then 3 else T pos))) (vp_updL a_cellValue (16 + 8 * as.length + L.length) 0) (upd a_vDecl (ls_sl Ls + L.length) (nI (T pos))) (upd a_vKind (ls_sl Ls + L.length) (nI (if T pos = 5 then 3 else T pos))) (vp_updL a_vVal (ls_sl Ls + L.length) 0)) (upd a_vName (ls_sl Ls + L.length) (nI (T (pos + 1) - 54 + 54))) (((T (pos + 1) - 54) :: L) :: Ls) := by
    have L0 : ls_lev (ls_sm (upd a_declared (16 + 8 * as.length + L.length) (nI (T pos))) (upd a_cellKind (16 + 8 * as.length + L.length) (nI (if T pos = 5 then 3 else T pos))) (vp_updL a_cellValue (16 + 8 * as.length + L.length) 0) (upd a_vDecl (ls_sl Ls + L.length) (nI (T pos))) (upd a_vKind (ls_sl Ls + L.length) (nI (if T pos = 5 then 3 else T pos))) (vp_updL a_vVal (ls_sl Ls + L.length) 0)) (upd a_vName (ls_sl Ls + L.length) (nI (T (pos + 1) - 54 + 54))) (L :: Ls) := by
      have SL : ls_sl (L :: Ls) = L.length + ls_sl Ls := rfl
      obtain ⟨v1, v2, v3⟩ := hV
      refine ⟨?_, fun i hi => ?_, ls_lev_mono (fun c p hc' h16 hp g => ls_sm_n (by omega) (by omega) g) (fun M hM => ls_cu_l8 hcu M (List.mem_cons_of_mem _ hM)) (fun p hp => pk_un (by omega)) v3⟩
      · have : ∀ (M : List Nat), M.length ≤ L.length → ls_LN a_vName (ls_sl Ls) M → ls_LN (upd a_vName (ls_sl Ls + L.length) (nI (T (pos + 1) - 54 + 54))) (ls_sl Ls) M := by
          intro M
          induction M with
          | nil => intro _ _; trivial
          | cons x M ihM =>
            intro hb hm
            rw [List.length_cons] at hb
            exact ⟨(pk_un (by omega)).trans hm.1, ihM (by omega) hm.2⟩
        exact this L (Nat.le_refl _) v1
      · have := v2 i hi
        rw [LsL] at this ⊢
        exact ls_sm_n (by omega) (by omega) this
    obtain ⟨v1, v2, v3⟩ := L0
    refine ⟨⟨pk_us, v1⟩, fun i hi => ?_, v3⟩
    rw [List.length_cons] at hi
    rcases Nat.lt_or_ge i L.length with g | g
    · exact v2 i g
    · have : i = L.length := by omega
      subst this
      rw [LsL]
      refine ls_sm_s (by omega) kz5 wz ?_
      by_cases q : T pos = 5
      · exact Or.inl q
      · exact Or.inr (if_neg q)
  have cuD := ls_cu_Dn (D' := upd a_declared (16 + 8 * as.length + L.length) (nI (T pos))) hcu (by omega) (fun c hc' _ => pk_un (by omega))
  have hX' : ls_stk (upd a_cellKind (16 + 8 * as.length + L.length) (nI (if T pos = 5 then 3 else T pos))) (vp_updL a_cellValue (16 + 8 * as.length + L.length) 0) 88 xs := ls_stk_up (by omega) hX
  have hx : ls_xr 1 (f_tickLimit, f_tokenCount, nI oc, 0, f_errorPlace, f_lastKind, f_lastValue, f_codeSize, nI mc, nI mu, nI (88 + xs.length), nI as.length, nI (k.1 - d), nI tl, f_state, f_pos, f_expressionStart, f_pendingCount, f_frameTop, f_localCount, a_tokenCode, a_tokenValue, a_outKind, a_outValue, a_codeOp, a_codeArg, a_codeKind, a_codePlace, a_methodSign, a_methodStart, a_declared, a_cellKind, a_cellValue, a_callReturn, a_pendingLevel, a_pendingPlace, a_pendingMore, a_frameKind, a_frameMore, a_localName) (f_tickLimit, f_tokenCount, nI oc, 0, f_errorPlace, f_lastKind, f_lastValue, f_codeSize, nI mc, nI mu, nI (88 + xs.length), nI as.length, nI (k.1 - d + 1), nI tl, f_state, f_pos, f_expressionStart, f_pendingCount, f_frameTop, f_localCount, a_tokenCode, a_tokenValue, a_outKind, a_outValue, a_codeOp, a_codeArg, a_codeKind, a_codePlace, a_methodSign, a_methodStart, upd a_declared (16 + 8 * as.length + L.length) (nI (T pos)), upd a_cellKind (16 + 8 * as.length + L.length) (nI (if T pos = 5 then 3 else T pos)), vp_updL a_cellValue (16 + 8 * as.length + L.length) 0, a_callReturn, a_pendingLevel, a_pendingPlace, a_pendingMore, a_frameKind, a_frameMore, a_localName) := by
    refine xr_of (fun post f s hs hh => gx_19 d2 hs (cd.2.2.1.trans kk.1) (hx_putZero (a := 16 + L.length) (t := T pos) d2 (by omega) as8 (by omega) (cd.2.2.2.1.trans kk.2.1) (cd.2.2.2.2.1.trans kk.2.2.1) ?_))
    rw [ecell]
    exact hh
  have CL := LB.2.2.2.1
  have OL := LB.2.2.1
  have sl8 := LB.2.2.2.2.1
  have YS : ∀ post : SY → Prop, wpY_declaration post (nI mt, nI yn, nI (140 + mu), nI mc, nI (ls_sl Ls + L.length), nI (ls_sl Ls), nI ys.length, nI os.length, nI cs.length, nI (pos + e), nI 0, 0, f_errorPlace, nI (mt - tl), nI as.length, nI oc, f_lastKind, nI 0, f_lastValue, f_cnt, f_full, f_flag, f_need, a_tk, a_tv, a_tp, a_mName, a_mKind, a_mCount, a_mPar, a_mAt, a_vName, a_vDecl, a_vKind, a_vVal, a_sk, a_sv, a_oKind, a_oAt, a_oArgs, a_cKind, a_cA, a_cB, a_outK, a_outV) → wpY_statement post (nI mt, nI yn, nI (140 + mu), nI mc, nI (ls_sl Ls + L.length), nI (ls_sl Ls), nI ys.length, nI os.length, nI cs.length, nI (pos + e), nI 0, 0, f_errorPlace, nI (mt - tl), nI as.length, nI oc, f_lastKind, nI 0, f_lastValue, f_cnt, f_full, f_flag, f_need, a_tk, a_tv, a_tp, a_mName, a_mKind, a_mCount, a_mPar, a_mAt, a_vName, a_vDecl, a_vKind, a_vVal, a_sk, a_sv, a_oKind, a_oAt, a_oArgs, a_cKind, a_cA, a_cB, a_outK, a_outV) := fun post g => hy_statement_m t3 (by omega) hE CTOP (hy_st_decl t3 t1 T6 g)
  rcases hw with ⟨w20, rfl, rfl, rfl⟩ | ⟨w21, rfl, rfl, rfl⟩
  · have cu' := ls_cu_nb cuD (by omega) (Or.inr hfr) (by omega) hc
    have P := ls_Phi_lt (tl := tl) (as := as) (st := 2) (st' := 0) (fr := fr') (fr' := fr') (N := N) (t := t) (t' := t + 1) (by rw [ls_lo5_x (st := 2) (by omega)]; unfold ls_lo5; omega) (by omega) ltN
    have S' : ls_S yn mt tl oc mc mu ((T, V, C, kF, n, N, d, e, ta, tz)) (t + 1) as ((0, pos + 3, es', [], fr', (T (pos + 1) - 54) :: L, ls_em k 19 (nI (16 + L.length)) (nI (T pos)) (nI pos))) Ls xs ys os cs f_tickLimit a_outKind a_outValue a_codeOp a_codeArg a_codeKind a_codePlace a_methodSign a_methodStart (upd a_declared (16 + 8 * as.length + L.length) (nI (T pos))) (upd a_cellKind (16 + 8 * as.length + L.length) (nI (if T pos = 5 then 3 else T pos))) (vp_updL a_cellValue (16 + 8 * as.length + L.length) 0) a_callReturn a_tk a_tv a_tp a_mName a_mKind a_mCount a_mPar a_mAt (upd a_vName (ls_sl Ls + L.length) (nI (T (pos + 1) - 54 + 54))) (upd a_vDecl (ls_sl Ls + L.length) (nI (T pos))) (upd a_vKind (ls_sl Ls + L.length) (nI (if T pos = 5 then 3 else T pos))) (vp_updL a_vVal (ls_sl Ls + L.length) 0) a_sk a_sv a_oKind a_oAt a_oArgs a_cKind a_cA a_cB a_outK a_outV := ⟨cu', hX', hY, hO, hE, hG', hV', hl, ho, hM⟩
    have G0 : ls_G (ls_Phi tl as 0 fr' N (t + 1)) (f_tickLimit, f_tokenCount, nI oc, 0, f_errorPlace, f_lastKind, f_lastValue, f_codeSize, nI mc, nI mu, nI (88 + xs.length), nI as.length, nI ((ls_em k 19 (nI (16 + L.length)) (nI (T pos)) (nI pos)).1 - d), nI tl, f_state, f_pos, f_expressionStart, f_pendingCount, f_frameTop, f_localCount, a_tokenCode, a_tokenValue, a_outKind, a_outValue, a_codeOp, a_codeArg, a_codeKind, a_codePlace, a_methodSign, a_methodStart, upd a_declared (16 + 8 * as.length + L.length) (nI (T pos)), upd a_cellKind (16 + 8 * as.length + L.length) (nI (if T pos = 5 then 3 else T pos)), vp_updL a_cellValue (16 + 8 * as.length + L.length) 0, a_callReturn, a_pendingLevel, a_pendingPlace, a_pendingMore, a_frameKind, a_frameMore, a_localName) (nI mt, nI yn, nI (140 + mu), nI mc, nI (ls_sl Ls + L.length + 1), nI (ls_sl Ls), nI ys.length, nI os.length, nI cs.length, nI (pos + 3 + e), nI (ls_md 0 []), 0, f_errorPlace, nI (mt - tl), nI as.length, nI oc, f_lastKind, nI (ls_pt 0 fr'), f_lastValue, f_cnt, f_full, f_flag, f_need, a_tk, a_tv, a_tp, a_mName, a_mKind, a_mCount, a_mPar, a_mAt, upd a_vName (ls_sl Ls + L.length) (nI (T (pos + 1) - 54 + 54)), upd a_vDecl (ls_sl Ls + L.length) (nI (T pos)), upd a_vKind (ls_sl Ls + L.length) (nI (if T pos = 5 then 3 else T pos)), vp_updL a_vVal (ls_sl Ls + L.length) 0, a_sk, a_sv, a_oKind, a_oAt, a_oArgs, a_cKind, a_cA, a_cB, a_outK, a_outV) := ih S' (by omega) (fun q => absurd q.1 (by decide))
    have PT0 : ls_pt 0 fr' = 0 := by
      unfold ls_pt
      rw [if_neg (by rw [hfr]; omega)]
    rw [show ls_md 0 [] = 0 from rfl, PT0, ls_ni d1 (show (ls_em k 19 (nI (16 + L.length)) (nI (T pos)) (nI pos)).1 = k.1 + 1 from rfl)] at G0
    refine ls_G_go (b := 1) hx (yr_stmt B hg (fun post hp => YS post ?_)) G0 (by omega) (by omega)
    refine hy_decl_l p384 (by omega) ⟨NC0, by omega⟩ (by omega) nm16 t1 (by omega) e1' e2' (Or.inl w20) rfl (fun _ => ?_) (fun q => by omega)
    rw [show pos + e + 3 = pos + 3 + e by omega]
    exact hp
  · have cu' := ls_cu_exp (ins := 0) cuD (by omega) (fun q => by omega) (f := (11, k.1, pos, [])) (L' := (T (pos + 1) - 54) :: L) (by show 6 ≤ 11; omega) (Or.inr (Or.inr hfr)) ⟨by omega, fun q => by have q' : (11 : Nat) = 6 := q; omega, fun _ _ => by
      rw [List.length_cons, show 15 + 8 * as.length + (L.length + 1) = 16 + 8 * as.length + L.length by omega]
      exact pk_us⟩ hc
    have P := ls_Phi_lt (tl := tl) (as := as) (st := 2) (st' := 4) (fr := fr) (fr' := (11, k.1, pos, []) :: fr) (N := N) (t := t) (t' := t + 1) (by rw [ls_lo5_x (st := 2) (by omega), ls_lo5_x (st := 4) (by omega)]; show 0 + ls_l5 fr ≤ ls_l5 fr; omega) (by omega) ltN
    have S' : ls_S yn mt tl oc mc mu ((T, V, C, kF, n, N, d, e, ta, tz)) (t + 1) as ((4, pos + 3, pos + 3, [], (11, k.1, pos, []) :: fr, (T (pos + 1) - 54) :: L, ls_em k 19 (nI (16 + L.length)) (nI (T pos)) (nI pos))) Ls xs ys ((1, pos + e, 0) :: os) cs f_tickLimit a_outKind a_outValue a_codeOp a_codeArg a_codeKind a_codePlace a_methodSign a_methodStart (upd a_declared (16 + 8 * as.length + L.length) (nI (T pos))) (upd a_cellKind (16 + 8 * as.length + L.length) (nI (if T pos = 5 then 3 else T pos))) (vp_updL a_cellValue (16 + 8 * as.length + L.length) 0) a_callReturn a_tk a_tv a_tp a_mName a_mKind a_mCount a_mPar a_mAt (upd a_vName (ls_sl Ls + L.length) (nI (T (pos + 1) - 54 + 54))) (upd a_vDecl (ls_sl Ls + L.length) (nI (T pos))) (upd a_vKind (ls_sl Ls + L.length) (nI (if T pos = 5 then 3 else T pos))) (vp_updL a_vVal (ls_sl Ls + L.length) 0) a_sk a_sv (upd a_oKind os.length (nI 1)) (upd a_oAt os.length (nI (pos + e))) (upd a_oArgs os.length 0) a_cKind a_cA a_cB a_outK a_outV := ⟨cu', hX', hY, ⟨pk_us, pk_us, pk_us, ls_StP_ag (fun j hj => ⟨pk_un (by omega), pk_un (by omega), pk_un (by omega)⟩) hO⟩, hE, hG', hV', hl, ho, hM⟩
    have G0 : ls_G (ls_Phi tl as 4 ((11, k.1, pos, []) :: fr) N (t + 1)) (f_tickLimit, f_tokenCount, nI oc, 0, f_errorPlace, f_lastKind, f_lastValue, f_codeSize, nI mc, nI mu, nI (88 + xs.length), nI as.length, nI ((ls_em k 19 (nI (16 + L.length)) (nI (T pos)) (nI pos)).1 - d), nI tl, f_state, f_pos, f_expressionStart, f_pendingCount, f_frameTop, f_localCount, a_tokenCode, a_tokenValue, a_outKind, a_outValue, a_codeOp, a_codeArg, a_codeKind, a_codePlace, a_methodSign, a_methodStart, upd a_declared (16 + 8 * as.length + L.length) (nI (T pos)), upd a_cellKind (16 + 8 * as.length + L.length) (nI (if T pos = 5 then 3 else T pos)), vp_updL a_cellValue (16 + 8 * as.length + L.length) 0, a_callReturn, a_pendingLevel, a_pendingPlace, a_pendingMore, a_frameKind, a_frameMore, a_localName) (nI mt, nI yn, nI (140 + mu), nI mc, nI (ls_sl Ls + L.length + 1), nI (ls_sl Ls), nI ys.length, nI (os.length + 1), nI cs.length, nI (pos + 3 + e), nI (ls_md 4 []), 0, f_errorPlace, nI (mt - tl), nI as.length, nI oc, f_lastKind, nI (ls_pt 4 ((11, k.1, pos, []) :: fr)), f_lastValue, f_cnt, f_full, f_flag, f_need, a_tk, a_tv, a_tp, a_mName, a_mKind, a_mCount, a_mPar, a_mAt, upd a_vName (ls_sl Ls + L.length) (nI (T (pos + 1) - 54 + 54)), upd a_vDecl (ls_sl Ls + L.length) (nI (T pos)), upd a_vKind (ls_sl Ls + L.length) (nI (if T pos = 5 then 3 else T pos)), vp_updL a_vVal (ls_sl Ls + L.length) 0, a_sk, a_sv, upd a_oKind os.length (nI 1), upd a_oAt os.length (nI (pos + e)), upd a_oArgs os.length 0, a_cKind, a_cA, a_cB, a_outK, a_outV) := ih S' (by omega) (fun q => absurd q.1 (by decide))
    rw [show ls_md 4 [] = 1 from rfl, ls_pt_x (by omega), ls_ni d1 (show (ls_em k 19 (nI (16 + L.length)) (nI (T pos)) (nI pos)).1 = k.1 + 1 from rfl)] at G0
    refine ls_G_go (b := 1) hx (yr_stmt B hg (fun post hp => YS post ?_)) G0 (by omega) (by omega)
    refine hy_decl_l p384 (by omega) ⟨NC0, by omega⟩ (by omega) nm16 t1 (by omega) e1' e2' (Or.inr w21) rfl (fun q => by omega) (fun _ => ?_)
    rw [show pos + e + 3 = pos + 3 + e by omega]
    exact hp
end
