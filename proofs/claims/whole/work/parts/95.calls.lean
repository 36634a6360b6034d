/-! Calls begin -/
section
variable {f_tickLimit f_tokenCount f_outCount f_error f_errorPlace f_lastKind f_codeSize f_methodCount f_methodTokens f_cellCount f_activeCalls f_next f_ticksLeft f_state f_pos f_expressionStart f_pendingCount f_frameTop f_localCount : Int32}
variable {f_lastValue : Int64}
variable {a_tokenCode a_tokenValue a_outKind a_codeOp a_codeArg a_codeKind a_codePlace a_methodSign a_methodStart a_declared a_cellKind a_callReturn a_pendingLevel a_pendingPlace a_pendingMore a_frameKind a_frameMore a_localName : Nat → Int32}
variable {a_outValue a_cellValue : Nat → Int64}
variable {f_cnt f_full f_flag f_need : Int32}
variable {a_tk a_tp a_mName a_mKind a_mCount a_mPar a_mAt a_vName a_vDecl a_vKind a_sk a_oKind a_oAt a_oArgs a_cKind a_cA a_cB a_outK : Nat → Int32}
variable {a_tv a_vVal a_sv a_outV : Nat → Int64}
variable {yn mt tl oc mc mu : Nat} {T : Nat → Nat} {V : Nat → Int32} {C : Nat → LsC} {kF : LsK} {n N d e ta tz t : Nat} {as : List LsA} {st pos es : Nat} {pe : List LsP} {fr : List LsF} {L : List Nat} {k : LsK} {Ls : List (List Nat)} {xs ys : List LsV} {os cs : List LsP} {F : Nat}
set_option maxHeartbeats 2000000 in
/-- a call without arguments -/
theorem gs_c0 (ih : ls_IH F) (h : ls_S yn mt tl oc mc mu ((T, V, C, kF, n, N, d, e, ta, tz)) t as ((4, pos, es, pe, fr, L, k)) Ls xs ys os cs f_tickLimit a_outKind a_outValue a_codeOp a_codeArg a_codeKind a_codePlace a_methodSign a_methodStart a_declared a_cellKind a_cellValue a_callReturn a_tk a_tv a_tp a_mName a_mKind a_mCount a_mPar a_mAt a_vName a_vDecl a_vKind a_vVal a_sk a_sv a_oKind a_oAt a_oArgs a_cKind a_cA a_cB a_outK a_outV) (hF : ls_Phi tl as 4 fr N t = F) (hn : ls_nam (T pos)) (hT : T (pos + 1) = 15) (hT1 : T (pos + 2) = 16) (hc : C (t + 1) = (5, pos + 3, es, pe, fr, L, ls_em k 11 (nI (T pos - 54)) 0 (nI pos))) : ls_G F (f_tickLimit, f_tokenCount, nI oc, 0, f_errorPlace, f_lastKind, f_lastValue, f_codeSize, nI mc, nI mu, nI (88 + xs.length), nI as.length, nI (k.1 - d), nI tl, f_state, f_pos, f_expressionStart, f_pendingCount, f_frameTop, f_localCount, a_tokenCode, a_tokenValue, a_outKind, a_outValue, a_codeOp, a_codeArg, a_codeKind, a_codePlace, a_methodSign, a_methodStart, a_declared, a_cellKind, a_cellValue, a_callReturn, a_pendingLevel, a_pendingPlace, a_pendingMore, a_frameKind, a_frameMore, a_localName) (nI mt, nI yn, nI (140 + mu), nI mc, nI (ls_sl Ls + L.length), nI (ls_sl Ls), nI ys.length, nI os.length, nI cs.length, nI (pos + e), nI (ls_md 4 pe), 0, f_errorPlace, nI (mt - tl), nI as.length, nI oc, f_lastKind, nI 0, f_lastValue, f_cnt, f_full, f_flag, f_need, a_tk, a_tv, a_tp, a_mName, a_mKind, a_mCount, a_mPar, a_mAt, a_vName, a_vDecl, a_vKind, a_vVal, a_sk, a_sv, a_oKind, a_oAt, a_oArgs, a_cKind, a_cA, a_cB, a_outK, a_outV) := by
  have h' := h
  obtain ⟨hcu, hX, hY, hO, hE, hG, hV, hl, ho, hM⟩ := h'
  have hn' := hn
  obtain ⟨n1, n2⟩ := hn'
  have U := hcu.1
  have tt := hcu.2.2.1
  have ec := hcu.2.2.2.1
  obtain ⟨lt, ltN, _, d1, d2, t1, t2, t3, t4, t5⟩ := ls_ac h.1 (Or.inl rfl) (by omega)
  have B := ls_Sb h t3
  have LB := ls_cu_len hcu
  have as8 := hl.2.2.2.1
  have OL := LB.2.2.1
  have cd := ls_cod U tt ec (Nat.le_refl _) (t' := t) ⟨Nat.le_refl _, tt.2⟩ ec (Nat.le_refl _)
  have kk := ls_fem U.1 (by omega) hc (by decide) (by decide) (by decide) (by decide)
  have TN := ls_tokn (p := pos + 1) U ⟨tt.1, lt⟩ ec (by omega) (t' := t + 1) (by omega) hc (by omega)
  have TM := ls_tokn (p := pos + 2) U ⟨tt.1, lt⟩ ec (by omega) (t' := t + 1) (by omega) hc (by omega)
  obtain ⟨b, b1, yr1⟩ := gs_y4 (f_errorPlace := f_errorPlace) (f_lastKind := f_lastKind) (f_lastValue := f_lastValue) (f_cnt := f_cnt) (f_full := f_full) (f_flag := f_flag) (f_need := f_need) h (by omega) (fun q => ⟨TN.1, TN.2.1, TN.2.2.1, fun g => by rw [hT] at g; have := g.2; omega⟩)
  have TN1 := TN.1
  have TM1 := TM.1
  have TM3 := TM.2.2.1
  rw [show pos + 1 + e = pos + e + 1 by omega] at TN1
  rw [show pos + 2 + e = pos + e + 2 by omega] at TM1 TM3
  have t54 : a_tk (pos + e) = nI (T pos - 54 + 54) := by rw [t1, show T pos - 54 + 54 = T pos by omega]
  refine gs_call (f_cnt := f_cnt) (f_full := f_full) (f_flag := f_flag) (f_need := f_need) (nm := T pos - 54) (c := 0) (pl := pos) (b := b + (1 + 1)) (w := []) (nK := upd a_oKind os.length (nI 3)) (nA := upd a_oAt os.length (nI (pos + e))) (nG := upd (upd (upd a_oArgs os.length 0) os.length 1) os.length 0) ih h (Or.inl rfl) hF hc rfl (cd.2.2.1.trans kk.1) (cd.2.2.2.1.trans kk.2.1) (cd.2.2.2.2.2.trans kk.2.2.2) (by omega) (by omega) t54 t3 t4 rfl rfl rfl (fun z => ls_cu_opd hcu hc) (ls_StP_ag (fun j hj => ⟨pk_un (by omega), pk_un (by omega), (pk_un (by omega)).trans ((pk_un (by omega)).trans (pk_un (by omega)))⟩) hO) pk_us pk_us (by omega) (fun v' g => ?_) (by omega)
  refine ls_yr_t yr1 (ls_yr_t (v' := (nI mt, nI yn, nI (140 + mu), nI mc, nI (ls_sl Ls + L.length), nI (ls_sl Ls), nI ys.length, nI (os.length + 1), nI cs.length, nI (pos + e + 2), nI 3, 0, f_errorPlace, nI (mt - tl), nI as.length, nI oc, f_lastKind, nI 0, f_lastValue, f_cnt, f_full, f_flag, f_need, a_tk, a_tv, a_tp, a_mName, a_mKind, a_mCount, a_mPar, a_mAt, a_vName, a_vDecl, a_vKind, a_vVal, a_sk, a_sv, upd a_oKind os.length (nI 3), upd a_oAt os.length (nI (pos + e)), upd (upd (upd a_oArgs os.length 0) os.length 1) os.length 0, a_cKind, a_cA, a_cB, a_outK, a_outV)) (yr_value B (fun post hp => ?_)) (yr_after (by omega) (fun post hp => ?_)))
  · exact hy_value_f (nm := T pos - 54) TM3 (by omega) (by omega) t54 (by rw [TN1, hT]; rfl) TM1 TM.2.1 (fun _ => hp) (fun q => absurd hT1 q)
  · have LE : ls_lv (T (pos + 2)) = 2 := by rw [hT1]; rfl
    refine hy_after_n (kd := 3) (lq := 0) (q := pos + e) (g := 0) TM3 TM1 TM.2.1 (by omega) pk_us ⟨by omega, by omega⟩ pk_us (fun q => by omega) pk_us (by omega) (Or.inl (by omega)) (fun q => by omega) (fun _ q => by omega) (fun _ q => by omega) (fun _ _ q => by omega) (fun _ _ _ => ?_)
    rw [show pos + e + 2 + 1 = pos + 3 + e by omega]
    exact g post hp
set_option maxHeartbeats 2000000 in
/-- a call with arguments -/
theorem gs_cr {pl mo : Nat} (ih : ls_IH F) (h : ls_S yn mt tl oc mc mu ((T, V, C, kF, n, N, d, e, ta, tz)) t as ((5, pos, es, (0, pl, mo) :: pe, fr, L, k)) Ls xs ys os cs f_tickLimit a_outKind a_outValue a_codeOp a_codeArg a_codeKind a_codePlace a_methodSign a_methodStart a_declared a_cellKind a_cellValue a_callReturn a_tk a_tv a_tp a_mName a_mKind a_mCount a_mPar a_mAt a_vName a_vDecl a_vKind a_vVal a_sk a_sv a_oKind a_oAt a_oArgs a_cKind a_cA a_cB a_outK a_outV) (hF : ls_Phi tl as 5 fr N t = F) (h16 : T pos = 16) (hc : C (t + 1) = (5, pos + 1, es, pe, fr, L, ls_em k 11 (nI (T pl - 54 + mo * 16)) 0 (nI pl))) : ls_G F (f_tickLimit, f_tokenCount, nI oc, 0, f_errorPlace, f_lastKind, f_lastValue, f_codeSize, nI mc, nI mu, nI (88 + xs.length), nI as.length, nI (k.1 - d), nI tl, f_state, f_pos, f_expressionStart, f_pendingCount, f_frameTop, f_localCount, a_tokenCode, a_tokenValue, a_outKind, a_outValue, a_codeOp, a_codeArg, a_codeKind, a_codePlace, a_methodSign, a_methodStart, a_declared, a_cellKind, a_cellValue, a_callReturn, a_pendingLevel, a_pendingPlace, a_pendingMore, a_frameKind, a_frameMore, a_localName) (nI mt, nI yn, nI (140 + mu), nI mc, nI (ls_sl Ls + L.length), nI (ls_sl Ls), nI ys.length, nI os.length, nI cs.length, nI (pos + e), nI 3, 0, f_errorPlace, nI (mt - tl), nI as.length, nI oc, f_lastKind, nI 0, f_lastValue, f_cnt, f_full, f_flag, f_need, a_tk, a_tv, a_tp, a_mName, a_mKind, a_mCount, a_mPar, a_mAt, a_vName, a_vDecl, a_vKind, a_vVal, a_sk, a_sv, a_oKind, a_oAt, a_oArgs, a_cKind, a_cA, a_cB, a_outK, a_outV) := by
  have h' := h
  obtain ⟨hcu, hX, hY, hO, hE, hG, hV, hl, ho, hM⟩ := h'
  have U := hcu.1
  have tt := hcu.2.2.1
  have ec := hcu.2.2.2.1
  have T72 := ls_T5 U.1 (by have := U.2.2.1; omega) ec
  obtain ⟨lt, ltN, _, d1, d2, t1, t2, t3, t4, t5⟩ := ls_ac hcu (Or.inr rfl) T72
  have B := ls_Sb5 h t3
  have LB := ls_cu_len hcu
  have as8 := hl.2.2.2.1
  have OL := LB.2.2.1
  have cd := ls_cod U tt ec (Nat.le_refl _) (t' := t) ⟨Nat.le_refl _, tt.2⟩ ec (Nat.le_refl _)
  have kk := ls_fem U.1 (by omega) hc (by decide) (by decide) (by decide) (by decide)
  obtain ⟨z, w, xr, yr, os', exs, eys, wl, eos, W34, WD, NX, _⟩ := ls_cu_red hcu
  have px := ls_pgx hcu (Or.inr rfl) (List.mem_cons_self ..)
  dsimp only at px
  have TP := ls_toke2 U tt ec (Or.inr rfl) (p := pl) px.1 px.2.2.2.1
  have ch := (ls_tl_ch U.1 (by omega) ec (Or.inr rfl)).1
  have en := ch.2.1.1 rfl
  dsimp only at en
  have wl' : w.length = mo - 1 := wl
  have exs' : xs = (z :: w) ++ xr := by rw [exs, if_neg (by show ¬ ((0 : Nat) = 3 ∨ (0 : Nat) = 4); omega)]; rfl
  have eys' : ys = (z :: w) ++ yr := eys
  have hO1 := hO
  rw [eos] at hO1
  obtain ⟨o1, o2, o3, o4⟩ := hO1
  have ol : os.length = os'.length + 1 := by rw [eos, List.length_cons]
  have LE : ls_lv (T pos) = 2 := by rw [h16]; rfl
  have ar : a_codeArg (k.1 - d) = nI (T pl - 54 + 16 * mo) := by rw [Nat.mul_comm 16 mo]; exact cd.2.2.2.1.trans kk.2.1
  have nmb := px.2.2.2.2.1 rfl
  have t54 : a_tk (pl + e) = nI (T pl - 54 + 54) := by rw [TP.1, show T pl - 54 + 54 = T pl by have := nmb.1.1; omega]
  refine gs_call (f_cnt := f_cnt) (f_full := f_full) (f_flag := f_flag) (f_need := f_need) (nm := T pl - 54) (c := mo) (pl := pl) (b := 1) (w := z :: w) (nK := a_oKind) (nA := a_oAt) (nG := a_oArgs) ih h (Or.inr rfl) hF hc rfl (cd.2.2.1.trans kk.1) ar (cd.2.2.2.2.2.trans kk.2.2.2) (by have := nmb.1.2; omega) nmb.2 t54 TP.2.2.1 TP.2.2.2 exs' eys' (by rw [List.length_cons]; omega) (fun z' => NX a_declared _ _ z' (fun _ _ => rfl) hc) o4 o2 o3 (by omega) (fun v' g => ?_) (by omega)
  refine yr_after B (fun post hp => ?_)
  rw [ol]
  refine hy_after_n (kd := 3) (lq := 0) (q := pl + e) (g := mo) t3 t1 t2 (by omega) o1 ⟨by omega, by omega⟩ o2 (fun q => by omega) o3 (by have := nmb.2; omega) (Or.inl (by omega)) (fun q => by omega) (fun _ q => by omega) (fun _ q => by omega) (fun _ _ q => by omega) (fun _ _ _ => ?_)
  have g' := g post hp
  rw [show yr.length + mo = ys.length by rw [eys', List.length_append, List.length_cons]; omega, show pos + 1 + e = pos + e + 1 by omega] at g'
  exact g'
end
