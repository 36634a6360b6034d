/-! Assignments that compute -/
section
variable {f_tickLimit f_tokenCount f_outCount f_error f_errorPlace f_lastKind f_codeSize f_methodCount f_methodTokens f_cellCount f_activeCalls f_next f_ticksLeft f_state f_pos f_expressionStart f_pendingCount f_frameTop f_localCount : Int32}
variable {f_lastValue : Int64}
variable {a_tokenCode a_tokenValue a_outKind a_codeOp a_codeArg a_codeKind a_codePlace a_methodSign a_methodStart a_declared a_cellKind a_callReturn a_pendingLevel a_pendingPlace a_pendingMore a_frameKind a_frameMore a_localName : Nat → Int32}
variable {a_outValue a_cellValue : Nat → Int64}
variable {f_cnt f_full f_flag f_need : Int32}
variable {a_tk a_tp a_mName a_mKind a_mCount a_mPar a_mAt a_vName a_vDecl a_vKind a_sk a_oKind a_oAt a_oArgs a_cKind a_cA a_cB a_outK : Nat → Int32}
variable {a_tv a_vVal a_sv a_outV : Nat → Int64}
variable {yn mt tl oc mc mu : Nat} {T : Nat → Nat} {V : Nat → Int32} {C : Nat → LsC} {kF : LsK} {n N d e ta tz t : Nat} {as : List LsA} {st pos es : Nat} {pe : List LsP} {fr : List LsF} {L : List Nat} {k : LsK} {Ls : List (List Nat)} {xs ys : List LsV} {os cs : List LsP} {F : Nat}
set_option maxHeartbeats 1000000 in
theorem gs_r2u {pl mo : Nat} {k' : LsK} (ih : ls_IH F) (h : ls_S yn mt tl oc mc mu ((T, V, C, kF, n, N, d, e, ta, tz)) t as ((5, pos, es, (2, pl, mo) :: pe, fr, L, k)) Ls xs ys os cs f_tickLimit a_outKind a_outValue a_codeOp a_codeArg a_codeKind a_codePlace a_methodSign a_methodStart a_declared a_cellKind a_cellValue a_callReturn a_tk a_tv a_tp a_mName a_mKind a_mCount a_mPar a_mAt a_vName a_vDecl a_vKind a_vVal a_sk a_sv a_oKind a_oAt a_oArgs a_cKind a_cA a_cB a_outK a_outV) (hF : ls_Phi tl as 5 fr N t = F) (hle : ls_lv (T pos) ≤ 2) (n21 : T pl ≠ 21) (hk : k' = ls_red T pos 2 pl mo k) (hc : C (t + 1) = (5, pos, es, pe, fr, L, k')) : ls_G F (f_tickLimit, f_tokenCount, nI oc, 0, f_errorPlace, f_lastKind, f_lastValue, f_codeSize, nI mc, nI mu, nI (88 + xs.length), nI as.length, nI (k.1 - d), nI tl, f_state, f_pos, f_expressionStart, f_pendingCount, f_frameTop, f_localCount, a_tokenCode, a_tokenValue, a_outKind, a_outValue, a_codeOp, a_codeArg, a_codeKind, a_codePlace, a_methodSign, a_methodStart, a_declared, a_cellKind, a_cellValue, a_callReturn, a_pendingLevel, a_pendingPlace, a_pendingMore, a_frameKind, a_frameMore, a_localName) (nI mt, nI yn, nI (140 + mu), nI mc, nI (ls_sl Ls + L.length), nI (ls_sl Ls), nI ys.length, nI os.length, nI cs.length, nI (pos + e), nI 3, 0, f_errorPlace, nI (mt - tl), nI as.length, nI oc, f_lastKind, nI 0, f_lastValue, f_cnt, f_full, f_flag, f_need, a_tk, a_tv, a_tp, a_mName, a_mKind, a_mCount, a_mPar, a_mAt, a_vName, a_vDecl, a_vKind, a_vVal, a_sk, a_sv, a_oKind, a_oAt, a_oArgs, a_cKind, a_cA, a_cB, a_outK, a_outV) := by
  have h' := h
  obtain ⟨hcu, hX, hY, hO, hE, hG, hV, hl, ho, hM⟩ := h'
  have U := hcu.1
  have tt := hcu.2.2.1
  have ec := hcu.2.2.2.1
  have T72 := ls_T5 U.1 (by have := U.2.2.1; omega) ec
  obtain ⟨lt, ltN, _, d1, d2, t1, t2, t3, t4, t5⟩ := ls_ac hcu (Or.inr rfl) T72
  have B := ls_Sb5 h t3
  have LB := ls_cu_len hcu
  have as8 := hl.2.2.2.1
  have cd := ls_cod U tt ec (Nat.le_refl _) (t' := t) ⟨Nat.le_refl _, tt.2⟩ ec (Nat.le_refl _)
  have lv := ls_lv_ge (T pos)
  obtain ⟨z, w, xr, yr, os', exs, eys, wl, eos, W34, WD, NX, _⟩ := ls_cu_red hcu
  have px := ls_pgx hcu (Or.inr rfl) (List.mem_cons_self ..)
  dsimp only at px
  have TP := ls_toke2 U tt ec (Or.inr rfl) (p := pl) px.1 px.2.2.2.1
  have ol : os.length = os'.length + 1 := by rw [eos, List.length_cons]
  have W1 : ls_wt T (2, pl, mo) = 1 := by
    show (if (2 : Nat) = 0 then _ else if (2 : Nat) = 1 then _ else if (2 : Nat) = 2 then (if T pl = 21 then 0 else 1) else _) = 1
    rw [if_neg (by decide), if_neg (by decide), if_pos rfl, if_neg n21]
  obtain ⟨y, w0⟩ : ∃ y, w = [y] := by
    rw [W1] at wl
    exact List.length_eq_one_iff.mp wl
  subst w0
  have exs' : xs = z :: y :: xr := by rw [exs, if_neg (by show ¬ ((2 : Nat) = 3 ∨ (2 : Nat) = 4); omega)]; rfl
  have eys' : ys = z :: y :: yr := eys
  obtain ⟨dd, D1, D2, D3⟩ := WD rfl y (by simp)
  dsimp only at D1
  have ch := (ls_tl_ch U.1 (by omega) ec (Or.inr rfl)).1
  obtain ⟨q1, q2, q3⟩ := ch.2.1.2.2.1 rfl
  dsimp only at q1 q2 q3
  have pl1 := px.2.1 rfl
  have pls := px.2.2.2.1
  have asg := (px.2.2.2.2.2.1 rfl).resolve_left n21
  obtain ⟨pb, rfl⟩ : ∃ pb, pl = pb + 1 := ⟨pl - 1, by omega⟩
  rw [Nat.add_sub_cancel] at q2 q3
  have hV : ls_lev (ls_sm a_declared a_cellKind a_cellValue a_vDecl a_vKind a_vVal) a_vName (L :: Ls) := hV
  have nm16 : T pb - 54 < 16 := by have := q2.2; omega
  have TB := ls_toke2 U tt ec (Or.inr rfl) (p := pb) (by omega) (by omega)
  have OE : ls_oe T e (2, pb + 1, mo) = (4, pb + e, 0) := by show (4, pb + 1 - 1 + e, 0) = _; rw [Nat.add_sub_cancel]
  rw [exs'] at hX
  rw [eys'] at hY
  obtain ⟨x1, x2, x3, xx1, xx2, xx3, x4⟩ := hX
  obtain ⟨y1, y2, _, yy1, yy2, _, y4⟩ := hY
  rw [Nat.zero_add] at y1 y2 yy1 yy2
  have x1' : a_cellKind (88 + xr.length + 1) = nI z.1 := x1
  have x2' : a_cellValue (88 + xr.length + 1) = z.2 := x2
  have y1' : a_sk (yr.length + 1) = nI z.1 := y1
  have y2' : a_sv (yr.length + 1) = z.2 := y2
  have hO1 := hO
  rw [eos, OE] at hO1
  obtain ⟨o1, o2, o3, _⟩ := hO1
  have xl8 : 88 + xs.length = 88 + xr.length + 2 := by rw [exs', List.length_cons, List.length_cons]; omega
  have yl : ys.length = yr.length + 2 := by rw [eys']; rfl
  have z4 := x3.1
  have yk4 := xx3.1
  have LE : ls_lv (T pos) = 2 := by omega
  have e54 : a_tk (pb + e) = nI (T pb - 54 + 54) := by rw [TB.1, show T pb - 54 + 54 = T pb by have := q2.1; omega]
  have e2w : a_tk (pb + e + 1) = nI (T (pb + 1)) := by rw [show pb + e + 1 = pb + 1 + e by omega, TP.1]
  have sl80 : ls_sl Ls + L.length ≤ 80 := by omega
  have a24 := ls_addr24 (L := L) (nm := T pb - 54) LB.2.2.2.2.2.2.1 nm16
  have kk0 : k' = ls_em (ls_em k 5 (nI (T (pb + 1) - 19)) 0 (nI (pb + 1))) 10 (nI mo) 0 (nI (pb + 1)) := by
    rw [hk]
    unfold ls_red
    rw [if_pos rfl, if_neg n21]
  subst kk0
  have kk := ls_fem2 U.1 (by omega) hc (by decide) (by decide) (by decide) (by decide)
  have kk2 := ls_fem U.1 (by omega) hc (by decide) (by decide) (by decide) (by decide)
  have lt2 := ls_tl5 U.1 (by omega) hc
  have tz1 : t + 1 ≤ tz := by omega
  have cd2 := ls_cod (i := k.1 + 1) U tt ec (by omega) (t' := t + 1) ⟨by omega, tz1⟩ hc (by show k.1 + 1 ≤ k.1 + 1 + 1; omega)
  have kk21 : kF.2.1 (k.1 + 1) = 10 := kk2.1
  have kk22 : kF.2.2.1 (k.1 + 1) = nI mo := kk2.2.1
  rw [show k.1 + 1 - d = k.1 - d + 1 by omega] at cd2
  have w40 : 24 ≤ T (pb + 1) - 19 ∧ T (pb + 1) - 19 ≤ 40 := by omega
  rw [q3] at D1
  have dne : a_declared (ls_cell (ls_addr L (T pb - 54)) as.length) ≠ -1 := by rw [D1]; exact ls_nin (by omega)
  have YA : ∀ post : SY → Prop, wpY_assign post (nI mt, nI yn, nI (140 + mu), nI mc, nI (ls_sl Ls + L.length), nI (ls_sl Ls), nI ys.length, nI os'.length, nI cs.length, nI (pos + e), nI 3, 0, f_errorPlace, nI (mt - tl), nI as.length, nI oc, f_lastKind, nI 0, f_lastValue, f_cnt, f_full, f_flag, f_need, a_tk, a_tv, a_tp, a_mName, a_mKind, a_mCount, a_mPar, a_mAt, a_vName, a_vDecl, a_vKind, a_vVal, a_sk, a_sv, a_oKind, a_oAt, a_oArgs, a_cKind, a_cA, a_cB, a_outK, a_outV) (nI (pb + e)) → wpY_after post (nI mt, nI yn, nI (140 + mu), nI mc, nI (ls_sl Ls + L.length), nI (ls_sl Ls), nI ys.length, nI os.length, nI cs.length, nI (pos + e), nI 3, 0, f_errorPlace, nI (mt - tl), nI as.length, nI oc, f_lastKind, nI 0, f_lastValue, f_cnt, f_full, f_flag, f_need, a_tk, a_tv, a_tp, a_mName, a_mKind, a_mCount, a_mPar, a_mAt, a_vName, a_vDecl, a_vKind, a_vVal, a_sk, a_sv, a_oKind, a_oAt, a_oArgs, a_cKind, a_cA, a_cB, a_outK, a_outV) := by
    intro post g
    rw [ol]
    exact hy_after_r (kd := 4) (lq := T pb) t3 t1 t2 (by omega) o1 ⟨by omega, by omega⟩ o2 TB.2.2.1 TB.1 TB.2.1 (Or.inl LE) (fun _ => g) (fun q => by omega) (fun q => by omega)
  rcases ls_vr hG hV nm16 LB.2.2.2.2.2.1 with ⟨sm, dcl⟩ | ⟨_, g2, _⟩
  · obtain ⟨dv, kv, s1, s2, s3, s4, s5, s6, s7, s8, s9⟩ := sm
    have dvd : dv = dd := by
      rw [s3] at D1
      exact (ls_k8 (by omega) (by omega)).mp D1
    subst dvd
    have ea5 : a_codeArg (k.1 - d) = nI (T (pb + 1) - 19) := cd.2.2.2.1.trans kk.2.1
    have op5 : a_codeOp (k.1 - d) = 5 := cd.2.2.1.trans kk.1
    cases hv : ls_bin (T (pb + 1) - 19) y.1 z.1 y.2 z.2 with
    | ok r =>
      obtain ⟨kb, vb⟩ := r
      obtain ⟨wb, BF⟩ := ls_bin_wf xx3 x3 hv w40
      obtain ⟨kb0, nb⟩ := BF (by omega)
      have kb4 := wb.1
      generalize hkz : (if dv = 5 then kb else dv) = kz
      have kz4 : kz ≤ 4 := by
        rw [← hkz]
        split
        · exact kb4
        · omega
      have wz : ls_wf kz (ls_nar kz vb) := by
        refine ls_nar_wf kz4 (fun q => wb.2.1 ?_)
        rw [← hkz] at q
        by_cases d5 : dv = 5
        · rw [if_pos d5] at q; exact q
        · rw [if_neg d5] at q
          exact kb0.mpr ((D3.resolve_left d5).mp q)
      have k5 : dv = 5 ∨ kz = dv := by
        rw [← hkz]
        by_cases q : dv = 5
        · exact Or.inl q
        · exact Or.inr (if_neg q)
      obtain ⟨hG', hV'⟩ := ls_wr (t := dv) (k := kz) (v := ls_nar kz vb) hG hV nm16 LB.2.2.2.2.2.1 (ls_cu_l8 hcu) sl80 s1 kz4 wz k5
      rw [ls_upd_id s3, ls_upd_id s5] at hG' hV'
      have cell88 := ls_cell_lt (a := ls_addr L (T pb - 54)) (ac := as.length) a24 as8
      have P := ls_Phi_lt (tl := tl) (as := as) (st := 5) (st' := 5) (fr := fr) (fr' := fr) (N := N) (t := t) (t' := t + 1) (Nat.le_refl _) (by omega) ltN
      have cu' := NX a_declared pos _ (kz, ls_nar kz vb) (fun _ _ => rfl) hc
      have K88 : ∀ c, c < 88 → upd (upd (upd a_cellKind (88 + xr.length) (nI kb)) (ls_cell (ls_addr L (T pb - 54)) as.length) (nI kz)) (88 + xr.length) (nI kz) c = upd a_cellKind (ls_cell (ls_addr L (T pb - 54)) as.length) (nI kz) c ∧ vp_updL (vp_updL (vp_updL a_cellValue (88 + xr.length) vb) (ls_cell (ls_addr L (T pb - 54)) as.length) (ls_nar kz vb)) (88 + xr.length) (ls_nar kz vb) c = vp_updL a_cellValue (ls_cell (ls_addr L (T pb - 54)) as.length) (ls_nar kz vb) c := by
        intro c hc'
        rw [pk_un (by omega), pk_uLn (by omega)]
        by_cases q : c = ls_cell (ls_addr L (T pb - 54)) as.length
        · rw [q, pk_us, pk_us, pk_uLs, pk_uLs]; exact ⟨rfl, rfl⟩
        · rw [pk_un q, pk_un q, pk_uLn q, pk_uLn q, pk_un (by omega), pk_uLn (by omega)]; exact ⟨rfl, rfl⟩
      have S' : ls_S yn mt tl oc mc mu ((T, V, C, kF, n, N, d, e, ta, tz)) (t + 1) as ((5, pos, es, pe, fr, L, ls_em (ls_em k 5 (nI (T (pb + 1) - 19)) 0 (nI (pb + 1))) 10 (nI mo) 0 (nI (pb + 1)))) Ls ((kz, ls_nar kz vb) :: xr) ((kz, ls_nar kz vb) :: yr) os' cs f_tickLimit a_outKind a_outValue a_codeOp a_codeArg a_codeKind a_codePlace a_methodSign a_methodStart a_declared (upd (upd (upd a_cellKind (88 + xr.length) (nI kb)) (ls_cell (ls_addr L (T pb - 54)) as.length) (nI kz)) (88 + xr.length) (nI kz)) (vp_updL (vp_updL (vp_updL a_cellValue (88 + xr.length) vb) (ls_cell (ls_addr L (T pb - 54)) as.length) (ls_nar kz vb)) (88 + xr.length) (ls_nar kz vb)) a_callReturn a_tk a_tv a_tp a_mName a_mKind a_mCount a_mPar a_mAt a_vName a_vDecl (upd a_vKind (ls_yp (ls_sl Ls) L (T pb - 54)) (nI kz)) (vp_updL a_vVal (ls_yp (ls_sl Ls) L (T pb - 54)) (ls_nar kz vb)) (upd a_sk yr.length (nI kz)) (vp_updL a_sv yr.length (ls_nar kz vb)) a_oKind a_oAt a_oArgs a_cKind a_cA a_cB a_outK a_outV := by
        refine ⟨cu', ls_stk_push wz (ls_stk_up (by omega) (ls_stk_up (by omega) x4)), ?_, ?_, hE, ls_gl_k K88 hG', ls_lev_k K88 (by rw [List.length_cons]; omega) (ls_cu_l8 hcu) hV', hl, ho, hM⟩
        · have := ls_stk_push (o := 0) wz y4
          rw [Nat.zero_add] at this
          exact this
        · rw [eos] at hO
          exact hO.2.2.2
      have G0 : ls_G (ls_Phi tl as 5 fr N (t + 1)) (f_tickLimit, f_tokenCount, nI oc, 0, f_errorPlace, f_lastKind, f_lastValue, f_codeSize, nI mc, nI mu, nI (88 + xr.length + 1), nI as.length, nI ((ls_em (ls_em k 5 (nI (T (pb + 1) - 19)) 0 (nI (pb + 1))) 10 (nI mo) 0 (nI (pb + 1))).1 - d), nI tl, f_state, f_pos, f_expressionStart, f_pendingCount, f_frameTop, f_localCount, a_tokenCode, a_tokenValue, a_outKind, a_outValue, a_codeOp, a_codeArg, a_codeKind, a_codePlace, a_methodSign, a_methodStart, a_declared, upd (upd (upd a_cellKind (88 + xr.length) (nI kb)) (ls_cell (ls_addr L (T pb - 54)) as.length) (nI kz)) (88 + xr.length) (nI kz), vp_updL (vp_updL (vp_updL a_cellValue (88 + xr.length) vb) (ls_cell (ls_addr L (T pb - 54)) as.length) (ls_nar kz vb)) (88 + xr.length) (ls_nar kz vb), a_callReturn, a_pendingLevel, a_pendingPlace, a_pendingMore, a_frameKind, a_frameMore, a_localName) (nI mt, nI yn, nI (140 + mu), nI mc, nI (ls_sl Ls + L.length), nI (ls_sl Ls), nI (yr.length + 1), nI os'.length, nI cs.length, nI (pos + e), nI (ls_md 5 pe), 0, f_errorPlace, nI (mt - tl), nI as.length, nI oc, f_lastKind, nI (ls_pt 5 fr), f_lastValue, f_cnt, f_full, f_flag, f_need, a_tk, a_tv, a_tp, a_mName, a_mKind, a_mCount, a_mPar, a_mAt, a_vName, a_vDecl, upd a_vKind (ls_yp (ls_sl Ls) L (T pb - 54)) (nI kz), vp_updL a_vVal (ls_yp (ls_sl Ls) L (T pb - 54)) (ls_nar kz vb), upd a_sk yr.length (nI kz), vp_updL a_sv yr.length (ls_nar kz vb), a_oKind, a_oAt, a_oArgs, a_cKind, a_cA, a_cB, a_outK, a_outV) := ih S' (by omega) (fun q => absurd q.1 (by decide))
      rw [ls_md_5, ls_pt_x (by omega), show nI ((ls_em (ls_em k 5 (nI (T (pb + 1) - 19)) 0 (nI (pb + 1))) 10 (nI mo) 0 (nI (pb + 1))).1 - d) = nI (k.1 - d + 1 + 1) by
        congr 1
        show k.1 + 1 + 1 - d = _
        omega] at G0
      have hx : ls_xr (1 + 1) (f_tickLimit, f_tokenCount, nI oc, 0, f_errorPlace, f_lastKind, f_lastValue, f_codeSize, nI mc, nI mu, nI (88 + xs.length), nI as.length, nI (k.1 - d), nI tl, f_state, f_pos, f_expressionStart, f_pendingCount, f_frameTop, f_localCount, a_tokenCode, a_tokenValue, a_outKind, a_outValue, a_codeOp, a_codeArg, a_codeKind, a_codePlace, a_methodSign, a_methodStart, a_declared, a_cellKind, a_cellValue, a_callReturn, a_pendingLevel, a_pendingPlace, a_pendingMore, a_frameKind, a_frameMore, a_localName) (f_tickLimit, f_tokenCount, nI oc, 0, f_errorPlace, f_lastKind, f_lastValue, f_codeSize, nI mc, nI mu, nI (88 + xr.length + 1), nI as.length, nI (k.1 - d + 1 + 1), nI tl, f_state, f_pos, f_expressionStart, f_pendingCount, f_frameTop, f_localCount, a_tokenCode, a_tokenValue, a_outKind, a_outValue, a_codeOp, a_codeArg, a_codeKind, a_codePlace, a_methodSign, a_methodStart, a_declared, upd (upd (upd a_cellKind (88 + xr.length) (nI kb)) (ls_cell (ls_addr L (T pb - 54)) as.length) (nI kz)) (88 + xr.length) (nI kz), vp_updL (vp_updL (vp_updL a_cellValue (88 + xr.length) vb) (ls_cell (ls_addr L (T pb - 54)) as.length) (ls_nar kz vb)) (88 + xr.length) (ls_nar kz vb), a_callReturn, a_pendingLevel, a_pendingPlace, a_pendingMore, a_frameKind, a_frameMore, a_localName) := by
        rw [xl8]
        refine ls_xr_t (u' := (f_tickLimit, f_tokenCount, nI oc, 0, f_errorPlace, f_lastKind, f_lastValue, f_codeSize, nI mc, nI mu, nI (88 + xr.length + 1), nI as.length, nI (k.1 - d + 1), nI tl, f_state, f_pos, f_expressionStart, f_pendingCount, f_frameTop, f_localCount, a_tokenCode, a_tokenValue, a_outKind, a_outValue, a_codeOp, a_codeArg, a_codeKind, a_codePlace, a_methodSign, a_methodStart, a_declared, upd a_cellKind (88 + xr.length) (nI kb), vp_updL a_cellValue (88 + xr.length) vb, a_callReturn, a_pendingLevel, a_pendingPlace, a_pendingMore, a_frameKind, a_frameMore, a_localName)) (xr_of (fun post f s hs hh => gx_5 d2 hs op5 (hx_binary d2 ⟨by omega, by omega⟩ w40 ea5 xx1 x1' (by omega) (by omega) xx2 x2' (fun k2 v2 q => ?_) (fun e2 q => by rw [hv] at q; cases q)))) (xr_of (fun post f s hs hh => gx_10 cd2.2.1 hs (cd2.2.2.1.trans kk21) (hx_update (t := dv) (k := kb) (v := vb) cd2.2.1 ⟨by omega, by omega⟩ a24 as8 s1 (by rw [cd2.2.2.2.1, kk22, q3]) pk_us kb4 pk_uLs s3 ?_)))
        · rw [hv] at q
          injection q with q
          injection q with q1 q2
          subst q1 q2
          exact hh
        · rw [hkz]
          exact hh
      refine ls_G_go (b := 1) hx (yr_after B (fun post hp => YA post ?_)) G0 (by omega) (by omega)
      rw [yl]
      refine hy_assign_o (by omega) (by omega) asg e2w yy1 y1' yy2 y2' xx3 x3 (fun k2 v2 q => ?_) (fun e2 _ _ q => by rw [hv] at q; cases q)
      rw [hv] at q
      injection q with q
      injection q with q1 q2
      subst q1 q2
      refine hy_assign_u (t := dv) (k := kb) (v := vb) (by omega) (by omega) (by omega) nm16 e54 ⟨n21, by omega⟩ LB.2.2.2.2.2.2.2.1 sl80 hV.1 rfl pk_us kb4 pk_uLs s1 dcl s5 (fun sk2 sv2 kd2 v2 e1 e2 e3 e4 e5 => ?_)
      have ek : kd2 = kz := by rw [e1, hkz]
      have ev : v2 = ls_nar kz vb := by
        rw [e2, ← hkz]
        by_cases d5 : dv = 5
        · rw [if_pos d5, if_pos d5, nb]
        · rw [if_neg d5, if_neg d5]
      subst ek ev
      rw [ls_updx (f := a_sk) e3 (fun j hj => (e5 j hj).1.trans (pk_un hj)), ls_updLx (f := a_sv) e4 (fun j hj => (e5 j hj).2.trans (pk_uLn hj))]
      exact hp
    | error er =>
      have erb : er ≠ 0 ∧ er < 10 := by
        unfold ls_bin at hv
        split at hv
        · injection hv with hv; omega
        · split at hv
          · injection hv with hv; omega
          · cases hv
      have hx : ls_xr 1 (f_tickLimit, f_tokenCount, nI oc, 0, f_errorPlace, f_lastKind, f_lastValue, f_codeSize, nI mc, nI mu, nI (88 + xs.length), nI as.length, nI (k.1 - d), nI tl, f_state, f_pos, f_expressionStart, f_pendingCount, f_frameTop, f_localCount, a_tokenCode, a_tokenValue, a_outKind, a_outValue, a_codeOp, a_codeArg, a_codeKind, a_codePlace, a_methodSign, a_methodStart, a_declared, a_cellKind, a_cellValue, a_callReturn, a_pendingLevel, a_pendingPlace, a_pendingMore, a_frameKind, a_frameMore, a_localName) (f_tickLimit, f_tokenCount, nI oc, nI er, nI (pb + 1), f_lastKind, f_lastValue, f_codeSize, nI mc, nI mu, nI (88 + xr.length), nI as.length, nI (k.1 - d + 1), nI tl, f_state, f_pos, f_expressionStart, f_pendingCount, f_frameTop, f_localCount, a_tokenCode, a_tokenValue, a_outKind, a_outValue, a_codeOp, a_codeArg, a_codeKind, a_codePlace, a_methodSign, a_methodStart, a_declared, a_cellKind, a_cellValue, a_callReturn, a_pendingLevel, a_pendingPlace, a_pendingMore, a_frameKind, a_frameMore, a_localName) := by
        rw [xl8]
        refine xr_of (fun post f s hs hh => gx_5 d2 hs op5 (hx_binary d2 ⟨by omega, by omega⟩ w40 ea5 xx1 x1' (by omega) (by omega) xx2 x2' (fun k2 v2 q => by rw [hv] at q; cases q) (fun e2 q => ?_)))
        rw [hv] at q
        injection q with q
        subst q
        rw [cd.2.2.2.2.2, kk.2.2.2]
        exact hh
      have hy : ls_yr 1 (nI mt, nI yn, nI (140 + mu), nI mc, nI (ls_sl Ls + L.length), nI (ls_sl Ls), nI ys.length, nI os.length, nI cs.length, nI (pos + e), nI 3, 0, f_errorPlace, nI (mt - tl), nI as.length, nI oc, f_lastKind, nI 0, f_lastValue, f_cnt, f_full, f_flag, f_need, a_tk, a_tv, a_tp, a_mName, a_mKind, a_mCount, a_mPar, a_mAt, a_vName, a_vDecl, a_vKind, a_vVal, a_sk, a_sv, a_oKind, a_oAt, a_oArgs, a_cKind, a_cA, a_cB, a_outK, a_outV) (nI mt, nI yn, nI (140 + mu), nI mc, nI (ls_sl Ls + L.length), nI (ls_sl Ls), nI (yr.length + 1), nI os'.length, nI cs.length, nI (pos + e), nI 3, nI er, nI (pb + 1), nI (mt - tl), nI as.length, nI oc, f_lastKind, nI 0, f_lastValue, f_cnt, f_full, f_flag, f_need, a_tk, a_tv, a_tp, a_mName, a_mKind, a_mCount, a_mPar, a_mAt, a_vName, a_vDecl, a_vKind, a_vVal, a_sk, a_sv, a_oKind, a_oAt, a_oArgs, a_cKind, a_cA, a_cB, a_outK, a_outV) := by
        refine yr_after B (fun post hp => YA post ?_)
        rw [yl]
        refine hy_assign_o (by omega) (by omega) asg e2w yy1 y1' yy2 y2' xx3 x3 (fun k2 v2 q => by rw [hv] at q; cases q) (fun e2 _ _ q => ?_)
        rw [hv] at q
        injection q with q
        subst q
        rw [show pb + e + 1 = pb + 1 + e by omega, TP.2.2.2]
        exact hp
      exact gs_err h erb (by rw [← hF]; unfold ls_Phi; omega) (by rw [← hF]; unfold ls_Phi; omega) hx hy
  · exact absurd g2 dne
end
