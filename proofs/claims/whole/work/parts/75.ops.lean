/-! Signs, casts, operators -/
section
variable {f_most f_n f_stored f_nm f_nEnv f_base f_ns f_no f_nc f_pc f_mode f_err f_errAt f_ticks f_calls f_outs f_resK f_part f_cnt f_full f_flag f_need : Int32}
variable {f_resV : Int64}
variable {a_tk a_tp a_mName a_mKind a_mCount a_mPar a_mAt a_vName a_vDecl a_vKind a_sk a_oKind a_oAt a_oArgs a_cKind a_cA a_cB a_outK : Nat → Int32}
variable {a_tv a_vVal a_sv a_outV : Nat → Int64}
variable {nc pc n : Nat} {v' : (Nat → Int32) → (Nat → Int64) → SY}
set_option maxHeartbeats 200000 in
theorem yr_after2 (hb : nc < 1000 ∧ pc < 1000 ∧ n < 1000) (h : ∀ post : SY → Prop, (∀ a b, post (v' a b)) → wpY_after post (f_most, nI n, f_stored, f_nm, f_nEnv, f_base, f_ns, f_no, nI nc, nI pc, nI 3, 0, f_errAt, f_ticks, f_calls, f_outs, f_resK, f_part, f_resV, f_cnt, f_full, f_flag, f_need, a_tk, a_tv, a_tp, a_mName, a_mKind, a_mCount, a_mPar, a_mAt, a_vName, a_vDecl, a_vKind, a_vVal, a_sk, a_sv, a_oKind, a_oAt, a_oArgs, a_cKind, a_cA, a_cB, a_outK, a_outV)) : ∀ post f s, s + 1 ≤ 2000000 → (∀ a b, ls_YH post f (s + 1) (v' a b)) → ls_YH post (f + 1) s (f_most, nI n, f_stored, f_nm, f_nEnv, f_base, f_ns, f_no, nI nc, nI pc, nI 3, 0, f_errAt, f_ticks, f_calls, f_outs, f_resK, f_part, f_resV, f_cnt, f_full, f_flag, f_need, a_tk, a_tv, a_tp, a_mName, a_mKind, a_mCount, a_mPar, a_mAt, a_vName, a_vDecl, a_vKind, a_vVal, a_sk, a_sv, a_oKind, a_oAt, a_oArgs, a_cKind, a_cA, a_cB, a_outK, a_outV) := fun post f s hs hh =>
  gy_go (by omega) (by decide) hb (fun q => absurd q (by decide)) (fun q => absurd q (by decide)) (fun q => absurd q (by decide)) (fun q => absurd q (by decide)) (fun _ => h _ hh)
set_option maxHeartbeats 200000 in
theorem ls_updx {f g : Nat → Int32} {m : Nat} {x : Int32} (h1 : g m = x) (h2 : ∀ j, j ≠ m → g j = f j) : g = upd f m x := by
  funext j
  by_cases q : j = m
  · subst q; rw [pk_us, h1]
  · rw [pk_un q, h2 j q]
set_option maxHeartbeats 200000 in
theorem ls_updLx {f g : Nat → Int64} {m : Nat} {x : Int64} (h1 : g m = x) (h2 : ∀ j, j ≠ m → g j = f j) : g = vp_updL f m x := by
  funext j
  by_cases q : j = m
  · subst q; rw [pk_uLs, h1]
  · rw [pk_uLn q, h2 j q]
end
section
variable {f_tickLimit f_tokenCount f_outCount f_error f_errorPlace f_lastKind f_codeSize f_methodCount f_methodTokens f_cellCount f_activeCalls f_next f_ticksLeft f_state f_pos f_expressionStart f_pendingCount f_frameTop f_localCount : Int32}
variable {f_lastValue : Int64}
variable {a_tokenCode a_tokenValue a_outKind a_codeOp a_codeArg a_codeKind a_codePlace a_methodSign a_methodStart a_declared a_cellKind a_callReturn a_pendingLevel a_pendingPlace a_pendingMore a_frameKind a_frameMore a_localName : Nat → Int32}
variable {a_outValue a_cellValue : Nat → Int64}
variable {f_cnt f_full f_flag f_need : Int32}
variable {a_tk a_tp a_mName a_mKind a_mCount a_mPar a_mAt a_vName a_vDecl a_vKind a_sk a_oKind a_oAt a_oArgs a_cKind a_cA a_cB a_outK : Nat → Int32}
variable {a_tv a_vVal a_sv a_outV : Nat → Int64}
variable {yn mt tl oc mc mu : Nat} {T : Nat → Nat} {V : Nat → Int32} {C : Nat → LsC} {kF : LsK} {n N d e ta tz t : Nat} {as : List LsA} {st pos es : Nat} {pe : List LsP} {fr : List LsF} {L : List Nat} {k : LsK} {Ls : List (List Nat)} {xs ys : List LsV} {os cs : List LsP} {F : Nat}
set_option maxHeartbeats 200000 in
/-- casts and signs -/
theorem gs_r13 {pl mo : Nat} {k' : LsK} (ih : ls_IH F) (h : ls_S yn mt tl oc mc mu ((T, V, C, kF, n, N, d, e, ta, tz)) t as ((5, pos, es, (13, pl, mo) :: pe, fr, L, k)) Ls xs ys os cs f_tickLimit a_outKind a_outValue a_codeOp a_codeArg a_codeKind a_codePlace a_methodSign a_methodStart a_declared a_cellKind a_cellValue a_callReturn a_tk a_tv a_tp a_mName a_mKind a_mCount a_mPar a_mAt a_vName a_vDecl a_vKind a_vVal a_sk a_sv a_oKind a_oAt a_oArgs a_cKind a_cA a_cB a_outK a_outV) (hF : ls_Phi tl as 5 fr N t = F) (hk : k' = ls_red T pos 13 pl mo k) (hc : C (t + 1) = (5, pos, es, pe, fr, L, k')) : ls_G F (f_tickLimit, f_tokenCount, nI oc, 0, f_errorPlace, f_lastKind, f_lastValue, f_codeSize, nI mc, nI mu, nI (88 + xs.length), nI as.length, nI (k.1 - d), nI tl, f_state, f_pos, f_expressionStart, f_pendingCount, f_frameTop, f_localCount, a_tokenCode, a_tokenValue, a_outKind, a_outValue, a_codeOp, a_codeArg, a_codeKind, a_codePlace, a_methodSign, a_methodStart, a_declared, a_cellKind, a_cellValue, a_callReturn, a_pendingLevel, a_pendingPlace, a_pendingMore, a_frameKind, a_frameMore, a_localName) (nI mt, nI yn, nI (140 + mu), nI mc, nI (ls_sl Ls + L.length), nI (ls_sl Ls), nI ys.length, nI os.length, nI cs.length, nI (pos + e), nI 3, 0, f_errorPlace, nI (mt - tl), nI as.length, nI oc, f_lastKind, nI 0, f_lastValue, f_cnt, f_full, f_flag, f_need, a_tk, a_tv, a_tp, a_mName, a_mKind, a_mCount, a_mPar, a_mAt, a_vName, a_vDecl, a_vKind, a_vVal, a_sk, a_sv, a_oKind, a_oAt, a_oArgs, a_cKind, a_cA, a_cB, a_outK, a_outV) := by
  have h' := h
  obtain ⟨hcu, hX, hY, hO, hE, hG, hV, hl, ho, hM⟩ := h'
  have U := hcu.1
  have tt := hcu.2.2.1
  have ec := hcu.2.2.2.1
  have T72 := ls_T5 U.1 (by have := U.2.2.1; omega) ec
  obtain ⟨lt, ltN, _, d1, d2, t1, t2, t3, t4, t5⟩ := ls_ac hcu (Or.inr rfl) T72
  have B := ls_Sb5 h t3
  have LB := ls_cu_len hcu
  have as8 := hl.2.2.2.1
  have cd := ls_cod U tt ec (Nat.le_refl _) (t' := t) ⟨Nat.le_refl _, tt.2⟩ ec (Nat.le_refl _)
  have lv := ls_lv_ge (T pos)
  obtain ⟨z, w, xr, yr, os', exs, eys, wl, eos, W34, WD, NX, _⟩ := ls_cu_red hcu
  have px := ls_pgx hcu (Or.inr rfl) (List.mem_cons_self ..)
  dsimp only at px
  have TP := ls_toke2 U tt ec (Or.inr rfl) (p := pl) px.1 px.2.2.2.1
  have ol : os.length = os'.length + 1 := by rw [eos, List.length_cons]
  have w0 : w = [] := List.eq_nil_of_length_eq_zero wl
  subst w0
  have exs' : xs = z :: xr := by rw [exs, if_neg (by show ¬ ((13 : Nat) = 3 ∨ (13 : Nat) = 4); omega)]; rfl
  have eys' : ys = z :: yr := eys
  have px13 := px.2.2.2.2.2.2.1 rfl
  have OE : ls_oe T e (13, pl, mo) = (if T pl = 15 then 6 else 5, pl + e, 0) := rfl
  rw [exs'] at hX
  rw [eys'] at hY
  obtain ⟨x1, x2, x3, x4⟩ := hX
  obtain ⟨y1, y2, _, y4⟩ := hY
  rw [Nat.zero_add] at y1 y2
  have hO1 := hO
  rw [eos, OE] at hO1
  obtain ⟨o1, o2, o3, _⟩ := hO1
  have xl : xs.length = xr.length + 1 := by rw [exs', List.length_cons]
  have xl8 : 88 + xs.length = 88 + xr.length + 1 := by omega
  have yl : ys.length = yr.length + 1 := by rw [eys', List.length_cons]
  have z4 := x3.1
  have TQ : pl + e + 1 < 384 := by have := px.2.2.2.1; omega
  have YA : ∀ post : SY → Prop, wpY_unary post (nI mt, nI yn, nI (140 + mu), nI mc, nI (ls_sl Ls + L.length), nI (ls_sl Ls), nI ys.length, nI os'.length, nI cs.length, nI (pos + e), nI 3, 0, f_errorPlace, nI (mt - tl), nI as.length, nI oc, f_lastKind, nI 0, f_lastValue, f_cnt, f_full, f_flag, f_need, a_tk, a_tv, a_tp, a_mName, a_mKind, a_mCount, a_mPar, a_mAt, a_vName, a_vDecl, a_vKind, a_vVal, a_sk, a_sv, a_oKind, a_oAt, a_oArgs, a_cKind, a_cA, a_cB, a_outK, a_outV) (nI (if T pl = 15 then 6 else 5)) (nI (pl + e)) → wpY_after post (nI mt, nI yn, nI (140 + mu), nI mc, nI (ls_sl Ls + L.length), nI (ls_sl Ls), nI ys.length, nI os.length, nI cs.length, nI (pos + e), nI 3, 0, f_errorPlace, nI (mt - tl), nI as.length, nI oc, f_lastKind, nI 0, f_lastValue, f_cnt, f_full, f_flag, f_need, a_tk, a_tv, a_tp, a_mName, a_mKind, a_mCount, a_mPar, a_mAt, a_vName, a_vDecl, a_vKind, a_vVal, a_sk, a_sv, a_oKind, a_oAt, a_oArgs, a_cKind, a_cA, a_cB, a_outK, a_outV) := by
    intro post g
    rw [ol]
    exact hy_after_r (kd := if T pl = 15 then 6 else 5) t3 t1 t2 (by omega) o1 (by split <;> omega) o2 TP.2.2.1 TP.1 TP.2.1 (Or.inr ⟨by split <;> omega, Or.inl (by split <;> omega)⟩) (fun q => by split at q <;> omega) (fun _ => g) (fun q => by split at q <;> omega)
  have lt2 := ls_tl5 U.1 (by omega) hc
  by_cases c15 : T pl = 15
  · have kk0 : k' = ls_em k 6 15 (nI mo) (nI pl) := by
      rw [hk]
      unfold ls_red
      rw [if_neg (by decide), if_pos rfl, if_pos c15]
    subst kk0
    have kk := ls_fem U.1 (by omega) hc (by decide) (by decide) (by decide) (by decide)
    have ch := (ls_tl_ch U.1 (by omega) ec (Or.inr rfl)).1
    obtain ⟨em, em5⟩ := ch.2.1.2.2.2 rfl c15
    dsimp only at em em5
    have TP1 := ls_toke2 U tt ec (Or.inr rfl) (p := pl + 1) (by have := px.1; omega) (by
      have nx := px.2.2.2.1
      apply Decidable.byContradiction
      intro q
      have : pos = pl + 1 := by omega
      have q5 := ls_qe U.1 _ t k (by omega) ec
      rw [this] at q5
      have lvv := ls_lv_c (T (pl + 1))
      omega)
    rw [if_pos c15] at YA
    cases hv : ls_cst mo z.1 z.2 with
    | some r =>
      obtain ⟨kz, vz⟩ := r
      have wz : ls_wf kz vz := ls_cst_wf x3 (by omega) hv
      refine gs_red (a := 1) (b := 1) (z' := (kz, vz)) (ck' := upd a_cellKind (88 + xr.length) (nI kz)) (cv' := vp_updL a_cellValue (88 + xr.length) vz) (sk' := upd a_sk yr.length (nI kz)) (sv' := vp_updL a_sv yr.length vz) ih h hF hc exs eys eos (NX a_declared pos _ _ (fun _ _ => rfl) hc) (by omega) (by omega) (fun c hc' => ⟨pk_un (by omega), pk_uLn (by omega)⟩) (ls_stk_push wz x4) (by have := ls_stk_push (o := 0) wz y4; rw [Nat.zero_add] at this; exact this) ?_ ?_
      · rw [ls_ni d1 (show (ls_em k 6 15 (nI mo) (nI pl)).1 = k.1 + 1 from rfl), xl8]
        refine xr_of (fun post f s hs hh => gx_6 d2 hs (cd.2.2.1.trans kk.1) (hx_cast (t := mo) d2 ⟨by omega, by omega⟩ (by omega) (cd.2.2.2.2.1.trans kk.2.2.1) x1 (by omega) x2 (fun k2 v2 q => ?_) (fun q => by rw [hv] at q; cases q)))
        rw [hv] at q
        injection q with q
        injection q with q1 q2
        subst q1 q2
        exact hh
      · refine yr_after B (fun post hp => YA post ?_)
        rw [yl]
        refine hy_cast (t := mo) (by omega) TQ (by omega) (by rw [show pl + e + 1 = pl + 1 + e by omega, TP1.1, em]) y1 z4 y2 (fun k2 v2 q => ?_) (fun _ _ q => by rw [hv] at q; cases q)
        rw [hv] at q
        injection q with q
        injection q with q1 q2
        subst q1 q2
        exact hp
    | none =>
      have hx : ls_xr 1 (f_tickLimit, f_tokenCount, nI oc, 0, f_errorPlace, f_lastKind, f_lastValue, f_codeSize, nI mc, nI mu, nI (88 + xs.length), nI as.length, nI (k.1 - d), nI tl, f_state, f_pos, f_expressionStart, f_pendingCount, f_frameTop, f_localCount, a_tokenCode, a_tokenValue, a_outKind, a_outValue, a_codeOp, a_codeArg, a_codeKind, a_codePlace, a_methodSign, a_methodStart, a_declared, a_cellKind, a_cellValue, a_callReturn, a_pendingLevel, a_pendingPlace, a_pendingMore, a_frameKind, a_frameMore, a_localName) (f_tickLimit, f_tokenCount, nI oc, nI 3, nI pl, f_lastKind, f_lastValue, f_codeSize, nI mc, nI mu, nI (88 + xr.length), nI as.length, nI (k.1 - d + 1), nI tl, f_state, f_pos, f_expressionStart, f_pendingCount, f_frameTop, f_localCount, a_tokenCode, a_tokenValue, a_outKind, a_outValue, a_codeOp, a_codeArg, a_codeKind, a_codePlace, a_methodSign, a_methodStart, a_declared, a_cellKind, a_cellValue, a_callReturn, a_pendingLevel, a_pendingPlace, a_pendingMore, a_frameKind, a_frameMore, a_localName) := by
        rw [xl8]
        refine xr_of (fun post f s hs hh => gx_6 d2 hs (cd.2.2.1.trans kk.1) (hx_cast (t := mo) d2 ⟨by omega, by omega⟩ (by omega) (cd.2.2.2.2.1.trans kk.2.2.1) x1 (by omega) x2 (fun k2 v2 q => by rw [hv] at q; cases q) (fun _ => ?_)))
        rw [cd.2.2.2.2.2, kk.2.2.2]
        exact hh
      have hy := yr_after2 (v' := fun sk' sv' => (nI mt, nI yn, nI (140 + mu), nI mc, nI (ls_sl Ls + L.length), nI (ls_sl Ls), nI ys.length, nI os'.length, nI cs.length, nI (pos + e), nI 3, nI 3, nI pl, nI (mt - tl), nI as.length, nI oc, f_lastKind, nI 0, f_lastValue, f_cnt, f_full, f_flag, f_need, a_tk, a_tv, a_tp, a_mName, a_mKind, a_mCount, a_mPar, a_mAt, a_vName, a_vDecl, a_vKind, a_vVal, sk', sv', a_oKind, a_oAt, a_oArgs, a_cKind, a_cA, a_cB, a_outK, a_outV)) B (fun post hp => YA post (by
        rw [yl]
        refine hy_cast (t := mo) (by omega) TQ (by omega) (by rw [show pl + e + 1 = pl + 1 + e by omega, TP1.1, em]) y1 z4 y2 (fun k2 v2 q => by rw [hv] at q; cases q) (fun sk' sv' _ => ?_)
        have := hp sk' sv'
        rw [yl] at this
        rw [TP.2.2.2]
        exact this))
      exact gs_err2 h ⟨by decide, by decide⟩ (by rw [← hF]; unfold ls_Phi; omega) (by rw [← hF]; unfold ls_Phi; omega) hx hy
  · have px2 := px13.resolve_left c15
    have kk0 : k' = ls_em k 4 (nI (T pl)) (nI mo) (nI pl) := by
      rw [hk]
      unfold ls_red
      rw [if_neg (by decide), if_pos rfl, if_neg c15]
    subst kk0
    have kk := ls_fem U.1 (by omega) hc (by decide) (by decide) (by decide) (by decide)
    rw [if_neg c15] at YA
    have w4 : T pl = 22 ∨ T pl = 23 ∨ T pl = 24 ∨ T pl = 25 := by omega
    cases hv : ls_un (T pl) z.1 z.2 with
    | some r =>
      obtain ⟨kz, vz⟩ := r
      have wz : ls_wf kz vz := ls_un_wf x3 hv
      refine gs_red (a := 1) (b := 1) (z' := (kz, vz)) (ck' := upd a_cellKind (88 + xr.length) (nI kz)) (cv' := vp_updL a_cellValue (88 + xr.length) vz) (sk' := upd a_sk yr.length (nI kz)) (sv' := vp_updL a_sv yr.length vz) ih h hF hc exs eys eos (NX a_declared pos _ _ (fun _ _ => rfl) hc) (by omega) (by omega) (fun c hc' => ⟨pk_un (by omega), pk_uLn (by omega)⟩) (ls_stk_push wz x4) (by have := ls_stk_push (o := 0) wz y4; rw [Nat.zero_add] at this; exact this) ?_ ?_
      · rw [ls_ni d1 (show (ls_em k 4 (nI (T pl)) (nI mo) (nI pl)).1 = k.1 + 1 from rfl), xl8]
        refine xr_of (fun post f s hs hh => gx_4 d2 hs (cd.2.2.1.trans kk.1) (hx_unary d2 ⟨by omega, by omega⟩ w4 (cd.2.2.2.1.trans kk.2.1) x1 (by omega) x2 (fun k2 v2 q => ?_) (fun q => by rw [hv] at q; cases q)))
        rw [hv] at q
        injection q with q
        injection q with q1 q2
        subst q1 q2
        exact hh
      · refine yr_after B (fun post hp => YA post ?_)
        rw [yl]
        refine hy_unary (by omega) TQ w4 TP.1 y1 z4 y2 (fun k2 v2 sk2 q s1 s2 => ?_) (fun _ _ q => by rw [hv] at q; cases q)
        rw [hv] at q
        injection q with q
        injection q with q1 q2
        subst q1 q2
        rw [ls_updx s1 s2]
        exact hp
    | none =>
      have hx : ls_xr 1 (f_tickLimit, f_tokenCount, nI oc, 0, f_errorPlace, f_lastKind, f_lastValue, f_codeSize, nI mc, nI mu, nI (88 + xs.length), nI as.length, nI (k.1 - d), nI tl, f_state, f_pos, f_expressionStart, f_pendingCount, f_frameTop, f_localCount, a_tokenCode, a_tokenValue, a_outKind, a_outValue, a_codeOp, a_codeArg, a_codeKind, a_codePlace, a_methodSign, a_methodStart, a_declared, a_cellKind, a_cellValue, a_callReturn, a_pendingLevel, a_pendingPlace, a_pendingMore, a_frameKind, a_frameMore, a_localName) (f_tickLimit, f_tokenCount, nI oc, nI 3, nI pl, f_lastKind, f_lastValue, f_codeSize, nI mc, nI mu, nI (88 + xr.length), nI as.length, nI (k.1 - d + 1), nI tl, f_state, f_pos, f_expressionStart, f_pendingCount, f_frameTop, f_localCount, a_tokenCode, a_tokenValue, a_outKind, a_outValue, a_codeOp, a_codeArg, a_codeKind, a_codePlace, a_methodSign, a_methodStart, a_declared, a_cellKind, a_cellValue, a_callReturn, a_pendingLevel, a_pendingPlace, a_pendingMore, a_frameKind, a_frameMore, a_localName) := by
        rw [xl8]
        refine xr_of (fun post f s hs hh => gx_4 d2 hs (cd.2.2.1.trans kk.1) (hx_unary d2 ⟨by omega, by omega⟩ w4 (cd.2.2.2.1.trans kk.2.1) x1 (by omega) x2 (fun k2 v2 q => by rw [hv] at q; cases q) (fun _ => ?_)))
        rw [cd.2.2.2.2.2, kk.2.2.2]
        exact hh
      have hy := yr_after2 (v' := fun sk' sv' => (nI mt, nI yn, nI (140 + mu), nI mc, nI (ls_sl Ls + L.length), nI (ls_sl Ls), nI ys.length, nI os'.length, nI cs.length, nI (pos + e), nI 3, nI 3, nI pl, nI (mt - tl), nI as.length, nI oc, f_lastKind, nI 0, f_lastValue, f_cnt, f_full, f_flag, f_need, a_tk, a_tv, a_tp, a_mName, a_mKind, a_mCount, a_mPar, a_mAt, a_vName, a_vDecl, a_vKind, a_vVal, sk', sv', a_oKind, a_oAt, a_oArgs, a_cKind, a_cA, a_cB, a_outK, a_outV)) B (fun post hp => YA post (by
        rw [yl]
        refine hy_unary (by omega) TQ w4 TP.1 y1 z4 y2 (fun k2 v2 sk2 q s1 s2 => by rw [hv] at q; cases q) (fun sk' sv' _ => ?_)
        have := hp sk' sv'
        rw [yl] at this
        rw [TP.2.2.2]
        exact this))
      exact gs_err2 h ⟨by decide, by decide⟩ (by rw [← hF]; unfold ls_Phi; omega) (by rw [← hF]; unfold ls_Phi; omega) hx hy
set_option maxHeartbeats 200000 in
/-- operators between two operands -/
theorem gs_r7 {lv0 pl mo : Nat} {k' : LsK} (ih : ls_IH F) (h : ls_S yn mt tl oc mc mu ((T, V, C, kF, n, N, d, e, ta, tz)) t as ((5, pos, es, (lv0, pl, mo) :: pe, fr, L, k)) Ls xs ys os cs f_tickLimit a_outKind a_outValue a_codeOp a_codeArg a_codeKind a_codePlace a_methodSign a_methodStart a_declared a_cellKind a_cellValue a_callReturn a_tk a_tv a_tp a_mName a_mKind a_mCount a_mPar a_mAt a_vName a_vDecl a_vKind a_vVal a_sk a_sv a_oKind a_oAt a_oArgs a_cKind a_cA a_cB a_outK a_outV) (hF : ls_Phi tl as 5 fr N t = F) (l2 : 2 < lv0) (l13 : lv0 ≠ 13) (hle : ls_lv (T pos) ≤ lv0) (hk : k' = ls_red T pos lv0 pl mo k) (hc : C (t + 1) = (5, pos, es, pe, fr, L, k')) : ls_G F (f_tickLimit, f_tokenCount, nI oc, 0, f_errorPlace, f_lastKind, f_lastValue, f_codeSize, nI mc, nI mu, nI (88 + xs.length), nI as.length, nI (k.1 - d), nI tl, f_state, f_pos, f_expressionStart, f_pendingCount, f_frameTop, f_localCount, a_tokenCode, a_tokenValue, a_outKind, a_outValue, a_codeOp, a_codeArg, a_codeKind, a_codePlace, a_methodSign, a_methodStart, a_declared, a_cellKind, a_cellValue, a_callReturn, a_pendingLevel, a_pendingPlace, a_pendingMore, a_frameKind, a_frameMore, a_localName) (nI mt, nI yn, nI (140 + mu), nI mc, nI (ls_sl Ls + L.length), nI (ls_sl Ls), nI ys.length, nI os.length, nI cs.length, nI (pos + e), nI 3, 0, f_errorPlace, nI (mt - tl), nI as.length, nI oc, f_lastKind, nI 0, f_lastValue, f_cnt, f_full, f_flag, f_need, a_tk, a_tv, a_tp, a_mName, a_mKind, a_mCount, a_mPar, a_mAt, a_vName, a_vDecl, a_vKind, a_vVal, a_sk, a_sv, a_oKind, a_oAt, a_oArgs, a_cKind, a_cA, a_cB, a_outK, a_outV) := by
  have h' := h
  obtain ⟨hcu, hX, hY, hO, hE, hG, hV, hl, ho, hM⟩ := h'
  have U := hcu.1
  have tt := hcu.2.2.1
  have ec := hcu.2.2.2.1
  have T72 := ls_T5 U.1 (by have := U.2.2.1; omega) ec
  obtain ⟨lt, ltN, _, d1, d2, t1, t2, t3, t4, t5⟩ := ls_ac hcu (Or.inr rfl) T72
  have B := ls_Sb5 h t3
  have LB := ls_cu_len hcu
  have as8 := hl.2.2.2.1
  have cd := ls_cod U tt ec (Nat.le_refl _) (t' := t) ⟨Nat.le_refl _, tt.2⟩ ec (Nat.le_refl _)
  have lv := ls_lv_ge (T pos)
  obtain ⟨z, w, xr, yr, os', exs, eys, wl, eos, W34, WD, NX, _⟩ := ls_cu_red hcu
  have px := ls_pgx hcu (Or.inr rfl) (List.mem_cons_self ..)
  dsimp only at px
  have TP := ls_toke2 U tt ec (Or.inr rfl) (p := pl) px.1 px.2.2.2.1
  have ol : os.length = os'.length + 1 := by rw [eos, List.length_cons]
  have W1 : ls_wt T (lv0, pl, mo) = 1 := ls_wt_1 l2 l13
  obtain ⟨y, w0⟩ : ∃ y, w = [y] := by
    rw [W1] at wl
    exact List.length_eq_one_iff.mp wl
  subst w0
  have plv := px.2.2.2.2.2.2.2.1 l2 l13
  have eys' : ys = z :: y :: yr := eys
  have OE : ls_oe T e (lv0, pl, mo) = (7, pl + e, 0) := by
    show (if lv0 = 0 then _ else if lv0 = 1 then _ else if lv0 = 2 then _ else if lv0 = 13 then _ else _) = _
    rw [if_neg (by omega), if_neg (by omega), if_neg (by omega), if_neg l13]
  rw [eys'] at hY
  obtain ⟨y1, y2, y3, yy1, yy2, yy3, y4⟩ := hY
  rw [Nat.zero_add] at y1 y2 yy1 yy2
  have hO1 := hO
  rw [eos, OE] at hO1
  obtain ⟨o1, o2, o3, _⟩ := hO1
  have yl : ys.length = yr.length + 2 := by rw [eys']; rfl
  have y1' : a_sk (yr.length + 1) = nI z.1 := y1
  have y2' : a_sv (yr.length + 1) = z.2 := y2
  have YA : ∀ post : SY → Prop, wpY_operate post (nI mt, nI yn, nI (140 + mu), nI mc, nI (ls_sl Ls + L.length), nI (ls_sl Ls), nI ys.length, nI os'.length, nI cs.length, nI (pos + e), nI 3, 0, f_errorPlace, nI (mt - tl), nI as.length, nI oc, f_lastKind, nI 0, f_lastValue, f_cnt, f_full, f_flag, f_need, a_tk, a_tv, a_tp, a_mName, a_mKind, a_mCount, a_mPar, a_mAt, a_vName, a_vDecl, a_vKind, a_vVal, a_sk, a_sv, a_oKind, a_oAt, a_oArgs, a_cKind, a_cA, a_cB, a_outK, a_outV) (nI (T pl)) (nI (pl + e)) → wpY_after post (nI mt, nI yn, nI (140 + mu), nI mc, nI (ls_sl Ls + L.length), nI (ls_sl Ls), nI ys.length, nI os.length, nI cs.length, nI (pos + e), nI 3, 0, f_errorPlace, nI (mt - tl), nI as.length, nI oc, f_lastKind, nI 0, f_lastValue, f_cnt, f_full, f_flag, f_need, a_tk, a_tv, a_tp, a_mName, a_mKind, a_mCount, a_mPar, a_mAt, a_vName, a_vDecl, a_vKind, a_vVal, a_sk, a_sv, a_oKind, a_oAt, a_oArgs, a_cKind, a_cA, a_cB, a_outK, a_outV) := by
    intro post g
    rw [ol]
    exact hy_after_r (kd := 7) t3 t1 t2 (by omega) o1 ⟨by omega, by omega⟩ o2 TP.2.2.1 TP.1 TP.2.1 (Or.inr ⟨by omega, Or.inr (by rw [plv]; exact hle)⟩) (fun q => by omega) (fun q => by omega) (fun _ => g)
  have lt2 := ls_tl5 U.1 (by omega) hc
  have tpl := ls_lv_c (T pl)
  by_cases c34 : lv0 = 3 ∨ lv0 = 4
  · -- && and ||
    have tk41 : T pl = 41 ∨ T pl = 42 := by
      have tab : ∀ x : Fin 43, ls_lv x.1 = 3 ∨ ls_lv x.1 = 4 → x.1 = 41 ∨ x.1 = 42 := by decide
      exact tab ⟨T pl, by omega⟩ (by rw [plv]; exact c34)
    have exs' : xs = z :: xr := by rw [exs, if_pos c34]
    rw [exs'] at hX
    obtain ⟨x1, x2, x3, x4⟩ := hX
    have xl8 : 88 + xs.length = 88 + xr.length + 1 := by rw [exs', List.length_cons]; omega
    have y0 := W34 c34 y (by simp)
    have kk0 : k' = ls_aim (ls_em k 8 0 0 (nI pl)) mo := by
      rw [hk]
      unfold ls_red
      rw [if_neg (by omega), if_neg l13, if_pos tk41]
    have f8 := ls_fat U.1 (by omega) hc (i := k.1) (by rw [kk0]; exact Nat.lt_succ_self _)
    have o8 : k'.2.1 k.1 = 8 := by rw [kk0]; exact pk_us
    have p8 : k'.2.2.2.2 k.1 = nI pl := by rw [kk0]; exact pk_us
    have k1 : k'.1 = k.1 + 1 := by rw [kk0]; rfl
    rw [y0] at yy1
    have z4 := x3.1
    by_cases z0 : z.1 = 0
    · have wz : ls_wf 0 z.2 := by rw [← z0]; exact x3
      refine gs_red (a := 1) (b := 1) (z' := (0, z.2)) (ck' := upd a_cellKind (88 + xr.length) (nI 0)) (cv' := vp_updL a_cellValue (88 + xr.length) z.2) (sk' := upd a_sk yr.length (nI 0)) (sv' := vp_updL a_sv yr.length z.2) ih h hF hc exs eys eos (NX a_declared pos _ _ (fun _ _ => rfl) hc) (by omega) (by omega) (fun c hc' => ⟨pk_un (by omega), pk_uLn (by omega)⟩) (ls_stk_push wz x4) (by have := ls_stk_push (o := 0) wz y4; rw [Nat.zero_add] at this; exact this) ?_ ?_
      · rw [ls_ni d1 k1, xl8]
        exact xr_of (fun post f s hs hh => gx_8 d2 hs (cd.2.2.1.trans (f8.1.trans o8)) (hx_needBoolean d2 ⟨by omega, by omega⟩ x1 (by omega) x2 (fun q => absurd z0 q) (fun _ => hh)))
      · refine yr_after B (fun post hp => YA post ?_)
        rw [yl]
        exact hy_operate2 (by omega) TP.2.2.1 tk41 yy1 y1' yy2 y2' y3 (fun _ => hp) (fun q => absurd z0 q)
    · have hx : ls_xr 1 (f_tickLimit, f_tokenCount, nI oc, 0, f_errorPlace, f_lastKind, f_lastValue, f_codeSize, nI mc, nI mu, nI (88 + xs.length), nI as.length, nI (k.1 - d), nI tl, f_state, f_pos, f_expressionStart, f_pendingCount, f_frameTop, f_localCount, a_tokenCode, a_tokenValue, a_outKind, a_outValue, a_codeOp, a_codeArg, a_codeKind, a_codePlace, a_methodSign, a_methodStart, a_declared, a_cellKind, a_cellValue, a_callReturn, a_pendingLevel, a_pendingPlace, a_pendingMore, a_frameKind, a_frameMore, a_localName) (f_tickLimit, f_tokenCount, nI oc, nI 3, nI pl, f_lastKind, f_lastValue, f_codeSize, nI mc, nI mu, nI (88 + xr.length), nI as.length, nI (k.1 - d + 1), nI tl, f_state, f_pos, f_expressionStart, f_pendingCount, f_frameTop, f_localCount, a_tokenCode, a_tokenValue, a_outKind, a_outValue, a_codeOp, a_codeArg, a_codeKind, a_codePlace, a_methodSign, a_methodStart, a_declared, a_cellKind, a_cellValue, a_callReturn, a_pendingLevel, a_pendingPlace, a_pendingMore, a_frameKind, a_frameMore, a_localName) := by
        rw [xl8]
        refine xr_of (fun post f s hs hh => gx_8 d2 hs (cd.2.2.1.trans (f8.1.trans o8)) (hx_needBoolean d2 ⟨by omega, by omega⟩ x1 (by omega) x2 (fun _ => ?_) (fun q => absurd q z0)))
        rw [cd.2.2.2.2.2, f8.2.2.1, p8]
        exact hh
      have hy : ls_yr 1 (nI mt, nI yn, nI (140 + mu), nI mc, nI (ls_sl Ls + L.length), nI (ls_sl Ls), nI ys.length, nI os.length, nI cs.length, nI (pos + e), nI 3, 0, f_errorPlace, nI (mt - tl), nI as.length, nI oc, f_lastKind, nI 0, f_lastValue, f_cnt, f_full, f_flag, f_need, a_tk, a_tv, a_tp, a_mName, a_mKind, a_mCount, a_mPar, a_mAt, a_vName, a_vDecl, a_vKind, a_vVal, a_sk, a_sv, a_oKind, a_oAt, a_oArgs, a_cKind, a_cA, a_cB, a_outK, a_outV) (nI mt, nI yn, nI (140 + mu), nI mc, nI (ls_sl Ls + L.length), nI (ls_sl Ls), nI (yr.length + 1), nI os'.length, nI cs.length, nI (pos + e), nI 3, nI 3, nI pl, nI (mt - tl), nI as.length, nI oc, f_lastKind, nI 0, f_lastValue, f_cnt, f_full, f_flag, f_need, a_tk, a_tv, a_tp, a_mName, a_mKind, a_mCount, a_mPar, a_mAt, a_vName, a_vDecl, a_vKind, a_vVal, a_sk, a_sv, a_oKind, a_oAt, a_oArgs, a_cKind, a_cA, a_cB, a_outK, a_outV) := by
        refine yr_after B (fun post hp => YA post ?_)
        rw [yl]
        refine hy_operate2 (by omega) TP.2.2.1 tk41 yy1 y1' yy2 y2' y3 (fun q => absurd q z0) (fun _ => ?_)
        rw [TP.2.2.2]
        exact hp
      exact gs_err h ⟨by decide, by decide⟩ (by rw [← hF]; unfold ls_Phi; omega) (by rw [← hF]; unfold ls_Phi; omega) hx hy
  · have exs' : xs = z :: y :: xr := by rw [exs, if_neg c34]; rfl
    have nt : ¬ (T pl = 41 ∨ T pl = 42) := by
      intro q
      rcases q with q | q <;> rw [q] at plv
      · exact c34 (Or.inr plv.symm)
      · exact c34 (Or.inl plv.symm)
    have w40 : 24 ≤ T pl ∧ T pl ≤ 40 := by omega
    rw [exs'] at hX
    obtain ⟨x1, x2, x3, xx1, xx2, xx3, x4⟩ := hX
    have xl8 : 88 + xs.length = 88 + xr.length + 2 := by rw [exs', List.length_cons, List.length_cons]; omega
    have x1' : a_cellKind (88 + xr.length + 1) = nI z.1 := x1
    have x2' : a_cellValue (88 + xr.length + 1) = z.2 := x2
    have kk0 : k' = ls_em k 5 (nI (T pl)) 0 (nI pl) := by
      rw [hk]
      unfold ls_red
      rw [if_neg (by omega), if_neg l13, if_neg nt]
    subst kk0
    have kk := ls_fem U.1 (by omega) hc (by decide) (by decide) (by decide) (by decide)
    have z4 := x3.1
    have yy4 := xx3.1
    cases hv : ls_bin (T pl) y.1 z.1 y.2 z.2 with
    | ok r =>
      obtain ⟨kz, vz⟩ := r
      have wz : ls_wf kz vz := (ls_bin_wf xx3 x3 hv w40).1
      refine gs_red (a := 1) (b := 1) (z' := (kz, vz)) (ck' := upd a_cellKind (88 + xr.length) (nI kz)) (cv' := vp_updL a_cellValue (88 + xr.length) vz) (sk' := upd a_sk yr.length (nI kz)) (sv' := vp_updL a_sv yr.length vz) ih h hF hc exs eys eos (NX a_declared pos _ _ (fun _ _ => rfl) hc) (by omega) (by omega) (fun c hc' => ⟨pk_un (by omega), pk_uLn (by omega)⟩) (ls_stk_push wz x4) (by have := ls_stk_push (o := 0) wz y4; rw [Nat.zero_add] at this; exact this) ?_ ?_
      · rw [ls_ni d1 (show (ls_em k 5 (nI (T pl)) 0 (nI pl)).1 = k.1 + 1 from rfl), xl8]
        refine xr_of (fun post f s hs hh => gx_5 d2 hs (cd.2.2.1.trans kk.1) (hx_binary d2 ⟨by omega, by omega⟩ w40 (cd.2.2.2.1.trans kk.2.1) xx1 x1' (by omega) (by omega) xx2 x2' (fun k2 v2 q => ?_) (fun e2 q => by rw [hv] at q; cases q)))
        rw [hv] at q
        injection q with q
        injection q with q1 q2
        subst q1 q2
        exact hh
      · refine yr_after B (fun post hp => YA post ?_)
        rw [yl]
        refine hy_operate (by omega) TP.2.2.1 w40 yy1 y1' yy2 y2' xx3 x3 (fun k2 v2 q => ?_) (fun e2 q => by rw [hv] at q; cases q)
        rw [hv] at q
        injection q with q
        injection q with q1 q2
        subst q1 q2
        exact hp
    | error er =>
      have erb : er ≠ 0 ∧ er < 10 := by
        unfold ls_bin at hv
        split at hv
        · injection hv with hv; omega
        · split at hv
          · injection hv with hv; omega
          · cases hv
      have hx : ls_xr 1 (f_tickLimit, f_tokenCount, nI oc, 0, f_errorPlace, f_lastKind, f_lastValue, f_codeSize, nI mc, nI mu, nI (88 + xs.length), nI as.length, nI (k.1 - d), nI tl, f_state, f_pos, f_expressionStart, f_pendingCount, f_frameTop, f_localCount, a_tokenCode, a_tokenValue, a_outKind, a_outValue, a_codeOp, a_codeArg, a_codeKind, a_codePlace, a_methodSign, a_methodStart, a_declared, a_cellKind, a_cellValue, a_callReturn, a_pendingLevel, a_pendingPlace, a_pendingMore, a_frameKind, a_frameMore, a_localName) (f_tickLimit, f_tokenCount, nI oc, nI er, nI pl, f_lastKind, f_lastValue, f_codeSize, nI mc, nI mu, nI (88 + xr.length), nI as.length, nI (k.1 - d + 1), nI tl, f_state, f_pos, f_expressionStart, f_pendingCount, f_frameTop, f_localCount, a_tokenCode, a_tokenValue, a_outKind, a_outValue, a_codeOp, a_codeArg, a_codeKind, a_codePlace, a_methodSign, a_methodStart, a_declared, a_cellKind, a_cellValue, a_callReturn, a_pendingLevel, a_pendingPlace, a_pendingMore, a_frameKind, a_frameMore, a_localName) := by
        rw [xl8]
        refine xr_of (fun post f s hs hh => gx_5 d2 hs (cd.2.2.1.trans kk.1) (hx_binary d2 ⟨by omega, by omega⟩ w40 (cd.2.2.2.1.trans kk.2.1) xx1 x1' (by omega) (by omega) xx2 x2' (fun k2 v2 q => by rw [hv] at q; cases q) (fun e2 q => ?_)))
        rw [hv] at q
        injection q with q
        subst q
        rw [cd.2.2.2.2.2, kk.2.2.2]
        exact hh
      have hy : ls_yr 1 (nI mt, nI yn, nI (140 + mu), nI mc, nI (ls_sl Ls + L.length), nI (ls_sl Ls), nI ys.length, nI os.length, nI cs.length, nI (pos + e), nI 3, 0, f_errorPlace, nI (mt - tl), nI as.length, nI oc, f_lastKind, nI 0, f_lastValue, f_cnt, f_full, f_flag, f_need, a_tk, a_tv, a_tp, a_mName, a_mKind, a_mCount, a_mPar, a_mAt, a_vName, a_vDecl, a_vKind, a_vVal, a_sk, a_sv, a_oKind, a_oAt, a_oArgs, a_cKind, a_cA, a_cB, a_outK, a_outV) (nI mt, nI yn, nI (140 + mu), nI mc, nI (ls_sl Ls + L.length), nI (ls_sl Ls), nI (yr.length + 1), nI os'.length, nI cs.length, nI (pos + e), nI 3, nI er, nI pl, nI (mt - tl), nI as.length, nI oc, f_lastKind, nI 0, f_lastValue, f_cnt, f_full, f_flag, f_need, a_tk, a_tv, a_tp, a_mName, a_mKind, a_mCount, a_mPar, a_mAt, a_vName, a_vDecl, a_vKind, a_vVal, a_sk, a_sv, a_oKind, a_oAt, a_oArgs, a_cKind, a_cA, a_cB, a_outK, a_outV) := by
        refine yr_after B (fun post hp => YA post ?_)
        rw [yl]
        refine hy_operate (by omega) TP.2.2.1 w40 yy1 y1' yy2 y2' xx3 x3 (fun k2 v2 q => by rw [hv] at q; cases q) (fun e2 q => ?_)
        rw [hv] at q
        injection q with q
        subst q
        rw [TP.2.2.2]
        exact hp
      exact gs_err h erb (by rw [← hF]; unfold ls_Phi; omega) (by rw [← hF]; unfold ls_Phi; omega) hx hy
end
