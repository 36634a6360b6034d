/-! Operators ahead of their operands -/
section
variable {T : Nat → Nat} {V : Nat → Int32} {C : Nat → LsC} {kF : LsK} {n N t : Nat} {pos es : Nat} {pe : List LsP} {fr : List LsF} {L : List Nat} {k : LsK}
set_option maxHeartbeats 200000 in
theorem ls_T4 (h : ls_tl T V n C N kF) (ht : t ≤ N) (ec : C t = (4, pos, es, pe, fr, L, k)) : T pos ≠ 72 := by
  intro q
  obtain ⟨_, s⟩ := ls_tl4 h ht ec
  unfold ls_r4 at s
  dsimp only at s
  rw [if_neg (by omega), if_neg (by omega), if_neg (by omega), if_neg (by omega), if_neg (by omega), if_neg (by omega), if_neg (by omega)] at s
  cases s
set_option maxHeartbeats 200000 in
theorem ls_StP_ag {a b c a' b' c' : Nat → Int32} : ∀ {os : List LsP}, (∀ j, j < os.length → a' j = a j ∧ b' j = b j ∧ c' j = c j) → ls_StP a b c os → ls_StP a' b' c' os
  | [], _, _ => trivial
  | x :: r, h, ⟨h1, h2, h3, h4⟩ => by
    rw [List.length_cons] at h
    obtain ⟨g1, g2, g3⟩ := h r.length (by omega)
    exact ⟨g1.trans h1, g2.trans h2, g3.trans h3, ls_StP_ag (fun j hj => h j (by omega)) h4⟩
end
section
variable {f_tickLimit f_tokenCount f_outCount f_error f_errorPlace f_lastKind f_codeSize f_methodCount f_methodTokens f_cellCount f_activeCalls f_next f_ticksLeft f_state f_pos f_expressionStart f_pendingCount f_frameTop f_localCount : Int32}
variable {f_lastValue : Int64}
variable {a_tokenCode a_tokenValue a_outKind a_codeOp a_codeArg a_codeKind a_codePlace a_methodSign a_methodStart a_declared a_cellKind a_callReturn a_pendingLevel a_pendingPlace a_pendingMore a_frameKind a_frameMore a_localName : Nat → Int32}
variable {a_outValue a_cellValue : Nat → Int64}
variable {f_cnt f_full f_flag f_need : Int32}
variable {a_tk a_tp a_mName a_mKind a_mCount a_mPar a_mAt a_vName a_vDecl a_vKind a_sk a_oKind a_oAt a_oArgs a_cKind a_cA a_cB a_outK : Nat → Int32}
variable {a_tv a_vVal a_sv a_outV : Nat → Int64}
variable {yn mt tl oc mc mu : Nat} {T : Nat → Nat} {V : Nat → Int32} {C : Nat → LsC} {kF : LsK} {n N d e ta tz t : Nat} {as : List LsA} {st pos es : Nat} {pe : List LsP} {fr : List LsF} {L : List Nat} {k : LsK} {Ls : List (List Nat)} {xs ys : List LsV} {os cs : List LsP} {F : Nat}
set_option maxHeartbeats 200000 in
/-- the component does nothing -/
theorem gs_pend0 {pos' b o1 o2 o3 : Nat} {e' : LsP} {og : Nat → Int32} (ih : ls_IH F) (h : ls_S yn mt tl oc mc mu ((T, V, C, kF, n, N, d, e, ta, tz)) t as ((4, pos, es, pe, fr, L, k)) Ls xs ys os cs f_tickLimit a_outKind a_outValue a_codeOp a_codeArg a_codeKind a_codePlace a_methodSign a_methodStart a_declared a_cellKind a_cellValue a_callReturn a_tk a_tv a_tp a_mName a_mKind a_mCount a_mPar a_mAt a_vName a_vDecl a_vKind a_vVal a_sk a_sv a_oKind a_oAt a_oArgs a_cKind a_cA a_cB a_outK a_outV) (hF : ls_Phi tl as 4 fr N t = F) (hc : C (t + 1) = (4, pos', es, e' :: pe, fr, L, k)) (hw : ls_wt T e' = 0) (h34 : ¬ (e'.1 = 3 ∨ e'.1 = 4)) (eo : ls_oe T e e' = (o1, o2, o3)) (hb : b ≤ 2) (hg : ∀ j, j ≠ os.length → og j = a_oArgs j) (hg2 : og os.length = nI o3)
    (hy : os.length < 400 → ls_yr b (nI mt, nI yn, nI (140 + mu), nI mc, nI (ls_sl Ls + L.length), nI (ls_sl Ls), nI ys.length, nI os.length, nI cs.length, nI (pos + e), nI (ls_md 4 pe), 0, f_errorPlace, nI (mt - tl), nI as.length, nI oc, f_lastKind, nI 0, f_lastValue, f_cnt, f_full, f_flag, f_need, a_tk, a_tv, a_tp, a_mName, a_mKind, a_mCount, a_mPar, a_mAt, a_vName, a_vDecl, a_vKind, a_vVal, a_sk, a_sv, a_oKind, a_oAt, a_oArgs, a_cKind, a_cA, a_cB, a_outK, a_outV) (nI mt, nI yn, nI (140 + mu), nI mc, nI (ls_sl Ls + L.length), nI (ls_sl Ls), nI ys.length, nI (os.length + 1), nI cs.length, nI (pos' + e), nI (if e'.1 ≤ 2 then 1 else 2), 0, f_errorPlace, nI (mt - tl), nI as.length, nI oc, f_lastKind, nI 0, f_lastValue, f_cnt, f_full, f_flag, f_need, a_tk, a_tv, a_tp, a_mName, a_mKind, a_mCount, a_mPar, a_mAt, a_vName, a_vDecl, a_vKind, a_vVal, a_sk, a_sv, upd a_oKind os.length (nI o1), upd a_oAt os.length (nI o2), og, a_cKind, a_cA, a_cB, a_outK, a_outV)) : ls_G F (f_tickLimit, f_tokenCount, nI oc, 0, f_errorPlace, f_lastKind, f_lastValue, f_codeSize, nI mc, nI mu, nI (88 + xs.length), nI as.length, nI (k.1 - d), nI tl, f_state, f_pos, f_expressionStart, f_pendingCount, f_frameTop, f_localCount, a_tokenCode, a_tokenValue, a_outKind, a_outValue, a_codeOp, a_codeArg, a_codeKind, a_codePlace, a_methodSign, a_methodStart, a_declared, a_cellKind, a_cellValue, a_callReturn, a_pendingLevel, a_pendingPlace, a_pendingMore, a_frameKind, a_frameMore, a_localName) (nI mt, nI yn, nI (140 + mu), nI mc, nI (ls_sl Ls + L.length), nI (ls_sl Ls), nI ys.length, nI os.length, nI cs.length, nI (pos + e), nI (ls_md 4 pe), 0, f_errorPlace, nI (mt - tl), nI as.length, nI oc, f_lastKind, nI 0, f_lastValue, f_cnt, f_full, f_flag, f_need, a_tk, a_tv, a_tp, a_mName, a_mKind, a_mCount, a_mPar, a_mAt, a_vName, a_vDecl, a_vKind, a_vVal, a_sk, a_sv, a_oKind, a_oAt, a_oArgs, a_cKind, a_cA, a_cB, a_outK, a_outV) := by
  obtain ⟨hcu, hX, hY, hO, hE, hG, hV, hl, ho, hM⟩ := h
  have cu' := ls_cu_pend (w := []) hcu hc hw.symm h34 (fun _ v hv => by cases hv)
  rw [eo] at cu'
  have B := ls_cu_len cu'
  have lt := (ls_tl4 hcu.1.1 (by have := hcu.2.2.1; have := hcu.1.2.2.1; omega) hcu.2.2.2.1).1
  obtain ⟨_, _, b3, _⟩ := B
  rw [List.length_cons] at b3
  have as8 := hl.2.2.2.1
  have P := ls_Phi_lt (tl := tl) (as := as) (st := 4) (st' := 4) (fr := fr) (fr' := fr) (N := N) (t := t) (t' := t + 1) (Nat.le_refl _) (by omega) lt
  have S' : ls_S yn mt tl oc mc mu ((T, V, C, kF, n, N, d, e, ta, tz)) (t + 1) as ((4, pos', es, e' :: pe, fr, L, k)) Ls ([] ++ xs) ([] ++ ys) ((o1, o2, o3) :: os) cs f_tickLimit a_outKind a_outValue a_codeOp a_codeArg a_codeKind a_codePlace a_methodSign a_methodStart a_declared a_cellKind a_cellValue a_callReturn a_tk a_tv a_tp a_mName a_mKind a_mCount a_mPar a_mAt a_vName a_vDecl a_vKind a_vVal a_sk a_sv (upd a_oKind os.length (nI o1)) (upd a_oAt os.length (nI o2)) og a_cKind a_cA a_cB a_outK a_outV :=
    ⟨cu', hX, hY, ⟨pk_us, pk_us, hg2, ls_StP_ag (fun j hj => ⟨pk_un (by omega), pk_un (by omega), hg j (by omega)⟩) hO⟩, hE, hG, hV, hl, ho, hM⟩
  have G0 : ls_G (ls_Phi tl as 4 fr N (t + 1)) (f_tickLimit, f_tokenCount, nI oc, 0, f_errorPlace, f_lastKind, f_lastValue, f_codeSize, nI mc, nI mu, nI (88 + xs.length), nI as.length, nI (k.1 - d), nI tl, f_state, f_pos, f_expressionStart, f_pendingCount, f_frameTop, f_localCount, a_tokenCode, a_tokenValue, a_outKind, a_outValue, a_codeOp, a_codeArg, a_codeKind, a_codePlace, a_methodSign, a_methodStart, a_declared, a_cellKind, a_cellValue, a_callReturn, a_pendingLevel, a_pendingPlace, a_pendingMore, a_frameKind, a_frameMore, a_localName) (nI mt, nI yn, nI (140 + mu), nI mc, nI (ls_sl Ls + L.length), nI (ls_sl Ls), nI ys.length, nI (os.length + 1), nI cs.length, nI (pos' + e), nI (ls_md 4 (e' :: pe)), 0, f_errorPlace, nI (mt - tl), nI as.length, nI oc, f_lastKind, nI (ls_pt 4 fr), f_lastValue, f_cnt, f_full, f_flag, f_need, a_tk, a_tv, a_tp, a_mName, a_mKind, a_mCount, a_mPar, a_mAt, a_vName, a_vDecl, a_vKind, a_vVal, a_sk, a_sv, upd a_oKind os.length (nI o1), upd a_oAt os.length (nI o2), og, a_cKind, a_cA, a_cB, a_outK, a_outV) := ih S' (by omega) (fun q => absurd q.1 (by decide))
  have E1 : ls_md 4 (e' :: pe) = (if e'.1 ≤ 2 then 1 else 2) := by
    unfold ls_md
    rw [if_pos rfl]
    show (if decide (e'.1 ≤ 2) = true then 1 else 2) = _
    by_cases q : e'.1 ≤ 2
    · rw [if_pos (decide_eq_true q), if_pos q]
    · rw [if_neg (fun g => q (of_decide_eq_true g)), if_neg q]
  rw [E1, ls_pt_x (by omega)] at G0
  exact ls_G_go ls_xr_0 (hy (by omega)) G0 (by omega) (by omega)
set_option maxHeartbeats 200000 in
theorem ls_oe_13 {p m : Nat} : ls_oe T e (13, p, m) = (if T p = 15 then 6 else 5, p + e, 0) := rfl
set_option maxHeartbeats 200000 in
/-- signs -/
theorem gs_sign (ih : ls_IH F) (h : ls_S yn mt tl oc mc mu ((T, V, C, kF, n, N, d, e, ta, tz)) t as ((4, pos, es, pe, fr, L, k)) Ls xs ys os cs f_tickLimit a_outKind a_outValue a_codeOp a_codeArg a_codeKind a_codePlace a_methodSign a_methodStart a_declared a_cellKind a_cellValue a_callReturn a_tk a_tv a_tp a_mName a_mKind a_mCount a_mPar a_mAt a_vName a_vDecl a_vKind a_vVal a_sk a_sv a_oKind a_oAt a_oArgs a_cKind a_cA a_cB a_outK a_outV) (hF : ls_Phi tl as 4 fr N t = F) (hT : 22 ≤ T pos ∧ T pos ≤ 25) (hc : C (t + 1) = (4, pos + 1, es, (13, pos, 0) :: pe, fr, L, k)) : ls_G F (f_tickLimit, f_tokenCount, nI oc, 0, f_errorPlace, f_lastKind, f_lastValue, f_codeSize, nI mc, nI mu, nI (88 + xs.length), nI as.length, nI (k.1 - d), nI tl, f_state, f_pos, f_expressionStart, f_pendingCount, f_frameTop, f_localCount, a_tokenCode, a_tokenValue, a_outKind, a_outValue, a_codeOp, a_codeArg, a_codeKind, a_codePlace, a_methodSign, a_methodStart, a_declared, a_cellKind, a_cellValue, a_callReturn, a_pendingLevel, a_pendingPlace, a_pendingMore, a_frameKind, a_frameMore, a_localName) (nI mt, nI yn, nI (140 + mu), nI mc, nI (ls_sl Ls + L.length), nI (ls_sl Ls), nI ys.length, nI os.length, nI cs.length, nI (pos + e), nI (ls_md 4 pe), 0, f_errorPlace, nI (mt - tl), nI as.length, nI oc, f_lastKind, nI 0, f_lastValue, f_cnt, f_full, f_flag, f_need, a_tk, a_tv, a_tp, a_mName, a_mKind, a_mCount, a_mPar, a_mAt, a_vName, a_vDecl, a_vKind, a_vVal, a_sk, a_sv, a_oKind, a_oAt, a_oArgs, a_cKind, a_cA, a_cB, a_outK, a_outV) := by
  obtain ⟨lt, ltN, _, d1, d2, t1, t2, t3, t4, t5⟩ := ls_ac h.1 (Or.inl rfl) (by omega)
  have B := ls_Sb h t3
  obtain ⟨b, b1, yr1⟩ := gs_y4 h (by omega) (fun q => by have := q.1; omega)
  refine gs_pend0 (o1 := 5) (o2 := pos + e) (o3 := 0) (b := b + 1) (og := upd a_oArgs os.length 0) ih h hF hc rfl (by show ¬ ((13 : Nat) = 3 ∨ (13 : Nat) = 4); omega) (by rw [ls_oe_13, if_neg (by omega)]) (by omega) (fun j hj => pk_un hj) pk_us (fun hb => ?_)
  refine ls_yr_t yr1 (yr_value B (fun post hp => hy_value_s t3 hb t1 hT ?_))
  rw [show pos + e + 1 = pos + 1 + e by omega]
  exact hp
set_option maxHeartbeats 200000 in
/-- casts -/
theorem gs_cast (ih : ls_IH F) (h : ls_S yn mt tl oc mc mu ((T, V, C, kF, n, N, d, e, ta, tz)) t as ((4, pos, es, pe, fr, L, k)) Ls xs ys os cs f_tickLimit a_outKind a_outValue a_codeOp a_codeArg a_codeKind a_codePlace a_methodSign a_methodStart a_declared a_cellKind a_cellValue a_callReturn a_tk a_tv a_tp a_mName a_mKind a_mCount a_mPar a_mAt a_vName a_vDecl a_vKind a_vVal a_sk a_sv a_oKind a_oAt a_oArgs a_cKind a_cA a_cB a_outK a_outV) (hF : ls_Phi tl as 4 fr N t = F) (hT : T pos = 15) (hT1 : T (pos + 1) < 5) (hc : C (t + 1) = (4, pos + 3, es, (13, pos, T (pos + 1)) :: pe, fr, L, k)) : ls_G F (f_tickLimit, f_tokenCount, nI oc, 0, f_errorPlace, f_lastKind, f_lastValue, f_codeSize, nI mc, nI mu, nI (88 + xs.length), nI as.length, nI (k.1 - d), nI tl, f_state, f_pos, f_expressionStart, f_pendingCount, f_frameTop, f_localCount, a_tokenCode, a_tokenValue, a_outKind, a_outValue, a_codeOp, a_codeArg, a_codeKind, a_codePlace, a_methodSign, a_methodStart, a_declared, a_cellKind, a_cellValue, a_callReturn, a_pendingLevel, a_pendingPlace, a_pendingMore, a_frameKind, a_frameMore, a_localName) (nI mt, nI yn, nI (140 + mu), nI mc, nI (ls_sl Ls + L.length), nI (ls_sl Ls), nI ys.length, nI os.length, nI cs.length, nI (pos + e), nI (ls_md 4 pe), 0, f_errorPlace, nI (mt - tl), nI as.length, nI oc, f_lastKind, nI 0, f_lastValue, f_cnt, f_full, f_flag, f_need, a_tk, a_tv, a_tp, a_mName, a_mKind, a_mCount, a_mPar, a_mAt, a_vName, a_vDecl, a_vKind, a_vVal, a_sk, a_sv, a_oKind, a_oAt, a_oArgs, a_cKind, a_cA, a_cB, a_outK, a_outV) := by
  obtain ⟨lt, ltN, _, d1, d2, t1, t2, t3, t4, t5⟩ := ls_ac h.1 (Or.inl rfl) (by omega)
  have B := ls_Sb h t3
  obtain ⟨b, b1, yr1⟩ := gs_y4 h (by omega) (fun q => by have := q.1; omega)
  have TN := ls_tokn (p := pos + 1) h.1.1 ⟨h.1.2.2.1.1, lt⟩ h.1.2.2.2.1 (by omega) (t' := t + 1) (by omega) hc (by omega)
  refine gs_pend0 (o1 := 6) (o2 := pos + e) (o3 := 0) (b := b + 1) (og := upd a_oArgs os.length 0) ih h hF hc rfl (by show ¬ ((13 : Nat) = 3 ∨ (13 : Nat) = 4); omega) (by rw [ls_oe_13, if_pos hT]) (by omega) (fun j hj => pk_un hj) pk_us (fun hb => ?_)
  refine ls_yr_t yr1 (yr_value B (fun post hp => ?_))
  have TN1 := TN.1
  have TN3 := TN.2.2.1
  rw [show pos + 1 + e = pos + e + 1 by omega] at TN1 TN3
  refine hy_value_c TN3 hb (by rw [t1, hT]; rfl) TN1 hT1 ?_
  rw [show pos + e + 3 = pos + 3 + e by omega]
  exact hp
set_option maxHeartbeats 200000 in
/-- parentheses -/
theorem gs_group (ih : ls_IH F) (h : ls_S yn mt tl oc mc mu ((T, V, C, kF, n, N, d, e, ta, tz)) t as ((4, pos, es, pe, fr, L, k)) Ls xs ys os cs f_tickLimit a_outKind a_outValue a_codeOp a_codeArg a_codeKind a_codePlace a_methodSign a_methodStart a_declared a_cellKind a_cellValue a_callReturn a_tk a_tv a_tp a_mName a_mKind a_mCount a_mPar a_mAt a_vName a_vDecl a_vKind a_vVal a_sk a_sv a_oKind a_oAt a_oArgs a_cKind a_cA a_cB a_outK a_outV) (hF : ls_Phi tl as 4 fr N t = F) (hT : T pos = 15) (hT1 : 5 ≤ T (pos + 1)) (hc : C (t + 1) = (4, pos + 1, es, (1, pos, 0) :: pe, fr, L, k)) : ls_G F (f_tickLimit, f_tokenCount, nI oc, 0, f_errorPlace, f_lastKind, f_lastValue, f_codeSize, nI mc, nI mu, nI (88 + xs.length), nI as.length, nI (k.1 - d), nI tl, f_state, f_pos, f_expressionStart, f_pendingCount, f_frameTop, f_localCount, a_tokenCode, a_tokenValue, a_outKind, a_outValue, a_codeOp, a_codeArg, a_codeKind, a_codePlace, a_methodSign, a_methodStart, a_declared, a_cellKind, a_cellValue, a_callReturn, a_pendingLevel, a_pendingPlace, a_pendingMore, a_frameKind, a_frameMore, a_localName) (nI mt, nI yn, nI (140 + mu), nI mc, nI (ls_sl Ls + L.length), nI (ls_sl Ls), nI ys.length, nI os.length, nI cs.length, nI (pos + e), nI (ls_md 4 pe), 0, f_errorPlace, nI (mt - tl), nI as.length, nI oc, f_lastKind, nI 0, f_lastValue, f_cnt, f_full, f_flag, f_need, a_tk, a_tv, a_tp, a_mName, a_mKind, a_mCount, a_mPar, a_mAt, a_vName, a_vDecl, a_vKind, a_vVal, a_sk, a_sv, a_oKind, a_oAt, a_oArgs, a_cKind, a_cA, a_cB, a_outK, a_outV) := by
  obtain ⟨lt, ltN, _, d1, d2, t1, t2, t3, t4, t5⟩ := ls_ac h.1 (Or.inl rfl) (by omega)
  have B := ls_Sb h t3
  obtain ⟨b, b1, yr1⟩ := gs_y4 h (by omega) (fun q => by have := q.1; omega)
  have cu' := ls_cu_pend (w := []) h.1 hc rfl (by show ¬ ((1 : Nat) = 3 ∨ (1 : Nat) = 4); omega) (fun q => by have q' : (1 : Nat) = 2 := q; omega)
  have TN := (ls_ac cu' (Or.inl rfl) (ls_T4 h.1.1.1 (by omega) hc)).2.2.2.2.2
  refine gs_pend0 (o1 := 2) (o2 := pos + e) (o3 := 0) (b := b + 1) (og := upd a_oArgs os.length 0) ih h hF hc rfl (by show ¬ ((1 : Nat) = 3 ∨ (1 : Nat) = 4); omega) rfl (by omega) (fun j hj => pk_un hj) pk_us (fun hb => ?_)
  refine ls_yr_t yr1 (yr_value B (fun post hp => ?_))
  have TN1 := TN.1
  have TN3 := TN.2.2.1
  rw [show pos + 1 + e = pos + e + 1 by omega] at TN1 TN3
  refine hy_value_g TN3 hb (by rw [t1, hT]; rfl) TN1 ⟨hT1, TN.2.1⟩ ?_
  rw [show pos + e + 1 = pos + 1 + e by omega]
  exact hp
set_option maxHeartbeats 200000 in
/-- a call with arguments begins -/
theorem gs_fcall (ih : ls_IH F) (h : ls_S yn mt tl oc mc mu ((T, V, C, kF, n, N, d, e, ta, tz)) t as ((4, pos, es, pe, fr, L, k)) Ls xs ys os cs f_tickLimit a_outKind a_outValue a_codeOp a_codeArg a_codeKind a_codePlace a_methodSign a_methodStart a_declared a_cellKind a_cellValue a_callReturn a_tk a_tv a_tp a_mName a_mKind a_mCount a_mPar a_mAt a_vName a_vDecl a_vKind a_vVal a_sk a_sv a_oKind a_oAt a_oArgs a_cKind a_cA a_cB a_outK a_outV) (hF : ls_Phi tl as 4 fr N t = F) (hn : ls_nam (T pos)) (hT : T (pos + 1) = 15) (hT1 : T (pos + 2) ≠ 16) (hc : C (t + 1) = (4, pos + 2, es, (0, pos, 1) :: pe, fr, L, k)) : ls_G F (f_tickLimit, f_tokenCount, nI oc, 0, f_errorPlace, f_lastKind, f_lastValue, f_codeSize, nI mc, nI mu, nI (88 + xs.length), nI as.length, nI (k.1 - d), nI tl, f_state, f_pos, f_expressionStart, f_pendingCount, f_frameTop, f_localCount, a_tokenCode, a_tokenValue, a_outKind, a_outValue, a_codeOp, a_codeArg, a_codeKind, a_codePlace, a_methodSign, a_methodStart, a_declared, a_cellKind, a_cellValue, a_callReturn, a_pendingLevel, a_pendingPlace, a_pendingMore, a_frameKind, a_frameMore, a_localName) (nI mt, nI yn, nI (140 + mu), nI mc, nI (ls_sl Ls + L.length), nI (ls_sl Ls), nI ys.length, nI os.length, nI cs.length, nI (pos + e), nI (ls_md 4 pe), 0, f_errorPlace, nI (mt - tl), nI as.length, nI oc, f_lastKind, nI 0, f_lastValue, f_cnt, f_full, f_flag, f_need, a_tk, a_tv, a_tp, a_mName, a_mKind, a_mCount, a_mPar, a_mAt, a_vName, a_vDecl, a_vKind, a_vVal, a_sk, a_sv, a_oKind, a_oAt, a_oArgs, a_cKind, a_cA, a_cB, a_outK, a_outV) := by
  have hn' := hn
  obtain ⟨n1, n2⟩ := hn'
  obtain ⟨lt, ltN, _, d1, d2, t1, t2, t3, t4, t5⟩ := ls_ac h.1 (Or.inl rfl) (by omega)
  have B := ls_Sb h t3
  have cu' := ls_cu_pend (w := []) h.1 hc rfl (by show ¬ ((0 : Nat) = 3 ∨ (0 : Nat) = 4); omega) (fun q => by have q' : (0 : Nat) = 2 := q; omega)
  have TN2 := (ls_ac cu' (Or.inl rfl) (ls_T4 h.1.1.1 (by omega) hc)).2.2.2.2.2
  have TN := ls_tokn (p := pos + 1) h.1.1 ⟨h.1.2.2.1.1, lt⟩ h.1.2.2.2.1 (by omega) (t' := t + 1) (by omega) hc (by omega)
  obtain ⟨b, b1, yr1⟩ := gs_y4 h (by omega) (fun q => ⟨TN.1, TN.2.1, TN.2.2.1, fun g => by rw [hT] at g; have := g.2; omega⟩)
  refine gs_pend0 (o1 := 3) (o2 := pos + e) (o3 := 1) (b := b + 1) (og := upd (upd a_oArgs os.length 0) os.length 1) ih h hF hc rfl (by show ¬ ((0 : Nat) = 3 ∨ (0 : Nat) = 4); omega) rfl (by omega) (fun j hj => (pk_un hj).trans (pk_un hj)) pk_us (fun hb => ?_)
  refine ls_yr_t yr1 (yr_value B (fun post hp => ?_))
  have TN1 := TN.1
  have TN21 := TN2.1
  have TN23 := TN2.2.2.1
  rw [show pos + 1 + e = pos + e + 1 by omega] at TN1
  rw [show pos + 2 + e = pos + e + 2 by omega] at TN21 TN23
  refine hy_value_f (nm := T pos - 54) TN23 hb (by omega) (by rw [t1, show T pos - 54 + 54 = T pos by omega]) (by rw [TN1, hT]; rfl) TN21 TN2.2.1 (fun q => absurd q hT1) (fun _ => ?_)
  rw [show pos + e + 2 = pos + 2 + e by omega]
  exact hp
set_option maxHeartbeats 200000 in
/-- a plain assignment begins -/
theorem gs_asg (ih : ls_IH F) (h : ls_S yn mt tl oc mc mu ((T, V, C, kF, n, N, d, e, ta, tz)) t as ((4, pos, es, pe, fr, L, k)) Ls xs ys os cs f_tickLimit a_outKind a_outValue a_codeOp a_codeArg a_codeKind a_codePlace a_methodSign a_methodStart a_declared a_cellKind a_cellValue a_callReturn a_tk a_tv a_tp a_mName a_mKind a_mCount a_mPar a_mAt a_vName a_vDecl a_vKind a_vVal a_sk a_sv a_oKind a_oAt a_oArgs a_cKind a_cA a_cB a_outK a_outV) (hF : ls_Phi tl as 4 fr N t = F) (hn : ls_nam (T pos)) (hs : ls_starts pe = true) (hT : T (pos + 1) = 21) (hc : C (t + 1) = (4, pos + 2, es, (2, pos + 1, ls_addr L (T pos - 54)) :: pe, fr, L, k)) : ls_G F (f_tickLimit, f_tokenCount, nI oc, 0, f_errorPlace, f_lastKind, f_lastValue, f_codeSize, nI mc, nI mu, nI (88 + xs.length), nI as.length, nI (k.1 - d), nI tl, f_state, f_pos, f_expressionStart, f_pendingCount, f_frameTop, f_localCount, a_tokenCode, a_tokenValue, a_outKind, a_outValue, a_codeOp, a_codeArg, a_codeKind, a_codePlace, a_methodSign, a_methodStart, a_declared, a_cellKind, a_cellValue, a_callReturn, a_pendingLevel, a_pendingPlace, a_pendingMore, a_frameKind, a_frameMore, a_localName) (nI mt, nI yn, nI (140 + mu), nI mc, nI (ls_sl Ls + L.length), nI (ls_sl Ls), nI ys.length, nI os.length, nI cs.length, nI (pos + e), nI (ls_md 4 pe), 0, f_errorPlace, nI (mt - tl), nI as.length, nI oc, f_lastKind, nI 0, f_lastValue, f_cnt, f_full, f_flag, f_need, a_tk, a_tv, a_tp, a_mName, a_mKind, a_mCount, a_mPar, a_mAt, a_vName, a_vDecl, a_vKind, a_vVal, a_sk, a_sv, a_oKind, a_oAt, a_oArgs, a_cKind, a_cA, a_cB, a_outK, a_outV) := by
  have hn' := hn
  obtain ⟨n1, n2⟩ := hn'
  obtain ⟨lt, ltN, _, d1, d2, t1, t2, t3, t4, t5⟩ := ls_ac h.1 (Or.inl rfl) (by omega)
  have B := ls_Sb h t3
  have TN := ls_tokn (p := pos + 1) h.1.1 ⟨h.1.2.2.1.1, lt⟩ h.1.2.2.2.1 (by omega) (t' := t + 1) (by omega) hc (by omega)
  have W0 : ls_wt T (2, pos + 1, ls_addr L (T pos - 54)) = 0 := by
    show (if (2 : Nat) = 0 then _ else if (2 : Nat) = 1 then _ else if (2 : Nat) = 2 then (if T (pos + 1) = 21 then 0 else 1) else _) = 0
    rw [if_neg (by decide), if_neg (by decide), if_pos rfl, if_pos hT]
  refine gs_pend0 (o1 := 4) (o2 := pos + e) (o3 := 0) (b := 1) (og := upd a_oArgs os.length 0) ih h hF hc W0 (by show ¬ ((2 : Nat) = 3 ∨ (2 : Nat) = 4); omega) (by show (4, pos + 1 - 1 + e, 0) = _; rw [Nat.add_sub_cancel]) (by omega) (fun j hj => pk_un hj) pk_us (fun hb => ?_)
  have e1 : ls_md 4 pe = 1 := by
    unfold ls_md
    rw [if_pos rfl, if_pos hs]
  rw [e1]
  refine yr_expr B (fun post hp => ?_)
  have TN1 := TN.1
  have TN3 := TN.2.2.1
  rw [show pos + 1 + e = pos + e + 1 by omega] at TN1 TN3
  refine hy_expr_a TN3 hb t1 t2 hn (by rw [TN1, hT]; rfl) ?_
  rw [show pos + e + 2 = pos + 2 + e by omega]
  exact hp
set_option maxHeartbeats 200000 in
/-- an assignment that computes begins: the variable is read -/
theorem gs_upd (ih : ls_IH F) (h : ls_S yn mt tl oc mc mu ((T, V, C, kF, n, N, d, e, ta, tz)) t as ((4, pos, es, pe, fr, L, k)) Ls xs ys os cs f_tickLimit a_outKind a_outValue a_codeOp a_codeArg a_codeKind a_codePlace a_methodSign a_methodStart a_declared a_cellKind a_cellValue a_callReturn a_tk a_tv a_tp a_mName a_mKind a_mCount a_mPar a_mAt a_vName a_vDecl a_vKind a_vVal a_sk a_sv a_oKind a_oAt a_oArgs a_cKind a_cA a_cB a_outK a_outV) (hF : ls_Phi tl as 4 fr N t = F) (hn : ls_nam (T pos)) (hs : ls_starts pe = true) (hT : 43 ≤ T (pos + 1) ∧ T (pos + 1) ≤ 53) (hc : C (t + 1) = (4, pos + 2, es, (2, pos + 1, ls_addr L (T pos - 54)) :: pe, fr, L, ls_em k 3 (nI (ls_addr L (T pos - 54))) 0 (nI pos))) : ls_G F (f_tickLimit, f_tokenCount, nI oc, 0, f_errorPlace, f_lastKind, f_lastValue, f_codeSize, nI mc, nI mu, nI (88 + xs.length), nI as.length, nI (k.1 - d), nI tl, f_state, f_pos, f_expressionStart, f_pendingCount, f_frameTop, f_localCount, a_tokenCode, a_tokenValue, a_outKind, a_outValue, a_codeOp, a_codeArg, a_codeKind, a_codePlace, a_methodSign, a_methodStart, a_declared, a_cellKind, a_cellValue, a_callReturn, a_pendingLevel, a_pendingPlace, a_pendingMore, a_frameKind, a_frameMore, a_localName) (nI mt, nI yn, nI (140 + mu), nI mc, nI (ls_sl Ls + L.length), nI (ls_sl Ls), nI ys.length, nI os.length, nI cs.length, nI (pos + e), nI (ls_md 4 pe), 0, f_errorPlace, nI (mt - tl), nI as.length, nI oc, f_lastKind, nI 0, f_lastValue, f_cnt, f_full, f_flag, f_need, a_tk, a_tv, a_tp, a_mName, a_mKind, a_mCount, a_mPar, a_mAt, a_vName, a_vDecl, a_vKind, a_vVal, a_sk, a_sv, a_oKind, a_oAt, a_oArgs, a_cKind, a_cA, a_cB, a_outK, a_outV) := by
  have hn' := hn
  obtain ⟨n1, n2⟩ := hn'
  obtain ⟨lt, ltN, _, d1, d2, t1, t2, t3, t4, t5⟩ := ls_ac h.1 (Or.inl rfl) (by omega)
  have B := ls_Sb h t3
  have TN := ls_tokn (p := pos + 1) h.1.1 ⟨h.1.2.2.1.1, lt⟩ h.1.2.2.2.1 (by omega) (t' := t + 1) (by omega) hc (by omega)
  have W1 : ls_wt T (2, pos + 1, ls_addr L (T pos - 54)) = 1 := by
    show (if (2 : Nat) = 0 then _ else if (2 : Nat) = 1 then _ else if (2 : Nat) = 2 then (if T (pos + 1) = 21 then 0 else 1) else _) = 1
    rw [if_neg (by decide), if_neg (by decide), if_pos rfl, if_neg (by omega)]
  have h' := h
  obtain ⟨hcu, hX, hY, hO, hE, hG, hV, hl, ho, hM⟩ := h'
  have U := hcu.1
  have tt := hcu.2.2.1
  have ec := hcu.2.2.2.1
  have kk := ls_fem U.1 (by omega) hc (by decide) (by decide) (by decide) (by decide)
  have cd := ls_cod U tt ec (Nat.le_refl _) (t' := t) ⟨Nat.le_refl _, tt.2⟩ ec (Nat.le_refl _)
  have LB := ls_cu_len hcu
  have hV : ls_lev (ls_sm a_declared a_cellKind a_cellValue a_vDecl a_vKind a_vVal) a_vName (L :: Ls) := hV
  have nm16 : T pos - 54 < 16 := by omega
  have a24 := ls_addr24 (L := L) (nm := T pos - 54) LB.2.2.2.2.2.2.1 nm16
  have e54 : a_tk (pos + e) = nI (T pos - 54 + 54) := by rw [t1, show T pos - 54 + 54 = T pos by omega]
  have as8 := hl.2.2.2.1
  have sl80 : ls_sl Ls + L.length ≤ 80 := by omega
  have e1 : ls_md 4 pe = 1 := by
    unfold ls_md
    rw [if_pos rfl, if_pos hs]
  have TN1 := TN.1
  have TN3 := TN.2.2.1
  rw [show pos + 1 + e = pos + e + 1 by omega] at TN1 TN3
  -- room on the stacks
  have RM : xs.length < 288 ∧ os.length < 400 := by
    obtain ⟨q1, q2, q3, q4, x1, y1, x0, y0, o0, c0, f, r, ins, g1, g2, g3, g4, g5, g6, g7⟩ := ls_cu_e hcu (Or.inl rfl)
    have X := ls_tl_ch U.1 (by omega) hc (Or.inl rfl)
    have X3 := X.2.2.1
    rw [if_neg (by decide), ls_ow_c W1] at X3
    obtain ⟨r1, r2, r3⟩ := ls_ro_len g2
    obtain ⟨s1, s2, s3, s4, s5, s6⟩ := ls_sus_len ls_UA_ex g7
    rw [if_neg (by decide)] at g1
    obtain ⟨rfl, rfl⟩ := g1
    omega
  rcases ls_vr hG hV nm16 LB.2.2.2.2.2.1 with ⟨sm, dcl⟩ | ⟨g1, g2, g3⟩
  · obtain ⟨dd, kd, s1, s2, s3, s4, s5, s6, s7, s8, s9⟩ := sm
    have cu' := ls_cu_pend (w := [(kd, a_cellValue (ls_cell (ls_addr L (T pos - 54)) as.length))]) hcu hc W1.symm (by show ¬ ((2 : Nat) = 3 ∨ (2 : Nat) = 4); omega) (fun _ v hv => by
      rw [List.mem_singleton] at hv
      subst hv
      exact ⟨dd, s3, s1, by dsimp only; omega⟩)
    have OE : ls_oe T e (2, pos + 1, ls_addr L (T pos - 54)) = (4, pos + e, 0) := by show (4, pos + 1 - 1 + e, 0) = _; rw [Nat.add_sub_cancel]
    rw [OE] at cu'
    have P := ls_Phi_lt (tl := tl) (as := as) (st := 4) (st' := 4) (fr := fr) (fr' := fr) (N := N) (t := t) (t' := t + 1) (Nat.le_refl _) (by omega) ltN
    have S' : ls_S yn mt tl oc mc mu ((T, V, C, kF, n, N, d, e, ta, tz)) (t + 1) as ((4, pos + 2, es, (2, pos + 1, ls_addr L (T pos - 54)) :: pe, fr, L, ls_em k 3 (nI (ls_addr L (T pos - 54))) 0 (nI pos))) Ls ([(kd, a_cellValue (ls_cell (ls_addr L (T pos - 54)) as.length))] ++ xs) ([(kd, a_cellValue (ls_cell (ls_addr L (T pos - 54)) as.length))] ++ ys) ((4, pos + e, 0) :: os) cs f_tickLimit a_outKind a_outValue a_codeOp a_codeArg a_codeKind a_codePlace a_methodSign a_methodStart a_declared (upd a_cellKind (88 + xs.length) (nI kd)) (vp_updL a_cellValue (88 + xs.length) (a_cellValue (ls_cell (ls_addr L (T pos - 54)) as.length))) a_callReturn a_tk a_tv a_tp a_mName a_mKind a_mCount a_mPar a_mAt a_vName a_vDecl a_vKind a_vVal (upd a_sk ys.length (nI kd)) (vp_updL a_sv ys.length (a_cellValue (ls_cell (ls_addr L (T pos - 54)) as.length))) (upd a_oKind os.length (nI 4)) (upd a_oAt os.length (nI (pos + e))) (upd a_oArgs os.length 0) a_cKind a_cA a_cB a_outK a_outV := by
      refine ⟨cu', ls_stk_push s8 hX, ?_, ⟨pk_us, pk_us, pk_us, ls_StP_ag (fun j hj => ⟨pk_un (by omega), pk_un (by omega), pk_un (by omega)⟩) hO⟩, hE, ?_, ?_, hl, ho, hM⟩
      · have := ls_stk_push (o := 0) s8 hY
        rw [Nat.zero_add] at this
        exact this
      · intro i hi
        rcases hG i hi with g | g
        · exact Or.inl (ls_sm_x (by omega) g)
        · exact Or.inr g
      · refine ls_lev_mono (fun c p hc' h16 hp g => ls_sm_x ?_ g) (ls_cu_l8 hcu) (fun _ _ => rfl) hV
        rw [List.length_cons] at hc'
        omega
    have hx : ls_xr 1 (f_tickLimit, f_tokenCount, nI oc, 0, f_errorPlace, f_lastKind, f_lastValue, f_codeSize, nI mc, nI mu, nI (88 + xs.length), nI as.length, nI (k.1 - d), nI tl, f_state, f_pos, f_expressionStart, f_pendingCount, f_frameTop, f_localCount, a_tokenCode, a_tokenValue, a_outKind, a_outValue, a_codeOp, a_codeArg, a_codeKind, a_codePlace, a_methodSign, a_methodStart, a_declared, a_cellKind, a_cellValue, a_callReturn, a_pendingLevel, a_pendingPlace, a_pendingMore, a_frameKind, a_frameMore, a_localName) (f_tickLimit, f_tokenCount, nI oc, 0, f_errorPlace, f_lastKind, f_lastValue, f_codeSize, nI mc, nI mu, nI (88 + ([(kd, a_cellValue (ls_cell (ls_addr L (T pos - 54)) as.length))] ++ xs).length), nI as.length, nI ((ls_em k 3 (nI (ls_addr L (T pos - 54))) 0 (nI pos)).1 - d), nI tl, f_state, f_pos, f_expressionStart, f_pendingCount, f_frameTop, f_localCount, a_tokenCode, a_tokenValue, a_outKind, a_outValue, a_codeOp, a_codeArg, a_codeKind, a_codePlace, a_methodSign, a_methodStart, a_declared, upd a_cellKind (88 + xs.length) (nI kd), vp_updL a_cellValue (88 + xs.length) (a_cellValue (ls_cell (ls_addr L (T pos - 54)) as.length)), a_callReturn, a_pendingLevel, a_pendingPlace, a_pendingMore, a_frameKind, a_frameMore, a_localName) := by
      rw [ls_ni d1 (show (ls_em k 3 (nI (ls_addr L (T pos - 54))) 0 (nI pos)).1 = k.1 + 1 from rfl)]
      refine xr_of (fun post f s hs hh => gx_3 d2 hs (cd.2.2.1.trans kk.1) (hx_load d2 (by omega) a24 as8 (cd.2.2.2.1.trans kk.2.1) (fun _ => ?_) (fun q => absurd q (by rw [s3]; exact ls_nin (by omega)))))
      rw [s4]
      exact hh
    have hy : ls_yr 1 (nI mt, nI yn, nI (140 + mu), nI mc, nI (ls_sl Ls + L.length), nI (ls_sl Ls), nI ys.length, nI os.length, nI cs.length, nI (pos + e), nI (ls_md 4 pe), 0, f_errorPlace, nI (mt - tl), nI as.length, nI oc, f_lastKind, nI 0, f_lastValue, f_cnt, f_full, f_flag, f_need, a_tk, a_tv, a_tp, a_mName, a_mKind, a_mCount, a_mPar, a_mAt, a_vName, a_vDecl, a_vKind, a_vVal, a_sk, a_sv, a_oKind, a_oAt, a_oArgs, a_cKind, a_cA, a_cB, a_outK, a_outV) (nI mt, nI yn, nI (140 + mu), nI mc, nI (ls_sl Ls + L.length), nI (ls_sl Ls), nI ([(kd, a_cellValue (ls_cell (ls_addr L (T pos - 54)) as.length))] ++ ys).length, nI ((4, pos + e, 0) :: os).length, nI cs.length, nI (pos + 2 + e), nI (ls_md 4 ((2, pos + 1, ls_addr L (T pos - 54)) :: pe)), 0, f_errorPlace, nI (mt - tl), nI as.length, nI oc, f_lastKind, nI (ls_pt 4 fr), f_lastValue, f_cnt, f_full, f_flag, f_need, a_tk, a_tv, a_tp, a_mName, a_mKind, a_mCount, a_mPar, a_mAt, a_vName, a_vDecl, a_vKind, a_vVal, upd a_sk ys.length (nI kd), vp_updL a_sv ys.length (a_cellValue (ls_cell (ls_addr L (T pos - 54)) as.length)), upd a_oKind os.length (nI 4), upd a_oAt os.length (nI (pos + e)), upd a_oArgs os.length 0, a_cKind, a_cA, a_cB, a_outK, a_outV) := by
      rw [e1, ls_pt_x (by omega)]
      refine yr_expr B (fun post hp => hy_expr_u TN3 RM.2 (by omega) nm16 e54 TN1 hT LB.2.2.2.2.2.2.2.1 sl80 hV.1 (fun _ => ⟨s6, by omega⟩) (fun _ => ?_) (fun q1 q2 => ?_))
      · rw [s7, show pos + e + 2 = pos + 2 + e by omega]
        exact hp
      · rcases dcl with q | q
        · omega
        · exact absurd q q2
    exact ls_G_go hx hy (ih S' (by omega) (fun q => absurd q.1 (by decide))) (by omega) (by omega)
  · have hx : ls_xr 1 (f_tickLimit, f_tokenCount, nI oc, 0, f_errorPlace, f_lastKind, f_lastValue, f_codeSize, nI mc, nI mu, nI (88 + xs.length), nI as.length, nI (k.1 - d), nI tl, f_state, f_pos, f_expressionStart, f_pendingCount, f_frameTop, f_localCount, a_tokenCode, a_tokenValue, a_outKind, a_outValue, a_codeOp, a_codeArg, a_codeKind, a_codePlace, a_methodSign, a_methodStart, a_declared, a_cellKind, a_cellValue, a_callReturn, a_pendingLevel, a_pendingPlace, a_pendingMore, a_frameKind, a_frameMore, a_localName) (f_tickLimit, f_tokenCount, nI oc, nI 2, nI pos, f_lastKind, f_lastValue, f_codeSize, nI mc, nI mu, nI (88 + xs.length), nI as.length, nI (k.1 - d + 1), nI tl, f_state, f_pos, f_expressionStart, f_pendingCount, f_frameTop, f_localCount, a_tokenCode, a_tokenValue, a_outKind, a_outValue, a_codeOp, a_codeArg, a_codeKind, a_codePlace, a_methodSign, a_methodStart, a_declared, a_cellKind, a_cellValue, a_callReturn, a_pendingLevel, a_pendingPlace, a_pendingMore, a_frameKind, a_frameMore, a_localName) := by
      refine xr_of (fun post f s hs hh => gx_3 d2 hs (cd.2.2.1.trans kk.1) (hx_load d2 (by omega) a24 as8 (cd.2.2.2.1.trans kk.2.1) (fun q => absurd g2 q) (fun _ => ?_)))
      rw [cd.2.2.2.2.2, kk.2.2.2]
      exact hh
    have hy : ls_yr 1 (nI mt, nI yn, nI (140 + mu), nI mc, nI (ls_sl Ls + L.length), nI (ls_sl Ls), nI ys.length, nI os.length, nI cs.length, nI (pos + e), nI (ls_md 4 pe), 0, f_errorPlace, nI (mt - tl), nI as.length, nI oc, f_lastKind, nI 0, f_lastValue, f_cnt, f_full, f_flag, f_need, a_tk, a_tv, a_tp, a_mName, a_mKind, a_mCount, a_mPar, a_mAt, a_vName, a_vDecl, a_vKind, a_vVal, a_sk, a_sv, a_oKind, a_oAt, a_oArgs, a_cKind, a_cA, a_cB, a_outK, a_outV) (nI mt, nI yn, nI (140 + mu), nI mc, nI (ls_sl Ls + L.length), nI (ls_sl Ls), nI ys.length, nI os.length, nI cs.length, nI (pos + e), 2, nI 2, nI pos, nI (mt - tl), nI as.length, nI oc, f_lastKind, nI 0, f_lastValue, f_cnt, f_full, f_flag, f_need, a_tk, a_tv, a_tp, a_mName, a_mKind, a_mCount, a_mPar, a_mAt, a_vName, a_vDecl, a_vKind, a_vVal, a_sk, a_sv, a_oKind, a_oAt, a_oArgs, a_cKind, a_cA, a_cB, a_outK, a_outV) := by
      rw [e1]
      refine yr_expr B (fun post hp => hy_expr_u TN3 RM.2 (by omega) nm16 e54 TN1 hT LB.2.2.2.2.2.2.2.1 sl80 hV.1 (k := 0) (fun q => ?_) (fun q => ?_) (fun _ _ => ?_))
      · rcases q with q | q
        · omega
        · exact absurd q g3
      · rcases q with q | q
        · omega
        · exact absurd q g3
      · rw [t4]
        exact hp
    have lt2 := ls_tl4 U.1 (by omega) hc
    exact gs_err h ⟨by decide, by decide⟩ (by rw [← hF]; unfold ls_Phi; omega) (by rw [← hF]; unfold ls_Phi; omega) hx hy
end
