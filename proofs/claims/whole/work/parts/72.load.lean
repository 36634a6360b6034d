/-! Variables -/
section
variable {dc ck : Nat → Int32} {cv : Nat → Int64} {vd vk : Nat → Int32} {vv : Nat → Int64} {vN : Nat → Int32} {L : List Nat} {Ls : List (List Nat)} {nm ac : Nat}
set_option maxHeartbeats 200000 in
/-- one variable of both -/
theorem ls_vr (hG : ls_gl dc ck cv vd vk vv) (hV : ls_lev (ls_sm dc ck cv vd vk vv) vN (L :: Ls)) (hnm : nm < 16) (hl : Ls.length = ac) : (ls_sm dc ck cv vd vk vv (ls_cell (ls_addr L nm) ac) (ls_yp (ls_sl Ls) L nm) ∧ (16 ≤ ls_addr L nm ∨ 0 ≤ vd (80 + nm))) ∨ (ls_addr L nm < 16 ∧ dc (ls_cell (ls_addr L nm) ac) = -1 ∧ ¬ 0 ≤ vd (80 + nm)) := by
  rcases ls_addr_c (L := L) (nm := nm) with h | ⟨j, h1, h2⟩
  · unfold ls_yp ls_cell
    rw [h, if_pos hnm, if_pos hnm]
    rcases hG nm hnm with g | g
    · left
      refine ⟨g, Or.inr ?_⟩
      obtain ⟨d, k, g1, _, _, _, g5, _⟩ := g
      rw [g5]
      exact nI_le (a := 0) (by omega) (by omega)
    · right
      refine ⟨hnm, g.1, ?_⟩
      rw [g.2]; decide
  · left
    unfold ls_yp ls_cell
    rw [h2, if_neg (by omega), if_neg (by omega), Nat.add_sub_cancel_left]
    refine ⟨?_, Or.inl (by omega)⟩
    have := hV.2.1 j h1
    rw [hl] at this
    rw [show 16 + j + 8 * ac = 16 + 8 * ac + j by omega]
    exact this
set_option maxHeartbeats 200000 in
theorem ls_addr24 (hL : L.length ≤ 8) (hnm : nm < 16) : ls_addr L nm < 24 := by
  rcases ls_addr_c (L := L) (nm := nm) with h | ⟨j, h1, h2⟩ <;> omega
set_option maxHeartbeats 200000 in
theorem ls_nin {a : Nat} (h : a < 1000) : nI a ≠ -1 := ls_nm1 (by omega)
end
section
variable {f_tickLimit f_tokenCount f_outCount f_error f_errorPlace f_lastKind f_codeSize f_methodCount f_methodTokens f_cellCount f_activeCalls f_next f_ticksLeft f_state f_pos f_expressionStart f_pendingCount f_frameTop f_localCount : Int32}
variable {f_lastValue : Int64}
variable {a_tokenCode a_tokenValue a_outKind a_codeOp a_codeArg a_codeKind a_codePlace a_methodSign a_methodStart a_declared a_cellKind a_callReturn a_pendingLevel a_pendingPlace a_pendingMore a_frameKind a_frameMore a_localName : Nat → Int32}
variable {a_outValue a_cellValue : Nat → Int64}
variable {f_cnt f_full f_flag f_need : Int32}
variable {a_tk a_tp a_mName a_mKind a_mCount a_mPar a_mAt a_vName a_vDecl a_vKind a_sk a_oKind a_oAt a_oArgs a_cKind a_cA a_cB a_outK : Nat → Int32}
variable {a_tv a_vVal a_sv a_outV : Nat → Int64}
variable {yn mt tl oc mc mu : Nat} {T : Nat → Nat} {V : Nat → Int32} {C : Nat → LsC} {kF : LsK} {n N d e ta tz t : Nat} {as : List LsA} {st pos es : Nat} {pe : List LsP} {fr : List LsF} {L : List Nat} {k : LsK} {Ls : List (List Nat)} {xs ys : List LsV} {os cs : List LsP} {F : Nat}
set_option maxHeartbeats 200000 in
/-- a variable is read -/
theorem gs_load (ih : ls_IH F) (h : ls_S yn mt tl oc mc mu ((T, V, C, kF, n, N, d, e, ta, tz)) t as ((4, pos, es, pe, fr, L, k)) Ls xs ys os cs f_tickLimit a_outKind a_outValue a_codeOp a_codeArg a_codeKind a_codePlace a_methodSign a_methodStart a_declared a_cellKind a_cellValue a_callReturn a_tk a_tv a_tp a_mName a_mKind a_mCount a_mPar a_mAt a_vName a_vDecl a_vKind a_vVal a_sk a_sv a_oKind a_oAt a_oArgs a_cKind a_cA a_cB a_outK a_outV) (hF : ls_Phi tl as 4 fr N t = F) (hn : ls_nam (T pos)) (h15 : T (pos + 1) ≠ 15) (hna : ¬ (ls_starts pe = true ∧ ls_asg (T (pos + 1)))) (hc : C (t + 1) = (5, pos + 1, es, pe, fr, L, ls_em k 3 (nI (ls_addr L (T pos - 54))) 0 (nI pos))) : ls_G F (f_tickLimit, f_tokenCount, nI oc, 0, f_errorPlace, f_lastKind, f_lastValue, f_codeSize, nI mc, nI mu, nI (88 + xs.length), nI as.length, nI (k.1 - d), nI tl, f_state, f_pos, f_expressionStart, f_pendingCount, f_frameTop, f_localCount, a_tokenCode, a_tokenValue, a_outKind, a_outValue, a_codeOp, a_codeArg, a_codeKind, a_codePlace, a_methodSign, a_methodStart, a_declared, a_cellKind, a_cellValue, a_callReturn, a_pendingLevel, a_pendingPlace, a_pendingMore, a_frameKind, a_frameMore, a_localName) (nI mt, nI yn, nI (140 + mu), nI mc, nI (ls_sl Ls + L.length), nI (ls_sl Ls), nI ys.length, nI os.length, nI cs.length, nI (pos + e), nI (ls_md 4 pe), 0, f_errorPlace, nI (mt - tl), nI as.length, nI oc, f_lastKind, nI 0, f_lastValue, f_cnt, f_full, f_flag, f_need, a_tk, a_tv, a_tp, a_mName, a_mKind, a_mCount, a_mPar, a_mAt, a_vName, a_vDecl, a_vKind, a_vVal, a_sk, a_sv, a_oKind, a_oAt, a_oArgs, a_cKind, a_cA, a_cB, a_outK, a_outV) := by
  have hn' := hn
  obtain ⟨n1, n2⟩ := hn'
  have A := ls_ac h.1 (Or.inl rfl) (by omega)
  obtain ⟨lt, ltN, _, d1, d2, t1, t2, t3, t4, t5⟩ := A
  have B := ls_Sb h t3
  have A1 := ls_ac1 h.1 hc
  obtain ⟨b, b1, yr1⟩ := gs_y4 h (by omega) (fun _ => ⟨A1.1, A1.2.1, A1.2.2, hna⟩)
  have h' := h
  obtain ⟨hcu, hX, hY, hO, hE, hG, hV, hl, ho, hM⟩ := h'
  have U := hcu.1
  have tt := hcu.2.2.1
  have ec := hcu.2.2.2.1
  have kk := ls_fem U.1 (by omega) hc (by decide) (by decide) (by decide) (by decide)
  have cd := ls_cod U tt ec (Nat.le_refl _) (t' := t) ⟨Nat.le_refl _, tt.2⟩ ec (Nat.le_refl _)
  have LB := ls_cu_len hcu
  have hV : ls_lev (ls_sm a_declared a_cellKind a_cellValue a_vDecl a_vKind a_vVal) a_vName (L :: Ls) := hV
  have XB := (ls_cu_len (ls_cu_opd (z := (0, 0)) hcu hc)).1
  rw [List.length_cons] at XB
  have nm16 : T pos - 54 < 16 := by omega
  have a24 := ls_addr24 (L := L) (nm := T pos - 54) LB.2.2.2.2.2.2.1 nm16
  have e54 : a_tk (pos + e) = nI (T pos - 54 + 54) := by rw [t1, show T pos - 54 + 54 = T pos by omega]
  have as8 := hl.2.2.2.1
  have sl80 : ls_sl Ls + L.length ≤ 80 := by omega
  have A11 : a_tk (pos + e + 1) = nI (T (pos + 1)) ∧ T (pos + 1) < 100 ∧ pos + e + 1 < 384 := by
    rw [show pos + e + 1 = pos + 1 + e by omega]; exact A1
  rcases ls_vr hG hV nm16 LB.2.2.2.2.2.1 with ⟨sm, dcl⟩ | ⟨g1, g2, g3⟩
  · obtain ⟨dd, kd, s1, s2, s3, s4, s5, s6, s7, s8, s9⟩ := sm
    refine gs_opd (a := 1) (b := b + 1) (z := (kd, a_cellValue (ls_cell (ls_addr L (T pos - 54)) as.length))) ih h hF hc s8 (by omega) (by omega) (fun hb => ?_) (fun hb => ?_)
    · rw [ls_ni d1 (show (ls_em k 3 (nI (ls_addr L (T pos - 54))) 0 (nI pos)).1 = k.1 + 1 from rfl)]
      refine xr_of (fun post f s hs hh => gx_3 d2 hs (cd.2.2.1.trans kk.1) (hx_load d2 hb a24 as8 (cd.2.2.2.1.trans kk.2.1) (fun _ => ?_) (fun q => absurd q (by rw [s3]; exact ls_nin (by omega)))))
      rw [s4]
      exact hh
    · refine ls_yr_t yr1 (yr_value B (fun post hp => ?_))
      refine hy_value_v A11.2.2 hb nm16 e54 A11.1 ⟨A11.2.1, h15⟩ LB.2.2.2.2.2.2.2.1 sl80 hV.1 (fun _ => ⟨s6, by omega⟩) (fun _ => ?_) (fun q1 q2 => ?_)
      · rw [s7, show pos + e + 1 = pos + 1 + e by omega]
        exact hp
      · rcases dcl with q | q
        · omega
        · exact absurd q q2
  · have hx : ls_xr 1 (f_tickLimit, f_tokenCount, nI oc, 0, f_errorPlace, f_lastKind, f_lastValue, f_codeSize, nI mc, nI mu, nI (88 + xs.length), nI as.length, nI (k.1 - d), nI tl, f_state, f_pos, f_expressionStart, f_pendingCount, f_frameTop, f_localCount, a_tokenCode, a_tokenValue, a_outKind, a_outValue, a_codeOp, a_codeArg, a_codeKind, a_codePlace, a_methodSign, a_methodStart, a_declared, a_cellKind, a_cellValue, a_callReturn, a_pendingLevel, a_pendingPlace, a_pendingMore, a_frameKind, a_frameMore, a_localName) (f_tickLimit, f_tokenCount, nI oc, nI 2, nI pos, f_lastKind, f_lastValue, f_codeSize, nI mc, nI mu, nI (88 + xs.length), nI as.length, nI (k.1 - d + 1), nI tl, f_state, f_pos, f_expressionStart, f_pendingCount, f_frameTop, f_localCount, a_tokenCode, a_tokenValue, a_outKind, a_outValue, a_codeOp, a_codeArg, a_codeKind, a_codePlace, a_methodSign, a_methodStart, a_declared, a_cellKind, a_cellValue, a_callReturn, a_pendingLevel, a_pendingPlace, a_pendingMore, a_frameKind, a_frameMore, a_localName) := by
      refine xr_of (fun post f s hs hh => gx_3 d2 hs (cd.2.2.1.trans kk.1) (hx_load d2 (by omega) a24 as8 (cd.2.2.2.1.trans kk.2.1) (fun q => absurd g2 q) (fun _ => ?_)))
      rw [cd.2.2.2.2.2, kk.2.2.2]
      exact hh
    have hy : ls_yr (b + 1) (nI mt, nI yn, nI (140 + mu), nI mc, nI (ls_sl Ls + L.length), nI (ls_sl Ls), nI ys.length, nI os.length, nI cs.length, nI (pos + e), nI (ls_md 4 pe), 0, f_errorPlace, nI (mt - tl), nI as.length, nI oc, f_lastKind, nI 0, f_lastValue, f_cnt, f_full, f_flag, f_need, a_tk, a_tv, a_tp, a_mName, a_mKind, a_mCount, a_mPar, a_mAt, a_vName, a_vDecl, a_vKind, a_vVal, a_sk, a_sv, a_oKind, a_oAt, a_oArgs, a_cKind, a_cA, a_cB, a_outK, a_outV) (nI mt, nI yn, nI (140 + mu), nI mc, nI (ls_sl Ls + L.length), nI (ls_sl Ls), nI ys.length, nI os.length, nI cs.length, nI (pos + e + 1), 3, nI 2, nI pos, nI (mt - tl), nI as.length, nI oc, f_lastKind, nI 0, f_lastValue, f_cnt, f_full, f_flag, f_need, a_tk, a_tv, a_tp, a_mName, a_mKind, a_mCount, a_mPar, a_mAt, a_vName, a_vDecl, a_vKind, a_vVal, a_sk, a_sv, a_oKind, a_oAt, a_oArgs, a_cKind, a_cA, a_cB, a_outK, a_outV) := by
      refine ls_yr_t yr1 (yr_value B (fun post hp => hy_value_v A11.2.2 (by omega) nm16 e54 A11.1 ⟨A11.2.1, h15⟩ LB.2.2.2.2.2.2.2.1 sl80 hV.1 (k := 0) (fun q => ?_) (fun q => ?_) (fun _ _ => ?_)))
      · rcases q with q | q
        · omega
        · exact absurd q g3
      · rcases q with q | q
        · omega
        · exact absurd q g3
      · rw [t4]
        exact hp
    have lt2 := ls_tl5 U.1 (by omega) hc
    exact gs_err h ⟨by decide, by decide⟩ (by rw [← hF]; unfold ls_Phi; omega) (by rw [← hF]; unfold ls_Phi; omega) hx hy
end
