/-! All steps together -/
section
variable {f_tickLimit f_tokenCount f_outCount f_error f_errorPlace f_lastKind f_codeSize f_methodCount f_methodTokens f_cellCount f_activeCalls f_next f_ticksLeft f_state f_pos f_expressionStart f_pendingCount f_frameTop f_localCount : Int32}
variable {f_lastValue : Int64}
variable {a_tokenCode a_tokenValue a_outKind a_codeOp a_codeArg a_codeKind a_codePlace a_methodSign a_methodStart a_declared a_cellKind a_callReturn a_pendingLevel a_pendingPlace a_pendingMore a_frameKind a_frameMore a_localName : Nat → Int32}
variable {a_outValue a_cellValue : Nat → Int64}
variable {f_cnt f_full f_flag f_need : Int32}
variable {a_tk a_tp a_mName a_mKind a_mCount a_mPar a_mAt a_vName a_vDecl a_vKind a_sk a_oKind a_oAt a_oArgs a_cKind a_cA a_cB a_outK : Nat → Int32}
variable {a_tv a_vVal a_sv a_outV : Nat → Int64}
variable {yn mt tl oc mc mu : Nat} {T : Nat → Nat} {V : Nat → Int32} {C : Nat → LsC} {kF : LsK} {n N d e ta tz t : Nat} {as : List LsA} {st pos es : Nat} {pe : List LsP} {fr : List LsF} {L : List Nat} {k : LsK} {Ls : List (List Nat)} {xs ys : List LsV} {os cs : List LsP} {F : Nat}
set_option maxHeartbeats 200000 in
theorem gs_d0 (ih : ls_IH F) (h : ls_S yn mt tl oc mc mu ((T, V, C, kF, n, N, d, e, ta, tz)) t as ((0, pos, es, [], fr, L, k)) Ls xs ys os cs f_tickLimit a_outKind a_outValue a_codeOp a_codeArg a_codeKind a_codePlace a_methodSign a_methodStart a_declared a_cellKind a_cellValue a_callReturn a_tk a_tv a_tp a_mName a_mKind a_mCount a_mPar a_mAt a_vName a_vDecl a_vKind a_vVal a_sk a_sv a_oKind a_oAt a_oArgs a_cKind a_cA a_cB a_outK a_outV) (hF : ls_Phi tl as 0 fr N t = F) : ls_G F (f_tickLimit, f_tokenCount, nI oc, 0, f_errorPlace, f_lastKind, f_lastValue, f_codeSize, nI mc, nI mu, nI (88 + xs.length), nI as.length, nI (k.1 - d), nI tl, f_state, f_pos, f_expressionStart, f_pendingCount, f_frameTop, f_localCount, a_tokenCode, a_tokenValue, a_outKind, a_outValue, a_codeOp, a_codeArg, a_codeKind, a_codePlace, a_methodSign, a_methodStart, a_declared, a_cellKind, a_cellValue, a_callReturn, a_pendingLevel, a_pendingPlace, a_pendingMore, a_frameKind, a_frameMore, a_localName) (nI mt, nI yn, nI (140 + mu), nI mc, nI (ls_sl Ls + L.length), nI (ls_sl Ls), nI ys.length, nI os.length, nI cs.length, nI (pos + e), nI 0, 0, f_errorPlace, nI (mt - tl), nI as.length, nI oc, f_lastKind, nI (ls_pt 0 fr), f_lastValue, f_cnt, f_full, f_flag, f_need, a_tk, a_tv, a_tp, a_mName, a_mKind, a_mCount, a_mPar, a_mAt, a_vName, a_vDecl, a_vKind, a_vVal, a_sk, a_sv, a_oKind, a_oAt, a_oArgs, a_cKind, a_cA, a_cB, a_outK, a_outV) := by
  have U := h.1.1
  have tt := h.1.2.2.1
  have ec := h.1.2.2.2.1
  obtain ⟨lt, R⟩ := ls_tl0 U.1 (by have := U.2.2.1; omega) ec
  unfold ls_r0 at R
  split at R
  · next q =>
    injection R with R
    obtain ⟨q1, q2⟩ := q
    subst q2
    have cu' := ls_cu_nx h.1 (by omega) (fun q => by omega) (by omega) R.symm
    obtain ⟨_, hX, hY, hO, hE, hG, hV, hl, ho, hM⟩ := h
    have S' : ls_S yn mt tl oc mc mu ((T, V, C, kF, n, N, d, e, ta, tz)) (t + 1) as ((6, pos, es, [], [], L, k)) Ls xs ys os cs f_tickLimit a_outKind a_outValue a_codeOp a_codeArg a_codeKind a_codePlace a_methodSign a_methodStart a_declared a_cellKind a_cellValue a_callReturn a_tk a_tv a_tp a_mName a_mKind a_mCount a_mPar a_mAt a_vName a_vDecl a_vKind a_vVal a_sk a_sv a_oKind a_oAt a_oArgs a_cKind a_cA a_cB a_outK a_outV := ⟨cu', hX, hY, hO, hE, hG, hV, hl, ho, hM⟩
    exact gs_halt S' rfl (by rw [← hF]; unfold ls_Phi; omega)
  · split at R
    · split at R
      · injection R with R
        exact gs_s0 ih h hF (Or.inr ⟨rfl, Or.inl rfl⟩) R.symm
      · injection R with R
        exact gs_s0 ih h hF (Or.inl rfl) R.symm
    · next fk mo sp l r _ =>
      split at R
      · next f1 =>
        subst f1
        split at R
        · next h18 =>
          injection R with R
          by_cases r2 : ls_fk r = 2
          · exact gs_mend ih h hF h18 r2 R.symm
          · exact gs_cls ih h hF h18 r2 R.symm
        · split at R
          · injection R with R
            exact gs_s0 ih h hF (Or.inr ⟨rfl, Or.inr rfl⟩) R.symm
          · injection R with R
            exact gs_s0 ih h hF (Or.inl rfl) R.symm
      · injection R with R
        exact gs_s0 ih h hF (Or.inl rfl) R.symm
set_option maxHeartbeats 200000 in
theorem gs_d1 (ih : ls_IH F) (h : ls_S yn mt tl oc mc mu ((T, V, C, kF, n, N, d, e, ta, tz)) t as ((1, pos, es, [], fr, L, k)) Ls xs ys os cs f_tickLimit a_outKind a_outValue a_codeOp a_codeArg a_codeKind a_codePlace a_methodSign a_methodStart a_declared a_cellKind a_cellValue a_callReturn a_tk a_tv a_tp a_mName a_mKind a_mCount a_mPar a_mAt a_vName a_vDecl a_vKind a_vVal a_sk a_sv a_oKind a_oAt a_oArgs a_cKind a_cA a_cB a_outK a_outV) (hF : ls_Phi tl as 1 fr N t = F) : ls_G F (f_tickLimit, f_tokenCount, nI oc, 0, f_errorPlace, f_lastKind, f_lastValue, f_codeSize, nI mc, nI mu, nI (88 + xs.length), nI as.length, nI (k.1 - d), nI tl, f_state, f_pos, f_expressionStart, f_pendingCount, f_frameTop, f_localCount, a_tokenCode, a_tokenValue, a_outKind, a_outValue, a_codeOp, a_codeArg, a_codeKind, a_codePlace, a_methodSign, a_methodStart, a_declared, a_cellKind, a_cellValue, a_callReturn, a_pendingLevel, a_pendingPlace, a_pendingMore, a_frameKind, a_frameMore, a_localName) (nI mt, nI yn, nI (140 + mu), nI mc, nI (ls_sl Ls + L.length), nI (ls_sl Ls), nI ys.length, nI os.length, nI cs.length, nI (pos + e), nI 0, 0, f_errorPlace, nI (mt - tl), nI as.length, nI oc, f_lastKind, nI (ls_pt 1 fr), f_lastValue, f_cnt, f_full, f_flag, f_need, a_tk, a_tv, a_tp, a_mName, a_mKind, a_mCount, a_mPar, a_mAt, a_vName, a_vDecl, a_vKind, a_vVal, a_sk, a_sv, a_oKind, a_oAt, a_oArgs, a_cKind, a_cA, a_cB, a_outK, a_outV) := by
  have U := h.1.1
  have tt := h.1.2.2.1
  have ec := h.1.2.2.2.1
  obtain ⟨lt, R⟩ := ls_tl1 U.1 (by have := U.2.2.1; omega) ec
  unfold ls_r1 at R
  dsimp only at R
  have HD : ∀ fk, ls_hdr T pos fk [] fr L k.1 (ls_em k 1 0 0 (nI pos)) = .ok (C (t + 1)) → C (t + 1) = (4, pos + 2, pos + 2, [], (fk, k.1, pos, []) :: fr, L, ls_em k 1 0 0 (nI pos)) := by
    intro fk R
    unfold ls_hdr at R
    split at R
    · injection R with R
      exact R.symm
    · cases R
  by_cases c20 : T pos = 20
  · rw [if_pos c20] at R
    injection R with R
    exact gs_semi ih h hF c20 R.symm
  rw [if_neg c20] at R
  by_cases c17 : T pos = 17
  · rw [if_pos c17] at R
    injection R with R
    exact gs_blk ih h hF c17 R.symm
  rw [if_neg c17] at R
  by_cases c6 : T pos = 6
  · rw [if_pos c6] at R
    exact gs_hdr ih h hF (Or.inl ⟨c6, rfl⟩) (HD 7 R)
  rw [if_neg c6] at R
  by_cases c8 : T pos = 8
  · rw [if_pos c8] at R
    exact gs_hdr ih h hF (Or.inr (Or.inl ⟨c8, rfl⟩)) (HD 8 R)
  rw [if_neg c8] at R
  by_cases c12 : T pos = 12
  · rw [if_pos c12] at R
    exact gs_hdr ih h hF (Or.inr (Or.inr ⟨c12, rfl⟩)) (HD 9 R)
  rw [if_neg c12] at R
  by_cases c9 : T pos = 9
  · rw [if_pos c9] at R
    split at R
    · cases R
    · next mo hlp =>
      split at R
      · injection R with R
        exact gs_out ih h hF (Or.inl ⟨c9, rfl⟩) hlp R.symm
      · cases R
  rw [if_neg c9] at R
  by_cases c10 : T pos = 10
  · rw [if_pos c10] at R
    split at R
    · cases R
    · next mo hlp =>
      split at R
      · injection R with R
        exact gs_out ih h hF (Or.inr ⟨c10, rfl⟩) hlp R.symm
      · cases R
  rw [if_neg c10] at R
  by_cases c11 : T pos = 11
  · rw [if_pos c11] at R
    split at R
    · cases R
    · next mq hmk =>
      split at R
      · next e20 =>
        injection R with R
        exact gs_ret0 ih h hF c11 e20 hmk R.symm
      · next e20 =>
        injection R with R
        exact gs_retb ih h hF c11 e20 R.symm
  rw [if_neg c11] at R
  injection R with R
  exact gs_estm ih h hF ⟨c20, c17, c6, c8, c12, c9, c10, c11⟩ R.symm
set_option maxHeartbeats 200000 in
theorem gs_d2 (ih : ls_IH F) (h : ls_S yn mt tl oc mc mu ((T, V, C, kF, n, N, d, e, ta, tz)) t as ((2, pos, es, [], fr, L, k)) Ls xs ys os cs f_tickLimit a_outKind a_outValue a_codeOp a_codeArg a_codeKind a_codePlace a_methodSign a_methodStart a_declared a_cellKind a_cellValue a_callReturn a_tk a_tv a_tp a_mName a_mKind a_mCount a_mPar a_mAt a_vName a_vDecl a_vKind a_vVal a_sk a_sv a_oKind a_oAt a_oArgs a_cKind a_cA a_cB a_outK a_outV) (hF : ls_Phi tl as 2 fr N t = F) : ls_G F (f_tickLimit, f_tokenCount, nI oc, 0, f_errorPlace, f_lastKind, f_lastValue, f_codeSize, nI mc, nI mu, nI (88 + xs.length), nI as.length, nI (k.1 - d), nI tl, f_state, f_pos, f_expressionStart, f_pendingCount, f_frameTop, f_localCount, a_tokenCode, a_tokenValue, a_outKind, a_outValue, a_codeOp, a_codeArg, a_codeKind, a_codePlace, a_methodSign, a_methodStart, a_declared, a_cellKind, a_cellValue, a_callReturn, a_pendingLevel, a_pendingPlace, a_pendingMore, a_frameKind, a_frameMore, a_localName) (nI mt, nI yn, nI (140 + mu), nI mc, nI (ls_sl Ls + L.length), nI (ls_sl Ls), nI ys.length, nI os.length, nI cs.length, nI (pos + e), nI 0, 0, f_errorPlace, nI (mt - tl), nI as.length, nI oc, f_lastKind, nI 0, f_lastValue, f_cnt, f_full, f_flag, f_need, a_tk, a_tv, a_tp, a_mName, a_mKind, a_mCount, a_mPar, a_mAt, a_vName, a_vDecl, a_vKind, a_vVal, a_sk, a_sv, a_oKind, a_oAt, a_oArgs, a_cKind, a_cA, a_cB, a_outK, a_outV) := by
  have U := h.1.1
  have tt := h.1.2.2.1
  have ec := h.1.2.2.2.1
  obtain ⟨lt, R⟩ := ls_tl2 U.1 (by have := U.2.2.1; omega) ec
  have hI := (U.1.2.2.2.2 t (by omega)).2.1
  rw [ec] at hI
  obtain ⟨_, _, _, _, _, _, hI⟩ := hI
  try dsimp only at hI
  rw [if_neg (by decide)] at hI
  obtain ⟨_, _, _, _, hI⟩ := hI
  obtain ⟨T6, hd⟩ := hI rfl
  unfold ls_r2 at R
  split at R
  · next hnm =>
    split at R
    · next q =>
      obtain ⟨q1, q2⟩ := q
      subst q1
      split at R
      · cases R
      · next p L1 sn hh =>
        injection R with R
        exact gs_def ih h hF T6 hnm q2 hh R.symm
    · unfold ls_var at R
      cases fr with
      | nil =>
        dsimp only at R
        split at R
        · next e21 =>
          injection R with R
          exact gs_dg ih h hF T6 hnm (Or.inr ⟨e21, R.symm⟩)
        · split at R
          · next e20 =>
            injection R with R
            exact gs_dg ih h hF T6 hnm (Or.inl ⟨e20, R.symm⟩)
          · cases R
      | cons f r =>
        obtain ⟨fk, mo, sp, l⟩ := f
        have f1 : ls_fk ((fk, mo, sp, l) :: r) = 1 := hd _ rfl
        have AD : ls_addr ((T (pos + 1) - 54) :: L) (T (pos + 1) - 54) = 16 + L.length := if_pos rfl
        dsimp only at R
        split at R
        · next q =>
          rw [AD] at R
          split at R
          · next e21 =>
            injection R with R
            exact gs_dl ih h hF T6 f1 hnm q.1 (Or.inr ⟨e21, rfl, rfl, rfl⟩) R.symm
          · split at R
            · next e20 =>
              injection R with R
              exact gs_dl ih h hF T6 f1 hnm q.1 (Or.inl ⟨e20, rfl, rfl, rfl⟩) R.symm
            · cases R
        · cases R
  · cases R
set_option maxHeartbeats 200000 in
theorem gs_d3 (ih : ls_IH F) (h : ls_S yn mt tl oc mc mu ((T, V, C, kF, n, N, d, e, ta, tz)) t as ((3, pos, es, [], fr, L, k)) Ls xs ys os cs f_tickLimit a_outKind a_outValue a_codeOp a_codeArg a_codeKind a_codePlace a_methodSign a_methodStart a_declared a_cellKind a_cellValue a_callReturn a_tk a_tv a_tp a_mName a_mKind a_mCount a_mPar a_mAt a_vName a_vDecl a_vKind a_vVal a_sk a_sv a_oKind a_oAt a_oArgs a_cKind a_cA a_cB a_outK a_outV) (hF : ls_Phi tl as 3 fr N t = F) (hb : ls_fk fr ≠ 2) : ls_G F (f_tickLimit, f_tokenCount, nI oc, 0, f_errorPlace, f_lastKind, f_lastValue, f_codeSize, nI mc, nI mu, nI (88 + xs.length), nI as.length, nI (k.1 - d), nI tl, f_state, f_pos, f_expressionStart, f_pendingCount, f_frameTop, f_localCount, a_tokenCode, a_tokenValue, a_outKind, a_outValue, a_codeOp, a_codeArg, a_codeKind, a_codePlace, a_methodSign, a_methodStart, a_declared, a_cellKind, a_cellValue, a_callReturn, a_pendingLevel, a_pendingPlace, a_pendingMore, a_frameKind, a_frameMore, a_localName) (nI mt, nI yn, nI (140 + mu), nI mc, nI (ls_sl Ls + L.length), nI (ls_sl Ls), nI ys.length, nI os.length, nI cs.length, nI (pos + e), nI 0, 0, f_errorPlace, nI (mt - tl), nI as.length, nI oc, f_lastKind, nI (ls_pt 3 fr), f_lastValue, f_cnt, f_full, f_flag, f_need, a_tk, a_tv, a_tp, a_mName, a_mKind, a_mCount, a_mPar, a_mAt, a_vName, a_vDecl, a_vKind, a_vVal, a_sk, a_sv, a_oKind, a_oAt, a_oArgs, a_cKind, a_cA, a_cB, a_outK, a_outV) := by
  have U := h.1.1
  have tt := h.1.2.2.1
  have ec := h.1.2.2.2.1
  obtain ⟨lt, R⟩ := ls_tl3 U.1 (by have := U.2.2.1; omega) ec
  have hI := (U.1.2.2.2.2 t (by omega)).2.1
  rw [ec] at hI
  obtain ⟨_, _, _, _, _, _, hI⟩ := hI
  rw [if_neg (by decide)] at hI
  obtain ⟨_, _, _, fok, _⟩ := hI
  unfold ls_r3 at R
  cases fr with
  | nil =>
    dsimp only at R
    injection R with R
    exact gs_s3l ih h hF (Or.inl rfl) R.symm
  | cons f r =>
    obtain ⟨fk, mo, sp, l⟩ := f
    dsimp only at R
    by_cases f3 : fk = 3
    · rw [if_pos f3] at R
      subst f3
      by_cases h7 : T pos = 7
      · rw [if_pos h7] at R
        injection R with R
        rw [ls_pt_x (by omega)]
        exact gs_else ih h hF h7 R.symm
      · rw [if_neg h7] at R
        injection R with R
        exact gs_s3p ih h hF (Or.inl rfl) R.symm
    rw [if_neg f3] at R
    by_cases f4 : fk = 4
    · rw [if_pos f4] at R
      subst f4
      injection R with R
      exact gs_s3p ih h hF (Or.inr rfl) R.symm
    rw [if_neg f4] at R
    by_cases f5 : fk = 5
    · subst f5
      rw [ls_pt_x (by omega)]
      exact gs_lend ih h hF
    rw [if_neg f5] at R
    by_cases f2 : fk = 2
    · exact absurd f2 hb
    rw [if_neg f2] at R
    injection R with R
    have f1 : fk = 1 := by
      have : 1 ≤ fk ∧ fk ≤ 5 := fok.1
      omega
    exact gs_s3l ih h hF (Or.inr f1) R.symm
set_option maxHeartbeats 200000 in
theorem gs_d4 (ih : ls_IH F) (h : ls_S yn mt tl oc mc mu ((T, V, C, kF, n, N, d, e, ta, tz)) t as ((4, pos, es, pe, fr, L, k)) Ls xs ys os cs f_tickLimit a_outKind a_outValue a_codeOp a_codeArg a_codeKind a_codePlace a_methodSign a_methodStart a_declared a_cellKind a_cellValue a_callReturn a_tk a_tv a_tp a_mName a_mKind a_mCount a_mPar a_mAt a_vName a_vDecl a_vKind a_vVal a_sk a_sv a_oKind a_oAt a_oArgs a_cKind a_cA a_cB a_outK a_outV) (hF : ls_Phi tl as 4 fr N t = F) : ls_G F (f_tickLimit, f_tokenCount, nI oc, 0, f_errorPlace, f_lastKind, f_lastValue, f_codeSize, nI mc, nI mu, nI (88 + xs.length), nI as.length, nI (k.1 - d), nI tl, f_state, f_pos, f_expressionStart, f_pendingCount, f_frameTop, f_localCount, a_tokenCode, a_tokenValue, a_outKind, a_outValue, a_codeOp, a_codeArg, a_codeKind, a_codePlace, a_methodSign, a_methodStart, a_declared, a_cellKind, a_cellValue, a_callReturn, a_pendingLevel, a_pendingPlace, a_pendingMore, a_frameKind, a_frameMore, a_localName) (nI mt, nI yn, nI (140 + mu), nI mc, nI (ls_sl Ls + L.length), nI (ls_sl Ls), nI ys.length, nI os.length, nI cs.length, nI (pos + e), nI (ls_md 4 pe), 0, f_errorPlace, nI (mt - tl), nI as.length, nI oc, f_lastKind, nI 0, f_lastValue, f_cnt, f_full, f_flag, f_need, a_tk, a_tv, a_tp, a_mName, a_mKind, a_mCount, a_mPar, a_mAt, a_vName, a_vDecl, a_vKind, a_vVal, a_sk, a_sv, a_oKind, a_oAt, a_oArgs, a_cKind, a_cA, a_cB, a_outK, a_outV) := by
  have U := h.1.1
  have tt := h.1.2.2.1
  have ec := h.1.2.2.2.1
  obtain ⟨lt, R⟩ := ls_tl4 U.1 (by have := U.2.2.1; omega) ec
  unfold ls_r4 at R
  dsimp only at R
  by_cases hn : ls_nam (T pos)
  · rw [if_pos hn] at R
    by_cases h15 : T (pos + 1) = 15
    · rw [if_pos h15] at R
      by_cases h16 : T (pos + 2) = 16
      · rw [if_pos h16] at R
        injection R with R
        exact gs_c0 ih h hF hn h15 h16 R.symm
      · rw [if_neg h16] at R
        injection R with R
        exact gs_fcall ih h hF hn h15 h16 R.symm
    · rw [if_neg h15] at R
      by_cases hsa : ls_starts pe = true ∧ ls_asg (T (pos + 1))
      · rw [if_pos hsa] at R
        obtain ⟨hs, ha⟩ := hsa
        by_cases h21 : T (pos + 1) = 21
        · rw [if_pos h21] at R
          injection R with R
          exact gs_asg ih h hF hn hs h21 R.symm
        · rw [if_neg h21] at R
          injection R with R
          exact gs_upd ih h hF hn hs (by rcases ha with q | q
                                         · exact absurd q h21
                                         · exact q) R.symm
      · rw [if_neg hsa] at R
        injection R with R
        exact gs_load ih h hF hn h15 hsa R.symm
  rw [if_neg hn] at R
  by_cases c70 : T pos = 70
  · rw [if_pos c70] at R
    injection R with R
    exact gs_lit (kd := 3) (ag := V pos) ih h hF (Or.inl ⟨c70, rfl⟩) (by rw [if_neg (by omega), if_neg (by omega)]) rfl R.symm
  rw [if_neg c70] at R
  by_cases c71 : T pos = 71
  · rw [if_pos c71] at R
    injection R with R
    exact gs_lit (kd := 4) (ag := V pos) ih h hF (Or.inr (Or.inl ⟨c71, rfl⟩)) (by rw [if_neg (by omega), if_neg (by omega)]) rfl R.symm
  rw [if_neg c71] at R
  by_cases c13 : T pos = 13
  · rw [if_pos c13] at R
    injection R with R
    exact gs_lit (kd := 0) (ag := 1) (x := 1) ih h hF (Or.inr (Or.inr (Or.inl ⟨c13, rfl⟩))) (by rw [if_pos c13]) (by decide) R.symm
  rw [if_neg c13] at R
  by_cases c14 : T pos = 14
  · rw [if_pos c14] at R
    injection R with R
    exact gs_lit (kd := 0) (ag := 0) (x := 0) ih h hF (Or.inr (Or.inr (Or.inr ⟨c14, rfl⟩))) (by rw [if_neg (by omega), if_pos c14]) (by decide) R.symm
  rw [if_neg c14] at R
  by_cases c15 : T pos = 15
  · rw [if_pos c15] at R
    by_cases l5 : T (pos + 1) < 5
    · rw [if_pos l5] at R
      split at R
      · injection R with R
        exact gs_cast ih h hF c15 l5 R.symm
      · unfold ls_flt at R; cases R
    · rw [if_neg l5] at R
      split at R
      · unfold ls_flt at R; cases R
      · injection R with R
        exact gs_group ih h hF c15 (by omega) R.symm
  rw [if_neg c15] at R
  split at R
  · next c22 =>
    injection R with R
    exact gs_sign ih h hF c22 R.symm
  · unfold ls_flt at R; cases R
set_option maxHeartbeats 200000 in
theorem gs_d5e (ih : ls_IH F) (h : ls_S yn mt tl oc mc mu ((T, V, C, kF, n, N, d, e, ta, tz)) t as ((5, pos, es, [], fr, L, k)) Ls xs ys os cs f_tickLimit a_outKind a_outValue a_codeOp a_codeArg a_codeKind a_codePlace a_methodSign a_methodStart a_declared a_cellKind a_cellValue a_callReturn a_tk a_tv a_tp a_mName a_mKind a_mCount a_mPar a_mAt a_vName a_vDecl a_vKind a_vVal a_sk a_sv a_oKind a_oAt a_oArgs a_cKind a_cA a_cB a_outK a_outV) (hF : ls_Phi tl as 5 fr N t = F) (R : ls_end T pos es fr L k = .ok (C (t + 1))) : ls_G F (f_tickLimit, f_tokenCount, nI oc, 0, f_errorPlace, f_lastKind, f_lastValue, f_codeSize, nI mc, nI mu, nI (88 + xs.length), nI as.length, nI (k.1 - d), nI tl, f_state, f_pos, f_expressionStart, f_pendingCount, f_frameTop, f_localCount, a_tokenCode, a_tokenValue, a_outKind, a_outValue, a_codeOp, a_codeArg, a_codeKind, a_codePlace, a_methodSign, a_methodStart, a_declared, a_cellKind, a_cellValue, a_callReturn, a_pendingLevel, a_pendingPlace, a_pendingMore, a_frameKind, a_frameMore, a_localName) (nI mt, nI yn, nI (140 + mu), nI mc, nI (ls_sl Ls + L.length), nI (ls_sl Ls), nI ys.length, nI os.length, nI cs.length, nI (pos + e), nI 3, 0, f_errorPlace, nI (mt - tl), nI as.length, nI oc, f_lastKind, nI 0, f_lastValue, f_cnt, f_full, f_flag, f_need, a_tk, a_tv, a_tp, a_mName, a_mKind, a_mCount, a_mPar, a_mAt, a_vName, a_vDecl, a_vKind, a_vVal, a_sk, a_sv, a_oKind, a_oAt, a_oArgs, a_cKind, a_cA, a_cB, a_outK, a_outV) := by
  have U := h.1.1
  have tt := h.1.2.2.1
  have ec := h.1.2.2.2.1
  have hI := (U.1.2.2.2.2 t (by have := U.2.2.1; omega)).2.1
  rw [ec] at hI
  obtain ⟨_, _, _, _, _, _, hI⟩ := hI
  try dsimp only at hI
  rw [if_pos (Or.inr rfl)] at hI
  obtain ⟨_, _, _, _, f0, r0, fe, xf, _⟩ := hI
  unfold ls_end at R
  split at R
  · cases R
  cases fr with
  | nil => cases R
  | cons f r =>
    obtain ⟨fk, mo, sp, l⟩ := f
    dsimp only at R
    injection fe with fe1 fe2
    subst fe1 fe2
    by_cases c7 : fk = 7
    · rw [if_pos c7] at R
      subst c7
      split at R
      · next h16 =>
        injection R with R
        exact gs_e7 ih h hF h16 R.symm
      · cases R
    rw [if_neg c7] at R
    by_cases c8 : fk = 8
    · rw [if_pos c8] at R
      subst c8
      split at R
      · next h16 =>
        injection R with R
        exact gs_e8 ih h hF h16 R.symm
      · cases R
    rw [if_neg c8] at R
    by_cases c9 : fk = 9
    · rw [if_pos c9] at R
      subst c9
      split at R
      · next h16 =>
        split at R
        · injection R with R
          exact gs_e9 ih h hF h16 R.symm
        · cases R
      · cases R
    rw [if_neg c9] at R
    split at R
    · next h20 =>
      by_cases c10 : fk = 10
      · rw [if_pos c10] at R
        subst c10
        injection R with R
        have := xf.2.2.2.2.2.2.2 rfl
        cases hmk : ls_mkd r with
        | none => exact absurd hmk this
        | some mq =>
          rw [hmk] at R
          exact gs_e10 ih h hF h20 hmk R.symm
      rw [if_neg c10] at R
      by_cases c11 : fk = 11
      · rw [if_pos c11] at R
        subst c11
        injection R with R
        exact gs_e11 ih h hF h20 R.symm
      rw [if_neg c11] at R
      injection R with R
      have x1 : 6 ≤ fk := xf.1
      have x2 : fk < 12 := xf.2.1
      have c6 : fk = 6 := by omega
      subst c6
      exact gs_e6 ih h hF h20 R.symm
    · cases R
set_option maxHeartbeats 200000 in
theorem ls_lv_ge2 {a : Nat} : 2 ≤ ls_lv a := by
  unfold ls_lv
  repeat' split
  all_goals omega
set_option maxHeartbeats 200000 in
theorem ls_lv_lg {a : Nat} (h : a = 41 ∨ a = 42) : 2 < ls_lv a := by
  rcases h with rfl | rfl <;> decide
set_option maxHeartbeats 200000 in
theorem gs_d5 (ih : ls_IH F) (h : ls_S yn mt tl oc mc mu ((T, V, C, kF, n, N, d, e, ta, tz)) t as ((5, pos, es, pe, fr, L, k)) Ls xs ys os cs f_tickLimit a_outKind a_outValue a_codeOp a_codeArg a_codeKind a_codePlace a_methodSign a_methodStart a_declared a_cellKind a_cellValue a_callReturn a_tk a_tv a_tp a_mName a_mKind a_mCount a_mPar a_mAt a_vName a_vDecl a_vKind a_vVal a_sk a_sv a_oKind a_oAt a_oArgs a_cKind a_cA a_cB a_outK a_outV) (hF : ls_Phi tl as 5 fr N t = F) : ls_G F (f_tickLimit, f_tokenCount, nI oc, 0, f_errorPlace, f_lastKind, f_lastValue, f_codeSize, nI mc, nI mu, nI (88 + xs.length), nI as.length, nI (k.1 - d), nI tl, f_state, f_pos, f_expressionStart, f_pendingCount, f_frameTop, f_localCount, a_tokenCode, a_tokenValue, a_outKind, a_outValue, a_codeOp, a_codeArg, a_codeKind, a_codePlace, a_methodSign, a_methodStart, a_declared, a_cellKind, a_cellValue, a_callReturn, a_pendingLevel, a_pendingPlace, a_pendingMore, a_frameKind, a_frameMore, a_localName) (nI mt, nI yn, nI (140 + mu), nI mc, nI (ls_sl Ls + L.length), nI (ls_sl Ls), nI ys.length, nI os.length, nI cs.length, nI (pos + e), nI 3, 0, f_errorPlace, nI (mt - tl), nI as.length, nI oc, f_lastKind, nI 0, f_lastValue, f_cnt, f_full, f_flag, f_need, a_tk, a_tv, a_tp, a_mName, a_mKind, a_mCount, a_mPar, a_mAt, a_vName, a_vDecl, a_vKind, a_vVal, a_sk, a_sv, a_oKind, a_oAt, a_oArgs, a_cKind, a_cA, a_cB, a_outK, a_outV) := by
  have U := h.1.1
  have tt := h.1.2.2.1
  have ec := h.1.2.2.2.1
  obtain ⟨lt, R⟩ := ls_tl5 U.1 (by have := U.2.2.1; omega) ec
  have hH := (U.1.2.2.2.2 t (by omega)).2.2.2.1
  rw [ec] at hH
  obtain ⟨ch, _⟩ := hH (Or.inr rfl)
  have l2 : 2 ≤ ls_lv (T pos) := ls_lv_ge2
  unfold ls_r5 at R
  dsimp only at R
  have BIN : ∀ (_ : 2 < ls_lv (T pos)) (_ : ∀ x r, pe = x :: r → x.1 < ls_lv (T pos)) (_ : C (t + 1) = (4, pos + 1, es, (ls_lv (T pos), pos, k.1) :: pe, fr, L, if T pos = 41 ∨ T pos = 42 then ls_em k 7 0 (nI (T pos - 41)) (nI pos) else k)), ls_G F (f_tickLimit, f_tokenCount, nI oc, 0, f_errorPlace, f_lastKind, f_lastValue, f_codeSize, nI mc, nI mu, nI (88 + xs.length), nI as.length, nI (k.1 - d), nI tl, f_state, f_pos, f_expressionStart, f_pendingCount, f_frameTop, f_localCount, a_tokenCode, a_tokenValue, a_outKind, a_outValue, a_codeOp, a_codeArg, a_codeKind, a_codePlace, a_methodSign, a_methodStart, a_declared, a_cellKind, a_cellValue, a_callReturn, a_pendingLevel, a_pendingPlace, a_pendingMore, a_frameKind, a_frameMore, a_localName) (nI mt, nI yn, nI (140 + mu), nI mc, nI (ls_sl Ls + L.length), nI (ls_sl Ls), nI ys.length, nI os.length, nI cs.length, nI (pos + e), nI 3, 0, f_errorPlace, nI (mt - tl), nI as.length, nI oc, f_lastKind, nI 0, f_lastValue, f_cnt, f_full, f_flag, f_need, a_tk, a_tv, a_tp, a_mName, a_mKind, a_mCount, a_mPar, a_mAt, a_vName, a_vDecl, a_vKind, a_vVal, a_sk, a_sv, a_oKind, a_oAt, a_oArgs, a_cKind, a_cA, a_cB, a_outK, a_outV) := by
    intro g hnr R
    by_cases q : T pos = 41 ∨ T pos = 42
    · rw [if_pos q] at R
      exact gs_dec ih h hF hnr q R
    · rw [if_neg q] at R
      exact gs_bin ih h hF hnr g q R
  split at R
  · split at R
    · next g =>
      injection R with R
      exact BIN g (fun x r q => by cases q) R.symm
    · exact gs_d5e ih h hF R
  · next lv pl mo r _ =>
    split at R
    · next hle =>
      injection R with R
      by_cases c13 : lv = 13
      · subst c13
        exact gs_r13 ih h hF rfl R.symm
      by_cases c2 : lv = 2
      · subst c2
        by_cases h21 : T pl = 21
        · exact gs_r2a ih h hF hle h21 rfl R.symm
        · exact gs_r2u ih h hF hle h21 rfl R.symm
      exact gs_r7 ih h hF (by omega) c13 hle rfl R.symm
    · next hle =>
      split at R
      · next g =>
        injection R with R
        refine BIN g (fun x r' q => ?_) R.symm
        injection q with q1 q2
        subst q1
        show lv < _
        omega
      · next g =>
        split at R
        · next h16 =>
          split at R
          · next l0 =>
            subst l0
            injection R with R
            exact gs_cr ih h hF h16 R.symm
          · next l0 =>
            have l1 : lv = 1 := by omega
            subst l1
            injection R with R
            exact gs_close ih h hF h16 R.symm
        · split at R
          · next h19 =>
            obtain ⟨h19, l0⟩ := h19
            subst l0
            split at R
            · next m3 =>
              injection R with R
              have m1 : 1 ≤ mo := (ch.2.1.1 rfl).1
              exact gs_comma ih h hF h19 ⟨m1, by omega⟩ R.symm
            · unfold ls_flt at R; cases R
          · unfold ls_flt at R; cases R
set_option maxHeartbeats 200000 in
/-- one step of both, whatever the state -/
theorem gs_step (ih : ls_IH F) (h : ls_S yn mt tl oc mc mu ((T, V, C, kF, n, N, d, e, ta, tz)) t as ((st, pos, es, pe, fr, L, k)) Ls xs ys os cs f_tickLimit a_outKind a_outValue a_codeOp a_codeArg a_codeKind a_codePlace a_methodSign a_methodStart a_declared a_cellKind a_cellValue a_callReturn a_tk a_tv a_tp a_mName a_mKind a_mCount a_mPar a_mAt a_vName a_vDecl a_vKind a_vVal a_sk a_sv a_oKind a_oAt a_oArgs a_cKind a_cA a_cB a_outK a_outV) (hF : ls_Phi tl as st fr N t = F) (hb : ¬ (st = 3 ∧ ls_fk fr = 2)) : ls_G F (f_tickLimit, f_tokenCount, nI oc, 0, f_errorPlace, f_lastKind, f_lastValue, f_codeSize, nI mc, nI mu, nI (88 + xs.length), nI as.length, nI (k.1 - d), nI tl, f_state, f_pos, f_expressionStart, f_pendingCount, f_frameTop, f_localCount, a_tokenCode, a_tokenValue, a_outKind, a_outValue, a_codeOp, a_codeArg, a_codeKind, a_codePlace, a_methodSign, a_methodStart, a_declared, a_cellKind, a_cellValue, a_callReturn, a_pendingLevel, a_pendingPlace, a_pendingMore, a_frameKind, a_frameMore, a_localName) (nI mt, nI yn, nI (140 + mu), nI mc, nI (ls_sl Ls + L.length), nI (ls_sl Ls), nI ys.length, nI os.length, nI cs.length, nI (pos + e), nI (ls_md st pe), 0, f_errorPlace, nI (mt - tl), nI as.length, nI oc, f_lastKind, nI (ls_pt st fr), f_lastValue, f_cnt, f_full, f_flag, f_need, a_tk, a_tv, a_tp, a_mName, a_mKind, a_mCount, a_mPar, a_mAt, a_vName, a_vDecl, a_vKind, a_vVal, a_sk, a_sv, a_oKind, a_oAt, a_oArgs, a_cKind, a_cA, a_cB, a_outK, a_outV) := by
  have U := h.1.1
  have tt := h.1.2.2.1
  have ec := h.1.2.2.2.1
  have tN : t ≤ N := by have := U.2.2.1; omega
  have hI := (U.1.2.2.2.2 t tN).2.1
  rw [ec] at hI
  obtain ⟨_, _, _, _, _, _, hI⟩ := hI
  try dsimp only at hI
  have s6 : st ≤ 6 := by
    rcases Nat.lt_or_ge t N with g | g
    · have := (U.1.2.1 t g).1
      rw [ec] at this
      have this' : st < 6 := this
      omega
    · have : t = N := by omega
      subst this
      have := U.1.2.2.1.1
      rw [ec] at this
      have this' : st = 6 := this
      omega
  rcases (show st = 4 ∨ st = 5 ∨ (st ≠ 4 ∧ st ≠ 5) by omega) with q | q | q
  · subst q
    rw [ls_pt_x (by omega)]
    exact gs_d4 ih h hF
  · subst q
    rw [ls_pt_x (by omega)]
    exact gs_d5 ih h hF
  · rw [if_neg (by omega)] at hI
    obtain ⟨_, _, hpe, _⟩ := hI
    subst hpe
    rw [ls_md_s q]
    rcases (show st = 0 ∨ st = 1 ∨ st = 2 ∨ st = 3 ∨ st = 6 by omega) with g | g | g | g | g
    · subst g
      exact gs_d0 ih h hF
    · subst g
      exact gs_d1 ih h hF
    · subst g
      rw [ls_pt_x (by omega)]
      exact gs_d2 ih h hF
    · subst g
      exact gs_d3 ih h hF (fun x => hb ⟨rfl, x⟩)
    · subst g
      rw [ls_pt_x (by omega)]
      have f0 : fr = [] := by
        rcases Nat.lt_or_ge t N with g | g
        · have := (U.1.2.1 t g).1
          rw [ec] at this
          exact absurd this (show ¬ (6 : Nat) < 6 by decide)
        · have : t = N := by omega
          subst this
          have := U.1.2.2.1.2
          rw [ec] at this
          exact this
      exact gs_halt h f0 (by rw [← hF]; unfold ls_Phi; omega)
end
set_option maxHeartbeats 200000 in
theorem gs_all : ∀ F, ls_IH F := by
  intro F
  induction F with
  | zero =>
    unfold ls_IH
    intros
    omega
  | succ F ih =>
    unfold ls_IH
    intro yn mt tl oc mc mu T V C kF n N d e ta tz t as st pos es pe fr L k Ls xs ys os cs
    intros
    rename_i h hF hb
    rcases Nat.lt_or_ge (ls_Phi tl as st fr N t) F with g | g
    · exact ih h g hb
    · have E : ls_Phi tl as st fr N t = F := by omega
      rw [E]
      exact gs_step ih h E hb
