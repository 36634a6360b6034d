/-! Break and continue -/
section
variable {f_tickLimit f_tokenCount f_outCount f_error f_errorPlace f_lastKind f_codeSize f_methodCount f_methodTokens f_cellCount f_activeCalls f_next f_ticksLeft f_state f_pos f_expressionStart f_pendingCount f_frameTop f_localCount : Int32}
variable {f_lastValue : Int64}
variable {a_tokenCode a_tokenValue a_outKind a_codeOp a_codeArg a_codeKind a_codePlace a_methodSign a_methodStart a_declared a_cellKind a_callReturn a_pendingLevel a_pendingPlace a_pendingMore a_frameKind a_frameMore a_localName : Nat → Int32}
variable {a_outValue a_cellValue : Nat → Int64}
variable {f_cnt f_full f_flag f_need : Int32}
variable {a_tk a_tp a_mName a_mKind a_mCount a_mPar a_mAt a_vName a_vDecl a_vKind a_sk a_oKind a_oAt a_oArgs a_cKind a_cA a_cB a_outK : Nat → Int32}
variable {a_tv a_vVal a_sv a_outV : Nat → Int64}
variable {yn mt tl oc mc mu : Nat} {T : Nat → Nat} {V : Nat → Int32} {C : Nat → LsC} {kF : LsK} {n N d e ta tz t : Nat} {as : List LsA} {st pos es : Nat} {pe : List LsP} {fr : List LsF} {L : List Nat} {k : LsK} {Ls : List (List Nat)} {xs ys : List LsV} {os cs : List LsP} {F : Nat}
set_option maxHeartbeats 2000000 in
theorem gs_out {mo : Nat} {ar : Int32} (ih : ls_IH F) (h : ls_S yn mt tl oc mc mu ((T, V, C, kF, n, N, d, e, ta, tz)) t as ((1, pos, es, [], fr, L, k)) Ls xs ys os cs f_tickLimit a_outKind a_outValue a_codeOp a_codeArg a_codeKind a_codePlace a_methodSign a_methodStart a_declared a_cellKind a_cellValue a_callReturn a_tk a_tv a_tp a_mName a_mKind a_mCount a_mPar a_mAt a_vName a_vDecl a_vKind a_vVal a_sk a_sv a_oKind a_oAt a_oArgs a_cKind a_cA a_cB a_outK a_outV) (hF : ls_Phi tl as 1 fr N t = F) (hT : (T pos = 9 ∧ ar = 0) ∨ (T pos = 10 ∧ ar = nI (mo + 1) - nI (k.1 + 1))) (hlp : ls_loop fr = some mo) (hc : C (t + 1) = (3, pos + 2, es, [], fr, L, ls_em (ls_em k 1 0 0 (nI pos)) 14 ar 0 (nI pos))) : ls_G F (f_tickLimit, f_tokenCount, nI oc, 0, f_errorPlace, f_lastKind, f_lastValue, f_codeSize, nI mc, nI mu, nI (88 + xs.length), nI as.length, nI (k.1 - d), nI tl, f_state, f_pos, f_expressionStart, f_pendingCount, f_frameTop, f_localCount, a_tokenCode, a_tokenValue, a_outKind, a_outValue, a_codeOp, a_codeArg, a_codeKind, a_codePlace, a_methodSign, a_methodStart, a_declared, a_cellKind, a_cellValue, a_callReturn, a_pendingLevel, a_pendingPlace, a_pendingMore, a_frameKind, a_frameMore, a_localName) (nI mt, nI yn, nI (140 + mu), nI mc, nI (ls_sl Ls + L.length), nI (ls_sl Ls), nI ys.length, nI os.length, nI cs.length, nI (pos + e), nI 0, 0, f_errorPlace, nI (mt - tl), nI as.length, nI oc, f_lastKind, nI (ls_pt 1 fr), f_lastValue, f_cnt, f_full, f_flag, f_need, a_tk, a_tv, a_tp, a_mName, a_mKind, a_mCount, a_mPar, a_mAt, a_vName, a_vDecl, a_vKind, a_vVal, a_sk, a_sv, a_oKind, a_oAt, a_oArgs, a_cKind, a_cA, a_cB, a_outK, a_outV) := by
  have h' := h
  obtain ⟨hcu, hX, hY, hO, hE, hG, hV, hl, ho, hM⟩ := h'
  have U := hcu.1
  have tt := hcu.2.2.1
  have ec := hcu.2.2.2.1
  obtain ⟨hg, lt, ltN, d1, d2, t1, t2, t3, t4⟩ := ls_hg hcu (by omega) (fun q => by omega) (Or.inl (by omega))
  have LB := ls_cu_len hcu
  have cd := ls_cod U tt ec (Nat.le_refl _) (t' := t) ⟨Nat.le_refl _, tt.2⟩ ec (Nat.le_refl _)
  have as8 := hl.2.2.2.1
  have hl' : f_tickLimit = nI mt ∧ tl - 1 ≤ mt ∧ mt ≤ 400 ∧ as.length ≤ 8 ∧ yn ≤ 140 := ⟨hl.1, by have := hl.2.1; omega, hl.2.2⟩
  have P2 : 2 ≤ F := by rw [← hF]; unfold ls_Phi; omega
  have hV : ls_lev (ls_sm a_declared a_cellKind a_cellValue a_vDecl a_vKind a_vVal) a_vName (L :: Ls) := hV
  have zN := U.2.2.1.2
  have kk := ls_fem2 U.1 (by omega) hc (by decide) (by decide) (by decide) (by decide)
  have op1 : a_codeOp (k.1 - d) = 1 := cd.2.2.1.trans kk.1
  have pl1 : a_codePlace (k.1 - d) = nI pos := cd.2.2.2.2.2.trans kk.2.2.2
  have cd2 := ls_cod (i := k.1 + 1) U tt ec (by omega) (t' := t + 1) ⟨by omega, by omega⟩ hc (by show k.1 + 1 ≤ k.1 + 1 + 1; omega)
  have f14 := ls_fat U.1 (by omega) hc (i := k.1 + 1) (by show k.1 + 1 < k.1 + 1 + 1; omega)
  have op14 : a_codeOp (k.1 - d + 1) = 14 := by
    rw [show k.1 - d + 1 = k.1 + 1 - d by omega]
    exact cd2.2.2.1.trans (f14.1.trans pk_us)
  have d3 : k.1 - d + 1 < 761 := by
    rw [show k.1 - d + 1 = k.1 + 1 - d by omega]
    exact cd2.2.1
  obtain ⟨X, f, r, L5, q, cX, cs5, s, k0, t2, es2, k2, k3, e1, e2, e3, e4, e5, e6, ⟨m, e7⟩, e8, e9, ⟨s1, s2, s3⟩, e10, e11, e12, e13, e14, e15, cuB, cuC⟩ := ls_cu_out hcu hlp
  obtain ⟨f1, f2, f3, f4⟩ := f
  dsimp only at e2 e3 e4 e6 e10 cuC
  subst e2 e3 e4
  have hI := (U.1.2.2.2.2 t (by omega)).2.1
  rw [ec] at hI
  obtain ⟨_, _, _, _, _, _, i7⟩ := hI
  rw [if_neg (by omega)] at i7
  have fok := i7.2.2.2.1
  obtain ⟨k3', c1, c2, c3, c4, c5, c6, c7⟩ := ls_fback U.1 (show t2 ≤ N by omega) e12
  have k33 : k3' = k3 := by
    rw [e13] at c1
    injection c1 with _ c1
    injection c1 with _ c1
    injection c1 with _ c1
    injection c1 with _ c1
    injection c1 with _ c1
    injection c1 with _ c1
    exact c1.symm
  subst k33
  have hV5 : ls_lev (ls_sm a_declared a_cellKind a_cellValue a_vDecl a_vKind a_vVal) a_vName (L5 :: Ls) := by rw [e7]; exact ls_lev_drop m hV
  have hE' := hE
  rw [e6] at hE'
  have SUF : ∀ {A B : List LsP}, ls_StP a_cKind a_cA a_cB (A ++ B) → ls_StP a_cKind a_cA a_cB B := by
    intro A B
    induction A with
    | nil => exact fun h => h
    | cons x A ihA => exact fun h => ihA h.2.2.2
  have hE5 := SUF hE'
  have CL := LB.2.2.2.1
  have cl : cs.length = (cX ++ (2, f3 + e, q + e) :: cs5).length := by rw [e6]
  have L5l : ∀ Y : List LsF, ls_l5 (Y ++ (5, f2, f3, []) :: r) = ls_l5 Y + (1 + ls_l5 r) := by
    intro Y
    induction Y with
    | nil => show 1 + ls_l5 r = 0 + (1 + ls_l5 r); omega
    | cons y Y ihY =>
      show (if y.1 = 5 then 1 else 0) + ls_l5 (Y ++ (5, f2, f3, []) :: r) = (if y.1 = 5 then 1 else 0) + ls_l5 Y + (1 + ls_l5 r)
      rw [ihY]; omega
  have LL : ls_l5 r ≤ ls_lo5 1 fr := by
    unfold ls_lo5
    rw [e1, L5l X]
    split <;> omega
  have N1120 := LB.2.2.2.2.2.2.2.2.2.2.2
  rcases hT with ⟨t9, ar0⟩ | ⟨t10, ar1⟩
  · -- break
    subst ar0
    have TRK : ls_trk (k.1 + 1) ((5, f2, f3, []) :: r) (C (t + 1)) := by
      rw [hc]
      refine ⟨⟨by show k.1 + 1 < k.1 + 1 + 1; omega, Or.inl pk_us, pk_us⟩, X, e1, fun g hg => ?_⟩
      have g134 := e5 g hg
      have FK : ∀ {Z : List LsF}, ls_fok k Z → ∀ g ∈ Z, 2 ≤ g.1 → g.2.1 < k.1 := by
        intro Z
        induction Z with
        | nil => intro _ g hg; cases hg
        | cons z Z ihZ =>
          intro hz g hg hg2
          rcases List.mem_cons.mp hg with rfl | hg
          · exact (hz.2.1 hg2).2
          · exact ihZ hz.2.2.2 g hg hg2
      refine ⟨fun q => by omega, fun q => ?_⟩
      have := FK fok g (by rw [e1]; exact List.mem_append_left _ hg) (by omega)
      omega
    have TRK2 := ls_trk_to U.1 rfl rfl (show t2 ≤ N by omega) (t2 - (t + 1)) (by omega) (fun u u1 u2 => e14 u (by omega) u2) TRK
    rw [e12] at TRK2
    obtain ⟨⟨i1, i2, i3⟩, _⟩ := TRK2
    have mlt : f2 < k.1 := by
      have FK : ∀ {Z : List LsF}, ls_fok k Z → ∀ g ∈ Z, 2 ≤ g.1 → g.2.1 < k.1 := by
        intro Z
        induction Z with
        | nil => intro _ g hg; cases hg
        | cons z Z ihZ =>
          intro hz g hg hg2
          rcases List.mem_cons.mp hg with rfl | hg
          · exact (hz.2.1 hg2).2
          · exact ihZ hz.2.2.2 g hg hg2
      exact FK fok (5, f2, f3, []) (by rw [e1]; simp) (by show 2 ≤ 5; omega)
    have AR := c7 (k.1 + 1) (by omega) i1 i2 i3
    have dk := ls_d_le cuB.1 cuB.2.2.1 e13
    have PT : 0 < tl → ls_Phi (tl - 1) as 3 r N (t2 + 1) + 4 ≤ ls_Phi tl as 1 fr N t := fun q => (ls_Phi_tk (t' := t2 + 1) q (by rw [ls_lo5_x (st := 3) (by omega)]; omega) N1120 ltN (by omega)).1
    refine gs_tick (a := 1) (F' := ls_Phi (tl - 1) as 3 r N (t2 + 1)) (u' := (f_tickLimit, f_tokenCount, nI oc, 0, f_errorPlace, f_lastKind, f_lastValue, f_codeSize, nI mc, nI mu, nI (88 + xs.length), nI as.length, nI (k3'.1 - d), nI (tl - 1), f_state, f_pos, f_expressionStart, f_pendingCount, f_frameTop, f_localCount, a_tokenCode, a_tokenValue, a_outKind, a_outValue, a_codeOp, a_codeArg, a_codeKind, a_codePlace, a_methodSign, a_methodStart, a_declared, a_cellKind, a_cellValue, a_callReturn, a_pendingLevel, a_pendingPlace, a_pendingMore, a_frameKind, a_frameMore, a_localName)) (v' := (nI mt, nI yn, nI (140 + mu), nI mc, nI (ls_sl Ls + L5.length), nI (ls_sl Ls), nI ys.length, nI os.length, nI cs5.length, nI (q + e), nI 0, 0, f_errorPlace, nI (mt - (tl - 1)), nI as.length, nI oc, f_lastKind, nI 0, f_lastValue, f_cnt, f_full, f_flag, f_need, a_tk, a_tv, a_tp, a_mName, a_mKind, a_mCount, a_mPar, a_mAt, a_vName, a_vDecl, a_vKind, a_vVal, a_sk, a_sv, a_oKind, a_oAt, a_oArgs, a_cKind, a_cA, a_cB, a_outK, a_outV)) h (by omega) (by omega) (by omega) (by omega) op1 pl1 P2 (fun q => by have := PT q; omega) (fun q => by have := PT q; omega) (fun _ => ?_) (fun _ post hp => ?_) (fun w => ?_)
    · rw [← ls_jmp (a := k3'.1) (b := k.1 + 1) dk.1 (by omega), show k.1 + 1 - d = k.1 - d + 1 by omega]
      refine xr_of (fun post f s hs hh => gx_14 d3 hs op14 ?_)
      have ea : a_codeArg (k.1 - d + 1) = nI k3'.1 - nI (k.1 + 1) := by
        rw [show k.1 - d + 1 = k.1 + 1 - d by omega]
        exact cd2.2.2.2.1.trans AR
      rw [ea]
      exact hh
    · rw [cl]
      refine hy_begin_o (a := T pos) (c1 := cs5) (Or.inl t9) (by rw [← cl]; omega) e8 hE' (fun _ => ?_) (fun w => by omega)
      rw [e9]
      exact hp
    · have S' : ls_S yn mt (tl - 1) oc mc mu ((T, V, C, kF, n, N, d, e, ta, tz)) (t2 + 1) as ((3, q, es2, [], r, L5, k3')) Ls xs ys os cs5 f_tickLimit a_outKind a_outValue a_codeOp a_codeArg a_codeKind a_codePlace a_methodSign a_methodStart a_declared a_cellKind a_cellValue a_callReturn a_tk a_tv a_tp a_mName a_mKind a_mCount a_mPar a_mAt a_vName a_vDecl a_vKind a_vVal a_sk a_sv a_oKind a_oAt a_oArgs a_cKind a_cA a_cB a_outK a_outV := ⟨cuB, hX, hY, hO, hE5.2.2.2, hG, hV5, hl', ho, hM⟩
      have G0 : ls_G (ls_Phi (tl - 1) as 3 r N (t2 + 1)) (f_tickLimit, f_tokenCount, nI oc, 0, f_errorPlace, f_lastKind, f_lastValue, f_codeSize, nI mc, nI mu, nI (88 + xs.length), nI as.length, nI (k3'.1 - d), nI (tl - 1), f_state, f_pos, f_expressionStart, f_pendingCount, f_frameTop, f_localCount, a_tokenCode, a_tokenValue, a_outKind, a_outValue, a_codeOp, a_codeArg, a_codeKind, a_codePlace, a_methodSign, a_methodStart, a_declared, a_cellKind, a_cellValue, a_callReturn, a_pendingLevel, a_pendingPlace, a_pendingMore, a_frameKind, a_frameMore, a_localName) (nI mt, nI yn, nI (140 + mu), nI mc, nI (ls_sl Ls + L5.length), nI (ls_sl Ls), nI ys.length, nI os.length, nI cs5.length, nI (q + e), nI (ls_md 3 []), 0, f_errorPlace, nI (mt - (tl - 1)), nI as.length, nI oc, f_lastKind, nI (ls_pt 3 r), f_lastValue, f_cnt, f_full, f_flag, f_need, a_tk, a_tv, a_tp, a_mName, a_mKind, a_mCount, a_mPar, a_mAt, a_vName, a_vDecl, a_vKind, a_vVal, a_sk, a_sv, a_oKind, a_oAt, a_oArgs, a_cKind, a_cA, a_cB, a_outK, a_outV) := ih S' (by have := PT w; omega) (ls_n2 h.1.1.1 (show t2 ≤ N by omega) e12 (show (5 : Nat) ≠ 1 by decide))
      rw [show ls_md 3 [] = 0 from rfl, ls_pt_x (by omega)] at G0
      exact G0
  · -- continue
    subst ar1
    have FK : ∀ {Z : List LsF}, ls_fok k Z → ∀ g ∈ Z, 2 ≤ g.1 → g.2.1 < k.1 := by
      intro Z
      induction Z with
      | nil => intro _ g hg; cases hg
      | cons z Z ihZ =>
        intro hz g hg hg2
        rcases List.mem_cons.mp hg with rfl | hg
        · exact (hz.2.1 hg2).2
        · exact ihZ hz.2.2.2 g hg hg2
    have mlt : f2 < k.1 := FK fok (5, f2, f3, []) (by rw [e1]; simp) (by show 2 ≤ 5; omega)
    have k761 := ls_ks U.1 (show t + 1 ≤ N by omega) hc
    have k761' : k.1 + 1 + 1 ≤ 761 := k761.2.1
    have SET : ls_set (3, pos + 2, es, [], fr, L, ls_em (ls_em k 1 0 0 (nI pos)) 14 (nI (f2 + 1) - nI (k.1 + 1)) 0 (nI pos)) (k.1 + 1) := by
      refine ⟨by show k.1 + 1 < k.1 + 1 + 1; omega, fun e he => absurd he (by simp), fun g hg hk q' => ?_, fun _ => ?_⟩
      · have := FK fok g hg (by omega); omega
      · show upd _ (k.1 + 1) (nI (f2 + 1) - nI (k.1 + 1)) (k.1 + 1) ≠ 0
        rw [pk_us]
        intro q'
        have := pk_sneg (a := f2 + 1) (b := k.1 + 1) (by omega) (by omega)
        rw [q'] at this
        exact absurd this (by decide)
    have AR := ls_farg U.1 (show t + 1 ≤ N by omega) hc SET
    have AR' : kF.2.2.1 (k.1 + 1) = nI (f2 + 1) - nI (k.1 + 1) := AR.trans pk_us
    obtain ⟨s', k0', cs', ecs, st1, hc', hk0, cu'⟩ := ls_cu_back cuC
    injection ecs with _ ecs
    subst ecs
    have dk := ls_d_le cu'.1 cu'.2.2.1 hc'
    have LB' := ls_cu_len cu'
    have ob := LB'.2.2.1
    rw [List.length_cons] at ob
    have PT : 0 < tl → ls_Phi (tl - 1) as 4 ((8, f2, f3, []) :: r) N (s' + 1) + 4 ≤ ls_Phi tl as 1 fr N t := fun q => (ls_Phi_tk (t' := s' + 1) q (by rw [ls_lo5_x (st := 4) (by omega)]; show 0 + ls_l5 r ≤ _; omega) N1120 ltN (by omega)).1
    have qe : q + e < 384 := by
      have lq := ls_pos_le U.1 (show t2 ≤ tz by omega) zN
      rw [e12] at lq
      have lq' : q ≤ (C tz).2.1 := lq
      have := U.2.2.2.2.1.1
      obtain ⟨LM1, LM2⟩ := ls_lim U hcu.2.1
      by_cases a0 : as = []
      · obtain ⟨m1, m2, m3, _⟩ := LM1 a0; omega
      · have := (ls_hi U cuC.2.1 ⟨by omega, s3⟩ e12 (Or.inr a0)).1; omega
    have cl5 : cs5.length + 1 ≤ cs.length := by rw [cl, List.length_append, List.length_cons]; omega
    have sp9 : f3 + e < 900 := by
      have lo := ls_pos_le U.1 (show s' + 1 ≤ tz by omega) zN
      rw [hc'] at lo
      have lo' : f3 + 2 ≤ (C tz).2.1 := lo
      have := U.2.2.2.2.1.1
      omega
    refine gs_tick (a := 1) (F' := ls_Phi (tl - 1) as 4 ((8, f2, f3, []) :: r) N (s' + 1) + 1) (u' := (f_tickLimit, f_tokenCount, nI oc, 0, f_errorPlace, f_lastKind, f_lastValue, f_codeSize, nI mc, nI mu, nI (88 + xs.length), nI as.length, nI (k0'.1 - d), nI (tl - 1), f_state, f_pos, f_expressionStart, f_pendingCount, f_frameTop, f_localCount, a_tokenCode, a_tokenValue, a_outKind, a_outValue, a_codeOp, a_codeArg, a_codeKind, a_codePlace, a_methodSign, a_methodStart, a_declared, a_cellKind, a_cellValue, a_callReturn, a_pendingLevel, a_pendingPlace, a_pendingMore, a_frameKind, a_frameMore, a_localName)) (v' := (nI mt, nI yn, nI (140 + mu), nI mc, nI (ls_sl Ls + L5.length), nI (ls_sl Ls), nI ys.length, nI os.length, nI (cs5.length + 1), nI (q + e), nI 0, 0, f_errorPlace, nI (mt - (tl - 1)), nI as.length, nI oc, f_lastKind, nI 0, f_lastValue, f_cnt, f_full, f_flag, f_need, a_tk, a_tv, a_tp, a_mName, a_mKind, a_mCount, a_mPar, a_mAt, a_vName, a_vDecl, a_vKind, a_vVal, a_sk, a_sv, a_oKind, a_oAt, a_oArgs, a_cKind, a_cA, a_cB, a_outK, a_outV)) h (by omega) (by omega) (by omega) (by omega) op1 pl1 P2 (fun q => by have := PT q; omega) (fun q => by have := PT q; omega) (fun _ => ?_) (fun _ post hp => ?_) (fun w => ?_)
    · rw [hk0, ← ls_jmp (a := f2 + 1) (b := k.1 + 1) (by have := dk.1; omega) (by omega), show k.1 + 1 - d = k.1 - d + 1 by omega]
      refine xr_of (fun post f s hs hh => gx_14 d3 hs op14 ?_)
      have ea : a_codeArg (k.1 - d + 1) = nI (f2 + 1) - nI (k.1 + 1) := by
        rw [show k.1 - d + 1 = k.1 + 1 - d by omega]
        exact cd2.2.2.2.1.trans AR'
      rw [ea]
      exact hh
    · rw [cl]
      refine hy_begin_o (a := T pos) (c1 := cs5) (Or.inr t10) (by rw [← cl]; omega) e8 hE' (fun w => by omega) (fun _ => ?_)
      rw [e9]
      exact hp
    · have S' : ls_S yn mt (tl - 1) oc mc mu ((T, V, C, kF, n, N, d, e, ta, tz)) (s' + 1) as ((4, f3 + 2, f3 + 2, [], (8, f2, f3, []) :: r, L5, k0')) Ls xs ys ((1, f3 + e, 0) :: os) cs5 f_tickLimit a_outKind a_outValue a_codeOp a_codeArg a_codeKind a_codePlace a_methodSign a_methodStart a_declared a_cellKind a_cellValue a_callReturn a_tk a_tv a_tp a_mName a_mKind a_mCount a_mPar a_mAt a_vName a_vDecl a_vKind a_vVal a_sk a_sv (upd a_oKind os.length 1) (upd a_oAt os.length (nI (f3 + e))) (upd a_oArgs os.length 0) a_cKind a_cA a_cB a_outK a_outV := ⟨cu', hX, hY, ⟨pk_us, pk_us, pk_us, ls_StP_ag (fun j hj => ⟨pk_un (by omega), pk_un (by omega), pk_un (by omega)⟩) hO⟩, hE5.2.2.2, hG, hV5, hl', ho, hM⟩
      have G0 : ls_G (ls_Phi (tl - 1) as 4 ((8, f2, f3, []) :: r) N (s' + 1)) (f_tickLimit, f_tokenCount, nI oc, 0, f_errorPlace, f_lastKind, f_lastValue, f_codeSize, nI mc, nI mu, nI (88 + xs.length), nI as.length, nI (k0'.1 - d), nI (tl - 1), f_state, f_pos, f_expressionStart, f_pendingCount, f_frameTop, f_localCount, a_tokenCode, a_tokenValue, a_outKind, a_outValue, a_codeOp, a_codeArg, a_codeKind, a_codePlace, a_methodSign, a_methodStart, a_declared, a_cellKind, a_cellValue, a_callReturn, a_pendingLevel, a_pendingPlace, a_pendingMore, a_frameKind, a_frameMore, a_localName) (nI mt, nI yn, nI (140 + mu), nI mc, nI (ls_sl Ls + L5.length), nI (ls_sl Ls), nI ys.length, nI (os.length + 1), nI cs5.length, nI (f3 + 2 + e), nI (ls_md 4 []), 0, f_errorPlace, nI (mt - (tl - 1)), nI as.length, nI oc, f_lastKind, nI (ls_pt 4 ((8, f2, f3, []) :: r)), f_lastValue, f_cnt, f_full, f_flag, f_need, a_tk, a_tv, a_tp, a_mName, a_mKind, a_mCount, a_mPar, a_mAt, a_vName, a_vDecl, a_vKind, a_vVal, a_sk, a_sv, upd a_oKind os.length 1, upd a_oAt os.length (nI (f3 + e)), upd a_oArgs os.length 0, a_cKind, a_cA, a_cB, a_outK, a_outV) := ih S' (by have := PT w; omega) (fun q => absurd q.1 (by decide))
      rw [show ls_md 4 [] = 1 from rfl, ls_pt_x (by omega)] at G0
      refine ls_G_go (a := 0) (b := 1) ls_xr_0 (yr_stmt ⟨by omega, by omega, by have := hl.2.2.2.2; omega⟩ (Or.inl (by omega)) (fun post hp => ?_)) G0 (by omega) (by omega)
      refine hy_statement_l qe sp9 (by omega) (by omega) hE5 ?_
      rw [show f3 + e + 2 = f3 + 2 + e by omega]
      exact hp
end
