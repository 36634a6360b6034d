/-! Loops go round; parts that are left out -/
section
variable {T : Nat → Nat} {V : Nat → Int32} {C : Nat → LsC} {kF : LsK} {n N d e ta tz : Nat} {yn : Nat} {cr mk D : Nat → Int32} {co ca ck cp tk : Nat → Int32} {tv : Nat → Int64} {tp : Nat → Int32}
variable {t st pos es : Nat} {pe : List LsP} {k : LsK} {as : List LsA} {Ls : List (List Nat)} {xs ys : List LsV} {os : List LsP}
set_option maxHeartbeats 200000 in
theorem ls_cs_top2 {fr : List LsF} {L : List Nat} {cs : List LsP} (h : ls_cu yn cr mk D (ls_UA co ca ck cp tk tv tp) (T, V, C, kF, n, N, d, e, ta, tz) t as (st, pos, es, [], fr, L, k) Ls xs ys os cs) (hs : st < 4) (a8 : as.length ≤ 8) (hq : ∀ t2 q es2 f r L' k2, t ≤ t2 → t2 < tz → C t2 = (3, q, es2, [], f :: r, L', k2) → f.1 = 5 → pos < q) : ∀ x r, cs = x :: r → (x.1 < 100 ∧ x.2.2 < 100000) ∧ (x.1 = 2 → x.2.2 ≠ pos + e) := by
  intro x r hx
  obtain ⟨a1, a2, a3, a4, c0, a5, a6⟩ := ls_cu_s h (by omega)
  have U := a1
  obtain ⟨g1, _, g3, _, ⟨g5, _⟩, _⟩ := a1
  rcases ls_ct_top a5 with q | ⟨a, r', q⟩ | ⟨f, r', L', q, r'', e1, lp⟩
  · rw [hx] at q
    subst q
    cases as with
    | nil => have := a6.2.2.2.2.2; cases this
    | cons A as =>
      obtain ⟨U', t'⟩ := A
      have SL := ls_sus_len ls_UA_ex a6
      obtain ⟨T', V', C', kF', n', N', d', e', ta', tz'⟩ := U'
      obtain ⟨ha, pos', es', pe', f', r', L', k', q', m, ins, Ls', xs', ys', os', c1, cs', h1, h2, h3, h4, h5, h6, h7, h8, h9, h10, h11, h12, h13, h14, h15⟩ := a6
      injection h13 with h13 _
      rw [h13]
      have := ls_sus_len ls_UA_ex h15
      rw [List.length_cons] at a8
      exact ⟨⟨by show (3 : Nat) < 100; omega, by show m * 128 + ls_sl Ls' < 100000; omega⟩, fun q => by have q' : (3 : Nat) = 2 := q; omega⟩
  · rw [hx] at q
    injection q with q _
    rw [q]
    exact ⟨⟨by show (1 : Nat) < 100; omega, by show (0 : Nat) < 100000; omega⟩, fun q => by have q' : (1 : Nat) = 2 := q; omega⟩
  · rw [hx] at e1
    injection e1 with e1 _
    rw [e1]
    obtain ⟨s, t2, k0, es2, k2, b1, b2, b3, b4, b5, b6, b7, b8, b9, b10⟩ := lp
    have ad' := hq t2 q es2 f r' L' k2 b3 b4 b9 b5.1
    have qz := ls_pos_le g1 (show t2 ≤ tz by omega) g3.2
    rw [b9] at qz
    have qz' : q ≤ (C tz).2.1 := qz
    exact ⟨⟨by show (2 : Nat) < 100; omega, by show q + e < 100000; omega⟩, fun _ => by show q + e ≠ pos + e; omega⟩
end
section
variable {f_tickLimit f_tokenCount f_outCount f_error f_errorPlace f_lastKind f_codeSize f_methodCount f_methodTokens f_cellCount f_activeCalls f_next f_ticksLeft f_state f_pos f_expressionStart f_pendingCount f_frameTop f_localCount : Int32}
variable {f_lastValue : Int64}
variable {a_tokenCode a_tokenValue a_outKind a_codeOp a_codeArg a_codeKind a_codePlace a_methodSign a_methodStart a_declared a_cellKind a_callReturn a_pendingLevel a_pendingPlace a_pendingMore a_frameKind a_frameMore a_localName : Nat → Int32}
variable {a_outValue a_cellValue : Nat → Int64}
variable {f_cnt f_full f_flag f_need : Int32}
variable {a_tk a_tp a_mName a_mKind a_mCount a_mPar a_mAt a_vName a_vDecl a_vKind a_sk a_oKind a_oAt a_oArgs a_cKind a_cA a_cB a_outK : Nat → Int32}
variable {a_tv a_vVal a_sv a_outV : Nat → Int64}
variable {yn mt tl oc mc mu : Nat} {T : Nat → Nat} {V : Nat → Int32} {C : Nat → LsC} {kF : LsK} {n N d e ta tz t : Nat} {as : List LsA} {st pos es : Nat} {pe : List LsP} {fr : List LsF} {L : List Nat} {k : LsK} {Ls : List (List Nat)} {xs ys : List LsV} {os cs : List LsP} {F : Nat}
set_option maxHeartbeats 200000 in
/-- a loop's end: its test again -/
theorem gs_lend {mo sp : Nat} {l : List Nat} {r : List LsF} (ih : ls_IH F) (h : ls_S yn mt tl oc mc mu ((T, V, C, kF, n, N, d, e, ta, tz)) t as ((3, pos, es, [], (5, mo, sp, l) :: r, L, k)) Ls xs ys os cs f_tickLimit a_outKind a_outValue a_codeOp a_codeArg a_codeKind a_codePlace a_methodSign a_methodStart a_declared a_cellKind a_cellValue a_callReturn a_tk a_tv a_tp a_mName a_mKind a_mCount a_mPar a_mAt a_vName a_vDecl a_vKind a_vVal a_sk a_sv a_oKind a_oAt a_oArgs a_cKind a_cA a_cB a_outK a_outV) (hF : ls_Phi tl as 3 ((5, mo, sp, l) :: r) N t = F) : ls_G F (f_tickLimit, f_tokenCount, nI oc, 0, f_errorPlace, f_lastKind, f_lastValue, f_codeSize, nI mc, nI mu, nI (88 + xs.length), nI as.length, nI (k.1 - d), nI tl, f_state, f_pos, f_expressionStart, f_pendingCount, f_frameTop, f_localCount, a_tokenCode, a_tokenValue, a_outKind, a_outValue, a_codeOp, a_codeArg, a_codeKind, a_codePlace, a_methodSign, a_methodStart, a_declared, a_cellKind, a_cellValue, a_callReturn, a_pendingLevel, a_pendingPlace, a_pendingMore, a_frameKind, a_frameMore, a_localName) (nI mt, nI yn, nI (140 + mu), nI mc, nI (ls_sl Ls + L.length), nI (ls_sl Ls), nI ys.length, nI os.length, nI cs.length, nI (pos + e), nI 0, 0, f_errorPlace, nI (mt - tl), nI as.length, nI oc, f_lastKind, nI 0, f_lastValue, f_cnt, f_full, f_flag, f_need, a_tk, a_tv, a_tp, a_mName, a_mKind, a_mCount, a_mPar, a_mAt, a_vName, a_vDecl, a_vKind, a_vVal, a_sk, a_sv, a_oKind, a_oAt, a_oArgs, a_cKind, a_cA, a_cB, a_outK, a_outV) := by
  have h' := h
  obtain ⟨hcu, hX, hY, hO, hE, hG, hV, hl, ho, hM⟩ := h'
  have U := hcu.1
  have tt := hcu.2.2.1
  have ec := hcu.2.2.2.1
  have LB := ls_cu_len hcu
  have as8 := hl.2.2.2.1
  have cd := ls_cod U tt ec (Nat.le_refl _) (t' := t) ⟨Nat.le_refl _, tt.2⟩ ec (Nat.le_refl _)
  have dd := ls_d_le U tt ec
  obtain ⟨s, k0, cs', ecs, st1, hc, hk0, cu'⟩ := ls_cu_back hcu
  obtain ⟨k2, c1, c2, c3, c4, c5, c6, _⟩ := ls_fback U.1 (by omega) ec
  have dk := ls_d_le cu'.1 cu'.2.2.1 hc
  have LB' := ls_cu_len cu'
  have ob := LB'.2.2.1
  rw [List.length_cons] at ob
  have cl : cs.length = cs'.length + 1 := by rw [ecs, List.length_cons]
  have p384 : pos + e < 384 := by
    have lt := ls_UK_lt hcu.2.1 U.2.2.1.2 U.1 tt.2 ec (by decide) (fun q => by have : (5 : Nat) = 2 := q.2; omega)
    have qz := ls_pos_le U.1 tt.2 U.2.2.1.2
    rw [ec] at qz
    have qz' : pos ≤ (C tz).2.1 := qz
    have := U.2.2.2.2.1.1
    obtain ⟨LM1, LM2⟩ := ls_lim U hcu.2.1
    by_cases a0 : as = []
    · obtain ⟨m1, m2, m3, _⟩ := LM1 a0; omega
    · have := (ls_hi U hcu.2.1 ⟨tt.1, lt⟩ ec (Or.inr a0)).1; omega
  have B : cs.length < 1000 ∧ pos + e < 1000 ∧ yn < 1000 := ls_Sb5 h p384
  have sp9 : sp + e < 900 := by
    have := LB'.2.2.2.2.2.2.2.2.1
    have := LB'.2.2.2.2.2.2.2.2.2.1
    have hz := U.2.2.2.2.1.1
    have lo := ls_pos_le U.1 (show s + 1 ≤ tz by omega) U.2.2.1.2
    rw [hc] at lo
    have lo' : sp + 2 ≤ (C tz).2.1 := lo
    omega
  have PH : ls_Phi tl as 4 ((8, mo, sp, []) :: r) N (s + 1) + 1 ≤ F := by
    rw [← hF]
    unfold ls_Phi
    rw [ls_lo5_x (st := 4) (by omega), ls_lo5_x (st := 3) (by omega)]
    show 2240 * (2 * tl + as.length + ls_a5 as + (0 + ls_l5 r)) + 2 * (N - (s + 1)) + 1 + 1 ≤ 2240 * (2 * tl + as.length + ls_a5 as + (1 + ls_l5 r)) + 2 * (N - t) + 1
    omega
  have hE' := hE
  rw [ecs] at hE'
  have S' : ls_S yn mt tl oc mc mu ((T, V, C, kF, n, N, d, e, ta, tz)) (s + 1) as ((4, sp + 2, sp + 2, [], (8, mo, sp, []) :: r, L, k0)) Ls xs ys ((1, sp + e, 0) :: os) cs' f_tickLimit a_outKind a_outValue a_codeOp a_codeArg a_codeKind a_codePlace a_methodSign a_methodStart a_declared a_cellKind a_cellValue a_callReturn a_tk a_tv a_tp a_mName a_mKind a_mCount a_mPar a_mAt a_vName a_vDecl a_vKind a_vVal a_sk a_sv (upd a_oKind os.length 1) (upd a_oAt os.length (nI (sp + e))) (upd a_oArgs os.length 0) a_cKind a_cA a_cB a_outK a_outV := ⟨cu', hX, hY, ⟨pk_us, pk_us, pk_us, ls_StP_ag (fun j hj => ⟨pk_un (by omega), pk_un (by omega), pk_un (by omega)⟩) hO⟩, hE'.2.2.2, hG, hV, hl, ho, hM⟩
  have G0 : ls_G (ls_Phi tl as 4 ((8, mo, sp, []) :: r) N (s + 1)) (f_tickLimit, f_tokenCount, nI oc, 0, f_errorPlace, f_lastKind, f_lastValue, f_codeSize, nI mc, nI mu, nI (88 + xs.length), nI as.length, nI (k0.1 - d), nI tl, f_state, f_pos, f_expressionStart, f_pendingCount, f_frameTop, f_localCount, a_tokenCode, a_tokenValue, a_outKind, a_outValue, a_codeOp, a_codeArg, a_codeKind, a_codePlace, a_methodSign, a_methodStart, a_declared, a_cellKind, a_cellValue, a_callReturn, a_pendingLevel, a_pendingPlace, a_pendingMore, a_frameKind, a_frameMore, a_localName) (nI mt, nI yn, nI (140 + mu), nI mc, nI (ls_sl Ls + L.length), nI (ls_sl Ls), nI ys.length, nI (os.length + 1), nI cs'.length, nI (sp + 2 + e), nI (ls_md 4 []), 0, f_errorPlace, nI (mt - tl), nI as.length, nI oc, f_lastKind, nI (ls_pt 4 ((8, mo, sp, []) :: r)), f_lastValue, f_cnt, f_full, f_flag, f_need, a_tk, a_tv, a_tp, a_mName, a_mKind, a_mCount, a_mPar, a_mAt, a_vName, a_vDecl, a_vKind, a_vVal, a_sk, a_sv, upd a_oKind os.length 1, upd a_oAt os.length (nI (sp + e)), upd a_oArgs os.length 0, a_cKind, a_cA, a_cB, a_outK, a_outV) := ih S' (by omega) (fun q => absurd q.1 (by decide))
  rw [show ls_md 4 [] = 1 from rfl, ls_pt_x (by omega)] at G0
  refine ls_G_go (a := 1) (b := 1) ?_ (yr_stmt B (Or.inl (by omega)) (fun post hp => ?_)) G0 (by omega) (by omega)
  · rw [hk0, ← ls_jmp (a := mo + 1) (b := k.1) (by have := dk.1; omega) dd.1]
    refine xr_of (fun post f s hs hh => gx_14 dd.2 hs (cd.2.2.1.trans c5) ?_)
    rw [cd.2.2.2.1, c6]
    exact hh
  · rw [cl]
    refine hy_statement_l p384 sp9 (by omega) (by omega) hE' ?_
    rw [show sp + e + 2 = sp + 2 + e by omega]
    exact hp
set_option maxHeartbeats 1000000 in
/-- an else-part that is left out -/
theorem gs_else {mo sp : Nat} {l : List Nat} {r : List LsF} (ih : ls_IH F) (h : ls_S yn mt tl oc mc mu ((T, V, C, kF, n, N, d, e, ta, tz)) t as ((3, pos, es, [], (3, mo, sp, l) :: r, L, k)) Ls xs ys os cs f_tickLimit a_outKind a_outValue a_codeOp a_codeArg a_codeKind a_codePlace a_methodSign a_methodStart a_declared a_cellKind a_cellValue a_callReturn a_tk a_tv a_tp a_mName a_mKind a_mCount a_mPar a_mAt a_vName a_vDecl a_vKind a_vVal a_sk a_sv a_oKind a_oAt a_oArgs a_cKind a_cA a_cB a_outK a_outV) (hF : ls_Phi tl as 3 ((3, mo, sp, l) :: r) N t = F) (h7 : T pos = 7) (hc : C (t + 1) = (0, pos + 1, es, [], (4, k.1, sp, []) :: r, L, ls_aim (ls_em k 14 0 0 (nI pos)) mo)) : ls_G F (f_tickLimit, f_tokenCount, nI oc, 0, f_errorPlace, f_lastKind, f_lastValue, f_codeSize, nI mc, nI mu, nI (88 + xs.length), nI as.length, nI (k.1 - d), nI tl, f_state, f_pos, f_expressionStart, f_pendingCount, f_frameTop, f_localCount, a_tokenCode, a_tokenValue, a_outKind, a_outValue, a_codeOp, a_codeArg, a_codeKind, a_codePlace, a_methodSign, a_methodStart, a_declared, a_cellKind, a_cellValue, a_callReturn, a_pendingLevel, a_pendingPlace, a_pendingMore, a_frameKind, a_frameMore, a_localName) (nI mt, nI yn, nI (140 + mu), nI mc, nI (ls_sl Ls + L.length), nI (ls_sl Ls), nI ys.length, nI os.length, nI cs.length, nI (pos + e), nI 0, 0, f_errorPlace, nI (mt - tl), nI as.length, nI oc, f_lastKind, nI 0, f_lastValue, f_cnt, f_full, f_flag, f_need, a_tk, a_tv, a_tp, a_mName, a_mKind, a_mCount, a_mPar, a_mAt, a_vName, a_vDecl, a_vKind, a_vVal, a_sk, a_sv, a_oKind, a_oAt, a_oArgs, a_cKind, a_cA, a_cB, a_outK, a_outV) := by
  have h' := h
  obtain ⟨hcu, hX, hY, hO, hE, hG, hV, hl, ho, hM⟩ := h'
  have U := hcu.1
  have tt := hcu.2.2.1
  have ec := hcu.2.2.2.1
  have LB := ls_cu_len hcu
  have as8 := hl.2.2.2.1
  have cd := ls_cod U tt ec (Nat.le_refl _) (t' := t) ⟨Nat.le_refl _, tt.2⟩ ec (Nat.le_refl _)
  obtain ⟨hg, lt, ltN, d1, d2, t1, t2, t3, t4⟩ := ls_hg hcu (by omega) (fun q => by have : (3 : Nat) = 2 := q.2; omega) (Or.inl (by omega))
  have B : cs.length < 1000 ∧ pos + e < 1000 ∧ yn < 1000 := ls_Sb5 h t3
  have f14 := ls_fat U.1 (by omega) hc (i := k.1) (Nat.lt_succ_self _)
  have op14 : a_codeOp (k.1 - d) = 14 := cd.2.2.1.trans (f14.1.trans pk_us)
  obtain ⟨t', q', es', k', j, f1, f2, f3, f4, f5, f6, f7, f8⟩ := ls_felse U.1 (by omega) hc
  have lt2 := ls_tl0 U.1 (by omega) hc
  obtain ⟨a1, a2, a3, a4, c0, a5, a6⟩ := ls_cu_s hcu (by omega)
  rw [ls_mkd_c (by show (3 : Nat) ≠ 2; decide)] at a2 a6
  have CT := (ls_ct_x (by show (3 : Nat) ≠ 1; decide) (by show (3 : Nat) ≠ 5; decide)).mp a5
  have FRB : ∀ u, t ≤ u → u ≤ t' → r.length ≤ ((C u).2.2.2.2.1).length := by
    intro u u1 u2
    rcases Nat.eq_or_lt_of_le u1 with g1 | g1
    · subst g1; rw [ec]; exact Nat.le_succ _
    · exact f8 u (by omega) u2
  have tz0 := ls_UK_to2 U.1 a2 tt.2 f2 FRB
  have cu' := ls_cu_go (t := t) (fr' := r) U a2 rfl ⟨by omega, tz0⟩ f3 (by omega) FRB (fun u u1 u2 => by omega) CT a6
  have dk := ls_d_le U ⟨by omega, tz0⟩ f3
  obtain ⟨LM1, LM2⟩ := ls_lim U a2
  have lo := ls_pos_le U.1 tt.1 (show t ≤ N by omega)
  rw [ec] at lo
  have lo' : (C ta).2.1 ≤ pos := lo
  have qz := ls_pos_le U.1 tz0 U.2.2.1.2
  rw [f3] at qz
  have qz' : q' ≤ (C tz).2.1 := qz
  have h384 := U.2.2.2.2.1.1
  have QH : as ≠ [] → q' < (C tz).2.1 := by
    intro a0
    obtain ⟨q0, mo0, pb0, es0, L0, k0, w1, w2, w3, w4, w5, w6⟩ := a2.2 a0
    have tzl : t' < tz := by
      rcases Nat.eq_or_lt_of_le tz0 with g | g
      · -- the method's own end has its frame alone
        exfalso
        have hI := (U.1.2.2.2.2 t (by omega)).2.2.2.2
        obtain ⟨y, ha⟩ := hI
        rw [ec] at ha
        have mb := ha.1
        subst g
        rw [f3] at w5
        injection w5 with _ w5
        injection w5 with _ w5
        injection w5 with _ w5
        injection w5 with _ w5
        injection w5 with w5 _
        rw [w5] at mb
        have := mb.1 rfl
        omega
      · exact g
    exact (ls_hi U a2 ⟨by omega, tzl⟩ f3 (Or.inr a0)).1
  have HLIM : pos + 1 + e < 140 → e = 0 ∧ (C tz).2.1 = yn ∧ ∀ p, yn ≤ p → T p = 72 := by
    intro hh
    by_cases a0 : as = []
    · obtain ⟨m1, m2, m3, m4⟩ := LM1 a0
      exact ⟨m1, m2, m4⟩
    · have := LM2 a0; omega
  have HQ2 : 140 ≤ pos + 1 + e → q' < (C tz).2.1 := by
    intro hh
    by_cases a0 : as = []
    · obtain ⟨m1, m2, m3, m4⟩ := LM1 a0
      omega
    · exact QH a0
  have CL := LB.2.2.2.1
  have PZ : (C tz).2.1 ≤ 140 := by
    have hI := (U.1.2.2.2.2 tz U.2.2.1.2).2.1
    have : (C tz).2.1 ≤ n := by
      generalize C tz = c at *
      obtain ⟨st, pos, es, pe, fr, L, k⟩ := c
      exact hI.1
    have := U.1.1.1
    omega
  have CTOP := ls_cs_top2 hcu (by omega) as8 (fun t2 q es2 f r2 L2 k2 w1 w2 w3 w4 => by
    have tne : t ≠ t2 := fun g => by
      subst g
      rw [ec] at w3
      injection w3 with _ w3
      injection w3 with _ w3
      injection w3 with _ w3
      injection w3 with _ w3
      injection w3 with w3 _
      injection w3 with w3 _
      rw [← w3] at w4
      have : (3 : Nat) = 5 := w4
      omega
    have ad := ls_adv3 U.1 (t := t + 1) (t' := t2) (by rw [hc]; exact Or.inl rfl) (by omega) (by have := U.2.2.1.2; omega) (by rw [w3])
    rw [hc, w3] at ad
    have ad' : pos + 1 < q := ad
    omega)
  obtain ⟨ck, ca, cb, hcc, SK⟩ := hy_skipE (p := pos + 1) (q := q') (nc0 := cs.length) (n := yn) U.2.2.2.2.1 (by omega) (by omega) HLIM qz' HQ2 (by omega) f5 (f_most := nI mt) (f_stored := nI (140 + mu)) (f_nm := nI mc) (f_nEnv := nI (ls_sl Ls + L.length)) (f_base := nI (ls_sl Ls)) (f_ns := nI ys.length) (f_no := nI os.length) (f_pc := nI (pos + e)) (f_mode := nI 0) (f_err := 0) (f_errAt := f_errorPlace) (f_ticks := nI (mt - tl)) (f_calls := nI as.length) (f_outs := nI oc) (f_resK := f_lastKind) (f_part := nI 0) (f_resV := f_lastValue) (f_cnt := f_cnt) (f_full := f_full) (f_flag := f_flag) (f_need := f_need) (a_tv := a_tv) (a_tp := a_tp) (a_mName := a_mName) (a_mKind := a_mKind) (a_mCount := a_mCount) (a_mPar := a_mPar) (a_mAt := a_mAt) (a_vName := a_vName) (a_vDecl := a_vDecl) (a_vKind := a_vKind) (a_vVal := a_vVal) (a_sk := a_sk) (a_sv := a_sv) (a_oKind := a_oKind) (a_oAt := a_oAt) (a_oArgs := a_oArgs) (a_cKind := a_cKind) (a_cA := a_cA) (a_cB := a_cB) (a_outK := a_outK) (a_outV := a_outV)
  have P := ls_Phi_lt (tl := tl) (as := as) (st := 3) (st' := 3) (fr := (3, mo, sp, l) :: r) (fr' := r) (N := N) (t := t) (t' := t') (by rw [ls_lo5_x (by omega), ls_lo5_x (by omega)]; show ls_l5 r ≤ 0 + ls_l5 r; omega) (by omega) f2
  have S' : ls_S yn mt tl oc mc mu ((T, V, C, kF, n, N, d, e, ta, tz)) t' as ((3, q', es', [], r, L, k')) Ls xs ys os cs f_tickLimit a_outKind a_outValue a_codeOp a_codeArg a_codeKind a_codePlace a_methodSign a_methodStart a_declared a_cellKind a_cellValue a_callReturn a_tk a_tv a_tp a_mName a_mKind a_mCount a_mPar a_mAt a_vName a_vDecl a_vKind a_vVal a_sk a_sv a_oKind a_oAt a_oArgs ck ca cb a_outK a_outV := ⟨cu', hX, hY, hO, ls_StP_ag hcc hE, hG, hV, hl, ho, hM⟩
  have G0 : ls_G (ls_Phi tl as 3 r N t') (f_tickLimit, f_tokenCount, nI oc, 0, f_errorPlace, f_lastKind, f_lastValue, f_codeSize, nI mc, nI mu, nI (88 + xs.length), nI as.length, nI (k'.1 - d), nI tl, f_state, f_pos, f_expressionStart, f_pendingCount, f_frameTop, f_localCount, a_tokenCode, a_tokenValue, a_outKind, a_outValue, a_codeOp, a_codeArg, a_codeKind, a_codePlace, a_methodSign, a_methodStart, a_declared, a_cellKind, a_cellValue, a_callReturn, a_pendingLevel, a_pendingPlace, a_pendingMore, a_frameKind, a_frameMore, a_localName) (nI mt, nI yn, nI (140 + mu), nI mc, nI (ls_sl Ls + L.length), nI (ls_sl Ls), nI ys.length, nI os.length, nI cs.length, nI (q' + e), nI (ls_md 3 []), 0, f_errorPlace, nI (mt - tl), nI as.length, nI oc, f_lastKind, nI (ls_pt 3 r), f_lastValue, f_cnt, f_full, f_flag, f_need, a_tk, a_tv, a_tp, a_mName, a_mKind, a_mCount, a_mPar, a_mAt, a_vName, a_vDecl, a_vKind, a_vVal, a_sk, a_sv, a_oKind, a_oAt, a_oArgs, ck, ca, cb, a_outK, a_outV) := ih S' (by omega) (ls_n2U h.1.1 h.1.2.2.1 h.1.2.2.2.1 (show (3 : Nat) ≠ 1 by decide))
  rw [show ls_md 3 [] = 0 from rfl, ls_pt_x (by omega)] at G0
  refine ls_G_go (a := 1) (b := 1) ?_ (yr_stmt B hg (fun post hp => ?_)) G0 (by omega) (by omega)
  · rw [← ls_jmp (a := k'.1) (b := k.1) dk.1 d1]
    refine xr_of (fun post f s hs hh => gx_14 d2 hs op14 ?_)
    rw [cd.2.2.2.1, f6]
    exact hh
  · refine hy_statement_m t3 (by omega) hE CTOP (hy_st_else t3 (by rw [t1, h7]; rfl) ?_)
    rw [show pos + e + 1 = pos + 1 + e by omega]
    exact SK _ hp
end
