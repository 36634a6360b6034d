/-! Declarations and returns with a value -/
section
variable {T : Nat → Nat} {V : Nat → Int32} {C : Nat → LsC} {kF : LsK} {n N d e ta tz : Nat} {yn : Nat} {cr mk D D' : Nat → Int32} {co ca ck cp tk : Nat → Int32} {tv : Nat → Int64} {tp : Nat → Int32}
variable {t st pos es p b e0 : Nat} {pe : List LsP} {fr : List LsF} {k : LsK} {as : List LsA} {Ls : List (List Nat)} {xs ys : List LsV} {os : List LsP} {Q : LsF → List LsF → List Nat → Nat → Prop} {c0 : List LsP}
set_option maxHeartbeats 200000 in
/-- where there are local names there is an entry -/
theorem ls_cs_ne : ∀ {r : List LsF} {L : List Nat} {cs : List LsP} {f : LsF}, ls_mb (f :: r) → f.1 ≠ 1 → ls_fok k r → ls_sco r L → L ≠ [] → ls_ct b e0 Q c0 r L cs → cs ≠ []
  | [], L, cs, f, _, _, _, hs, hL, _ => absurd hs hL
  | g :: r, L, cs, f, hm, hf, hk, hs, hL, hc => by
    have g2 : g.1 ≠ 2 := fun q => hf (hm.1 q)
    unfold ls_ct at hc
    by_cases c1 : g.1 = 1
    · rw [if_pos c1] at hc
      obtain ⟨cs', e1, _⟩ := hc
      rw [e1]; simp
    · rw [if_neg c1] at hc
      by_cases c5 : g.1 = 5
      · rw [if_pos c5] at hc
        obtain ⟨q, cs', e1, _⟩ := hc
        rw [e1]; simp
      · rw [if_neg c5] at hc
        exact ls_cs_ne hm.2 c1 hk.2.2.2 (ls_sco_p hs c1 g2) hL hc
set_option maxHeartbeats 200000 in
theorem ls_cu_D0 {L : List Nat} {cs : List LsP} (h : ls_cu yn cr mk D (ls_UA co ca ck cp tk tv tp) (T, V, C, kF, n, N, d, e, ta, tz) t [] (st, pos, es, [], fr, L, k) Ls xs ys os cs) (hs : ¬ (st = 4 ∨ st = 5)) : ls_cu yn cr mk D' (ls_UA co ca ck cp tk tv tp) (T, V, C, kF, n, N, d, e, ta, tz) t [] (st, pos, es, [], fr, L, k) Ls xs ys os cs := by
  obtain ⟨a1, a2, a3, a4, c0, a5, a6⟩ := ls_cu_s h hs
  exact ls_cu_sm a1 a2 a3 a4 hs a5 a6
end
section
variable {f_tickLimit f_tokenCount f_outCount f_error f_errorPlace f_lastKind f_codeSize f_methodCount f_methodTokens f_cellCount f_activeCalls f_next f_ticksLeft f_state f_pos f_expressionStart f_pendingCount f_frameTop f_localCount : Int32}
variable {f_lastValue : Int64}
variable {a_tokenCode a_tokenValue a_outKind a_codeOp a_codeArg a_codeKind a_codePlace a_methodSign a_methodStart a_declared a_cellKind a_callReturn a_pendingLevel a_pendingPlace a_pendingMore a_frameKind a_frameMore a_localName : Nat → Int32}
variable {a_outValue a_cellValue : Nat → Int64}
variable {f_cnt f_full f_flag f_need : Int32}
variable {a_tk a_tp a_mName a_mKind a_mCount a_mPar a_mAt a_vName a_vDecl a_vKind a_sk a_oKind a_oAt a_oArgs a_cKind a_cA a_cB a_outK : Nat → Int32}
variable {a_tv a_vVal a_sv a_outV : Nat → Int64}
variable {yn mt tl oc mc mu : Nat} {T : Nat → Nat} {V : Nat → Int32} {C : Nat → LsC} {kF : LsK} {n N d e ta tz t : Nat} {as : List LsA} {st pos es : Nat} {pe : List LsP} {fr : List LsF} {L : List Nat} {k : LsK} {Ls : List (List Nat)} {xs ys : List LsV} {os cs : List LsP} {F : Nat}
set_option maxHeartbeats 4000000 in
/-- a declaration's value -/
theorem gs_e11 {mo sp : Nat} {l : List Nat} {r : List LsF} (ih : ls_IH F) (h : ls_S yn mt tl oc mc mu ((T, V, C, kF, n, N, d, e, ta, tz)) t as ((5, pos, es, [], (11, mo, sp, l) :: r, L, k)) Ls xs ys os cs f_tickLimit a_outKind a_outValue a_codeOp a_codeArg a_codeKind a_codePlace a_methodSign a_methodStart a_declared a_cellKind a_cellValue a_callReturn a_tk a_tv a_tp a_mName a_mKind a_mCount a_mPar a_mAt a_vName a_vDecl a_vKind a_vVal a_sk a_sv a_oKind a_oAt a_oArgs a_cKind a_cA a_cB a_outK a_outV) (hF : ls_Phi tl as 5 ((11, mo, sp, l) :: r) N t = F) (h20 : T pos = 20) (hc : C (t + 1) = (3, pos + 1, es, [], r, L, ls_em k 20 (nI (ls_addr L (T (sp + 1) - 54))) (nI (T sp + ls_const T es pos)) (nI (sp + 2)))) : ls_G F (f_tickLimit, f_tokenCount, nI oc, 0, f_errorPlace, f_lastKind, f_lastValue, f_codeSize, nI mc, nI mu, nI (88 + xs.length), nI as.length, nI (k.1 - d), nI tl, f_state, f_pos, f_expressionStart, f_pendingCount, f_frameTop, f_localCount, a_tokenCode, a_tokenValue, a_outKind, a_outValue, a_codeOp, a_codeArg, a_codeKind, a_codePlace, a_methodSign, a_methodStart, a_declared, a_cellKind, a_cellValue, a_callReturn, a_pendingLevel, a_pendingPlace, a_pendingMore, a_frameKind, a_frameMore, a_localName) (nI mt, nI yn, nI (140 + mu), nI mc, nI (ls_sl Ls + L.length), nI (ls_sl Ls), nI ys.length, nI os.length, nI cs.length, nI (pos + e), nI 3, 0, f_errorPlace, nI (mt - tl), nI as.length, nI oc, f_lastKind, nI 0, f_lastValue, f_cnt, f_full, f_flag, f_need, a_tk, a_tv, a_tp, a_mName, a_mKind, a_mCount, a_mPar, a_mAt, a_vName, a_vDecl, a_vKind, a_vVal, a_sk, a_sv, a_oKind, a_oAt, a_oArgs, a_cKind, a_cA, a_cB, a_outK, a_outV) := by
  have h' := h
  obtain ⟨hcu, hX, hY, hO, hE, hG, hV, hl, ho, hM⟩ := h'
  have U := hcu.1
  have tt := hcu.2.2.1
  have ec := hcu.2.2.2.1
  have T72 := ls_T5 U.1 (by have := U.2.2.1; omega) ec
  obtain ⟨lt, ltN, _, d1, d2, t1, t2, t3, t4, t5⟩ := ls_ac hcu (Or.inr rfl) T72
  have B := ls_Sb5 h t3
  have LB := ls_cu_len hcu
  have as8 := hl.2.2.2.1
  have cd := ls_cod U tt ec (Nat.le_refl _) (t' := t) ⟨Nat.le_refl _, tt.2⟩ ec (Nat.le_refl _)
  have lv := ls_lv_ge (T pos)
  have hV : ls_lev (ls_sm a_declared a_cellKind a_cellValue a_vDecl a_vKind a_vVal) a_vName (L :: Ls) := hV
  obtain ⟨kd, q, g, os', lq, eos, k17, g100, o1, o2, o3, q7, cnd, top0, _⟩ := ls_top5 h (fun x r q => by cases q)
  obtain ⟨kd1, f0, r0, ef, eq0, hin⟩ := top0 rfl
  injection ef with ef1 ef2
  subst ef1 ef2 kd1
  dsimp only at eq0
  subst eq0
  have ol : os.length = os'.length + 1 := by rw [eos, List.length_cons]
  obtain ⟨l0, ORG, esp⟩ := ls_orf hcu
  dsimp only at l0 ORG
  subst l0
  have TS := ls_toke U tt ec (Or.inr rfl) rfl (p := sp) (Nat.le_refl _) (by omega)
  have YA : ls_lv (T pos) = 2 → ∀ post : SY → Prop, wpY_fullDone post (nI mt, nI yn, nI (140 + mu), nI mc, nI (ls_sl Ls + L.length), nI (ls_sl Ls), nI ys.length, nI os'.length, nI cs.length, nI (pos + e), nI 3, 0, f_errorPlace, nI (mt - tl), nI as.length, nI oc, f_lastKind, nI 0, f_lastValue, f_cnt, f_full, f_flag, f_need, a_tk, a_tv, a_tp, a_mName, a_mKind, a_mCount, a_mPar, a_mAt, a_vName, a_vDecl, a_vKind, a_vVal, a_sk, a_sv, a_oKind, a_oAt, a_oArgs, a_cKind, a_cA, a_cB, a_outK, a_outV) (nI (sp + e)) → wpY_after post (nI mt, nI yn, nI (140 + mu), nI mc, nI (ls_sl Ls + L.length), nI (ls_sl Ls), nI ys.length, nI os.length, nI cs.length, nI (pos + e), nI 3, 0, f_errorPlace, nI (mt - tl), nI as.length, nI oc, f_lastKind, nI 0, f_lastValue, f_cnt, f_full, f_flag, f_need, a_tk, a_tv, a_tp, a_mName, a_mKind, a_mCount, a_mPar, a_mAt, a_vName, a_vDecl, a_vKind, a_vVal, a_sk, a_sv, a_oKind, a_oAt, a_oArgs, a_cKind, a_cA, a_cB, a_outK, a_outV) := by
    intro LE post gg
    rw [ol]
    exact hy_after_n (kd := 1) (lq := lq) t3 t1 t2 (by omega) o1 k17 o2 q7 o3 g100 (Or.inl (by omega)) (fun q => by omega) (fun _ _ => gg) (fun _ q => by omega) (fun _ q => by omega) (fun _ q => by omega)
  obtain ⟨z, x0, y0, o0, ins, exs, eys, eos0, _, FN1, FN2, FN3, FN4⟩ := ls_cu_fin (st' := 3) (pos' := pos + 1) (es' := es) (k' := ls_em k 20 (nI (ls_addr L (T (sp + 1) - 54))) (nI (T sp + ls_const T es pos)) (nI (sp + 2))) hcu
  rw [exs] at hX
  rw [eys] at hY
  obtain ⟨x1, x2, x3, x4⟩ := hX
  obtain ⟨y1, y2, _, y4⟩ := hY
  rw [Nat.zero_add] at y1 y2
  have xl8 : 88 + xs.length = 88 + x0.length + 1 := by rw [exs, List.length_cons]; omega
  have yl : ys.length = y0.length + 1 := by rw [eys, List.length_cons]
  have oo : os' = o0 := by
    rw [eos] at eos0
    injection eos0
  subst oo
  have z4 := x3.1
  have hO0 : ls_StP a_oKind a_oAt a_oArgs os' := by
    rw [eos] at hO
    exact hO.2.2.2
  have hV : ls_lev (ls_sm a_declared a_cellKind a_cellValue a_vDecl a_vKind a_vVal) a_vName (L :: Ls) := hV
  have LE : ls_lv (T pos) = 2 := by rw [h20]; rfl
  obtain ⟨es3, nmn, T6, LNE⟩ : es = sp + 3 ∧ ls_nam (T (sp + 1)) ∧ T sp < 6 ∧ (r ≠ [] → ∃ l, L = (T (sp + 1) - 54) :: l) := by
    rcases ORG with c | c | c | c | c | c
    all_goals first | exact ⟨c.2.1, c.2.2.1, c.2.2.2.1, c.2.2.2.2⟩ | exact absurd c.1 (by decide)
  have kk := ls_fem U.1 (by omega) hc (by decide) (by decide) (by decide) (by decide)
  have nm16 : T (sp + 1) - 54 < 16 := by have := nmn.2; omega
  have hH := (U.1.2.2.2.2 t (by omega)).2.2.2.1
  rw [ec] at hH
  have hH' := (hH (Or.inr rfl)).2
  rw [if_pos rfl] at hH'
  have pes : es < pos := by omega
  have TS1 := ls_toke U tt ec (Or.inr rfl) rfl (p := sp + 1) (by show sp ≤ sp + 1; omega) (by omega)
  have TS2 := ls_toke U tt ec (Or.inr rfl) rfl (p := sp + 2) (by show sp ≤ sp + 2; omega) (by omega)
  have cl := ls_const_lt (T := T) (a := es) (b := pos)
  have kk16 : T sp + ls_const T es pos < 16 := by omega
  have km : (T sp + ls_const T es pos) % 8 = T sp := by omega
  have kd8 : decide (8 ≤ T sp + ls_const T es pos) = !ls_hasn T es (pos - es) := by
    rw [← ls_cst8]
    rcases cl with q | q <;> rw [q]
    · simp; omega
    · simp
  have a24 := ls_addr24 (L := L) (nm := T (sp + 1) - 54) LB.2.2.2.2.2.2.1 nm16
  have sl80 : ls_sl Ls + L.length ≤ 80 := by omega
  have P := ls_Phi_lt (tl := tl) (as := as) (st := 5) (st' := 3) (fr := (11, mo, sp, []) :: r) (fr' := r) (N := N) (t := t) (t' := t + 1) (by rw [ls_lo5_x (by omega), ls_lo5_x (by omega)]; show ls_l5 r ≤ 0 + ls_l5 r; omega) (by omega) ltN
  have lt2 := ls_tl3 U.1 (by omega) hc
  have TR := ls_top_r hcu (by show 6 ≤ 11; omega)
  have HN : ls_hasn (fun i => T (i - e)) (sp + e + 3) (pos + e - (sp + e + 3)) = ls_hasn T es (pos - es) := by
    rw [show sp + e + 3 = es + e by omega, show pos + e - (es + e) = pos - es by omega]
    exact ls_hasn_sh _ _
  have HT : ∀ i, sp + e + 3 ≤ i → i < pos + e → a_tk i = nI (T (i - e)) ∧ T (i - e) < 100 := by
    intro i i1 i2
    have := ls_toke2 U tt ec (Or.inr rfl) (p := i - e) (by omega) (by omega)
    rw [show i - e + e = i by omega] at this
    exact ⟨this.1, this.2.1⟩
  have e1' : a_tk (sp + e + 1) = nI (T (sp + 1) - 54 + 54) := by rw [show sp + e + 1 = sp + 1 + e by omega, TS1.1, show T (sp + 1) - 54 + 54 = T (sp + 1) by have := nmn.1; omega]
  have p384 : sp + e + 2 < 384 := by have := TS2.2.2.1; omega
  -- the control's entries, and what the variable was
  have NC : (r = [] ∧ cs = [] ∧ as = [] ∧ L = []) ∨ (r ≠ [] ∧ cs ≠ [] ∧ L.length = L.length - 1 + 1 ∧ ls_addr L (T (sp + 1) - 54) = 15 + L.length ∧ a_declared (ls_cell (ls_addr L (T (sp + 1) - 54)) as.length) = nI (T sp) ∧ a_vDecl (ls_yp (ls_sl Ls) L (T (sp + 1) - 54)) = nI (T sp) ∧ ls_yp (ls_sl Ls) L (T (sp + 1) - 54) = ls_sl Ls + L.length - 1) := by
    by_cases r0 : r = []
    · obtain ⟨c1, c2, c3⟩ := TR.1 r0
      exact Or.inl ⟨r0, c1, c2, c3⟩
    · right
      obtain ⟨l1, eL⟩ := LNE r0
      have hI := (U.1.2.2.2.2 t (by omega)).2.1
      rw [ec] at hI
      obtain ⟨_, _, _, i4, _, _, i7⟩ := hI
      rw [if_pos (Or.inr rfl)] at i7
      obtain ⟨_, _, _, _, ff, rr, fe, xf, fok⟩ := i7
      injection fe with fe1 fe2
      subst fe1 fe2
      obtain ⟨_, _, _, _, yy, ha⟩ := U.1.2.2.2.2 t (by omega)
      rw [ec] at ha
      obtain ⟨_, _, _, _, _, _, _, _, _, c00, _, _, _, _, _, _, _, _, CT, _⟩ := ls_cu_e hcu (Or.inr rfl)
      have CT' := (ls_ct_x (by show (11 : Nat) ≠ 1; decide) (by show (11 : Nat) ≠ 5; decide)).mp CT
      have ne := ls_cs_ne ha.1 (by show (11 : Nat) ≠ 1; decide) fok (ls_sco_p i4 (by show (11 : Nat) ≠ 1; decide) (by show (11 : Nat) ≠ 2; decide)) (by rw [eL]; simp) CT'
      have ad : ls_addr L (T (sp + 1) - 54) = 15 + L.length := by
        rw [eL]
        show (if T (sp + 1) - 54 = T (sp + 1) - 54 then 16 + l1.length else _) = 15 + (l1.length + 1)
        rw [if_pos rfl]; omega
      have Lp : 1 ≤ L.length := by rw [eL, List.length_cons]; omega
      have dc := hin.2.2 rfl r0
      dsimp only at dc
      have ecell : ls_cell (ls_addr L (T (sp + 1) - 54)) as.length = 15 + 8 * as.length + L.length := by
        rw [ad]
        unfold ls_cell
        rw [if_neg (by omega)]; omega
      have eyp : ls_yp (ls_sl Ls) L (T (sp + 1) - 54) = ls_sl Ls + L.length - 1 := by
        unfold ls_yp
        rw [ad, if_neg (by omega)]; omega
      refine ⟨r0, ne, by omega, ad, by rw [ecell]; exact dc, ?_, eyp⟩
      rcases ls_vr hG hV nm16 LB.2.2.2.2.2.1 with ⟨sm, _⟩ | ⟨g1, _⟩
      · obtain ⟨dd, kd, s1, s2, s3, s4, s5, s6, s7, s8, s9⟩ := sm
        rw [s5]
        rw [ecell, dc] at s3
        exact s3.symm
      · omega
  have neb : 0 < cs.length → 0 < ls_sl Ls + L.length ∧ ls_sl Ls + L.length ≤ 96 := by
    intro hcs
    rcases NC with ⟨_, c1, _⟩ | ⟨_, _, c3, _⟩
    · rw [c1] at hcs; exact absurd hcs (by simp)
    · omega
  cases hv : ls_cnv (T sp) (!ls_hasn T es (pos - es)) z.1 z.2 with
  | some kz =>
    obtain ⟨wz, kze⟩ := ls_cnv_wf x3 (by omega) hv
    have kz4 := wz.1
    have k5 : T sp = 5 ∨ kz = T sp := by
      rw [kze]
      by_cases q : T sp = 5
      · exact Or.inl q
      · exact Or.inr (if_neg q)
    obtain ⟨hG', hV'⟩ := ls_wr (t := T sp) (k := kz) (v := z.2) hG hV nm16 LB.2.2.2.2.2.1 (ls_cu_l8 hcu) sl80 (by omega) kz4 wz k5
    have cell88 := ls_cell_lt (a := ls_addr L (T (sp + 1) - 54)) (ac := as.length) a24 as8
    have x4' : ls_stk (upd a_cellKind (ls_cell (ls_addr L (T (sp + 1) - 54)) as.length) (nI kz)) (vp_updL a_cellValue (ls_cell (ls_addr L (T (sp + 1) - 54)) as.length) z.2) 88 x0 := ls_stk_up (by omega) x4
    have cu0 := FN1 a_declared (fun _ _ _ => rfl) (by omega) hc
    have cu' : ls_cu yn a_callReturn a_mKind (upd a_declared (ls_cell (ls_addr L (T (sp + 1) - 54)) as.length) (nI (T sp))) (ls_UA a_codeOp a_codeArg a_codeKind a_codePlace a_tk a_tv a_tp) (T, V, C, kF, n, N, d, e, ta, tz) (t + 1) as (3, pos + 1, es, [], r, L, ls_em k 20 (nI (ls_addr L (T (sp + 1) - 54))) (nI (T sp + ls_const T es pos)) (nI (sp + 2))) Ls x0 y0 os' cs := by
      rcases NC with ⟨_, _, c3, _⟩ | ⟨_, _, _, _, c5, _⟩
      · subst c3
        exact ls_cu_D0 cu0 (by omega)
      · rw [ls_upd_id c5]; exact cu0
    have hx : ls_xr 1 (f_tickLimit, f_tokenCount, nI oc, 0, f_errorPlace, f_lastKind, f_lastValue, f_codeSize, nI mc, nI mu, nI (88 + xs.length), nI as.length, nI (k.1 - d), nI tl, f_state, f_pos, f_expressionStart, f_pendingCount, f_frameTop, f_localCount, a_tokenCode, a_tokenValue, a_outKind, a_outValue, a_codeOp, a_codeArg, a_codeKind, a_codePlace, a_methodSign, a_methodStart, a_declared, a_cellKind, a_cellValue, a_callReturn, a_pendingLevel, a_pendingPlace, a_pendingMore, a_frameKind, a_frameMore, a_localName) (f_tickLimit, f_tokenCount, nI oc, 0, f_errorPlace, f_lastKind, f_lastValue, f_codeSize, nI mc, nI mu, nI (88 + x0.length), nI as.length, nI (k.1 - d + 1), nI tl, f_state, f_pos, f_expressionStart, f_pendingCount, f_frameTop, f_localCount, a_tokenCode, a_tokenValue, a_outKind, a_outValue, a_codeOp, a_codeArg, a_codeKind, a_codePlace, a_methodSign, a_methodStart, upd a_declared (ls_cell (ls_addr L (T (sp + 1) - 54)) as.length) (nI (T sp)), upd a_cellKind (ls_cell (ls_addr L (T (sp + 1) - 54)) as.length) (nI kz), vp_updL a_cellValue (ls_cell (ls_addr L (T (sp + 1) - 54)) as.length) z.2, a_callReturn, a_pendingLevel, a_pendingPlace, a_pendingMore, a_frameKind, a_frameMore, a_localName) := by
      rw [xl8]
      refine xr_of (fun post f s hs hh => gx_20 d2 hs (cd.2.2.1.trans kk.1) (hx_declare (t := T sp) d2 ⟨by omega, by omega⟩ a24 as8 kk16 km (by omega) (cd.2.2.2.1.trans kk.2.1) (cd.2.2.2.2.1.trans kk.2.2.1) x1 z4 x2 x3 (fun k2 q => ?_) (fun q => by rw [kd8, hv] at q; cases q)))
      rw [kd8, hv] at q
      injection q with q
      subst q
      exact hh
    have S' : ∀ sk' : Nat → Int32, ls_stk sk' a_sv 0 y0 → ls_S yn mt tl oc mc mu ((T, V, C, kF, n, N, d, e, ta, tz)) (t + 1) as ((3, pos + 1, es, [], r, L, ls_em k 20 (nI (ls_addr L (T (sp + 1) - 54))) (nI (T sp + ls_const T es pos)) (nI (sp + 2)))) Ls x0 y0 os' cs f_tickLimit a_outKind a_outValue a_codeOp a_codeArg a_codeKind a_codePlace a_methodSign a_methodStart (upd a_declared (ls_cell (ls_addr L (T (sp + 1) - 54)) as.length) (nI (T sp))) (upd a_cellKind (ls_cell (ls_addr L (T (sp + 1) - 54)) as.length) (nI kz)) (vp_updL a_cellValue (ls_cell (ls_addr L (T (sp + 1) - 54)) as.length) z.2) a_callReturn a_tk a_tv a_tp a_mName a_mKind a_mCount a_mPar a_mAt a_vName (upd a_vDecl (ls_yp (ls_sl Ls) L (T (sp + 1) - 54)) (nI (T sp))) (upd a_vKind (ls_yp (ls_sl Ls) L (T (sp + 1) - 54)) (nI kz)) (vp_updL a_vVal (ls_yp (ls_sl Ls) L (T (sp + 1) - 54)) z.2) sk' a_sv a_oKind a_oAt a_oArgs a_cKind a_cA a_cB a_outK a_outV := fun sk' hsk => ⟨cu', x4', hsk, hO0, hE, hG', hV', hl, ho, hM⟩
    have G0 : ∀ sk' : Nat → Int32, ls_stk sk' a_sv 0 y0 → ls_G (ls_Phi tl as 3 r N (t + 1)) (f_tickLimit, f_tokenCount, nI oc, 0, f_errorPlace, f_lastKind, f_lastValue, f_codeSize, nI mc, nI mu, nI (88 + x0.length), nI as.length, nI (k.1 - d + 1), nI tl, f_state, f_pos, f_expressionStart, f_pendingCount, f_frameTop, f_localCount, a_tokenCode, a_tokenValue, a_outKind, a_outValue, a_codeOp, a_codeArg, a_codeKind, a_codePlace, a_methodSign, a_methodStart, upd a_declared (ls_cell (ls_addr L (T (sp + 1) - 54)) as.length) (nI (T sp)), upd a_cellKind (ls_cell (ls_addr L (T (sp + 1) - 54)) as.length) (nI kz), vp_updL a_cellValue (ls_cell (ls_addr L (T (sp + 1) - 54)) as.length) z.2, a_callReturn, a_pendingLevel, a_pendingPlace, a_pendingMore, a_frameKind, a_frameMore, a_localName) (nI mt, nI yn, nI (140 + mu), nI mc, nI (ls_sl Ls + L.length), nI (ls_sl Ls), nI y0.length, nI os'.length, nI cs.length, nI (pos + 1 + e), nI 0, 0, f_errorPlace, nI (mt - tl), nI as.length, nI oc, f_lastKind, nI 0, f_lastValue, f_cnt, f_full, f_flag, f_need, a_tk, a_tv, a_tp, a_mName, a_mKind, a_mCount, a_mPar, a_mAt, a_vName, upd a_vDecl (ls_yp (ls_sl Ls) L (T (sp + 1) - 54)) (nI (T sp)), upd a_vKind (ls_yp (ls_sl Ls) L (T (sp + 1) - 54)) (nI kz), vp_updL a_vVal (ls_yp (ls_sl Ls) L (T (sp + 1) - 54)) z.2, sk', a_sv, a_oKind, a_oAt, a_oArgs, a_cKind, a_cA, a_cB, a_outK, a_outV) := by
      intro sk' hsk
      have G1 : ls_G (ls_Phi tl as 3 r N (t + 1)) (f_tickLimit, f_tokenCount, nI oc, 0, f_errorPlace, f_lastKind, f_lastValue, f_codeSize, nI mc, nI mu, nI (88 + x0.length), nI as.length, nI ((ls_em k 20 (nI (ls_addr L (T (sp + 1) - 54))) (nI (T sp + ls_const T es pos)) (nI (sp + 2))).1 - d), nI tl, f_state, f_pos, f_expressionStart, f_pendingCount, f_frameTop, f_localCount, a_tokenCode, a_tokenValue, a_outKind, a_outValue, a_codeOp, a_codeArg, a_codeKind, a_codePlace, a_methodSign, a_methodStart, upd a_declared (ls_cell (ls_addr L (T (sp + 1) - 54)) as.length) (nI (T sp)), upd a_cellKind (ls_cell (ls_addr L (T (sp + 1) - 54)) as.length) (nI kz), vp_updL a_cellValue (ls_cell (ls_addr L (T (sp + 1) - 54)) as.length) z.2, a_callReturn, a_pendingLevel, a_pendingPlace, a_pendingMore, a_frameKind, a_frameMore, a_localName) (nI mt, nI yn, nI (140 + mu), nI mc, nI (ls_sl Ls + L.length), nI (ls_sl Ls), nI y0.length, nI os'.length, nI cs.length, nI (pos + 1 + e), nI (ls_md 3 []), 0, f_errorPlace, nI (mt - tl), nI as.length, nI oc, f_lastKind, nI (ls_pt 3 r), f_lastValue, f_cnt, f_full, f_flag, f_need, a_tk, a_tv, a_tp, a_mName, a_mKind, a_mCount, a_mPar, a_mAt, a_vName, upd a_vDecl (ls_yp (ls_sl Ls) L (T (sp + 1) - 54)) (nI (T sp)), upd a_vKind (ls_yp (ls_sl Ls) L (T (sp + 1) - 54)) (nI kz), vp_updL a_vVal (ls_yp (ls_sl Ls) L (T (sp + 1) - 54)) z.2, sk', a_sv, a_oKind, a_oAt, a_oArgs, a_cKind, a_cA, a_cB, a_outK, a_outV) := ih (S' sk' hsk) (by omega) (ls_n2U h.1.1 h.1.2.2.1 h.1.2.2.2.1 (show (11 : Nat) ≠ 1 by decide))
      rw [show ls_md 3 [] = 0 from rfl, ls_pt_x (by omega), ls_ni d1 (show (ls_em k 20 (nI (ls_addr L (T (sp + 1) - 54))) (nI (T sp + ls_const T es pos)) (nI (sp + 2))).1 = k.1 + 1 from rfl)] at G1
      exact G1
    have SKU : ls_stk (upd a_sk y0.length (nI kz)) a_sv 0 y0 := ls_stk_uk (by omega) y4
    refine ls_G_go (b := 1) hx ?_ (G0 (upd a_sk y0.length (nI kz)) SKU) (by omega) (by omega)
    refine yr_after B (fun post hp => YA LE post ?_)
    rw [yl]
    refine hy_fd_d (tf := fun i => T (i - e)) (t := T sp) (nm := T (sp + 1) - 54) p384 (by omega) (by omega) (by omega) (by omega) nm16 neb TS.1 (by omega) e1' HT y1 z4 y2 (fun k2 sk2 q nc0 s1 s2 => ?_) (fun k2 sk2 q nc0 s1 s2 => ?_) (fun q => by rw [HN, hv] at q; cases q)
    · rw [HN, hv] at q
      injection q with q
      subst q
      rcases NC with ⟨_, _, _, cL⟩ | ⟨_, cne, _⟩
      · have ey : ls_yp (ls_sl Ls) L (T (sp + 1) - 54) = 80 + (T (sp + 1) - 54) := by
          unfold ls_yp
          rw [cL]
          show (if T (sp + 1) - 54 < 16 then _ else _) = _
          rw [if_pos nm16]
        rw [ey] at hp
        rw [ls_updx s1 s2, show pos + e + 1 = pos + 1 + e by omega]
        exact hp
      · exact absurd (List.eq_nil_of_length_eq_zero nc0) cne
    · rw [HN, hv] at q
      injection q with q
      subst q
      rcases NC with ⟨_, c1, _⟩ | ⟨_, _, _, _, _, c6, c7⟩
      · rw [c1] at nc0; exact absurd nc0 (by simp)
      · rw [ls_upd_id c6, c7] at hp
        rw [ls_updx s1 s2, show pos + e + 1 = pos + 1 + e by omega]
        exact hp
  | none =>
    have hx : ls_xr 1 (f_tickLimit, f_tokenCount, nI oc, 0, f_errorPlace, f_lastKind, f_lastValue, f_codeSize, nI mc, nI mu, nI (88 + xs.length), nI as.length, nI (k.1 - d), nI tl, f_state, f_pos, f_expressionStart, f_pendingCount, f_frameTop, f_localCount, a_tokenCode, a_tokenValue, a_outKind, a_outValue, a_codeOp, a_codeArg, a_codeKind, a_codePlace, a_methodSign, a_methodStart, a_declared, a_cellKind, a_cellValue, a_callReturn, a_pendingLevel, a_pendingPlace, a_pendingMore, a_frameKind, a_frameMore, a_localName) (f_tickLimit, f_tokenCount, nI oc, nI 3, nI (sp + 2), f_lastKind, f_lastValue, f_codeSize, nI mc, nI mu, nI (88 + x0.length), nI as.length, nI (k.1 - d + 1), nI tl, f_state, f_pos, f_expressionStart, f_pendingCount, f_frameTop, f_localCount, a_tokenCode, a_tokenValue, a_outKind, a_outValue, a_codeOp, a_codeArg, a_codeKind, a_codePlace, a_methodSign, a_methodStart, a_declared, a_cellKind, a_cellValue, a_callReturn, a_pendingLevel, a_pendingPlace, a_pendingMore, a_frameKind, a_frameMore, a_localName) := by
      rw [xl8]
      refine xr_of (fun post f s hs hh => gx_20 d2 hs (cd.2.2.1.trans kk.1) (hx_declare (t := T sp) d2 ⟨by omega, by omega⟩ a24 as8 kk16 km (by omega) (cd.2.2.2.1.trans kk.2.1) (cd.2.2.2.2.1.trans kk.2.2.1) x1 z4 x2 x3 (fun k2 q => by rw [kd8, hv] at q; cases q) (fun q => ?_)))
      rw [cd.2.2.2.2.2, kk.2.2.2]
      exact hh
    have hy : ls_yr 1 (nI mt, nI yn, nI (140 + mu), nI mc, nI (ls_sl Ls + L.length), nI (ls_sl Ls), nI ys.length, nI os.length, nI cs.length, nI (pos + e), nI 3, 0, f_errorPlace, nI (mt - tl), nI as.length, nI oc, f_lastKind, nI 0, f_lastValue, f_cnt, f_full, f_flag, f_need, a_tk, a_tv, a_tp, a_mName, a_mKind, a_mCount, a_mPar, a_mAt, a_vName, a_vDecl, a_vKind, a_vVal, a_sk, a_sv, a_oKind, a_oAt, a_oArgs, a_cKind, a_cA, a_cB, a_outK, a_outV) (nI mt, nI yn, nI (140 + mu), nI mc, nI (ls_sl Ls + L.length), nI (ls_sl Ls), nI y0.length, nI os'.length, nI cs.length, nI (pos + e + 1), 0, nI 3, nI (sp + 2), nI (mt - tl), nI as.length, nI oc, f_lastKind, nI 0, f_lastValue, f_cnt, f_full, f_flag, f_need, a_tk, a_tv, a_tp, a_mName, a_mKind, a_mCount, a_mPar, a_mAt, a_vName, a_vDecl, a_vKind, a_vVal, a_sk, a_sv, a_oKind, a_oAt, a_oArgs, a_cKind, a_cA, a_cB, a_outK, a_outV) := by
      refine yr_after B (fun post hp => YA LE post ?_)
      rw [yl]
      refine hy_fd_d (tf := fun i => T (i - e)) (t := T sp) (nm := T (sp + 1) - 54) p384 (by omega) (by omega) (by omega) (by omega) nm16 neb TS.1 (by omega) e1' HT y1 z4 y2 (fun k2 sk2 q _ _ _ => by rw [HN, hv] at q; cases q) (fun k2 sk2 q _ _ _ => by rw [HN, hv] at q; cases q) (fun _ => ?_)
      rw [show sp + e + 2 = sp + 2 + e by omega, TS2.2.2.2.1]
      exact hp
    exact gs_err h ⟨by decide, by decide⟩ (by rw [← hF]; unfold ls_Phi; omega) (by rw [← hF]; unfold ls_Phi; omega) hx hy
end
