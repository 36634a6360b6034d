/-! Returns with a value -/
section
variable {f_tickLimit f_tokenCount f_outCount f_error f_errorPlace f_lastKind f_codeSize f_methodCount f_methodTokens f_cellCount f_activeCalls f_next f_ticksLeft f_state f_pos f_expressionStart f_pendingCount f_frameTop f_localCount : Int32}
variable {f_lastValue : Int64}
variable {a_tokenCode a_tokenValue a_outKind a_codeOp a_codeArg a_codeKind a_codePlace a_methodSign a_methodStart a_declared a_cellKind a_callReturn a_pendingLevel a_pendingPlace a_pendingMore a_frameKind a_frameMore a_localName : Nat → Int32}
variable {a_outValue a_cellValue : Nat → Int64}
variable {f_cnt f_full f_flag f_need : Int32}
variable {a_tk a_tp a_mName a_mKind a_mCount a_mPar a_mAt a_vName a_vDecl a_vKind a_sk a_oKind a_oAt a_oArgs a_cKind a_cA a_cB a_outK : Nat → Int32}
variable {a_tv a_vVal a_sv a_outV : Nat → Int64}
variable {yn mt tl oc mc mu : Nat} {T : Nat → Nat} {V : Nat → Int32} {C : Nat → LsC} {kF : LsK} {n N d e ta tz t : Nat} {as : List LsA} {st pos es : Nat} {pe : List LsP} {fr : List LsF} {L : List Nat} {k : LsK} {Ls : List (List Nat)} {xs ys : List LsV} {os cs : List LsP} {F : Nat}
set_option maxHeartbeats 4000000 in
theorem gs_e10 {mo sp mq : Nat} {l : List Nat} {r : List LsF} (ih : ls_IH F) (h : ls_S yn mt tl oc mc mu ((T, V, C, kF, n, N, d, e, ta, tz)) t as ((5, pos, es, [], (10, mo, sp, l) :: r, L, k)) Ls xs ys os cs f_tickLimit a_outKind a_outValue a_codeOp a_codeArg a_codeKind a_codePlace a_methodSign a_methodStart a_declared a_cellKind a_cellValue a_callReturn a_tk a_tv a_tp a_mName a_mKind a_mCount a_mPar a_mAt a_vName a_vDecl a_vKind a_vVal a_sk a_sv a_oKind a_oAt a_oArgs a_cKind a_cA a_cB a_outK a_outV) (hF : ls_Phi tl as 5 ((10, mo, sp, l) :: r) N t = F) (h20 : T pos = 20) (hmk : ls_mkd r = some mq) (hc : C (t + 1) = (3, pos + 1, es, [], r, L, ls_em k 17 0 (nI (mq + ls_const T es pos)) (nI sp))) : ls_G F (f_tickLimit, f_tokenCount, nI oc, 0, f_errorPlace, f_lastKind, f_lastValue, f_codeSize, nI mc, nI mu, nI (88 + xs.length), nI as.length, nI (k.1 - d), nI tl, f_state, f_pos, f_expressionStart, f_pendingCount, f_frameTop, f_localCount, a_tokenCode, a_tokenValue, a_outKind, a_outValue, a_codeOp, a_codeArg, a_codeKind, a_codePlace, a_methodSign, a_methodStart, a_declared, a_cellKind, a_cellValue, a_callReturn, a_pendingLevel, a_pendingPlace, a_pendingMore, a_frameKind, a_frameMore, a_localName) (nI mt, nI yn, nI (140 + mu), nI mc, nI (ls_sl Ls + L.length), nI (ls_sl Ls), nI ys.length, nI os.length, nI cs.length, nI (pos + e), nI 3, 0, f_errorPlace, nI (mt - tl), nI as.length, nI oc, f_lastKind, nI 0, f_lastValue, f_cnt, f_full, f_flag, f_need, a_tk, a_tv, a_tp, a_mName, a_mKind, a_mCount, a_mPar, a_mAt, a_vName, a_vDecl, a_vKind, a_vVal, a_sk, a_sv, a_oKind, a_oAt, a_oArgs, a_cKind, a_cA, a_cB, a_outK, a_outV) := by
  have h' := h
  obtain ⟨hcu, hX, hY, hO, hE, hG, hV, hl, ho, hM⟩ := h'
  have U := hcu.1
  have tt := hcu.2.2.1
  have ec := hcu.2.2.2.1
  have T72 := ls_T5 U.1 (by have := U.2.2.1; omega) ec
  obtain ⟨lt, ltN, _, d1, d2, t1, t2, t3, t4, t5⟩ := ls_ac hcu (Or.inr rfl) T72
  have B := ls_Sb5 h t3
  have LB := ls_cu_len hcu
  have as8 := hl.2.2.2.1
  have cd := ls_cod U tt ec (Nat.le_refl _) (t' := t) ⟨Nat.le_refl _, tt.2⟩ ec (Nat.le_refl _)
  have lv := ls_lv_ge (T pos)
  have hV : ls_lev (ls_sm a_declared a_cellKind a_cellValue a_vDecl a_vKind a_vVal) a_vName (L :: Ls) := hV
  obtain ⟨kd, q, g, os', lq, eos, k17, g100, o1, o2, o3, q7, cnd, top0, _⟩ := ls_top5 h (fun x r q => by cases q)
  obtain ⟨kd1, f0, r0, ef, eq0, hin⟩ := top0 rfl
  injection ef with ef1 ef2
  subst ef1 ef2 kd1
  dsimp only at eq0
  subst eq0
  have ol : os.length = os'.length + 1 := by rw [eos, List.length_cons]
  obtain ⟨l0, ORG, esp⟩ := ls_orf hcu
  dsimp only at l0 ORG
  subst l0
  have TS := ls_toke U tt ec (Or.inr rfl) rfl (p := sp) (Nat.le_refl _) (by omega)
  have YA : ls_lv (T pos) = 2 → ∀ post : SY → Prop, wpY_fullDone post (nI mt, nI yn, nI (140 + mu), nI mc, nI (ls_sl Ls + L.length), nI (ls_sl Ls), nI ys.length, nI os'.length, nI cs.length, nI (pos + e), nI 3, 0, f_errorPlace, nI (mt - tl), nI as.length, nI oc, f_lastKind, nI 0, f_lastValue, f_cnt, f_full, f_flag, f_need, a_tk, a_tv, a_tp, a_mName, a_mKind, a_mCount, a_mPar, a_mAt, a_vName, a_vDecl, a_vKind, a_vVal, a_sk, a_sv, a_oKind, a_oAt, a_oArgs, a_cKind, a_cA, a_cB, a_outK, a_outV) (nI (sp + e)) → wpY_after post (nI mt, nI yn, nI (140 + mu), nI mc, nI (ls_sl Ls + L.length), nI (ls_sl Ls), nI ys.length, nI os.length, nI cs.length, nI (pos + e), nI 3, 0, f_errorPlace, nI (mt - tl), nI as.length, nI oc, f_lastKind, nI 0, f_lastValue, f_cnt, f_full, f_flag, f_need, a_tk, a_tv, a_tp, a_mName, a_mKind, a_mCount, a_mPar, a_mAt, a_vName, a_vDecl, a_vKind, a_vVal, a_sk, a_sv, a_oKind, a_oAt, a_oArgs, a_cKind, a_cA, a_cB, a_outK, a_outV) := by
    intro LE post gg
    rw [ol]
    exact hy_after_n (kd := 1) (lq := lq) t3 t1 t2 (by omega) o1 k17 o2 q7 o3 g100 (Or.inl (by omega)) (fun q => by omega) (fun _ _ => gg) (fun _ q => by omega) (fun _ q => by omega) (fun _ q => by omega)
  obtain ⟨z, x0, y0, o0, ins, exs, eys, eos0, _, FN1, FN2, FN3, FN4⟩ := ls_cu_fin (st' := 3) (pos' := pos + 1) (es' := es) (k' := ls_em k 17 0 (nI (mq + ls_const T es pos)) (nI sp)) hcu
  rw [exs] at hX
  rw [eys] at hY
  obtain ⟨x1, x2, x3, x4⟩ := hX
  obtain ⟨y1, y2, _, y4⟩ := hY
  rw [Nat.zero_add] at y1 y2
  have xl8 : 88 + xs.length = 88 + x0.length + 1 := by rw [exs, List.length_cons]; omega
  have yl : ys.length = y0.length + 1 := by rw [eys, List.length_cons]
  have oo : os' = o0 := by
    rw [eos] at eos0
    injection eos0
  subst oo
  have z4 := x3.1
  have hO0 : ls_StP a_oKind a_oAt a_oArgs os' := by
    rw [eos] at hO
    exact hO.2.2.2
  have hV : ls_lev (ls_sm a_declared a_cellKind a_cellValue a_vDecl a_vKind a_vVal) a_vName (L :: Ls) := hV
  have LE : ls_lv (T pos) = 2 := by rw [h20]; rfl
  obtain ⟨es1, T11⟩ : es = sp + 1 ∧ T sp = 11 := by
    rcases ORG with c | c | c | c | c | c
    all_goals first | exact ⟨c.2.1, c.2.2⟩ | exact absurd c.1 (by decide)
  have e11 : a_tk (sp + e) = 11 := by rw [TS.1, T11]; rfl
  have kk := ls_fem U.1 (by omega) hc (by decide) (by decide) (by decide) (by decide)
  have lt2 := ls_tl3 U.1 (by omega) hc
  have cu1 := FN1 a_declared (fun _ _ _ => rfl) (by omega) hc
  obtain ⟨T', V', C', kF', n', N', d', e', ta', tz', t', as', pos', es', pe', fr', L', k', m, Ls', cX, c1, eas, r1, r2, r3, r4, r5, r6, r7, r8, r9, ⟨r10, r11, r12⟩, CU⟩ := ls_retx cu1 (by omega) hmk
  have al : as.length = as'.length + 1 := by rw [eas, List.length_cons]
  have cl8 := ls_const_lt (T := T) (a := es) (b := pos)
  have kk16 : mq + ls_const T es pos < 16 := by omega
  have km : (mq + ls_const T es pos) % 8 = mq := by omega
  have kd8 : decide (8 ≤ mq + ls_const T es pos) = !ls_hasn T es (pos - es) := by
    rw [← ls_cst8]
    rcases cl8 with q | q <;> rw [q]
    · simp; omega
    · simp
  have HN : ls_hasn (fun i => T (i - e)) (sp + e + 1) (pos + e - (sp + e + 1)) = ls_hasn T es (pos - es) := by
    rw [show sp + e + 1 = es + e by omega, show pos + e - (es + e) = pos - es by omega]
    exact ls_hasn_sh _ _
  have HT : ∀ i, sp + e + 1 ≤ i → i < pos + e → a_tk i = nI (T (i - e)) ∧ T (i - e) < 100 := by
    intro i i1 i2
    have := ls_toke2 U tt ec (Or.inr rfl) (p := i - e) (by omega) (by omega)
    rw [show i - e + e = i by omega] at this
    exact ⟨this.1, this.2.1⟩
  have hH := (U.1.2.2.2.2 t (by omega)).2.2.2.1
  rw [ec] at hH
  have hH' := (hH (Or.inr rfl)).2
  rw [if_pos rfl] at hH'
  have pes : es < pos := by omega
  have CL := LB.2.2.2.1
  have hE' := hE
  rw [r3] at hE'
  have SUF : ∀ {A B : List LsP}, ls_StP a_cKind a_cA a_cB (A ++ B) → ls_StP a_cKind a_cA a_cB B := by
    intro A B
    induction A with
    | nil => exact fun h => h
    | cons x A ihA => exact fun h => ihA h.2.2.2
  have hEs := SUF hE'
  have cu0 := CU (0, 0)
  have LB0 := ls_cu_len cu0
  have slb := LB0.2.2.2.2.1
  have PH : ls_Phi tl as' 5 fr' N' t' + 4 ≤ F := by
    have p1 := ls_Phi_ret (tl := tl) (st := 5) (fr := (10, mo, sp, []) :: r) (N := N) (t := t) (T' := T') (V' := V') (kF' := kF') (n' := n') (d' := d') (e' := e') (ta' := ta') (tz' := tz') (as' := as') r1 r10 r12 ltN
    rw [← eas] at p1
    omega
  cases hv : ls_cnv mq (!ls_hasn T es (pos - es)) z.1 z.2 with
  | some kz =>
    obtain ⟨wz, kze⟩ := ls_cnv_wf x3 r5 hv
    have cu' := CU (kz, z.2)
    have hV2 : ls_lev (ls_sm a_declared a_cellKind a_cellValue a_vDecl a_vKind a_vVal) a_vName (L' :: Ls') := by rw [← r8]; exact hV.2.2
    have K88 : ∀ c, c < 88 → upd a_cellKind (88 + x0.length) (nI kz) c = a_cellKind c ∧ vp_updL a_cellValue (88 + x0.length) z.2 c = a_cellValue c := fun c hc' => ⟨pk_un (by omega), pk_uLn (by omega)⟩
    have hl2 : f_tickLimit = nI mt ∧ tl ≤ mt ∧ mt ≤ 400 ∧ as'.length ≤ 8 ∧ yn ≤ 140 := ⟨hl.1, hl.2.1, hl.2.2.1, by omega, hl.2.2.2.2⟩
    have S' : ls_S yn mt tl oc mc mu ((T', V', C', kF', n', N', d', e', ta', tz')) t' as' ((5, pos', es', pe', fr', L', k')) Ls' ((kz, z.2) :: x0) ((kz, z.2) :: y0) os' c1 f_tickLimit a_outKind a_outValue a_codeOp a_codeArg a_codeKind a_codePlace a_methodSign a_methodStart a_declared (upd a_cellKind (88 + x0.length) (nI kz)) (vp_updL a_cellValue (88 + x0.length) z.2) a_callReturn a_tk a_tv a_tp a_mName a_mKind a_mCount a_mPar a_mAt a_vName a_vDecl a_vKind a_vVal (upd a_sk y0.length (nI kz)) a_sv a_oKind a_oAt a_oArgs a_cKind a_cA a_cB a_outK a_outV := by
      refine ⟨cu', ls_stk_push wz x4, ?_, hO0, hEs.2.2.2, ls_gl_k K88 hG, ls_lev_k K88 (by rw [List.length_cons]; omega) (ls_cu_l8 cu') hV2, hl2, ho, hM⟩
      refine ⟨?_, ?_, wz, ls_stk_uk (by omega) y4⟩
      · rw [Nat.zero_add]; exact pk_us
      · rw [Nat.zero_add]; exact y2
    have G0 : ls_G (ls_Phi tl as' 5 fr' N' t') (f_tickLimit, f_tokenCount, nI oc, 0, f_errorPlace, f_lastKind, f_lastValue, f_codeSize, nI mc, nI mu, nI (88 + x0.length + 1), nI as'.length, nI (k'.1 - d'), nI tl, f_state, f_pos, f_expressionStart, f_pendingCount, f_frameTop, f_localCount, a_tokenCode, a_tokenValue, a_outKind, a_outValue, a_codeOp, a_codeArg, a_codeKind, a_codePlace, a_methodSign, a_methodStart, a_declared, upd a_cellKind (88 + x0.length) (nI kz), vp_updL a_cellValue (88 + x0.length) z.2, a_callReturn, a_pendingLevel, a_pendingPlace, a_pendingMore, a_frameKind, a_frameMore, a_localName) (nI mt, nI yn, nI (140 + mu), nI mc, nI (ls_sl Ls' + L'.length), nI (ls_sl Ls'), nI (y0.length + 1), nI os'.length, nI c1.length, nI (pos' + e'), nI (ls_md 5 pe'), 0, f_errorPlace, nI (mt - tl), nI as'.length, nI oc, f_lastKind, nI (ls_pt 5 fr'), f_lastValue, f_cnt, f_full, f_flag, f_need, a_tk, a_tv, a_tp, a_mName, a_mKind, a_mCount, a_mPar, a_mAt, a_vName, a_vDecl, a_vKind, a_vVal, upd a_sk y0.length (nI kz), a_sv, a_oKind, a_oAt, a_oArgs, a_cKind, a_cA, a_cB, a_outK, a_outV) := ih S' (by omega) (fun q => absurd q.1 (by decide))
    rw [ls_md_5, ls_pt_x (by omega), show ls_sl Ls' + L'.length = ls_sl Ls by rw [r8]; show _ = L'.length + ls_sl Ls'; omega] at G0
    refine ls_G_go (a := 1) (b := 1) ?_ (yr_after B (fun post hp => YA LE post ?_)) G0 (by omega) (by omega)
    · rw [xl8, al, ← r2]
      refine xr_of (fun post f s hs hh => gx_17 d2 hs (cd.2.2.1.trans kk.1) (hx_returnValue (t := mq) d2 ⟨by omega, by omega⟩ (by omega) kk16 km r5 (cd.2.2.2.2.1.trans kk.2.2.1) x1 z4 x2 x3 (fun k2 q => ?_) (fun q => by rw [kd8, hv] at q; cases q)))
      rw [kd8, hv] at q
      injection q with q
      subst q
      exact hh
    · rw [yl]
      refine hy_fd_r TS.2.2.1 (by omega) e11 ?_
      rw [r3, al]
      refine hy_giveBack_v (tf := fun i => T (i - e)) (by rw [← r3]; omega) r4 hE' r6 (by omega) r7 r5 (by omega) TS.2.2.1 (by omega) (by omega) HT y1 z4 y2 (fun k2 sk2 q s1 s2 => ?_) (fun q => by rw [HN, hv] at q; cases q)
      rw [HN, hv] at q
      injection q with q
      subst q
      rw [ls_updx s1 s2]
      exact hp
  | none =>
    have hx : ls_xr 1 (f_tickLimit, f_tokenCount, nI oc, 0, f_errorPlace, f_lastKind, f_lastValue, f_codeSize, nI mc, nI mu, nI (88 + xs.length), nI as.length, nI (k.1 - d), nI tl, f_state, f_pos, f_expressionStart, f_pendingCount, f_frameTop, f_localCount, a_tokenCode, a_tokenValue, a_outKind, a_outValue, a_codeOp, a_codeArg, a_codeKind, a_codePlace, a_methodSign, a_methodStart, a_declared, a_cellKind, a_cellValue, a_callReturn, a_pendingLevel, a_pendingPlace, a_pendingMore, a_frameKind, a_frameMore, a_localName) (f_tickLimit, f_tokenCount, nI oc, nI 3, nI sp, f_lastKind, f_lastValue, f_codeSize, nI mc, nI mu, nI (88 + x0.length), nI as.length, nI (k.1 - d + 1), nI tl, f_state, f_pos, f_expressionStart, f_pendingCount, f_frameTop, f_localCount, a_tokenCode, a_tokenValue, a_outKind, a_outValue, a_codeOp, a_codeArg, a_codeKind, a_codePlace, a_methodSign, a_methodStart, a_declared, a_cellKind, a_cellValue, a_callReturn, a_pendingLevel, a_pendingPlace, a_pendingMore, a_frameKind, a_frameMore, a_localName) := by
      rw [xl8, al]
      refine xr_of (fun post f s hs hh => gx_17 d2 hs (cd.2.2.1.trans kk.1) (hx_returnValue (t := mq) d2 ⟨by omega, by omega⟩ (by omega) kk16 km r5 (cd.2.2.2.2.1.trans kk.2.2.1) x1 z4 x2 x3 (fun k2 q => by rw [kd8, hv] at q; cases q) (fun q => ?_)))
      rw [cd.2.2.2.2.2, kk.2.2.2]
      exact hh
    have hy : ls_yr 1 (nI mt, nI yn, nI (140 + mu), nI mc, nI (ls_sl Ls + L.length), nI (ls_sl Ls), nI ys.length, nI os.length, nI cs.length, nI (pos + e), nI 3, 0, f_errorPlace, nI (mt - tl), nI as.length, nI oc, f_lastKind, nI 0, f_lastValue, f_cnt, f_full, f_flag, f_need, a_tk, a_tv, a_tp, a_mName, a_mKind, a_mCount, a_mPar, a_mAt, a_vName, a_vDecl, a_vKind, a_vVal, a_sk, a_sv, a_oKind, a_oAt, a_oArgs, a_cKind, a_cA, a_cB, a_outK, a_outV) (nI mt, nI yn, nI (140 + mu), nI mc, nI (ls_sl Ls), nI (ls_sl Ls'), nI (y0.length + 1), nI os'.length, nI c1.length, nI (pos' + e'), nI 3, nI 3, nI sp, nI (mt - tl), nI as'.length, nI oc, f_lastKind, nI 0, f_lastValue, f_cnt, f_full, f_flag, f_need, a_tk, a_tv, a_tp, a_mName, a_mKind, a_mCount, a_mPar, a_mAt, a_vName, a_vDecl, a_vKind, a_vVal, a_sk, a_sv, a_oKind, a_oAt, a_oArgs, a_cKind, a_cA, a_cB, a_outK, a_outV) := by
      refine yr_after B (fun post hp => YA LE post ?_)
      rw [yl]
      refine hy_fd_r TS.2.2.1 (by omega) e11 ?_
      rw [r3, al]
      refine hy_giveBack_v (tf := fun i => T (i - e)) (by rw [← r3]; omega) r4 hE' r6 (by omega) r7 r5 (by omega) TS.2.2.1 (by omega) (by omega) HT y1 z4 y2 (fun k2 sk2 q s1 s2 => by rw [HN, hv] at q; cases q) (fun q => ?_)
      rw [TS.2.2.2.1]
      exact hp
    exact gs_err h ⟨by decide, by decide⟩ (by rw [← hF]; unfold ls_Phi; omega) (by rw [← hF]; unfold ls_Phi; omega) hx hy
end
