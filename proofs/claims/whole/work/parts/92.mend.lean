/-! A method's closing brace -/
section
variable {T : Nat → Nat} {V : Nat → Int32} {C : Nat → LsC} {kF : LsK} {n N d e ta tz : Nat} {yn : Nat} {cr mk D : Nat → Int32} {co ca ck cp tk : Nat → Int32} {tv : Nat → Int64} {tp : Nat → Int32}
variable {t st pos es : Nat} {fr : List LsF} {L : List Nat} {k : LsK} {as : List LsA} {Ls : List (List Nat)} {xs ys : List LsV} {os cs : List LsP}
set_option maxHeartbeats 200000 in
/-- behind a method's body -/
theorem ls_mend {r : List LsF} (h : ls_cu yn cr mk D (ls_UA co ca ck cp tk tv tp) (T, V, C, kF, n, N, d, e, ta, tz) t as (3, pos, es, [], r, L, k) Ls xs ys os cs) (h2 : ls_fk r = 2) : t = tz ∧ ∃ mo pb q y c1, r = [(2, mo, pb, [q])] ∧ q ≤ 5 ∧ cs = y :: c1 ∧ y.1 = 3 ∧ kF.2.1 k.1 = 18 ∧ kF.2.2.2.1 k.1 = nI q ∧ t < N := by
  obtain ⟨a1, a2, a3, a4, c0, a5, a6⟩ := ls_cu_s h (by omega)
  have U := a1
  obtain ⟨g1, _, g3, _⟩ := a1
  have hI := (g1.2.2.2.2 t (by omega)).2.1
  rw [a4] at hI
  obtain ⟨_, _, _, _, _, _, i7⟩ := hI
  rw [if_neg (by omega)] at i7
  have fok := i7.2.2.2.1
  cases r with
  | nil => exact absurd h2 (by show (0 : Nat) ≠ 2; decide)
  | cons g r =>
    obtain ⟨x1, x2, x3, x4⟩ := g
    have h2' : x1 = 2 := h2
    subst h2'
    have r0 : r = [] := (fok.2.2.1 rfl).1
    subst r0
    have an : as ≠ [] := fun q => by
      have := (a2.1 q).2
      cases this
    obtain ⟨q0, mo0, pb0, es0, L0, k0, w1, w2, w3, w4, w5, w6⟩ := a2.2 an
    have te : t = tz := by
      apply Decidable.byContradiction
      intro ne
      obtain ⟨f, S, hS⟩ := w6 t a3.1 (by omega)
      rw [a4] at hS
      have := congrArg List.length hS
      simp at this
    subst te
    rw [a4] at w5
    injection w5 with _ w5
    injection w5 with _ w5
    injection w5 with _ w5
    injection w5 with _ w5
    injection w5 with w5 _
    injection w5 with w5 _
    injection w5 with _ w5
    injection w5 with w5a w5
    injection w5 with w5b w5c
    subst w5a w5b w5c
    obtain ⟨lt, s3⟩ := ls_tl3 g1 (by omega) a4
    unfold ls_r3 at s3
    dsimp only at s3
    rw [if_neg (by decide), if_neg (by decide), if_neg (by decide), if_pos rfl] at s3
    injection s3 with s3
    obtain ⟨f1, f2, _⟩ := ls_fat g1 (by omega) s3.symm (i := k.1) (by show k.1 < k.1 + 1; omega)
    have o18 : (ls_em k 18 0 (nI ([q0].headD 0)) (nI (pos - 1))).2.1 k.1 = 18 := pk_us
    have d18 : (ls_em k 18 0 (nI ([q0].headD 0)) (nI (pos - 1))).2.2.2.1 k.1 = nI q0 := pk_us
    have ce := (ls_ct_x (by show (2 : Nat) ≠ 1; decide) (by show (2 : Nat) ≠ 5; decide)).mp a5
    have ce' : cs = c0 := ce
    cases as with
    | nil => exact absurd rfl an
    | cons A as' =>
      obtain ⟨U', t'⟩ := A
      obtain ⟨pos', es', pe', fr', L', k', q', m, Ls', c1, r1, r2, r3, r4, r5, r6, r7⟩ := ls_sus_ret a6
      obtain ⟨T', V', C', kF', n', N', d', e', ta', tz'⟩ := U'
      obtain ⟨r11, r12, r13⟩ := r1
      exact ⟨rfl, _, _, _, _, _, rfl, w2, ce'.trans r13, rfl, f1.trans o18, f2.trans d18, lt⟩
end
section
variable {f_tickLimit f_tokenCount f_outCount f_error f_errorPlace f_lastKind f_codeSize f_methodCount f_methodTokens f_cellCount f_activeCalls f_next f_ticksLeft f_state f_pos f_expressionStart f_pendingCount f_frameTop f_localCount : Int32}
variable {f_lastValue : Int64}
variable {a_tokenCode a_tokenValue a_outKind a_codeOp a_codeArg a_codeKind a_codePlace a_methodSign a_methodStart a_declared a_cellKind a_callReturn a_pendingLevel a_pendingPlace a_pendingMore a_frameKind a_frameMore a_localName : Nat → Int32}
variable {a_outValue a_cellValue : Nat → Int64}
variable {f_cnt f_full f_flag f_need : Int32}
variable {a_tk a_tp a_mName a_mKind a_mCount a_mPar a_mAt a_vName a_vDecl a_vKind a_sk a_oKind a_oAt a_oArgs a_cKind a_cA a_cB a_outK : Nat → Int32}
variable {a_tv a_vVal a_sv a_outV : Nat → Int64}
variable {yn mt tl oc mc mu : Nat} {T : Nat → Nat} {V : Nat → Int32} {C : Nat → LsC} {kF : LsK} {n N d e ta tz t : Nat} {as : List LsA} {st pos es : Nat} {pe : List LsP} {fr : List LsF} {L : List Nat} {k : LsK} {Ls : List (List Nat)} {xs ys : List LsV} {os cs : List LsP} {F : Nat}
set_option maxHeartbeats 2000000 in
/-- a method's block ends -/
theorem gs_mend {a sp : Nat} {l : List Nat} {r : List LsF} (ih : ls_IH F) (h : ls_S yn mt tl oc mc mu ((T, V, C, kF, n, N, d, e, ta, tz)) t as ((0, pos, es, [], (1, a, sp, l) :: r, L, k)) Ls xs ys os cs f_tickLimit a_outKind a_outValue a_codeOp a_codeArg a_codeKind a_codePlace a_methodSign a_methodStart a_declared a_cellKind a_cellValue a_callReturn a_tk a_tv a_tp a_mName a_mKind a_mCount a_mPar a_mAt a_vName a_vDecl a_vKind a_vVal a_sk a_sv a_oKind a_oAt a_oArgs a_cKind a_cA a_cB a_outK a_outV) (hF : ls_Phi tl as 0 ((1, a, sp, l) :: r) N t = F) (h18 : T pos = 18) (hr2 : ls_fk r = 2) (hc : C (t + 1) = (3, pos + 1, es, [], r, l, k)) : ls_G F (f_tickLimit, f_tokenCount, nI oc, 0, f_errorPlace, f_lastKind, f_lastValue, f_codeSize, nI mc, nI mu, nI (88 + xs.length), nI as.length, nI (k.1 - d), nI tl, f_state, f_pos, f_expressionStart, f_pendingCount, f_frameTop, f_localCount, a_tokenCode, a_tokenValue, a_outKind, a_outValue, a_codeOp, a_codeArg, a_codeKind, a_codePlace, a_methodSign, a_methodStart, a_declared, a_cellKind, a_cellValue, a_callReturn, a_pendingLevel, a_pendingPlace, a_pendingMore, a_frameKind, a_frameMore, a_localName) (nI mt, nI yn, nI (140 + mu), nI mc, nI (ls_sl Ls + L.length), nI (ls_sl Ls), nI ys.length, nI os.length, nI cs.length, nI (pos + e), nI 0, 0, f_errorPlace, nI (mt - tl), nI as.length, nI oc, f_lastKind, nI 0, f_lastValue, f_cnt, f_full, f_flag, f_need, a_tk, a_tv, a_tp, a_mName, a_mKind, a_mCount, a_mPar, a_mAt, a_vName, a_vDecl, a_vKind, a_vVal, a_sk, a_sv, a_oKind, a_oAt, a_oArgs, a_cKind, a_cA, a_cB, a_outK, a_outV) := by
  have h' := h
  obtain ⟨hcu, hX, hY, hO, hE, hG, hV, hl, ho, hM⟩ := h'
  have U := hcu.1
  have tt := hcu.2.2.1
  have ec := hcu.2.2.2.1
  have hV : ls_lev (ls_sm a_declared a_cellKind a_cellValue a_vDecl a_vKind a_vVal) a_vName (L :: Ls) := hV
  have LB := ls_cu_len hcu
  have as8 := hl.2.2.2.1
  obtain ⟨hg, lt, ltN, d1, d2, t1, t2, t3, t4⟩ := ls_hg hcu (by omega) (fun q => by omega) (Or.inl (by omega))
  have B : cs.length < 1000 ∧ pos + e < 1000 ∧ yn < 1000 := ls_Sb5 h t3
  have CTOP := ls_cs_top hcu (by omega) as8
  have cd := ls_cod U tt ec (Nat.le_refl _) (t' := t) ⟨Nat.le_refl _, tt.2⟩ ec (Nat.le_refl _)
  obtain ⟨cs', ecs, cuE⟩ := ls_cu_cls hcu hc
  have cl : cs.length = cs'.length + 1 := by rw [ecs, List.length_cons]
  obtain ⟨tze, mo, pb, mq, y3, c3, er, r5, ecs3, y33, o18, d18, lt1⟩ := ls_mend cuE hr2
  subst er
  have op18 : a_codeOp (k.1 - d) = 18 := cd.2.2.1.trans o18
  have kd18 : a_codeKind (k.1 - d) = nI mq := cd.2.2.2.2.1.trans d18
  obtain ⟨T', V', C', kF', n', N', d', e', ta', tz', t', as', pos', es', pe', fr', L', k', m, Ls', cX, c1, eas, r1, r2, r3, r4, _, r6, r7, r8, r9, ⟨r10, r11, r12⟩, CU⟩ := ls_retx (q := mq) cuE (by omega) rfl
  have al : as.length = as'.length + 1 := by rw [eas, List.length_cons]
  have kz5 : (if mq = 5 then 3 else mq) ≤ 4 := by split <;> omega
  have wz : ls_wf (if mq = 5 then 3 else mq) 0 := ⟨kz5, fun _ => Or.inl rfl, fun _ => rfl⟩
  have cu' := CU ((if mq = 5 then 3 else mq), 0)
  have LB' := ls_cu_len cu'
  have xb := LB'.1
  have yb := LB'.2.1
  rw [List.length_cons] at xb yb
  have SUF : ∀ {A B : List LsP}, ls_StP a_cKind a_cA a_cB (A ++ B) → ls_StP a_cKind a_cA a_cB B := by
    intro A B
    induction A with
    | nil => exact fun h => h
    | cons x A ihA => exact fun h => ihA h.2.2.2
  have hE' := hE
  rw [ecs] at hE'
  have hE2 := hE'.2.2.2
  rw [r3] at hE2
  have hEs := SUF hE2
  have CL := LB.2.2.2.1
  have slb := LB'.2.2.2.2.1
  have N3b : ∀ x ∈ cs', x.1 < 100 := by
    obtain ⟨b1, b2, b3, b4, c0, b5, b6⟩ := ls_cu_s cuE (by omega)
    obtain ⟨cX, e1, e2⟩ := ls_ct_app b5
    intro x hx
    rw [e1] at hx
    rcases List.mem_append.mp hx with q | q
    · have := e2 x q; omega
    · have := ls_sus_k b6 x q; omega
  have PH : ls_Phi tl as' 5 fr' N' t' + 4 ≤ F := by
    have p1 := ls_Phi_ret (tl := tl) (st := 0) (fr := (1, a, sp, l) :: [(2, mo, pb, [mq])]) (N := N) (t := t) (T' := T') (V' := V') (kF' := kF') (n' := n') (d' := d') (e' := e') (ta' := ta') (tz' := tz') (as' := as') r1 r10 r12 ltN
    rw [← eas] at p1
    omega
  have hl2 : f_tickLimit = nI mt ∧ tl ≤ mt ∧ mt ≤ 400 ∧ as'.length ≤ 8 ∧ yn ≤ 140 := ⟨hl.1, hl.2.1, hl.2.2.1, by omega, hl.2.2.2.2⟩
  have hV2 : ls_lev (ls_sm a_declared a_cellKind a_cellValue a_vDecl a_vKind a_vVal) a_vName (L' :: Ls') := by rw [← r8]; exact hV.2.2
  have K88 : ∀ c, c < 88 → upd a_cellKind (88 + xs.length) (nI (if mq = 5 then 3 else mq)) c = a_cellKind c ∧ vp_updL a_cellValue (88 + xs.length) 0 c = a_cellValue c := fun c hc' => ⟨pk_un (by omega), pk_uLn (by omega)⟩
  have S' : ls_S yn mt tl oc mc mu ((T', V', C', kF', n', N', d', e', ta', tz')) t' as' ((5, pos', es', pe', fr', L', k')) Ls' (((if mq = 5 then 3 else mq), 0) :: xs) (((if mq = 5 then 3 else mq), 0) :: ys) os c1 f_tickLimit a_outKind a_outValue a_codeOp a_codeArg a_codeKind a_codePlace a_methodSign a_methodStart a_declared (upd a_cellKind (88 + xs.length) (nI (if mq = 5 then 3 else mq))) (vp_updL a_cellValue (88 + xs.length) 0) a_callReturn a_tk a_tv a_tp a_mName a_mKind a_mCount a_mPar a_mAt a_vName a_vDecl a_vKind a_vVal (upd a_sk ys.length (nI (if mq = 5 then 3 else mq))) (vp_updL a_sv ys.length 0) a_oKind a_oAt a_oArgs a_cKind a_cA a_cB a_outK a_outV := by
    refine ⟨cu', ls_stk_push wz hX, ?_, hO, hEs.2.2.2, ls_gl_k K88 hG, ls_lev_k K88 (by rw [List.length_cons]; omega) (ls_cu_l8 cu') hV2, hl2, ho, hM⟩
    have := ls_stk_push (o := 0) wz hY
    rw [Nat.zero_add] at this
    exact this
  have G0 : ls_G (ls_Phi tl as' 5 fr' N' t') (f_tickLimit, f_tokenCount, nI oc, 0, f_errorPlace, f_lastKind, f_lastValue, f_codeSize, nI mc, nI mu, nI (88 + xs.length + 1), nI as'.length, nI (k'.1 - d'), nI tl, f_state, f_pos, f_expressionStart, f_pendingCount, f_frameTop, f_localCount, a_tokenCode, a_tokenValue, a_outKind, a_outValue, a_codeOp, a_codeArg, a_codeKind, a_codePlace, a_methodSign, a_methodStart, a_declared, upd a_cellKind (88 + xs.length) (nI (if mq = 5 then 3 else mq)), vp_updL a_cellValue (88 + xs.length) 0, a_callReturn, a_pendingLevel, a_pendingPlace, a_pendingMore, a_frameKind, a_frameMore, a_localName) (nI mt, nI yn, nI (140 + mu), nI mc, nI (ls_sl Ls' + L'.length), nI (ls_sl Ls'), nI (ys.length + 1), nI os.length, nI c1.length, nI (pos' + e'), nI (ls_md 5 pe'), 0, f_errorPlace, nI (mt - tl), nI as'.length, nI oc, f_lastKind, nI (ls_pt 5 fr'), f_lastValue, f_cnt, f_full, f_flag, f_need, a_tk, a_tv, a_tp, a_mName, a_mKind, a_mCount, a_mPar, a_mAt, a_vName, a_vDecl, a_vKind, a_vVal, upd a_sk ys.length (nI (if mq = 5 then 3 else mq)), vp_updL a_sv ys.length 0, a_oKind, a_oAt, a_oArgs, a_cKind, a_cA, a_cB, a_outK, a_outV) := ih S' (by omega) (fun q => absurd q.1 (by decide))
  rw [ls_md_5, ls_pt_x (by omega), show ls_sl Ls' + L'.length = ls_sl Ls by rw [r8]; show _ = L'.length + ls_sl Ls'; omega] at G0
  refine ls_G_go (a := 1) (b := 1) ?_ (yr_stmt B hg (fun post hp => ?_)) G0 (by omega) (by omega)
  · rw [al, ← r2]
    exact xr_of (fun post f s hs hh => gx_18 cd.2.1 hs op18 (hx_returnZero (t := mq) cd.2.1 (by omega) (by omega) r5 kd18 hh))
  · refine hy_statement_m t3 (by omega) hE CTOP (hy_st_close t3 (by rw [t1, h18]; rfl) ?_)
    rw [cl]
    refine hy_close (by omega) (by omega) hE' N3b (fun q => absurd y33 (q _ _ ecs3)) (fun _ _ _ _ => ?_)
    rw [r3, al]
    exact hy_giveBack_z (by rw [← r3]; omega) r4 hE2 r6 (by omega) r7 r5 (by omega) hp
end
