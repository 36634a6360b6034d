/-! Returns -/
section
variable {T : Nat → Nat} {V : Nat → Int32} {C : Nat → LsC} {kF : LsK} {n N d e ta tz : Nat} {yn : Nat} {cr mk D : Nat → Int32} {co ca ck cp tk : Nat → Int32} {tv : Nat → Int64} {tp : Nat → Int32}
variable {t st pos es : Nat} {fr : List LsF} {L : List Nat} {k : LsK} {as : List LsA} {Ls : List (List Nat)} {xs ys : List LsV} {os cs : List LsP}
set_option maxHeartbeats 200000 in
/-- the caller that waits on top -/
theorem ls_retx (h : ls_cu yn cr mk D (ls_UA co ca ck cp tk tv tp) (T, V, C, kF, n, N, d, e, ta, tz) t as (st, pos, es, [], fr, L, k) Ls xs ys os cs) (hs : ¬ (st = 4 ∨ st = 5)) {q : Nat} (hq : ls_mkd fr = some q) : ∃ T' V' C' kF' n' N' d' e' ta' tz' t' as' pos' es' pe' fr' L' k' m Ls' cX c1, as = ((T', V', C', kF', n', N', d', e', ta', tz'), t') :: as' ∧ C' t' = (5, pos', es', pe', fr', L', k') ∧ cr as'.length = nI (k'.1 - d') ∧ cs = cX ++ (3, pos' + e', m * 128 + ls_sl Ls') :: c1 ∧ (∀ x ∈ cX, x.1 = 1 ∨ x.1 = 2) ∧ q ≤ 5 ∧ m < 8 ∧ mk m = nI q ∧ Ls = L' :: Ls' ∧ Ls'.length = as'.length ∧ (1 ≤ t' ∧ t' < N' ∧ N' ≤ 1120) ∧ ∀ z, ls_cu yn cr mk D (ls_UA co ca ck cp tk tv tp) (T', V', C', kF', n', N', d', e', ta', tz') t' as' (5, pos', es', pe', fr', L', k') Ls' (z :: xs) (z :: ys) os c1 := by
  obtain ⟨a1, a2, a3, a4, c0, a5, a6⟩ := ls_cu_s h hs
  obtain ⟨cX, x1, x2⟩ := ls_ct_app a5
  cases as with
  | nil =>
    have := a6.1
    rw [hq] at this
    cases this
  | cons A as' =>
    obtain ⟨U', t'⟩ := A
    have KK := a2.2 (by simp)
    obtain ⟨q0, _, _, _, _, _, w1, w2, _⟩ := KK
    rw [hq] at w1
    injection w1 with w1
    obtain ⟨pos', es', pe', fr', L', k', q', m, Ls', c1, r1, r2, r3, r4, r5, r6, r7⟩ := ls_sus_ret a6
    obtain ⟨T', V', C', kF', n', N', d', e', ta', tz'⟩ := U'
    obtain ⟨r11, r12, r13⟩ := r1
    rw [hq] at r2
    injection r2 with r2
    subst r2
    have cu0 := r7 (0, 0)
    have U2 := cu0.1
    have tt2 := cu0.2.2.1
    have lt := (ls_tl5 U2.1 (by have := U2.2.2.1; omega) r11).1
    have t1 : 1 ≤ t' := by
      have z0 := U2.2.1.2
      rcases Nat.eq_zero_or_pos t' with g | g
      · exfalso
        have : ta' = t' := by omega
        rw [this, r11] at z0
        have z0' : (5 : Nat) = 0 := z0
        omega
      · exact g
    exact ⟨T', V', C', kF', n', N', d', e', ta', tz', t', as', pos', es', pe', fr', L', k', m, Ls', cX, c1, rfl, r11, r12, by rw [x1, r13], x2, by omega, r3, r4, r5, r6, ⟨t1, lt, U2.1.2.2.2.1⟩, r7⟩
end
section
variable {f_tickLimit f_tokenCount f_outCount f_error f_errorPlace f_lastKind f_codeSize f_methodCount f_methodTokens f_cellCount f_activeCalls f_next f_ticksLeft f_state f_pos f_expressionStart f_pendingCount f_frameTop f_localCount : Int32}
variable {f_lastValue : Int64}
variable {a_tokenCode a_tokenValue a_outKind a_codeOp a_codeArg a_codeKind a_codePlace a_methodSign a_methodStart a_declared a_cellKind a_callReturn a_pendingLevel a_pendingPlace a_pendingMore a_frameKind a_frameMore a_localName : Nat → Int32}
variable {a_outValue a_cellValue : Nat → Int64}
variable {f_cnt f_full f_flag f_need : Int32}
variable {a_tk a_tp a_mName a_mKind a_mCount a_mPar a_mAt a_vName a_vDecl a_vKind a_sk a_oKind a_oAt a_oArgs a_cKind a_cA a_cB a_outK : Nat → Int32}
variable {a_tv a_vVal a_sv a_outV : Nat → Int64}
variable {yn mt tl oc mc mu : Nat} {T : Nat → Nat} {V : Nat → Int32} {C : Nat → LsC} {kF : LsK} {n N d e ta tz t : Nat} {as : List LsA} {st pos es : Nat} {pe : List LsP} {fr : List LsF} {L : List Nat} {k : LsK} {Ls : List (List Nat)} {xs ys : List LsV} {os cs : List LsP} {F : Nat}
set_option maxHeartbeats 200000 in
theorem ls_Phi_ret {T' : Nat → Nat} {V' : Nat → Int32} {C' : Nat → LsC} {kF' : LsK} {n' N' d' e' ta' tz' t' pos' es' : Nat} {pe' : List LsP} {fr' : List LsF} {L' : List Nat} {k' : LsK} {as' : List LsA} (hc : C' t' = (5, pos', es', pe', fr', L', k')) (h1 : 1 ≤ t') (h2 : N' ≤ 1120) (hN : t < N) : ls_Phi tl as' 5 fr' N' t' + 4 ≤ ls_Phi tl (((T', V', C', kF', n', N', d', e', ta', tz'), t') :: as') st fr N t := by
  unfold ls_Phi
  rw [ls_lo5_x (st := 5) (by omega), List.length_cons]
  have A5 : ls_a5 (((T', V', C', kF', n', N', d', e', ta', tz'), t') :: as') = ls_l5 fr' + ls_a5 as' := by
    show ls_l5 (C' t').2.2.2.2.1 + ls_a5 as' = _
    rw [hc]
  rw [A5]
  omega
set_option maxHeartbeats 2000000 in
/-- return without a value -/
theorem gs_ret0 {mq : Nat} (ih : ls_IH F) (h : ls_S yn mt tl oc mc mu ((T, V, C, kF, n, N, d, e, ta, tz)) t as ((1, pos, es, [], fr, L, k)) Ls xs ys os cs f_tickLimit a_outKind a_outValue a_codeOp a_codeArg a_codeKind a_codePlace a_methodSign a_methodStart a_declared a_cellKind a_cellValue a_callReturn a_tk a_tv a_tp a_mName a_mKind a_mCount a_mPar a_mAt a_vName a_vDecl a_vKind a_vVal a_sk a_sv a_oKind a_oAt a_oArgs a_cKind a_cA a_cB a_outK a_outV) (hF : ls_Phi tl as 1 fr N t = F) (h11 : T pos = 11) (h20 : T (pos + 1) = 20) (hmk : ls_mkd fr = some mq) (hc : C (t + 1) = (3, pos + 2, es, [], fr, L, ls_em (ls_em k 1 0 0 (nI pos)) 18 0 (nI mq) (nI pos))) : ls_G F (f_tickLimit, f_tokenCount, nI oc, 0, f_errorPlace, f_lastKind, f_lastValue, f_codeSize, nI mc, nI mu, nI (88 + xs.length), nI as.length, nI (k.1 - d), nI tl, f_state, f_pos, f_expressionStart, f_pendingCount, f_frameTop, f_localCount, a_tokenCode, a_tokenValue, a_outKind, a_outValue, a_codeOp, a_codeArg, a_codeKind, a_codePlace, a_methodSign, a_methodStart, a_declared, a_cellKind, a_cellValue, a_callReturn, a_pendingLevel, a_pendingPlace, a_pendingMore, a_frameKind, a_frameMore, a_localName) (nI mt, nI yn, nI (140 + mu), nI mc, nI (ls_sl Ls + L.length), nI (ls_sl Ls), nI ys.length, nI os.length, nI cs.length, nI (pos + e), nI 0, 0, f_errorPlace, nI (mt - tl), nI as.length, nI oc, f_lastKind, nI (ls_pt 1 fr), f_lastValue, f_cnt, f_full, f_flag, f_need, a_tk, a_tv, a_tp, a_mName, a_mKind, a_mCount, a_mPar, a_mAt, a_vName, a_vDecl, a_vKind, a_vVal, a_sk, a_sv, a_oKind, a_oAt, a_oArgs, a_cKind, a_cA, a_cB, a_outK, a_outV) := by
  have h' := h
  obtain ⟨hcu, hX, hY, hO, hE, hG, hV, hl, ho, hM⟩ := h'
  have U := hcu.1
  have tt := hcu.2.2.1
  have ec := hcu.2.2.2.1
  obtain ⟨hg, lt, ltN, d1, d2, t1, t2, t3, t4⟩ := ls_hg hcu (by omega) (fun q => by omega) (Or.inl (by omega))
  have LB := ls_cu_len hcu
  have cd := ls_cod U tt ec (Nat.le_refl _) (t' := t) ⟨Nat.le_refl _, tt.2⟩ ec (Nat.le_refl _)
  have as8 := hl.2.2.2.1
  have hl' : f_tickLimit = nI mt ∧ tl - 1 ≤ mt ∧ mt ≤ 400 ∧ as.length ≤ 8 ∧ yn ≤ 140 := ⟨hl.1, by have := hl.2.1; omega, hl.2.2⟩
  have P2 : 2 ≤ F := by rw [← hF]; unfold ls_Phi; omega
  have hV : ls_lev (ls_sm a_declared a_cellKind a_cellValue a_vDecl a_vKind a_vVal) a_vName (L :: Ls) := hV
  have zN := U.2.2.1.2
  have kk := ls_fem2 U.1 (by omega) hc (by decide) (by decide) (by decide) (by decide)
  have kk2 := ls_fem U.1 (by omega) hc (by decide) (by decide) (by decide) (by decide)
  have cd2 := ls_cod (i := k.1 + 1) U tt ec (by omega) (t' := t + 1) ⟨by omega, by omega⟩ hc (by show k.1 + 1 ≤ k.1 + 1 + 1; omega)
  rw [show k.1 + 1 - d = k.1 - d + 1 by omega] at cd2
  have op18 : a_codeOp (k.1 - d + 1) = 18 := cd2.2.2.1.trans kk2.1
  have kd18 : a_codeKind (k.1 - d + 1) = nI mq := cd2.2.2.2.2.1.trans kk2.2.2.1
  obtain ⟨T', V', C', kF', n', N', d', e', ta', tz', t', as', pos', es', pe', fr', L', k', m, Ls', cX, c1, eas, r1, r2, r3, r4, r5, r6, r7, r8, r9, ⟨r10, r11, r12⟩, CU⟩ := ls_retx hcu (by omega) hmk
  have TN1 := ls_tokn (p := pos + 1) U ⟨tt.1, lt⟩ ec (by omega) (t' := t + 1) (by omega) hc (by omega)
  have e20 : a_tk (pos + e + 1) = 20 := by rw [show pos + e + 1 = pos + 1 + e by omega, TN1.1, h20]; rfl
  have al : as.length = as'.length + 1 := by rw [eas, List.length_cons]
  have kz5 : (if mq = 5 then 3 else mq) ≤ 4 := by split <;> omega
  have wz : ls_wf (if mq = 5 then 3 else mq) 0 := ⟨kz5, fun _ => Or.inl rfl, fun _ => rfl⟩
  have cu' := CU ((if mq = 5 then 3 else mq), 0)
  have LB' := ls_cu_len cu'
  have xb := LB'.1
  have yb := LB'.2.1
  rw [List.length_cons] at xb yb
  have SUF : ∀ {A B : List LsP}, ls_StP a_cKind a_cA a_cB (A ++ B) → ls_StP a_cKind a_cA a_cB B := by
    intro A B
    induction A with
    | nil => exact fun h => h
    | cons x A ihA => exact fun h => ihA h.2.2.2
  have hE' := hE
  rw [r3] at hE'
  have hEs := SUF hE'
  have CL := LB.2.2.2.1
  have slb := LB'.2.2.2.2.1
  have PH : 0 < tl → ls_Phi (tl - 1) as' 5 fr' N' t' + 4 ≤ F := by
    intro q
    have p1 := ls_Phi_ret (tl := tl - 1) (st := 1) (fr := fr) (N := N) (t := t) (T' := T') (V' := V') (kF' := kF') (n' := n') (d' := d') (e' := e') (ta' := ta') (tz' := tz') (as' := as') r1 r10 r12 ltN
    rw [← eas] at p1
    have p2 : ls_Phi (tl - 1) as 1 fr N t ≤ ls_Phi tl as 1 fr N t := by unfold ls_Phi; omega
    omega
  refine gs_tick (a := 1) (F' := ls_Phi (tl - 1) as' 5 fr' N' t') (u' := (f_tickLimit, f_tokenCount, nI oc, 0, f_errorPlace, f_lastKind, f_lastValue, f_codeSize, nI mc, nI mu, nI (88 + xs.length + 1), nI as'.length, nI (k'.1 - d'), nI (tl - 1), f_state, f_pos, f_expressionStart, f_pendingCount, f_frameTop, f_localCount, a_tokenCode, a_tokenValue, a_outKind, a_outValue, a_codeOp, a_codeArg, a_codeKind, a_codePlace, a_methodSign, a_methodStart, a_declared, upd a_cellKind (88 + xs.length) (nI (if mq = 5 then 3 else mq)), vp_updL a_cellValue (88 + xs.length) 0, a_callReturn, a_pendingLevel, a_pendingPlace, a_pendingMore, a_frameKind, a_frameMore, a_localName)) (v' := (nI mt, nI yn, nI (140 + mu), nI mc, nI (ls_sl Ls), nI (ls_sl Ls'), nI (ys.length + 1), nI os.length, nI c1.length, nI (pos' + e'), nI 3, 0, f_errorPlace, nI (mt - (tl - 1)), nI as'.length, nI oc, f_lastKind, nI 0, f_lastValue, f_cnt, f_full, f_flag, f_need, a_tk, a_tv, a_tp, a_mName, a_mKind, a_mCount, a_mPar, a_mAt, a_vName, a_vDecl, a_vKind, a_vVal, upd a_sk ys.length (nI (if mq = 5 then 3 else mq)), vp_updL a_sv ys.length 0, a_oKind, a_oAt, a_oArgs, a_cKind, a_cA, a_cB, a_outK, a_outV)) h (by omega) (by omega) (by omega) (by omega) (cd.2.2.1.trans kk.1) (cd.2.2.2.2.2.trans kk.2.2.2) P2 (fun q => by have := PH q; omega) (fun q => by have := PH q; omega) (fun _ => ?_) (fun _ post hp => ?_) (fun w => ?_)
  · rw [al, ← r2]
    exact xr_of (fun post f s hs hh => gx_18 cd2.2.1 hs op18 (hx_returnZero (t := mq) cd2.2.1 (by omega) (by omega) r5 kd18 hh))
  · rw [h11]
    refine hy_begin_r (by have := TN1.2.2.1; omega) e20 ?_
    rw [r3, al]
    exact hy_giveBack_z (by rw [← r3]; omega) r4 hE' r6 (by omega) r7 r5 (by omega) hp
  · have hl2 : f_tickLimit = nI mt ∧ tl - 1 ≤ mt ∧ mt ≤ 400 ∧ as'.length ≤ 8 ∧ yn ≤ 140 := ⟨hl'.1, hl'.2.1, hl'.2.2.1, by omega, hl'.2.2.2.2⟩
    have hV2 : ls_lev (ls_sm a_declared a_cellKind a_cellValue a_vDecl a_vKind a_vVal) a_vName (L' :: Ls') := by rw [← r8]; exact hV.2.2
    have K88 : ∀ c, c < 88 → upd a_cellKind (88 + xs.length) (nI (if mq = 5 then 3 else mq)) c = a_cellKind c ∧ vp_updL a_cellValue (88 + xs.length) 0 c = a_cellValue c := fun c hc' => ⟨pk_un (by omega), pk_uLn (by omega)⟩
    have S' : ls_S yn mt (tl - 1) oc mc mu ((T', V', C', kF', n', N', d', e', ta', tz')) t' as' ((5, pos', es', pe', fr', L', k')) Ls' (((if mq = 5 then 3 else mq), 0) :: xs) (((if mq = 5 then 3 else mq), 0) :: ys) os c1 f_tickLimit a_outKind a_outValue a_codeOp a_codeArg a_codeKind a_codePlace a_methodSign a_methodStart a_declared (upd a_cellKind (88 + xs.length) (nI (if mq = 5 then 3 else mq))) (vp_updL a_cellValue (88 + xs.length) 0) a_callReturn a_tk a_tv a_tp a_mName a_mKind a_mCount a_mPar a_mAt a_vName a_vDecl a_vKind a_vVal (upd a_sk ys.length (nI (if mq = 5 then 3 else mq))) (vp_updL a_sv ys.length 0) a_oKind a_oAt a_oArgs a_cKind a_cA a_cB a_outK a_outV := by
      refine ⟨cu', ls_stk_push wz hX, ?_, hO, hEs.2.2.2, ls_gl_k K88 hG, ls_lev_k K88 (by rw [List.length_cons]; omega) (ls_cu_l8 cu') hV2, hl2, ho, hM⟩
      have := ls_stk_push (o := 0) wz hY
      rw [Nat.zero_add] at this
      exact this
    have G0 : ls_G (ls_Phi (tl - 1) as' 5 fr' N' t') (f_tickLimit, f_tokenCount, nI oc, 0, f_errorPlace, f_lastKind, f_lastValue, f_codeSize, nI mc, nI mu, nI (88 + xs.length + 1), nI as'.length, nI (k'.1 - d'), nI (tl - 1), f_state, f_pos, f_expressionStart, f_pendingCount, f_frameTop, f_localCount, a_tokenCode, a_tokenValue, a_outKind, a_outValue, a_codeOp, a_codeArg, a_codeKind, a_codePlace, a_methodSign, a_methodStart, a_declared, upd a_cellKind (88 + xs.length) (nI (if mq = 5 then 3 else mq)), vp_updL a_cellValue (88 + xs.length) 0, a_callReturn, a_pendingLevel, a_pendingPlace, a_pendingMore, a_frameKind, a_frameMore, a_localName) (nI mt, nI yn, nI (140 + mu), nI mc, nI (ls_sl Ls' + L'.length), nI (ls_sl Ls'), nI (ys.length + 1), nI os.length, nI c1.length, nI (pos' + e'), nI (ls_md 5 pe'), 0, f_errorPlace, nI (mt - (tl - 1)), nI as'.length, nI oc, f_lastKind, nI (ls_pt 5 fr'), f_lastValue, f_cnt, f_full, f_flag, f_need, a_tk, a_tv, a_tp, a_mName, a_mKind, a_mCount, a_mPar, a_mAt, a_vName, a_vDecl, a_vKind, a_vVal, upd a_sk ys.length (nI (if mq = 5 then 3 else mq)), vp_updL a_sv ys.length 0, a_oKind, a_oAt, a_oArgs, a_cKind, a_cA, a_cB, a_outK, a_outV) := ih S' (by have := PH w; omega) (fun q => absurd q.1 (by decide))
    rw [ls_md_5, ls_pt_x (by omega), show ls_sl Ls' + L'.length = ls_sl Ls by rw [r8]; show _ = L'.length + ls_sl Ls'; omega] at G0
    exact G0
end
