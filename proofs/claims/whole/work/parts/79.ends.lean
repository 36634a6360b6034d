/-! The ends of expressions -/
section
variable {T : Nat → Nat} {V : Nat → Int32} {C : Nat → LsC} {kF : LsK} {n N d e ta tz : Nat} {yn : Nat} {cr mk D : Nat → Int32} {co ca ck cp tk : Nat → Int32} {tv : Nat → Int64} {tp : Nat → Int32}
variable {t st pos es p : Nat} {pe : List LsP} {f : LsF} {r : List LsF} {L : List Nat} {k : LsK} {as : List LsA} {Ls : List (List Nat)} {xs ys : List LsV} {os cs : List LsP}
set_option maxHeartbeats 200000 in
/-- what an expression's frame says of its beginning -/
theorem ls_orf (h : ls_cu yn cr mk D (ls_UA co ca ck cp tk tv tp) (T, V, C, kF, n, N, d, e, ta, tz) t as (5, pos, es, pe, f :: r, L, k) Ls xs ys os cs) : f.2.2.2 = [] ∧ ((f.1 = 6 ∧ es = f.2.2.1 ∧ 13 ≤ T f.2.2.1) ∨ (f.1 = 7 ∧ es = f.2.2.1 + 2 ∧ T f.2.2.1 = 6) ∨ (f.1 = 8 ∧ es = f.2.2.1 + 2 ∧ T f.2.2.1 = 8) ∨ (f.1 = 9 ∧ es = f.2.2.1 + 2 ∧ T f.2.2.1 = 12) ∨ (f.1 = 10 ∧ es = f.2.2.1 + 1 ∧ T f.2.2.1 = 11) ∨ (f.1 = 11 ∧ es = f.2.2.1 + 3 ∧ ls_nam (T (f.2.2.1 + 1)) ∧ T f.2.2.1 < 6 ∧ (r ≠ [] → ∃ l, L = (T (f.2.2.1 + 1) - 54) :: l))) ∧ f.2.2.1 < pos := by
  have U := h.1
  have h3 : ta ≤ t ∧ t ≤ tz := h.2.2.1
  have ec : C t = (5, pos, es, pe, f :: r, L, k) := h.2.2.2.1
  obtain ⟨g1, g2, g3, _⟩ := U
  obtain ⟨s, k0, o1, o2, o3, o4, o5, o6⟩ := ls_org g1 (ta := ta) (by rw [g2.2]; decide) t h3.1 (by omega) (by rw [ec]; exact Or.inr rfl)
  rw [ec] at o3
  dsimp only at o3
  have r4 := ls_r4_st (ls_tl4 g1 (show s + 1 ≤ N by omega) o3).2
  have hH := (g1.2.2.2.2 t (by omega)).2.2.2.1
  rw [ec] at hH
  have hH' := (hH (Or.inr rfl)).2
  rw [if_pos rfl] at hH'
  have hI := (g1.2.2.2.2 t (by omega)).2.1
  rw [ec] at hI
  obtain ⟨_, _, _, _, _, _, i7⟩ := hI
  rw [if_pos (Or.inr rfl)] at i7
  obtain ⟨_, _, _, _, f', r', ff, xf, _⟩ := i7
  injection ff with ff1 ff2
  subst ff1 ff2
  have x11 := xf.2.2.2.2.2.2.1
  obtain ⟨fk, mo, sp, r'', p', L', k'', b1, b2, b3, b4, b5, b6⟩ := o5
  rw [o3] at b1
  injection b1 with _ b1
  injection b1 with b1a b1
  injection b1 with b1b b1
  injection b1 with _ b1
  injection b1 with b1c b1
  injection b1 with b1d b1e
  injection b1c with b1c b1r
  subst b1c b1r b1d
  dsimp only at x11 ⊢
  rw [b1a] at r4
  refine ⟨rfl, ?_, by omega⟩
  rcases b6 with c | c | c | c | c | c
  · exact Or.inl ⟨c.1, by omega, by rw [← c.2.1]; exact r4.2.2⟩
  · exact Or.inr (Or.inl ⟨c.1, by omega, c.2.2⟩)
  · exact Or.inr (Or.inr (Or.inl ⟨c.1, by omega, c.2.2⟩))
  · exact Or.inr (Or.inr (Or.inr (Or.inl ⟨c.1, by omega, c.2.2⟩)))
  · exact Or.inr (Or.inr (Or.inr (Or.inr (Or.inl ⟨c.1, by omega, c.2.2.1⟩))))
  · exact Or.inr (Or.inr (Or.inr (Or.inr (Or.inr ⟨c.1, by omega, c.2.2.1, (x11 c.1).1, c.2.2.2.2.1⟩))))
set_option maxHeartbeats 200000 in
/-- at the top of the text -/
theorem ls_top_r (h : ls_cu yn cr mk D (ls_UA co ca ck cp tk tv tp) (T, V, C, kF, n, N, d, e, ta, tz) t as (5, pos, es, pe, f :: r, L, k) Ls xs ys os cs) (f6 : 6 ≤ f.1) : (r = [] → cs = [] ∧ as = [] ∧ L = []) ∧ (r ≠ [] → ls_fk r ≠ 3 → ls_fk r ≠ 4 → cs ≠ []) := by
  obtain ⟨h1, h2, h3, h4, x1, y1, x0, y0, o0, c0, f', r', ins, g1, g2, g3, g4, g5, g6, g7⟩ := ls_cu_e h (Or.inr rfl)
  injection g3 with g3 g3'
  subst g3 g3'
  have U := h1
  obtain ⟨u1, _, u3, _⟩ := h1
  have hI := (u1.2.2.2.2 t (by omega)).2.1
  rw [h4] at hI
  obtain ⟨_, _, _, i4, _, _, i7⟩ := hI
  rw [if_pos (Or.inr rfl)] at i7
  obtain ⟨_, _, _, _, f', r', ff, xf, fok⟩ := i7
  injection ff with ff1 ff2
  subst ff1 ff2
  have CT := (ls_ct_x (by omega) (by omega)).mp g6
  refine ⟨fun e0 => ?_, fun e0 n3 n4 => ?_⟩
  · subst e0
    have cc : cs = c0 := CT
    have M : ls_mkd [f] = none := by
      show (if f.1 = 2 then _ else none) = none
      rw [if_neg (by omega)]
    rw [M] at g7 h2
    have A0 : as = [] := by
      apply Decidable.byContradiction
      intro q
      obtain ⟨_, _, _, _, _, _, q1, _⟩ := h2.2 q
      cases q1
    subst A0
    have i4' : ls_sco [] L := ls_sco_p i4 (by omega) (by omega)
    exact ⟨by rw [cc]; exact g7.2.2.2.2.2, rfl, i4'⟩
  · obtain ⟨_, _, _, _, y, ha⟩ := u1.2.2.2.2 t (by omega)
    rw [h4] at ha
    have mb := ha.1
    cases r with
    | nil => exact absurd rfl e0
    | cons f2 r2 =>
      have n2 : f2.1 ≠ 2 := fun q => by
        have := mb.1 q
        omega
      have b15 := fok.1
      have n3' : f2.1 ≠ 3 := n3
      have n4' : f2.1 ≠ 4 := n4
      intro c
      rw [c] at CT
      unfold ls_ct at CT
      by_cases c1 : f2.1 = 1
      · rw [if_pos c1] at CT
        obtain ⟨_, q, _⟩ := CT
        cases q
      · rw [if_neg c1, if_pos (by omega)] at CT
        obtain ⟨_, _, q, _⟩ := CT
        cases q
end
section
variable {f_tickLimit f_tokenCount f_outCount f_error f_errorPlace f_lastKind f_codeSize f_methodCount f_methodTokens f_cellCount f_activeCalls f_next f_ticksLeft f_state f_pos f_expressionStart f_pendingCount f_frameTop f_localCount : Int32}
variable {f_lastValue : Int64}
variable {a_tokenCode a_tokenValue a_outKind a_codeOp a_codeArg a_codeKind a_codePlace a_methodSign a_methodStart a_declared a_cellKind a_callReturn a_pendingLevel a_pendingPlace a_pendingMore a_frameKind a_frameMore a_localName : Nat → Int32}
variable {a_outValue a_cellValue : Nat → Int64}
variable {f_cnt f_full f_flag f_need : Int32}
variable {a_tk a_tp a_mName a_mKind a_mCount a_mPar a_mAt a_vName a_vDecl a_vKind a_sk a_oKind a_oAt a_oArgs a_cKind a_cA a_cB a_outK : Nat → Int32}
variable {a_tv a_vVal a_sv a_outV : Nat → Int64}
variable {yn mt tl oc mc mu : Nat} {T : Nat → Nat} {V : Nat → Int32} {C : Nat → LsC} {kF : LsK} {n N d e ta tz t : Nat} {as : List LsA} {st pos es : Nat} {pe : List LsP} {fr : List LsF} {L : List Nat} {k : LsK} {Ls : List (List Nat)} {xs ys : List LsV} {os cs : List LsP} {F : Nat}
set_option maxHeartbeats 1000000 in
/-- an expression's statement -/
theorem gs_e6 {mo sp : Nat} {l : List Nat} {r : List LsF} (ih : ls_IH F) (h : ls_S yn mt tl oc mc mu ((T, V, C, kF, n, N, d, e, ta, tz)) t as ((5, pos, es, [], (6, mo, sp, l) :: r, L, k)) Ls xs ys os cs f_tickLimit a_outKind a_outValue a_codeOp a_codeArg a_codeKind a_codePlace a_methodSign a_methodStart a_declared a_cellKind a_cellValue a_callReturn a_tk a_tv a_tp a_mName a_mKind a_mCount a_mPar a_mAt a_vName a_vDecl a_vKind a_vVal a_sk a_sv a_oKind a_oAt a_oArgs a_cKind a_cA a_cB a_outK a_outV) (hF : ls_Phi tl as 5 ((6, mo, sp, l) :: r) N t = F) (h20 : T pos = 20) (hc : C (t + 1) = (3, pos + 1, es, [], r, L, ls_em k (if r = [] then 13 else 12) 0 0 (nI sp))) : ls_G F (f_tickLimit, f_tokenCount, nI oc, 0, f_errorPlace, f_lastKind, f_lastValue, f_codeSize, nI mc, nI mu, nI (88 + xs.length), nI as.length, nI (k.1 - d), nI tl, f_state, f_pos, f_expressionStart, f_pendingCount, f_frameTop, f_localCount, a_tokenCode, a_tokenValue, a_outKind, a_outValue, a_codeOp, a_codeArg, a_codeKind, a_codePlace, a_methodSign, a_methodStart, a_declared, a_cellKind, a_cellValue, a_callReturn, a_pendingLevel, a_pendingPlace, a_pendingMore, a_frameKind, a_frameMore, a_localName) (nI mt, nI yn, nI (140 + mu), nI mc, nI (ls_sl Ls + L.length), nI (ls_sl Ls), nI ys.length, nI os.length, nI cs.length, nI (pos + e), nI 3, 0, f_errorPlace, nI (mt - tl), nI as.length, nI oc, f_lastKind, nI 0, f_lastValue, f_cnt, f_full, f_flag, f_need, a_tk, a_tv, a_tp, a_mName, a_mKind, a_mCount, a_mPar, a_mAt, a_vName, a_vDecl, a_vKind, a_vVal, a_sk, a_sv, a_oKind, a_oAt, a_oArgs, a_cKind, a_cA, a_cB, a_outK, a_outV) := by
  have h' := h
  obtain ⟨hcu, hX, hY, hO, hE, hG, hV, hl, ho, hM⟩ := h'
  have U := hcu.1
  have tt := hcu.2.2.1
  have ec := hcu.2.2.2.1
  have T72 := ls_T5 U.1 (by have := U.2.2.1; omega) ec
  obtain ⟨lt, ltN, _, d1, d2, t1, t2, t3, t4, t5⟩ := ls_ac hcu (Or.inr rfl) T72
  have B := ls_Sb5 h t3
  have LB := ls_cu_len hcu
  have as8 := hl.2.2.2.1
  have cd := ls_cod U tt ec (Nat.le_refl _) (t' := t) ⟨Nat.le_refl _, tt.2⟩ ec (Nat.le_refl _)
  have lv := ls_lv_ge (T pos)
  have hV : ls_lev (ls_sm a_declared a_cellKind a_cellValue a_vDecl a_vKind a_vVal) a_vName (L :: Ls) := hV
  obtain ⟨kd, q, g, os', lq, eos, k17, g100, o1, o2, o3, q7, cnd, top0, _⟩ := ls_top5 h (fun x r q => by cases q)
  obtain ⟨kd1, f0, r0, ef, eq0, hin⟩ := top0 rfl
  injection ef with ef1 ef2
  subst ef1 ef2 kd1
  dsimp only at eq0
  subst eq0
  have ol : os.length = os'.length + 1 := by rw [eos, List.length_cons]
  obtain ⟨l0, ORG, esp⟩ := ls_orf hcu
  dsimp only at l0 ORG
  subst l0
  have TS := ls_toke U tt ec (Or.inr rfl) rfl (p := sp) (Nat.le_refl _) (by omega)
  have YA : ls_lv (T pos) = 2 → ∀ post : SY → Prop, wpY_fullDone post (nI mt, nI yn, nI (140 + mu), nI mc, nI (ls_sl Ls + L.length), nI (ls_sl Ls), nI ys.length, nI os'.length, nI cs.length, nI (pos + e), nI 3, 0, f_errorPlace, nI (mt - tl), nI as.length, nI oc, f_lastKind, nI 0, f_lastValue, f_cnt, f_full, f_flag, f_need, a_tk, a_tv, a_tp, a_mName, a_mKind, a_mCount, a_mPar, a_mAt, a_vName, a_vDecl, a_vKind, a_vVal, a_sk, a_sv, a_oKind, a_oAt, a_oArgs, a_cKind, a_cA, a_cB, a_outK, a_outV) (nI (sp + e)) → wpY_after post (nI mt, nI yn, nI (140 + mu), nI mc, nI (ls_sl Ls + L.length), nI (ls_sl Ls), nI ys.length, nI os.length, nI cs.length, nI (pos + e), nI 3, 0, f_errorPlace, nI (mt - tl), nI as.length, nI oc, f_lastKind, nI 0, f_lastValue, f_cnt, f_full, f_flag, f_need, a_tk, a_tv, a_tp, a_mName, a_mKind, a_mCount, a_mPar, a_mAt, a_vName, a_vDecl, a_vKind, a_vVal, a_sk, a_sv, a_oKind, a_oAt, a_oArgs, a_cKind, a_cA, a_cB, a_outK, a_outV) := by
    intro LE post gg
    rw [ol]
    exact hy_after_n (kd := 1) (lq := lq) t3 t1 t2 (by omega) o1 k17 o2 q7 o3 g100 (Or.inl (by omega)) (fun q => by omega) (fun _ _ => gg) (fun _ q => by omega) (fun _ q => by omega) (fun _ q => by omega)
  obtain ⟨z, x0, y0, o0, ins, exs, eys, eos0, _, FN1, FN2, FN3, FN4⟩ := ls_cu_fin (st' := 3) (pos' := pos + 1) (es' := es) (k' := ls_em k (if r = [] then 13 else 12) 0 0 (nI sp)) hcu
  rw [exs] at hX
  rw [eys] at hY
  obtain ⟨x1, x2, x3, x4⟩ := hX
  obtain ⟨y1, y2, _, y4⟩ := hY
  rw [Nat.zero_add] at y1 y2
  have xl8 : 88 + xs.length = 88 + x0.length + 1 := by rw [exs, List.length_cons]; omega
  have yl : ys.length = y0.length + 1 := by rw [eys, List.length_cons]
  have oo : os' = o0 := by
    rw [eos] at eos0
    injection eos0
  subst oo
  have z4 := x3.1
  have hO0 : ls_StP a_oKind a_oAt a_oArgs os' := by
    rw [eos] at hO
    exact hO.2.2.2
  have LE : ls_lv (T pos) = 2 := by rw [h20]; rfl
  have T13 : 13 ≤ T sp := by
    rcases ORG with c | c | c | c | c | c
    · exact c.2.2
    all_goals exact absurd c.1 (by decide)
  have TR := ls_top_r hcu (by show 6 ≤ 6; omega)
  have OP : (if r = [] then 13 else 12 : Int32) = 13 ∨ (if r = [] then 13 else 12 : Int32) = 12 := by split <;> simp
  have kk := ls_fem U.1 (by omega) hc (by rcases OP with q | q <;> rw [q] <;> decide) (by rcases OP with q | q <;> rw [q] <;> decide) (by rcases OP with q | q <;> rw [q] <;> decide) (by rcases OP with q | q <;> rw [q] <;> decide)
  have P := ls_Phi_lt (tl := tl) (as := as) (st := 5) (st' := 3) (fr := (6, mo, sp, []) :: r) (fr' := r) (N := N) (t := t) (t' := t + 1) (by rw [ls_lo5_x (by omega), ls_lo5_x (by omega)]; show ls_l5 r ≤ 0 + ls_l5 r; omega) (by omega) ltN
  have cu' := FN1 a_declared (fun _ _ _ => rfl) (by omega) hc
  have in1 := hin.1
  have in6 := hin.2.1 rfl
  by_cases r0 : r = []
  · obtain ⟨c0, a0, L0⟩ := TR.1 r0
    have g0 : g = 0 := by
      apply Decidable.byContradiction
      intro q
      have := in6.mp (by omega)
      rw [r0] at this
      have this' : (0 : Nat) = 3 ∨ (0 : Nat) = 4 := this
      omega
    rw [if_pos r0] at kk
    have S' : ls_S yn mt tl oc mc mu ((T, V, C, kF, n, N, d, e, ta, tz)) (t + 1) as ((3, pos + 1, es, [], r, L, ls_em k (if r = [] then 13 else 12) 0 0 (nI sp))) Ls x0 y0 os' cs f_tickLimit a_outKind a_outValue a_codeOp a_codeArg a_codeKind a_codePlace a_methodSign a_methodStart a_declared a_cellKind a_cellValue a_callReturn a_tk a_tv a_tp a_mName a_mKind a_mCount a_mPar a_mAt a_vName a_vDecl a_vKind a_vVal a_sk a_sv a_oKind a_oAt a_oArgs a_cKind a_cA a_cB a_outK a_outV := ⟨cu', x4, y4, hO0, hE, hG, hV, hl, ho, hM⟩
    have G0 : ls_G (ls_Phi tl as 3 r N (t + 1)) (f_tickLimit, f_tokenCount, nI oc, 0, f_errorPlace, nI z.1, z.2, f_codeSize, nI mc, nI mu, nI (88 + x0.length), nI as.length, nI ((ls_em k (if r = [] then 13 else 12) 0 0 (nI sp)).1 - d), nI tl, f_state, f_pos, f_expressionStart, f_pendingCount, f_frameTop, f_localCount, a_tokenCode, a_tokenValue, a_outKind, a_outValue, a_codeOp, a_codeArg, a_codeKind, a_codePlace, a_methodSign, a_methodStart, a_declared, a_cellKind, a_cellValue, a_callReturn, a_pendingLevel, a_pendingPlace, a_pendingMore, a_frameKind, a_frameMore, a_localName) (nI mt, nI yn, nI (140 + mu), nI mc, nI (ls_sl Ls + L.length), nI (ls_sl Ls), nI y0.length, nI os'.length, nI cs.length, nI (pos + 1 + e), nI (ls_md 3 []), 0, f_errorPlace, nI (mt - tl), nI as.length, nI oc, nI z.1, nI (ls_pt 3 r), z.2, f_cnt, f_full, f_flag, f_need, a_tk, a_tv, a_tp, a_mName, a_mKind, a_mCount, a_mPar, a_mAt, a_vName, a_vDecl, a_vKind, a_vVal, a_sk, a_sv, a_oKind, a_oAt, a_oArgs, a_cKind, a_cA, a_cB, a_outK, a_outV) := ih S' (by omega) (ls_n2U h.1.1 h.1.2.2.1 h.1.2.2.2.1 (show (6 : Nat) ≠ 1 by decide))
    rw [show ls_md 3 [] = 0 from rfl, ls_pt_x (by omega), ls_ni d1 (show (ls_em k (if r = [] then 13 else 12) 0 0 (nI sp)).1 = k.1 + 1 from rfl)] at G0
    refine ls_G_go (a := 1) (b := 1) ?_ (yr_after B (fun post hp => YA LE post ?_)) G0 (by omega) (by omega)
    · rw [xl8]
      refine xr_of (fun post f s hs hh => gx_13 d2 hs (cd.2.2.1.trans kk.1) (hx_keepResult ⟨by omega, by omega⟩ ?_))
      rw [x1, x2]
      exact hh
    · rw [yl]
      refine hy_fd_x (g := g) TS.2.2.1 (by omega) (by omega) (by omega) (by omega) TS.1 ⟨T13, TS.2.1⟩ y1 y2 o3 g100 (fun _ _ => ?_) (fun q => absurd ⟨by rw [c0]; rfl, g0⟩ q)
      rw [show pos + e + 1 = pos + 1 + e by omega]
      exact hp
  · rw [if_neg r0] at kk
    have ncg : ¬ (cs.length = 0 ∧ g = 0) := by
      intro q
      by_cases c34 : ls_fk r = 3 ∨ ls_fk r = 4
      · have := in6.mpr c34; omega
      · exact TR.2 r0 (fun x => c34 (Or.inl x)) (fun x => c34 (Or.inr x)) (List.eq_nil_of_length_eq_zero q.1)
    have S' : ls_S yn mt tl oc mc mu ((T, V, C, kF, n, N, d, e, ta, tz)) (t + 1) as ((3, pos + 1, es, [], r, L, ls_em k (if r = [] then 13 else 12) 0 0 (nI sp))) Ls x0 y0 os' cs f_tickLimit a_outKind a_outValue a_codeOp a_codeArg a_codeKind a_codePlace a_methodSign a_methodStart a_declared a_cellKind a_cellValue a_callReturn a_tk a_tv a_tp a_mName a_mKind a_mCount a_mPar a_mAt a_vName a_vDecl a_vKind a_vVal a_sk a_sv a_oKind a_oAt a_oArgs a_cKind a_cA a_cB a_outK a_outV := ⟨cu', x4, y4, hO0, hE, hG, hV, hl, ho, hM⟩
    have G0 : ls_G (ls_Phi tl as 3 r N (t + 1)) (f_tickLimit, f_tokenCount, nI oc, 0, f_errorPlace, f_lastKind, f_lastValue, f_codeSize, nI mc, nI mu, nI (88 + x0.length), nI as.length, nI ((ls_em k (if r = [] then 13 else 12) 0 0 (nI sp)).1 - d), nI tl, f_state, f_pos, f_expressionStart, f_pendingCount, f_frameTop, f_localCount, a_tokenCode, a_tokenValue, a_outKind, a_outValue, a_codeOp, a_codeArg, a_codeKind, a_codePlace, a_methodSign, a_methodStart, a_declared, a_cellKind, a_cellValue, a_callReturn, a_pendingLevel, a_pendingPlace, a_pendingMore, a_frameKind, a_frameMore, a_localName) (nI mt, nI yn, nI (140 + mu), nI mc, nI (ls_sl Ls + L.length), nI (ls_sl Ls), nI y0.length, nI os'.length, nI cs.length, nI (pos + 1 + e), nI (ls_md 3 []), 0, f_errorPlace, nI (mt - tl), nI as.length, nI oc, f_lastKind, nI (ls_pt 3 r), f_lastValue, f_cnt, f_full, f_flag, f_need, a_tk, a_tv, a_tp, a_mName, a_mKind, a_mCount, a_mPar, a_mAt, a_vName, a_vDecl, a_vKind, a_vVal, a_sk, a_sv, a_oKind, a_oAt, a_oArgs, a_cKind, a_cA, a_cB, a_outK, a_outV) := ih S' (by omega) (ls_n2U h.1.1 h.1.2.2.1 h.1.2.2.2.1 (show (6 : Nat) ≠ 1 by decide))
    rw [show ls_md 3 [] = 0 from rfl, ls_pt_x (by omega), ls_ni d1 (show (ls_em k (if r = [] then 13 else 12) 0 0 (nI sp)).1 = k.1 + 1 from rfl)] at G0
    refine ls_G_go (a := 1) (b := 1) ?_ (yr_after B (fun post hp => YA LE post ?_)) G0 (by omega) (by omega)
    · rw [xl8]
      exact xr_of (fun post f s hs hh => gx_12 d2 hs (cd.2.2.1.trans kk.1) (hx_pop (by omega) (by omega) hh))
    · rw [yl]
      refine hy_fd_x (g := g) TS.2.2.1 (by omega) (by omega) (by omega) (by omega) TS.1 ⟨T13, TS.2.1⟩ y1 y2 o3 g100 (fun a b => absurd ⟨a, b⟩ ncg) (fun _ => ?_)
      rw [show pos + e + 1 = pos + 1 + e by omega]
      exact hp
set_option maxHeartbeats 1000000 in
/-- print -/
theorem gs_e9 {mo sp : Nat} {l : List Nat} {r : List LsF} (ih : ls_IH F) (h : ls_S yn mt tl oc mc mu ((T, V, C, kF, n, N, d, e, ta, tz)) t as ((5, pos, es, [], (9, mo, sp, l) :: r, L, k)) Ls xs ys os cs f_tickLimit a_outKind a_outValue a_codeOp a_codeArg a_codeKind a_codePlace a_methodSign a_methodStart a_declared a_cellKind a_cellValue a_callReturn a_tk a_tv a_tp a_mName a_mKind a_mCount a_mPar a_mAt a_vName a_vDecl a_vKind a_vVal a_sk a_sv a_oKind a_oAt a_oArgs a_cKind a_cA a_cB a_outK a_outV) (hF : ls_Phi tl as 5 ((9, mo, sp, l) :: r) N t = F) (h16 : T pos = 16) (hc : C (t + 1) = (3, pos + 2, es, [], r, L, ls_em k 16 0 0 (nI sp))) : ls_G F (f_tickLimit, f_tokenCount, nI oc, 0, f_errorPlace, f_lastKind, f_lastValue, f_codeSize, nI mc, nI mu, nI (88 + xs.length), nI as.length, nI (k.1 - d), nI tl, f_state, f_pos, f_expressionStart, f_pendingCount, f_frameTop, f_localCount, a_tokenCode, a_tokenValue, a_outKind, a_outValue, a_codeOp, a_codeArg, a_codeKind, a_codePlace, a_methodSign, a_methodStart, a_declared, a_cellKind, a_cellValue, a_callReturn, a_pendingLevel, a_pendingPlace, a_pendingMore, a_frameKind, a_frameMore, a_localName) (nI mt, nI yn, nI (140 + mu), nI mc, nI (ls_sl Ls + L.length), nI (ls_sl Ls), nI ys.length, nI os.length, nI cs.length, nI (pos + e), nI 3, 0, f_errorPlace, nI (mt - tl), nI as.length, nI oc, f_lastKind, nI 0, f_lastValue, f_cnt, f_full, f_flag, f_need, a_tk, a_tv, a_tp, a_mName, a_mKind, a_mCount, a_mPar, a_mAt, a_vName, a_vDecl, a_vKind, a_vVal, a_sk, a_sv, a_oKind, a_oAt, a_oArgs, a_cKind, a_cA, a_cB, a_outK, a_outV) := by
  have h' := h
  obtain ⟨hcu, hX, hY, hO, hE, hG, hV, hl, ho, hM⟩ := h'
  have U := hcu.1
  have tt := hcu.2.2.1
  have ec := hcu.2.2.2.1
  have T72 := ls_T5 U.1 (by have := U.2.2.1; omega) ec
  obtain ⟨lt, ltN, _, d1, d2, t1, t2, t3, t4, t5⟩ := ls_ac hcu (Or.inr rfl) T72
  have B := ls_Sb5 h t3
  have LB := ls_cu_len hcu
  have as8 := hl.2.2.2.1
  have cd := ls_cod U tt ec (Nat.le_refl _) (t' := t) ⟨Nat.le_refl _, tt.2⟩ ec (Nat.le_refl _)
  have lv := ls_lv_ge (T pos)
  have hV : ls_lev (ls_sm a_declared a_cellKind a_cellValue a_vDecl a_vKind a_vVal) a_vName (L :: Ls) := hV
  obtain ⟨kd, q, g, os', lq, eos, k17, g100, o1, o2, o3, q7, cnd, top0, _⟩ := ls_top5 h (fun x r q => by cases q)
  obtain ⟨kd1, f0, r0, ef, eq0, hin⟩ := top0 rfl
  injection ef with ef1 ef2
  subst ef1 ef2 kd1
  dsimp only at eq0
  subst eq0
  have ol : os.length = os'.length + 1 := by rw [eos, List.length_cons]
  obtain ⟨l0, ORG, esp⟩ := ls_orf hcu
  dsimp only at l0 ORG
  subst l0
  have TS := ls_toke U tt ec (Or.inr rfl) rfl (p := sp) (Nat.le_refl _) (by omega)
  have YA : ls_lv (T pos) = 2 → ∀ post : SY → Prop, wpY_fullDone post (nI mt, nI yn, nI (140 + mu), nI mc, nI (ls_sl Ls + L.length), nI (ls_sl Ls), nI ys.length, nI os'.length, nI cs.length, nI (pos + e), nI 3, 0, f_errorPlace, nI (mt - tl), nI as.length, nI oc, f_lastKind, nI 0, f_lastValue, f_cnt, f_full, f_flag, f_need, a_tk, a_tv, a_tp, a_mName, a_mKind, a_mCount, a_mPar, a_mAt, a_vName, a_vDecl, a_vKind, a_vVal, a_sk, a_sv, a_oKind, a_oAt, a_oArgs, a_cKind, a_cA, a_cB, a_outK, a_outV) (nI (sp + e)) → wpY_after post (nI mt, nI yn, nI (140 + mu), nI mc, nI (ls_sl Ls + L.length), nI (ls_sl Ls), nI ys.length, nI os.length, nI cs.length, nI (pos + e), nI 3, 0, f_errorPlace, nI (mt - tl), nI as.length, nI oc, f_lastKind, nI 0, f_lastValue, f_cnt, f_full, f_flag, f_need, a_tk, a_tv, a_tp, a_mName, a_mKind, a_mCount, a_mPar, a_mAt, a_vName, a_vDecl, a_vKind, a_vVal, a_sk, a_sv, a_oKind, a_oAt, a_oArgs, a_cKind, a_cA, a_cB, a_outK, a_outV) := by
    intro LE post gg
    rw [ol]
    exact hy_after_n (kd := 1) (lq := lq) t3 t1 t2 (by omega) o1 k17 o2 q7 o3 g100 (Or.inl (by omega)) (fun q => by omega) (fun _ _ => gg) (fun _ q => by omega) (fun _ q => by omega) (fun _ q => by omega)
  obtain ⟨z, x0, y0, o0, ins, exs, eys, eos0, _, FN1, FN2, FN3, FN4⟩ := ls_cu_fin (st' := 3) (pos' := pos + 2) (es' := es) (k' := ls_em k 16 0 0 (nI sp)) hcu
  rw [exs] at hX
  rw [eys] at hY
  obtain ⟨x1, x2, x3, x4⟩ := hX
  obtain ⟨y1, y2, _, y4⟩ := hY
  rw [Nat.zero_add] at y1 y2
  have xl8 : 88 + xs.length = 88 + x0.length + 1 := by rw [exs, List.length_cons]; omega
  have yl : ys.length = y0.length + 1 := by rw [eys, List.length_cons]
  have oo : os' = o0 := by
    rw [eos] at eos0
    injection eos0
  subst oo
  have z4 := x3.1
  have hO0 : ls_StP a_oKind a_oAt a_oArgs os' := by
    rw [eos] at hO
    exact hO.2.2.2
  have LE : ls_lv (T pos) = 2 := by rw [h16]; rfl
  have T12 : T sp = 12 := by
    rcases ORG with c | c | c | c | c | c
    · exact absurd c.1 (by decide)
    · exact absurd c.1 (by decide)
    · exact absurd c.1 (by decide)
    · exact c.2.2
    · exact absurd c.1 (by decide)
    · exact absurd c.1 (by decide)
  have e12 : a_tk (sp + e) = 12 := by rw [TS.1, T12]; rfl
  have kk := ls_fem U.1 (by omega) hc (by decide) (by decide) (by decide) (by decide)
  have P := ls_Phi_lt (tl := tl) (as := as) (st := 5) (st' := 3) (fr := (9, mo, sp, []) :: r) (fr' := r) (N := N) (t := t) (t' := t + 1) (by rw [ls_lo5_x (by omega), ls_lo5_x (by omega)]; show ls_l5 r ≤ 0 + ls_l5 r; omega) (by omega) ltN
  have cu' := FN1 a_declared (fun _ _ _ => rfl) (by omega) hc
  by_cases o32 : oc < 32
  · have ho' : oc + 1 ≤ 32 ∧ ∀ i, i < oc + 1 → upd a_outKind oc (nI z.1) i = upd a_outK oc (nI z.1) i ∧ vp_updL a_outValue oc z.2 i = vp_updL a_outV oc z.2 i := by
      refine ⟨o32, fun i hi => ?_⟩
      by_cases q : i = oc
      · subst q; rw [pk_us, pk_us, pk_uLs, pk_uLs]; exact ⟨rfl, rfl⟩
      · rw [pk_un q, pk_un q, pk_uLn q, pk_uLn q]; exact ho.2 i (by omega)
    have S' : ls_S yn mt tl (oc + 1) mc mu ((T, V, C, kF, n, N, d, e, ta, tz)) (t + 1) as ((3, pos + 2, es, [], r, L, ls_em k 16 0 0 (nI sp))) Ls x0 y0 os' cs f_tickLimit (upd a_outKind oc (nI z.1)) (vp_updL a_outValue oc z.2) a_codeOp a_codeArg a_codeKind a_codePlace a_methodSign a_methodStart a_declared a_cellKind a_cellValue a_callReturn a_tk a_tv a_tp a_mName a_mKind a_mCount a_mPar a_mAt a_vName a_vDecl a_vKind a_vVal a_sk a_sv a_oKind a_oAt a_oArgs a_cKind a_cA a_cB (upd a_outK oc (nI z.1)) (vp_updL a_outV oc z.2) := ⟨cu', x4, y4, hO0, hE, hG, hV, hl, ho', hM⟩
    have G0 : ls_G (ls_Phi tl as 3 r N (t + 1)) (f_tickLimit, f_tokenCount, nI (oc + 1), 0, f_errorPlace, f_lastKind, f_lastValue, f_codeSize, nI mc, nI mu, nI (88 + x0.length), nI as.length, nI ((ls_em k 16 0 0 (nI sp)).1 - d), nI tl, f_state, f_pos, f_expressionStart, f_pendingCount, f_frameTop, f_localCount, a_tokenCode, a_tokenValue, upd a_outKind oc (nI z.1), vp_updL a_outValue oc z.2, a_codeOp, a_codeArg, a_codeKind, a_codePlace, a_methodSign, a_methodStart, a_declared, a_cellKind, a_cellValue, a_callReturn, a_pendingLevel, a_pendingPlace, a_pendingMore, a_frameKind, a_frameMore, a_localName) (nI mt, nI yn, nI (140 + mu), nI mc, nI (ls_sl Ls + L.length), nI (ls_sl Ls), nI y0.length, nI os'.length, nI cs.length, nI (pos + 2 + e), nI (ls_md 3 []), 0, f_errorPlace, nI (mt - tl), nI as.length, nI (oc + 1), f_lastKind, nI (ls_pt 3 r), f_lastValue, f_cnt, f_full, f_flag, f_need, a_tk, a_tv, a_tp, a_mName, a_mKind, a_mCount, a_mPar, a_mAt, a_vName, a_vDecl, a_vKind, a_vVal, a_sk, a_sv, a_oKind, a_oAt, a_oArgs, a_cKind, a_cA, a_cB, upd a_outK oc (nI z.1), vp_updL a_outV oc z.2) := ih S' (by omega) (ls_n2U h.1.1 h.1.2.2.1 h.1.2.2.2.1 (show (9 : Nat) ≠ 1 by decide))
    rw [show ls_md 3 [] = 0 from rfl, ls_pt_x (by omega), ls_ni d1 (show (ls_em k 16 0 0 (nI sp)).1 = k.1 + 1 from rfl)] at G0
    refine ls_G_go (a := 1) (b := 1) ?_ (yr_after B (fun post hp => YA LE post ?_)) G0 (by omega) (by omega)
    · rw [xl8]
      refine xr_of (fun post f s hs hh => gx_16 d2 hs (cd.2.2.1.trans kk.1) (hx_print d2 ⟨by omega, by omega⟩ ho.1 (fun q => by omega) (fun _ => ?_)))
      rw [x1, x2]
      exact hh
    · rw [yl]
      refine hy_fd_p TS.2.2.1 (by omega) (by omega) ho.1 e12 y1 (by omega) y2 (fun q => by omega) (fun _ => ?_)
      rw [show pos + e + 2 = pos + 2 + e by omega]
      exact hp
  · have lt2 := ls_tl3 U.1 (by omega) hc
    have hx : ls_xr 1 (f_tickLimit, f_tokenCount, nI oc, 0, f_errorPlace, f_lastKind, f_lastValue, f_codeSize, nI mc, nI mu, nI (88 + xs.length), nI as.length, nI (k.1 - d), nI tl, f_state, f_pos, f_expressionStart, f_pendingCount, f_frameTop, f_localCount, a_tokenCode, a_tokenValue, a_outKind, a_outValue, a_codeOp, a_codeArg, a_codeKind, a_codePlace, a_methodSign, a_methodStart, a_declared, a_cellKind, a_cellValue, a_callReturn, a_pendingLevel, a_pendingPlace, a_pendingMore, a_frameKind, a_frameMore, a_localName) (f_tickLimit, f_tokenCount, nI oc, nI 8, nI sp, f_lastKind, f_lastValue, f_codeSize, nI mc, nI mu, nI (88 + x0.length), nI as.length, nI (k.1 - d + 1), nI tl, f_state, f_pos, f_expressionStart, f_pendingCount, f_frameTop, f_localCount, a_tokenCode, a_tokenValue, a_outKind, a_outValue, a_codeOp, a_codeArg, a_codeKind, a_codePlace, a_methodSign, a_methodStart, a_declared, a_cellKind, a_cellValue, a_callReturn, a_pendingLevel, a_pendingPlace, a_pendingMore, a_frameKind, a_frameMore, a_localName) := by
      rw [xl8]
      refine xr_of (fun post f s hs hh => gx_16 d2 hs (cd.2.2.1.trans kk.1) (hx_print d2 ⟨by omega, by omega⟩ ho.1 (fun _ => ?_) (fun q => absurd q o32)))
      rw [cd.2.2.2.2.2, kk.2.2.2]
      exact hh
    have hy : ls_yr 1 (nI mt, nI yn, nI (140 + mu), nI mc, nI (ls_sl Ls + L.length), nI (ls_sl Ls), nI ys.length, nI os.length, nI cs.length, nI (pos + e), nI 3, 0, f_errorPlace, nI (mt - tl), nI as.length, nI oc, f_lastKind, nI 0, f_lastValue, f_cnt, f_full, f_flag, f_need, a_tk, a_tv, a_tp, a_mName, a_mKind, a_mCount, a_mPar, a_mAt, a_vName, a_vDecl, a_vKind, a_vVal, a_sk, a_sv, a_oKind, a_oAt, a_oArgs, a_cKind, a_cA, a_cB, a_outK, a_outV) (nI mt, nI yn, nI (140 + mu), nI mc, nI (ls_sl Ls + L.length), nI (ls_sl Ls), nI y0.length, nI os'.length, nI cs.length, nI (pos + e + 2), 0, nI 8, nI sp, nI (mt - tl), nI as.length, nI oc, f_lastKind, nI 0, f_lastValue, f_cnt, f_full, f_flag, f_need, a_tk, a_tv, a_tp, a_mName, a_mKind, a_mCount, a_mPar, a_mAt, a_vName, a_vDecl, a_vKind, a_vVal, a_sk, a_sv, a_oKind, a_oAt, a_oArgs, a_cKind, a_cA, a_cB, a_outK, a_outV) := by
      refine yr_after B (fun post hp => YA LE post ?_)
      rw [yl]
      refine hy_fd_p TS.2.2.1 (by omega) (by omega) ho.1 e12 y1 (by omega) y2 (fun _ => ?_) (fun q => absurd q o32)
      rw [TS.2.2.2.1]
      exact hp
    exact gs_err h ⟨by decide, by decide⟩ (by rw [← hF]; unfold ls_Phi; omega) (by rw [← hF]; unfold ls_Phi; omega) hx hy
end
