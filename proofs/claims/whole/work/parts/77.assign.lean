/-! Assignments -/
set_option maxHeartbeats 200000 in
theorem ls_hasn_sh {T : Nat → Nat} {e : Nat} : ∀ (m a : Nat), ls_hasn (fun i => T (i - e)) (a + e) m = ls_hasn T a m
  | 0, _ => rfl
  | m + 1, a => by
    show (decide (ls_nam (T (a + e - e))) || ls_hasn (fun i => T (i - e)) (a + e + 1) m) = (decide (ls_nam (T a)) || ls_hasn T (a + 1) m)
    rw [Nat.add_sub_cancel, show a + e + 1 = a + 1 + e by omega, ls_hasn_sh m (a + 1)]
set_option maxHeartbeats 200000 in
theorem ls_cst8 {T : Nat → Nat} {a b : Nat} : decide (8 ≤ ls_const T a b) = !ls_hasn T a (b - a) := by
  unfold ls_const
  cases ls_hasn T a (b - a) <;> rfl
set_option maxHeartbeats 200000 in
theorem ls_const_lt {T : Nat → Nat} {a b : Nat} : ls_const T a b = 0 ∨ ls_const T a b = 8 := by
  unfold ls_const
  split
  · exact Or.inl rfl
  · exact Or.inr rfl
section
variable {dc ck : Nat → Int32} {cv : Nat → Int64} {vd vk : Nat → Int32} {vv : Nat → Int64} {vN : Nat → Int32} {L : List Nat} {Ls : List (List Nat)} {nm ac t k : Nat} {v : Int64}
set_option maxHeartbeats 200000 in
/-- a variable is written in both -/
theorem ls_wr (hG : ls_gl dc ck cv vd vk vv) (hV : ls_lev (ls_sm dc ck cv vd vk vv) vN (L :: Ls)) (hnm : nm < 16) (hl : Ls.length = ac) (h8 : ∀ M ∈ L :: Ls, M.length ≤ 8) (hsl : ls_sl Ls + L.length ≤ 80) (ht : t ≤ 5) (hk : k ≤ 4) (hw : ls_wf k v) (h5 : t = 5 ∨ k = t) : ls_gl (upd dc (ls_cell (ls_addr L nm) ac) (nI t)) (upd ck (ls_cell (ls_addr L nm) ac) (nI k)) (vp_updL cv (ls_cell (ls_addr L nm) ac) v) (upd vd (ls_yp (ls_sl Ls) L nm) (nI t)) (upd vk (ls_yp (ls_sl Ls) L nm) (nI k)) (vp_updL vv (ls_yp (ls_sl Ls) L nm) v) ∧ ls_lev (ls_sm (upd dc (ls_cell (ls_addr L nm) ac) (nI t)) (upd ck (ls_cell (ls_addr L nm) ac) (nI k)) (vp_updL cv (ls_cell (ls_addr L nm) ac) v) (upd vd (ls_yp (ls_sl Ls) L nm) (nI t)) (upd vk (ls_yp (ls_sl Ls) L nm) (nI k)) (vp_updL vv (ls_yp (ls_sl Ls) L nm) v)) vN (L :: Ls) := by
  have l8 := h8 L (List.mem_cons_self ..)
  rcases ls_addr_c (L := L) (nm := nm) with h | ⟨j, h1, h2⟩
  · have e1 : ls_cell (ls_addr L nm) ac = nm := by unfold ls_cell; rw [h, if_pos hnm]
    have e2 : ls_yp (ls_sl Ls) L nm = 80 + nm := by unfold ls_yp; rw [h, if_pos hnm]
    rw [e1, e2]
    refine ⟨fun i hi => ?_, ls_lev_mono (fun c p hc h16 hp g => ls_sm_n (by omega) (by have SL : ls_sl (L :: Ls) = L.length + ls_sl Ls := rfl
                                                                                       omega) g) h8 (fun _ _ => rfl) hV⟩
    by_cases q : i = nm
    · subst q; exact Or.inl (ls_sm_s ht hk hw h5)
    · rcases hG i hi with g | ⟨g1, g2⟩
      · exact Or.inl (ls_sm_n q (by omega) g)
      · exact Or.inr ⟨(pk_un q).trans g1, (pk_un (by omega)).trans g2⟩
  · have e1 : ls_cell (ls_addr L nm) ac = 16 + 8 * ac + j := by unfold ls_cell; rw [h2, if_neg (by omega)]; omega
    have e2 : ls_yp (ls_sl Ls) L nm = ls_sl Ls + j := by unfold ls_yp; rw [h2, if_neg (by omega), Nat.add_sub_cancel_left]
    rw [e1, e2]
    refine ⟨fun i hi => ?_, hV.1, fun i hi => ?_, ?_⟩
    · rcases hG i hi with g | ⟨g1, g2⟩
      · exact Or.inl (ls_sm_n (by omega) (by omega) g)
      · exact Or.inr ⟨(pk_un (by omega)).trans g1, (pk_un (by omega)).trans g2⟩
    · rw [hl]
      by_cases q : i = j
      · subst q; exact ls_sm_s ht hk hw h5
      · have := hV.2.1 i hi
        rw [hl] at this
        exact ls_sm_n (by omega) (by omega) this
    · exact ls_lev_mono (fun c p hc h16 hp g => ls_sm_n (by omega) (by omega) g) (fun M hM => h8 M (List.mem_cons_of_mem _ hM)) (fun _ _ => rfl) hV.2.2
end
section
variable {f_tickLimit f_tokenCount f_outCount f_error f_errorPlace f_lastKind f_codeSize f_methodCount f_methodTokens f_cellCount f_activeCalls f_next f_ticksLeft f_state f_pos f_expressionStart f_pendingCount f_frameTop f_localCount : Int32}
variable {f_lastValue : Int64}
variable {a_tokenCode a_tokenValue a_outKind a_codeOp a_codeArg a_codeKind a_codePlace a_methodSign a_methodStart a_declared a_cellKind a_callReturn a_pendingLevel a_pendingPlace a_pendingMore a_frameKind a_frameMore a_localName : Nat → Int32}
variable {a_outValue a_cellValue : Nat → Int64}
variable {f_cnt f_full f_flag f_need : Int32}
variable {a_tk a_tp a_mName a_mKind a_mCount a_mPar a_mAt a_vName a_vDecl a_vKind a_sk a_oKind a_oAt a_oArgs a_cKind a_cA a_cB a_outK : Nat → Int32}
variable {a_tv a_vVal a_sv a_outV : Nat → Int64}
variable {yn mt tl oc mc mu : Nat} {T : Nat → Nat} {V : Nat → Int32} {C : Nat → LsC} {kF : LsK} {n N d e ta tz t : Nat} {as : List LsA} {st pos es : Nat} {pe : List LsP} {fr : List LsF} {L : List Nat} {k : LsK} {Ls : List (List Nat)} {xs ys : List LsV} {os cs : List LsP} {F : Nat}
set_option maxHeartbeats 1000000 in
/-- a plain assignment is done -/
theorem gs_r2a {pl mo : Nat} {k' : LsK} (ih : ls_IH F) (h : ls_S yn mt tl oc mc mu ((T, V, C, kF, n, N, d, e, ta, tz)) t as ((5, pos, es, (2, pl, mo) :: pe, fr, L, k)) Ls xs ys os cs f_tickLimit a_outKind a_outValue a_codeOp a_codeArg a_codeKind a_codePlace a_methodSign a_methodStart a_declared a_cellKind a_cellValue a_callReturn a_tk a_tv a_tp a_mName a_mKind a_mCount a_mPar a_mAt a_vName a_vDecl a_vKind a_vVal a_sk a_sv a_oKind a_oAt a_oArgs a_cKind a_cA a_cB a_outK a_outV) (hF : ls_Phi tl as 5 fr N t = F) (hle : ls_lv (T pos) ≤ 2) (h21 : T pl = 21) (hk : k' = ls_red T pos 2 pl mo k) (hc : C (t + 1) = (5, pos, es, pe, fr, L, k')) : ls_G F (f_tickLimit, f_tokenCount, nI oc, 0, f_errorPlace, f_lastKind, f_lastValue, f_codeSize, nI mc, nI mu, nI (88 + xs.length), nI as.length, nI (k.1 - d), nI tl, f_state, f_pos, f_expressionStart, f_pendingCount, f_frameTop, f_localCount, a_tokenCode, a_tokenValue, a_outKind, a_outValue, a_codeOp, a_codeArg, a_codeKind, a_codePlace, a_methodSign, a_methodStart, a_declared, a_cellKind, a_cellValue, a_callReturn, a_pendingLevel, a_pendingPlace, a_pendingMore, a_frameKind, a_frameMore, a_localName) (nI mt, nI yn, nI (140 + mu), nI mc, nI (ls_sl Ls + L.length), nI (ls_sl Ls), nI ys.length, nI os.length, nI cs.length, nI (pos + e), nI 3, 0, f_errorPlace, nI (mt - tl), nI as.length, nI oc, f_lastKind, nI 0, f_lastValue, f_cnt, f_full, f_flag, f_need, a_tk, a_tv, a_tp, a_mName, a_mKind, a_mCount, a_mPar, a_mAt, a_vName, a_vDecl, a_vKind, a_vVal, a_sk, a_sv, a_oKind, a_oAt, a_oArgs, a_cKind, a_cA, a_cB, a_outK, a_outV) := by
  have h' := h
  obtain ⟨hcu, hX, hY, hO, hE, hG, hV, hl, ho, hM⟩ := h'
  have U := hcu.1
  have tt := hcu.2.2.1
  have ec := hcu.2.2.2.1
  have T72 := ls_T5 U.1 (by have := U.2.2.1; omega) ec
  obtain ⟨lt, ltN, _, d1, d2, t1, t2, t3, t4, t5⟩ := ls_ac hcu (Or.inr rfl) T72
  have B := ls_Sb5 h t3
  have LB := ls_cu_len hcu
  have as8 := hl.2.2.2.1
  have cd := ls_cod U tt ec (Nat.le_refl _) (t' := t) ⟨Nat.le_refl _, tt.2⟩ ec (Nat.le_refl _)
  have lv := ls_lv_ge (T pos)
  obtain ⟨z, w, xr, yr, os', exs, eys, wl, eos, W34, WD, NX, _⟩ := ls_cu_red hcu
  have px := ls_pgx hcu (Or.inr rfl) (List.mem_cons_self ..)
  dsimp only at px
  have TP := ls_toke2 U tt ec (Or.inr rfl) (p := pl) px.1 px.2.2.2.1
  have ol : os.length = os'.length + 1 := by rw [eos, List.length_cons]
  have W0 : ls_wt T (2, pl, mo) = 0 := by
    show (if (2 : Nat) = 0 then _ else if (2 : Nat) = 1 then _ else if (2 : Nat) = 2 then (if T pl = 21 then 0 else 1) else _) = 0
    rw [if_neg (by decide), if_neg (by decide), if_pos rfl, if_pos h21]
  have w0 : w = [] := List.eq_nil_of_length_eq_zero (wl.trans W0)
  subst w0
  have exs' : xs = z :: xr := by rw [exs, if_neg (by show ¬ ((2 : Nat) = 3 ∨ (2 : Nat) = 4); omega)]; rfl
  have eys' : ys = z :: yr := eys
  have ch := (ls_tl_ch U.1 (by omega) ec (Or.inr rfl)).1
  obtain ⟨q1, q2, q3⟩ := ch.2.1.2.2.1 rfl
  dsimp only at q1 q2 q3
  have pl1 := px.2.1 rfl
  have pls := px.2.2.2.1
  obtain ⟨pb, rfl⟩ : ∃ pb, pl = pb + 1 := ⟨pl - 1, by omega⟩
  rw [Nat.add_sub_cancel] at q2 q3
  have hV : ls_lev (ls_sm a_declared a_cellKind a_cellValue a_vDecl a_vKind a_vVal) a_vName (L :: Ls) := hV
  have nm16 : T pb - 54 < 16 := by have := q2.2; omega
  have TB := ls_toke2 U tt ec (Or.inr rfl) (p := pb) (by omega) (by omega)
  have OE : ls_oe T e (2, pb + 1, mo) = (4, pb + e, 0) := by show (4, pb + 1 - 1 + e, 0) = _; rw [Nat.add_sub_cancel]
  rw [exs'] at hX
  rw [eys'] at hY
  obtain ⟨x1, x2, x3, x4⟩ := hX
  obtain ⟨y1, y2, _, y4⟩ := hY
  rw [Nat.zero_add] at y1 y2
  have hO1 := hO
  rw [eos, OE] at hO1
  obtain ⟨o1, o2, o3, _⟩ := hO1
  have xl8 : 88 + xs.length = 88 + xr.length + 1 := by rw [exs', List.length_cons]; omega
  have yl : ys.length = yr.length + 1 := by rw [eys', List.length_cons]
  have z4 := x3.1
  have LE : ls_lv (T pos) = 2 := by omega
  have e54 : a_tk (pb + e) = nI (T pb - 54 + 54) := by rw [TB.1, show T pb - 54 + 54 = T pb by have := q2.1; omega]
  have e21 : a_tk (pb + e + 1) = 21 := by rw [show pb + e + 1 = pb + 1 + e by omega, TP.1, h21]; rfl
  have sl80 : ls_sl Ls + L.length ≤ 80 := by omega
  have a24 := ls_addr24 (L := L) (nm := T pb - 54) LB.2.2.2.2.2.2.1 nm16
  have kk0 : k' = ls_em k 9 (nI mo) (nI (ls_const T (pb + 1 + 1) pos)) (nI (pb + 1)) := by
    rw [hk]
    unfold ls_red
    rw [if_pos rfl, if_pos h21]
  subst kk0
  have kk := ls_fem U.1 (by omega) hc (by decide) (by decide) (by decide) (by decide)
  have cl := ls_const_lt (T := T) (a := pb + 1 + 1) (b := pos)
  have lt2 := ls_tl5 U.1 (by omega) hc
  have HN : ls_hasn (fun i => T (i - e)) (pb + e + 2) (pos + e - (pb + e + 2)) = ls_hasn T (pb + 1 + 1) (pos - (pb + 1 + 1)) := by
    rw [show pb + e + 2 = pb + 1 + 1 + e by omega, show pos + e - (pb + 1 + 1 + e) = pos - (pb + 1 + 1) by omega]
    exact ls_hasn_sh _ _
  have HT : ∀ i, pb + e + 2 ≤ i → i < pos + e → a_tk i = nI (T (i - e)) ∧ T (i - e) < 100 := by
    intro i i1 i2
    have := ls_toke2 U tt ec (Or.inr rfl) (p := i - e) (by omega) (by omega)
    rw [show i - e + e = i by omega] at this
    exact ⟨this.1, this.2.1⟩
  have YA : ∀ post : SY → Prop, wpY_assign post (nI mt, nI yn, nI (140 + mu), nI mc, nI (ls_sl Ls + L.length), nI (ls_sl Ls), nI ys.length, nI os'.length, nI cs.length, nI (pos + e), nI 3, 0, f_errorPlace, nI (mt - tl), nI as.length, nI oc, f_lastKind, nI 0, f_lastValue, f_cnt, f_full, f_flag, f_need, a_tk, a_tv, a_tp, a_mName, a_mKind, a_mCount, a_mPar, a_mAt, a_vName, a_vDecl, a_vKind, a_vVal, a_sk, a_sv, a_oKind, a_oAt, a_oArgs, a_cKind, a_cA, a_cB, a_outK, a_outV) (nI (pb + e)) → wpY_after post (nI mt, nI yn, nI (140 + mu), nI mc, nI (ls_sl Ls + L.length), nI (ls_sl Ls), nI ys.length, nI os.length, nI cs.length, nI (pos + e), nI 3, 0, f_errorPlace, nI (mt - tl), nI as.length, nI oc, f_lastKind, nI 0, f_lastValue, f_cnt, f_full, f_flag, f_need, a_tk, a_tv, a_tp, a_mName, a_mKind, a_mCount, a_mPar, a_mAt, a_vName, a_vDecl, a_vKind, a_vVal, a_sk, a_sv, a_oKind, a_oAt, a_oArgs, a_cKind, a_cA, a_cB, a_outK, a_outV) := by
    intro post g
    rw [ol]
    exact hy_after_r (kd := 4) (lq := T pb) t3 t1 t2 (by omega) o1 ⟨by omega, by omega⟩ o2 TB.2.2.1 TB.1 TB.2.1 (Or.inl LE) (fun _ => g) (fun q => by omega) (fun q => by omega)
  -- the variable's kind
  obtain ⟨tt0, T5, dX, dY, dY0⟩ : ∃ tt0, tt0 ≤ 5 ∧ ((a_declared (ls_cell (ls_addr L (T pb - 54)) as.length) = -1 ∧ tt0 = 5) ∨ a_declared (ls_cell (ls_addr L (T pb - 54)) as.length) = nI tt0) ∧ ((16 ≤ ls_addr L (T pb - 54) ∨ 0 ≤ a_vDecl (80 + (T pb - 54))) → a_vDecl (ls_yp (ls_sl Ls) L (T pb - 54)) = nI tt0) ∧ (ls_addr L (T pb - 54) < 16 → ¬ 0 ≤ a_vDecl (80 + (T pb - 54)) → tt0 = 5) := by
    rcases ls_vr hG hV nm16 LB.2.2.2.2.2.1 with ⟨sm, dcl⟩ | ⟨g1, g2, g3⟩
    · obtain ⟨dd, kd, s1, s2, s3, s4, s5, s6, s7, s8, s9⟩ := sm
      refine ⟨dd, s1, Or.inr s3, fun _ => s5, fun a b => ?_⟩
      rcases dcl with q | q
      · omega
      · exact absurd q b
    · refine ⟨5, Nat.le_refl _, Or.inl ⟨g2, rfl⟩, fun a => ?_, fun _ _ => rfl⟩
      rcases a with q | q
      · omega
      · exact absurd q g3
  have ea : a_codeArg (k.1 - d) = nI (ls_addr L (T pb - 54)) := by rw [cd.2.2.2.1, kk.2.1, q3]
  have ekk : a_codeKind (k.1 - d) = nI (ls_const T (pb + 1 + 1) pos) := cd.2.2.2.2.1.trans kk.2.2.1
  cases hv : ls_cnv tt0 (!ls_hasn T (pb + 1 + 1) (pos - (pb + 1 + 1))) z.1 z.2 with
  | some kz =>
    obtain ⟨wz, kze⟩ := ls_cnv_wf x3 T5 hv
    have kz4 := wz.1
    have k5 : tt0 = 5 ∨ kz = tt0 := by
      rw [kze]
      by_cases q : tt0 = 5
      · exact Or.inl q
      · exact Or.inr (if_neg q)
    obtain ⟨hG', hV'⟩ := ls_wr (t := tt0) (k := kz) (v := z.2) hG hV nm16 LB.2.2.2.2.2.1 (ls_cu_l8 hcu) sl80 T5 kz4 wz k5
    have cell88 := ls_cell_lt (a := ls_addr L (T pb - 54)) (ac := as.length) a24 as8
    have P := ls_Phi_lt (tl := tl) (as := as) (st := 5) (st' := 5) (fr := fr) (fr' := fr) (N := N) (t := t) (t' := t + 1) (Nat.le_refl _) (by omega) ltN
    have DC : ∀ c, a_declared c ≠ -1 → upd a_declared (ls_cell (ls_addr L (T pb - 54)) as.length) (nI tt0) c = a_declared c := by
      intro c hc'
      by_cases q : c = ls_cell (ls_addr L (T pb - 54)) as.length
      · subst q
        rw [pk_us]
        rcases dX with g | g
        · exact absurd g.1 hc'
        · exact g.symm
      · exact pk_un q
    have cu' := NX (upd a_declared (ls_cell (ls_addr L (T pb - 54)) as.length) (nI tt0)) pos _ (kz, z.2) DC hc
    have K88 : ∀ c, c < 88 → upd (upd a_cellKind (ls_cell (ls_addr L (T pb - 54)) as.length) (nI kz)) (88 + xr.length) (nI kz) c = upd a_cellKind (ls_cell (ls_addr L (T pb - 54)) as.length) (nI kz) c ∧ vp_updL (vp_updL a_cellValue (ls_cell (ls_addr L (T pb - 54)) as.length) z.2) (88 + xr.length) z.2 c = vp_updL a_cellValue (ls_cell (ls_addr L (T pb - 54)) as.length) z.2 c := fun c hc' => ⟨pk_un (by omega), pk_uLn (by omega)⟩
    have S' : ls_S yn mt tl oc mc mu ((T, V, C, kF, n, N, d, e, ta, tz)) (t + 1) as ((5, pos, es, pe, fr, L, ls_em k 9 (nI mo) (nI (ls_const T (pb + 1 + 1) pos)) (nI (pb + 1)))) Ls ((kz, z.2) :: xr) ((kz, z.2) :: yr) os' cs f_tickLimit a_outKind a_outValue a_codeOp a_codeArg a_codeKind a_codePlace a_methodSign a_methodStart (upd a_declared (ls_cell (ls_addr L (T pb - 54)) as.length) (nI tt0)) (upd (upd a_cellKind (ls_cell (ls_addr L (T pb - 54)) as.length) (nI kz)) (88 + xr.length) (nI kz)) (vp_updL (vp_updL a_cellValue (ls_cell (ls_addr L (T pb - 54)) as.length) z.2) (88 + xr.length) z.2) a_callReturn a_tk a_tv a_tp a_mName a_mKind a_mCount a_mPar a_mAt a_vName (upd a_vDecl (ls_yp (ls_sl Ls) L (T pb - 54)) (nI tt0)) (upd a_vKind (ls_yp (ls_sl Ls) L (T pb - 54)) (nI kz)) (vp_updL a_vVal (ls_yp (ls_sl Ls) L (T pb - 54)) z.2) (upd a_sk yr.length (nI kz)) a_sv a_oKind a_oAt a_oArgs a_cKind a_cA a_cB a_outK a_outV := by
      refine ⟨cu', ls_stk_push wz (ls_stk_up (by omega) x4), ?_, ?_, hE, ls_gl_k K88 hG', ls_lev_k K88 (by rw [List.length_cons]; omega) (ls_cu_l8 hcu) hV', hl, ho, hM⟩
      · refine ⟨?_, ?_, wz, ls_stk_uk (by omega) y4⟩
        · rw [Nat.zero_add]; exact pk_us
        · rw [Nat.zero_add]; exact y2
      · rw [eos] at hO
        exact hO.2.2.2
    have G0 : ls_G (ls_Phi tl as 5 fr N (t + 1)) (f_tickLimit, f_tokenCount, nI oc, 0, f_errorPlace, f_lastKind, f_lastValue, f_codeSize, nI mc, nI mu, nI (88 + xr.length + 1), nI as.length, nI ((ls_em k 9 (nI mo) (nI (ls_const T (pb + 1 + 1) pos)) (nI (pb + 1))).1 - d), nI tl, f_state, f_pos, f_expressionStart, f_pendingCount, f_frameTop, f_localCount, a_tokenCode, a_tokenValue, a_outKind, a_outValue, a_codeOp, a_codeArg, a_codeKind, a_codePlace, a_methodSign, a_methodStart, upd a_declared (ls_cell (ls_addr L (T pb - 54)) as.length) (nI tt0), upd (upd a_cellKind (ls_cell (ls_addr L (T pb - 54)) as.length) (nI kz)) (88 + xr.length) (nI kz), vp_updL (vp_updL a_cellValue (ls_cell (ls_addr L (T pb - 54)) as.length) z.2) (88 + xr.length) z.2, a_callReturn, a_pendingLevel, a_pendingPlace, a_pendingMore, a_frameKind, a_frameMore, a_localName) (nI mt, nI yn, nI (140 + mu), nI mc, nI (ls_sl Ls + L.length), nI (ls_sl Ls), nI (yr.length + 1), nI os'.length, nI cs.length, nI (pos + e), nI (ls_md 5 pe), 0, f_errorPlace, nI (mt - tl), nI as.length, nI oc, f_lastKind, nI (ls_pt 5 fr), f_lastValue, f_cnt, f_full, f_flag, f_need, a_tk, a_tv, a_tp, a_mName, a_mKind, a_mCount, a_mPar, a_mAt, a_vName, upd a_vDecl (ls_yp (ls_sl Ls) L (T pb - 54)) (nI tt0), upd a_vKind (ls_yp (ls_sl Ls) L (T pb - 54)) (nI kz), vp_updL a_vVal (ls_yp (ls_sl Ls) L (T pb - 54)) z.2, upd a_sk yr.length (nI kz), a_sv, a_oKind, a_oAt, a_oArgs, a_cKind, a_cA, a_cB, a_outK, a_outV) := ih S' (by omega) (fun q => absurd q.1 (by decide))
    rw [ls_md_5, ls_pt_x (by omega), ls_ni d1 (show (ls_em k 9 (nI mo) (nI (ls_const T (pb + 1 + 1) pos)) (nI (pb + 1))).1 = k.1 + 1 from rfl)] at G0
    refine ls_G_go (a := 1) (b := 1) ?_ (yr_after B (fun post hp => YA post ?_)) G0 (by omega) (by omega)
    · rw [xl8]
      refine xr_of (fun post f s hs hh => gx_9 d2 hs (cd.2.2.1.trans kk.1) (hx_assign (t := tt0) d2 ⟨by omega, by omega⟩ a24 as8 (by omega) T5 ea ekk x1 z4 x2 x3 dX (fun k2 q => ?_) (fun q => by rw [ls_cst8, hv] at q; cases q)))
      rw [ls_cst8, hv] at q
      injection q with q
      subst q
      exact hh
    · rw [yl]
      refine hy_assign_e (tf := fun i => T (i - e)) (t := tt0) (by omega) (by omega) (by omega) nm16 e54 e21 LB.2.2.2.2.2.2.2.1 sl80 hV.1 rfl HT y1 z4 y2 T5 dY dY0 (fun k2 sk2 q s1 s2 => ?_) (fun q => by rw [HN, hv] at q; cases q)
      rw [HN, hv] at q
      injection q with q
      subst q
      rw [ls_updx s1 s2]
      exact hp
  | none =>
    have hx : ls_xr 1 (f_tickLimit, f_tokenCount, nI oc, 0, f_errorPlace, f_lastKind, f_lastValue, f_codeSize, nI mc, nI mu, nI (88 + xs.length), nI as.length, nI (k.1 - d), nI tl, f_state, f_pos, f_expressionStart, f_pendingCount, f_frameTop, f_localCount, a_tokenCode, a_tokenValue, a_outKind, a_outValue, a_codeOp, a_codeArg, a_codeKind, a_codePlace, a_methodSign, a_methodStart, a_declared, a_cellKind, a_cellValue, a_callReturn, a_pendingLevel, a_pendingPlace, a_pendingMore, a_frameKind, a_frameMore, a_localName) (f_tickLimit, f_tokenCount, nI oc, nI 3, nI (pb + 1), f_lastKind, f_lastValue, f_codeSize, nI mc, nI mu, nI (88 + xr.length), nI as.length, nI (k.1 - d + 1), nI tl, f_state, f_pos, f_expressionStart, f_pendingCount, f_frameTop, f_localCount, a_tokenCode, a_tokenValue, a_outKind, a_outValue, a_codeOp, a_codeArg, a_codeKind, a_codePlace, a_methodSign, a_methodStart, a_declared, a_cellKind, a_cellValue, a_callReturn, a_pendingLevel, a_pendingPlace, a_pendingMore, a_frameKind, a_frameMore, a_localName) := by
      rw [xl8]
      refine xr_of (fun post f s hs hh => gx_9 d2 hs (cd.2.2.1.trans kk.1) (hx_assign (t := tt0) d2 ⟨by omega, by omega⟩ a24 as8 (by omega) T5 ea ekk x1 z4 x2 x3 dX (fun k2 q => by rw [ls_cst8, hv] at q; cases q) (fun q => ?_)))
      rw [cd.2.2.2.2.2, kk.2.2.2]
      exact hh
    have hy : ls_yr 1 (nI mt, nI yn, nI (140 + mu), nI mc, nI (ls_sl Ls + L.length), nI (ls_sl Ls), nI ys.length, nI os.length, nI cs.length, nI (pos + e), nI 3, 0, f_errorPlace, nI (mt - tl), nI as.length, nI oc, f_lastKind, nI 0, f_lastValue, f_cnt, f_full, f_flag, f_need, a_tk, a_tv, a_tp, a_mName, a_mKind, a_mCount, a_mPar, a_mAt, a_vName, a_vDecl, a_vKind, a_vVal, a_sk, a_sv, a_oKind, a_oAt, a_oArgs, a_cKind, a_cA, a_cB, a_outK, a_outV) (nI mt, nI yn, nI (140 + mu), nI mc, nI (ls_sl Ls + L.length), nI (ls_sl Ls), nI ys.length, nI os'.length, nI cs.length, nI (pos + e), nI 3, nI 3, nI (pb + 1), nI (mt - tl), nI as.length, nI oc, f_lastKind, nI 0, f_lastValue, f_cnt, f_full, f_flag, f_need, a_tk, a_tv, a_tp, a_mName, a_mKind, a_mCount, a_mPar, a_mAt, a_vName, a_vDecl, a_vKind, a_vVal, a_sk, a_sv, a_oKind, a_oAt, a_oArgs, a_cKind, a_cA, a_cB, a_outK, a_outV) := by
      refine yr_after B (fun post hp => YA post ?_)
      rw [yl] at hp ⊢
      refine hy_assign_e (tf := fun i => T (i - e)) (t := tt0) (by omega) (by omega) (by omega) nm16 e54 e21 LB.2.2.2.2.2.2.2.1 sl80 hV.1 rfl HT y1 z4 y2 T5 dY dY0 (fun k2 sk2 q s1 s2 => by rw [HN, hv] at q; cases q) (fun q => ?_)
      rw [show pb + e + 1 = pb + 1 + e by omega, TP.2.2.2]
      exact hp
    exact gs_err h ⟨by decide, by decide⟩ (by rw [← hF]; unfold ls_Phi; omega) (by rw [← hF]; unfold ls_Phi; omega) hx hy
end
