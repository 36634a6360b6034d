/-! Operators between operands, parentheses, commas -/
set_option maxHeartbeats 200000 in
theorem ls_jmp {a b d : Nat} (ha : d ≤ a) (hb : d ≤ b) : nI (b - d) + (nI a - nI b) = nI (a - d) := by
  obtain ⟨x, rfl⟩ : ∃ x, a = x + d := ⟨a - d, by omega⟩
  obtain ⟨y, rfl⟩ : ∃ y, b = y + d := ⟨b - d, by omega⟩
  rw [Nat.add_sub_cancel, Nat.add_sub_cancel, ← nI_add, ← nI_add, Int32.sub_eq_add_neg, Int32.neg_add, Int32.sub_eq_add_neg]
  generalize nI x = X
  generalize nI y = Y
  generalize nI d = D
  rw [show Y + (X + D + (-Y + -D)) = X + (Y + -Y) + (D + -D) by ac_rfl, Int32.add_right_neg, Int32.add_right_neg, Int32.add_zero, Int32.add_zero]
section
variable {f_tickLimit f_tokenCount f_outCount f_error f_errorPlace f_lastKind f_codeSize f_methodCount f_methodTokens f_cellCount f_activeCalls f_next f_ticksLeft f_state f_pos f_expressionStart f_pendingCount f_frameTop f_localCount : Int32}
variable {f_lastValue : Int64}
variable {a_tokenCode a_tokenValue a_outKind a_codeOp a_codeArg a_codeKind a_codePlace a_methodSign a_methodStart a_declared a_cellKind a_callReturn a_pendingLevel a_pendingPlace a_pendingMore a_frameKind a_frameMore a_localName : Nat → Int32}
variable {a_outValue a_cellValue : Nat → Int64}
variable {f_cnt f_full f_flag f_need : Int32}
variable {a_tk a_tp a_mName a_mKind a_mCount a_mPar a_mAt a_vName a_vDecl a_vKind a_sk a_oKind a_oAt a_oArgs a_cKind a_cA a_cB a_outK : Nat → Int32}
variable {a_tv a_vVal a_sv a_outV : Nat → Int64}
variable {yn mt tl oc mc mu : Nat} {T : Nat → Nat} {V : Nat → Int32} {C : Nat → LsC} {kF : LsK} {n N d e ta tz t : Nat} {as : List LsA} {st pos es : Nat} {pe : List LsP} {fr : List LsF} {L : List Nat} {k : LsK} {Ls : List (List Nat)} {xs ys : List LsV} {os cs : List LsP} {F : Nat}
set_option maxHeartbeats 200000 in
/-- the reference's operator on top, if none is done now -/
theorem ls_top5 (h : ls_S yn mt tl oc mc mu ((T, V, C, kF, n, N, d, e, ta, tz)) t as ((5, pos, es, pe, fr, L, k)) Ls xs ys os cs f_tickLimit a_outKind a_outValue a_codeOp a_codeArg a_codeKind a_codePlace a_methodSign a_methodStart a_declared a_cellKind a_cellValue a_callReturn a_tk a_tv a_tp a_mName a_mKind a_mCount a_mPar a_mAt a_vName a_vDecl a_vKind a_vVal a_sk a_sv a_oKind a_oAt a_oArgs a_cKind a_cA a_cB a_outK a_outV) (hnr : ∀ x r, pe = x :: r → x.1 < ls_lv (T pos)) : ∃ kd q g os' lq, os = (kd, q, g) :: os' ∧ (1 ≤ kd ∧ kd ≤ 7) ∧ g < 100 ∧ a_oKind os'.length = nI kd ∧ a_oAt os'.length = nI q ∧ a_oArgs os'.length = nI g ∧ (kd = 7 → q < 384 ∧ a_tk q = nI lq ∧ lq < 100) ∧ (kd ≤ 3 ∨ (2 < ls_lv (T pos) ∧ (kd = 4 ∨ (kd = 7 ∧ ls_lv lq < ls_lv (T pos))))) ∧ (pe = [] → kd = 1 ∧ ∃ f r, fr = f :: r ∧ q = f.2.2.1 + e ∧ ls_in T a_declared as.length L f r g) ∧ (∀ x r, pe = x :: r → (kd, q, g) = ls_oe T e x) := by
  obtain ⟨hcu, hX, hY, hO, hE, hG, hV, hl, ho, hM⟩ := h
  obtain ⟨h1, h2, h3, h4, x1, y1, x0, y0, o0, c0, f, r, ins, g1, g2, g3, g4, g5, g6, g7⟩ := ls_cu_e hcu (Or.inr rfl)
  have lv := ls_lv_ge (T pos)
  cases pe with
  | nil =>
    have g4' : os = (1, f.2.2.1 + e, ins) :: o0 := g4
    rw [g4'] at hO
    obtain ⟨o1, o2, o3, _⟩ := hO
    exact ⟨1, _, ins, o0, 0, g4', ⟨by omega, by omega⟩, by have := g5.1; omega, o1, o2, o3, fun q => by omega, Or.inl (by omega), fun _ => ⟨rfl, f, r, g3, rfl, g5⟩, fun x r q => by cases q⟩
  | cons x r' =>
    have g4' : os = ls_oe T e x :: (r'.map (ls_oe T e) ++ (1, f.2.2.1 + e, ins) :: o0) := g4
    have hO' := hO
    rw [g4'] at hO'
    obtain ⟨o1, o2, o3, _⟩ := hO'
    have px := ls_pgx hcu (Or.inr rfl) (x := x) (List.mem_cons_self ..)
    have lx := hnr x r' rfl
    obtain ⟨xl, xp, xm⟩ := x
    dsimp only at px lx
    have TP := ls_toke2 h1 h3 h4 (Or.inr rfl) (p := xp) px.1 px.2.2.2.1
    have R : ∀ x r, ((xl, xp, xm) :: r' = x :: r) → ls_oe T e (xl, xp, xm) = ls_oe T e x := fun x r q => by
      injection q with q _
      rw [q]
    by_cases c0 : xl = 0
    · subst c0
      exact ⟨3, xp + e, xm, _, 0, g4', ⟨by omega, by omega⟩, by have := (px.2.2.2.2.1 rfl).2; omega, o1, o2, o3, fun q => by omega, Or.inl (by omega), (fun q => by cases q), R⟩
    · by_cases c1 : xl = 1
      · subst c1
        exact ⟨2, xp + e, 0, _, 0, g4', ⟨by omega, by omega⟩, by omega, o1, o2, o3, fun q => by omega, Or.inl (by omega), (fun q => by cases q), R⟩
      · by_cases c2 : xl = 2
        · subst c2
          exact ⟨4, xp - 1 + e, 0, _, 0, g4', ⟨by omega, by omega⟩, by omega, o1, o2, o3, fun q => by omega, Or.inr ⟨lx, Or.inl rfl⟩, (fun q => by cases q), R⟩
        · have OE : ls_oe T e (xl, xp, xm) = (7, xp + e, 0) := by
            show (if xl = 0 then _ else if xl = 1 then _ else if xl = 2 then _ else if xl = 13 then _ else _) = _
            rw [if_neg c0, if_neg c1, if_neg c2, if_neg (by omega)]
          rw [OE] at o1 o2 o3 g4' R
          have plv := px.2.2.2.2.2.2.2.1 (by omega) (by omega)
          exact ⟨7, xp + e, 0, _, T xp, g4', ⟨by omega, by omega⟩, by omega, o1, o2, o3, fun _ => ⟨TP.2.2.1, TP.1, TP.2.1⟩, Or.inr ⟨by omega, Or.inr ⟨rfl, by omega⟩⟩, (fun q => by cases q), R⟩
set_option maxHeartbeats 200000 in
/-- an operator between operands -/
theorem gs_bin (ih : ls_IH F) (h : ls_S yn mt tl oc mc mu ((T, V, C, kF, n, N, d, e, ta, tz)) t as ((5, pos, es, pe, fr, L, k)) Ls xs ys os cs f_tickLimit a_outKind a_outValue a_codeOp a_codeArg a_codeKind a_codePlace a_methodSign a_methodStart a_declared a_cellKind a_cellValue a_callReturn a_tk a_tv a_tp a_mName a_mKind a_mCount a_mPar a_mAt a_vName a_vDecl a_vKind a_vVal a_sk a_sv a_oKind a_oAt a_oArgs a_cKind a_cA a_cB a_outK a_outV) (hF : ls_Phi tl as 5 fr N t = F) (hnr : ∀ x r, pe = x :: r → x.1 < ls_lv (T pos)) (l2 : 2 < ls_lv (T pos)) (nl : ¬ (T pos = 41 ∨ T pos = 42)) (hc : C (t + 1) = (4, pos + 1, es, (ls_lv (T pos), pos, k.1) :: pe, fr, L, k)) : ls_G F (f_tickLimit, f_tokenCount, nI oc, 0, f_errorPlace, f_lastKind, f_lastValue, f_codeSize, nI mc, nI mu, nI (88 + xs.length), nI as.length, nI (k.1 - d), nI tl, f_state, f_pos, f_expressionStart, f_pendingCount, f_frameTop, f_localCount, a_tokenCode, a_tokenValue, a_outKind, a_outValue, a_codeOp, a_codeArg, a_codeKind, a_codePlace, a_methodSign, a_methodStart, a_declared, a_cellKind, a_cellValue, a_callReturn, a_pendingLevel, a_pendingPlace, a_pendingMore, a_frameKind, a_frameMore, a_localName) (nI mt, nI yn, nI (140 + mu), nI mc, nI (ls_sl Ls + L.length), nI (ls_sl Ls), nI ys.length, nI os.length, nI cs.length, nI (pos + e), nI 3, 0, f_errorPlace, nI (mt - tl), nI as.length, nI oc, f_lastKind, nI 0, f_lastValue, f_cnt, f_full, f_flag, f_need, a_tk, a_tv, a_tp, a_mName, a_mKind, a_mCount, a_mPar, a_mAt, a_vName, a_vDecl, a_vKind, a_vVal, a_sk, a_sv, a_oKind, a_oAt, a_oArgs, a_cKind, a_cA, a_cB, a_outK, a_outV) := by
  have h' := h
  obtain ⟨hcu, hX, hY, hO, hE, hG, hV, hl, ho, hM⟩ := h'
  have U := hcu.1
  have tt := hcu.2.2.1
  have ec := hcu.2.2.2.1
  have T72 := ls_T5 U.1 (by have := U.2.2.1; omega) ec
  obtain ⟨lt, ltN, _, d1, d2, t1, t2, t3, t4, t5⟩ := ls_ac hcu (Or.inr rfl) T72
  have B := ls_Sb5 h t3
  have LB := ls_cu_len hcu
  have as8 := hl.2.2.2.1
  have cd := ls_cod U tt ec (Nat.le_refl _) (t' := t) ⟨Nat.le_refl _, tt.2⟩ ec (Nat.le_refl _)
  have lv := ls_lv_ge (T pos)
  obtain ⟨kd, q, g, os', lq, eos, k17, g100, o1, o2, o3, q7, cnd, _, _⟩ := ls_top5 h hnr
  have n34 : ¬ (ls_lv (T pos) = 3 ∨ ls_lv (T pos) = 4) := by
    intro q
    have tab : ∀ x : Fin 43, ls_lv x.1 = 3 ∨ ls_lv x.1 = 4 → x.1 = 41 ∨ x.1 = 42 := by decide
    have tp := ls_lv_c (T pos)
    exact nl (tab ⟨T pos, by omega⟩ q)
  obtain ⟨z, x1, y1, exs, eys, cu1, _⟩ := ls_cu_bin hcu hc l2 (by omega)
  have cu' := cu1 n34
  have LB' := ls_cu_len cu'
  have b3 := LB'.2.2.1
  rw [List.length_cons] at b3
  have ol : os.length = os'.length + 1 := by rw [eos, List.length_cons]
  have P := ls_Phi_lt (tl := tl) (as := as) (st := 5) (st' := 4) (fr := fr) (fr' := fr) (N := N) (t := t) (t' := t + 1) (by rw [ls_lo5_x (by omega), ls_lo5_x (by omega)]; exact Nat.le_refl _) (by omega) ltN
  have S' : ls_S yn mt tl oc mc mu ((T, V, C, kF, n, N, d, e, ta, tz)) (t + 1) as ((4, pos + 1, es, (ls_lv (T pos), pos, k.1) :: pe, fr, L, k)) Ls xs ys ((7, pos + e, 0) :: os) cs f_tickLimit a_outKind a_outValue a_codeOp a_codeArg a_codeKind a_codePlace a_methodSign a_methodStart a_declared a_cellKind a_cellValue a_callReturn a_tk a_tv a_tp a_mName a_mKind a_mCount a_mPar a_mAt a_vName a_vDecl a_vKind a_vVal a_sk a_sv (upd a_oKind os.length (nI 7)) (upd a_oAt os.length (nI (pos + e))) (upd a_oArgs os.length 0) a_cKind a_cA a_cB a_outK a_outV :=
    ⟨cu', hX, hY, ⟨pk_us, pk_us, pk_us, ls_StP_ag (fun j hj => ⟨pk_un (by omega), pk_un (by omega), pk_un (by omega)⟩) hO⟩, hE, hG, hV, hl, ho, hM⟩
  have G0 : ls_G (ls_Phi tl as 4 fr N (t + 1)) (f_tickLimit, f_tokenCount, nI oc, 0, f_errorPlace, f_lastKind, f_lastValue, f_codeSize, nI mc, nI mu, nI (88 + xs.length), nI as.length, nI (k.1 - d), nI tl, f_state, f_pos, f_expressionStart, f_pendingCount, f_frameTop, f_localCount, a_tokenCode, a_tokenValue, a_outKind, a_outValue, a_codeOp, a_codeArg, a_codeKind, a_codePlace, a_methodSign, a_methodStart, a_declared, a_cellKind, a_cellValue, a_callReturn, a_pendingLevel, a_pendingPlace, a_pendingMore, a_frameKind, a_frameMore, a_localName) (nI mt, nI yn, nI (140 + mu), nI mc, nI (ls_sl Ls + L.length), nI (ls_sl Ls), nI ys.length, nI (os.length + 1), nI cs.length, nI (pos + 1 + e), nI (ls_md 4 ((ls_lv (T pos), pos, k.1) :: pe)), 0, f_errorPlace, nI (mt - tl), nI as.length, nI oc, f_lastKind, nI (ls_pt 4 fr), f_lastValue, f_cnt, f_full, f_flag, f_need, a_tk, a_tv, a_tp, a_mName, a_mKind, a_mCount, a_mPar, a_mAt, a_vName, a_vDecl, a_vKind, a_vVal, a_sk, a_sv, upd a_oKind os.length (nI 7), upd a_oAt os.length (nI (pos + e)), upd a_oArgs os.length 0, a_cKind, a_cA, a_cB, a_outK, a_outV) := ih S' (by omega) (fun q => absurd q.1 (by decide))
  have E1 : ls_md 4 ((ls_lv (T pos), pos, k.1) :: pe) = 2 := by
    unfold ls_md
    rw [if_pos rfl]
    show (if decide (ls_lv (T pos) ≤ 2) = true then 1 else 2) = _
    rw [if_neg (fun g => by have := of_decide_eq_true g; omega)]
  rw [E1, ls_pt_x (by omega)] at G0
  refine ls_G_go ls_xr_0 (yr_after B (fun post hp => ?_)) G0 (by omega) (by omega)
  rw [ol]
  refine hy_after_n (kd := kd) (lq := lq) t3 t1 t2 (by omega) o1 k17 o2 q7 o3 g100 cnd (fun _ => ?_) (fun q => by omega) (fun q => by omega) (fun q => by omega) (fun q => by omega)
  rw [← ol]
  refine hy_binary_n (by omega) (by omega) ⟨by omega, by omega⟩ ?_
  rw [show pos + e + 1 = pos + 1 + e by omega]
  exact hp
set_option maxHeartbeats 1000000 in
/-- && and ||: decided, or not yet -/
theorem gs_dec (ih : ls_IH F) (h : ls_S yn mt tl oc mc mu ((T, V, C, kF, n, N, d, e, ta, tz)) t as ((5, pos, es, pe, fr, L, k)) Ls xs ys os cs f_tickLimit a_outKind a_outValue a_codeOp a_codeArg a_codeKind a_codePlace a_methodSign a_methodStart a_declared a_cellKind a_cellValue a_callReturn a_tk a_tv a_tp a_mName a_mKind a_mCount a_mPar a_mAt a_vName a_vDecl a_vKind a_vVal a_sk a_sv a_oKind a_oAt a_oArgs a_cKind a_cA a_cB a_outK a_outV) (hF : ls_Phi tl as 5 fr N t = F) (hnr : ∀ x r, pe = x :: r → x.1 < ls_lv (T pos)) (h41 : T pos = 41 ∨ T pos = 42) (hc : C (t + 1) = (4, pos + 1, es, (ls_lv (T pos), pos, k.1) :: pe, fr, L, ls_em k 7 0 (nI (T pos - 41)) (nI pos))) : ls_G F (f_tickLimit, f_tokenCount, nI oc, 0, f_errorPlace, f_lastKind, f_lastValue, f_codeSize, nI mc, nI mu, nI (88 + xs.length), nI as.length, nI (k.1 - d), nI tl, f_state, f_pos, f_expressionStart, f_pendingCount, f_frameTop, f_localCount, a_tokenCode, a_tokenValue, a_outKind, a_outValue, a_codeOp, a_codeArg, a_codeKind, a_codePlace, a_methodSign, a_methodStart, a_declared, a_cellKind, a_cellValue, a_callReturn, a_pendingLevel, a_pendingPlace, a_pendingMore, a_frameKind, a_frameMore, a_localName) (nI mt, nI yn, nI (140 + mu), nI mc, nI (ls_sl Ls + L.length), nI (ls_sl Ls), nI ys.length, nI os.length, nI cs.length, nI (pos + e), nI 3, 0, f_errorPlace, nI (mt - tl), nI as.length, nI oc, f_lastKind, nI 0, f_lastValue, f_cnt, f_full, f_flag, f_need, a_tk, a_tv, a_tp, a_mName, a_mKind, a_mCount, a_mPar, a_mAt, a_vName, a_vDecl, a_vKind, a_vVal, a_sk, a_sv, a_oKind, a_oAt, a_oArgs, a_cKind, a_cA, a_cB, a_outK, a_outV) := by
  have h' := h
  obtain ⟨hcu, hX, hY, hO, hE, hG, hV, hl, ho, hM⟩ := h'
  have U := hcu.1
  have tt := hcu.2.2.1
  have ec := hcu.2.2.2.1
  have T72 := ls_T5 U.1 (by have := U.2.2.1; omega) ec
  obtain ⟨lt, ltN, _, d1, d2, t1, t2, t3, t4, t5⟩ := ls_ac hcu (Or.inr rfl) T72
  have B := ls_Sb5 h t3
  have LB := ls_cu_len hcu
  have as8 := hl.2.2.2.1
  have cd := ls_cod U tt ec (Nat.le_refl _) (t' := t) ⟨Nat.le_refl _, tt.2⟩ ec (Nat.le_refl _)
  have lv := ls_lv_ge (T pos)
  have LV : ls_lv (T pos) = (if T pos = 41 then 4 else 3) := by rcases h41 with q | q <;> rw [q] <;> rfl
  have c34 : ls_lv (T pos) = 3 ∨ ls_lv (T pos) = 4 := by rw [LV]; split <;> omega
  obtain ⟨kd, q, g, os', lq, eos, k17, g100, o1, o2, o3, q7, cnd, _, _⟩ := ls_top5 h hnr
  obtain ⟨z, x1, y1, exs, eys, _, cu1⟩ := ls_cu_bin hcu hc (by omega) (by omega)
  have ol : os.length = os'.length + 1 := by rw [eos, List.length_cons]
  rw [exs] at hX
  rw [eys] at hY
  obtain ⟨a1, a2, a3, a4⟩ := hX
  have hY0 := hY
  obtain ⟨b1, b2, b3, b4⟩ := hY
  rw [Nat.zero_add] at b1 b2
  have xl8 : 88 + xs.length = 88 + x1.length + 1 := by rw [exs, List.length_cons]; omega
  have yl : ys.length = y1.length + 1 := by rw [eys, List.length_cons]
  have f7 := ls_fat U.1 (by omega) hc (i := k.1) (Nat.lt_succ_self _)
  have op7 : a_codeOp (k.1 - d) = 7 := cd.2.2.1.trans (f7.1.trans pk_us)
  have kd7 : a_codeKind (k.1 - d) = nI (T pos - 41) := cd.2.2.2.2.1.trans (f7.2.1.trans pk_us)
  have pl7 : a_codePlace (k.1 - d) = nI pos := cd.2.2.2.2.2.trans (f7.2.2.1.trans pk_us)
  have z4 := a3.1
  have os4 : os.length < 400 := by omega
  have cbm : ∀ y2 : List LsV, ys.length = y2.length → True := fun _ _ => trivial
  have s4 : ls_lv (T pos) - 2 = ls_lv (T pos) - 2 := rfl
  have UT := U.2.2.2.2.1
  have lo := ls_pos_le U.1 tt.1 (show t ≤ N by omega)
  rw [ec] at lo
  have lo' : (C ta).2.1 ≤ pos := lo
  have aa : T pos = (if ls_lv (T pos) = 4 then 41 else 42) := by
    rcases h41 with q | q <;> rw [q] <;> rfl
  have YA : ∀ post : SY → Prop, wpY_binary post (nI mt, nI yn, nI (140 + mu), nI mc, nI (ls_sl Ls + L.length), nI (ls_sl Ls), nI ys.length, nI os.length, nI cs.length, nI (pos + e), nI 3, 0, f_errorPlace, nI (mt - tl), nI as.length, nI oc, f_lastKind, nI 0, f_lastValue, f_cnt, f_full, f_flag, f_need, a_tk, a_tv, a_tp, a_mName, a_mKind, a_mCount, a_mPar, a_mAt, a_vName, a_vDecl, a_vKind, a_vVal, a_sk, a_sv, a_oKind, a_oAt, a_oArgs, a_cKind, a_cA, a_cB, a_outK, a_outV) (nI (T pos)) (nI (ls_lv (T pos) - 2)) → wpY_after post (nI mt, nI yn, nI (140 + mu), nI mc, nI (ls_sl Ls + L.length), nI (ls_sl Ls), nI ys.length, nI os.length, nI cs.length, nI (pos + e), nI 3, 0, f_errorPlace, nI (mt - tl), nI as.length, nI oc, f_lastKind, nI 0, f_lastValue, f_cnt, f_full, f_flag, f_need, a_tk, a_tv, a_tp, a_mName, a_mKind, a_mCount, a_mPar, a_mAt, a_vName, a_vDecl, a_vKind, a_vVal, a_sk, a_sv, a_oKind, a_oAt, a_oArgs, a_cKind, a_cA, a_cB, a_outK, a_outV) := by
    intro post gg
    rw [ol]
    refine hy_after_n (kd := kd) (lq := lq) t3 t1 t2 (by omega) o1 k17 o2 q7 o3 g100 cnd (fun _ => ?_) (fun q => by omega) (fun q => by omega) (fun q => by omega) (fun q => by omega)
    rw [← ol]
    exact gg
  have lt2 := ls_tl4 U.1 (by omega) hc
  by_cases k0 : z.1 = 0
  · have zv : z.2 = 0 ∨ z.2 = 1 := a3.2.1 k0
    have DV : z.2 = lN (T pos - 41) ↔ z.2 = (if ls_lv (T pos) = 4 then 0 else 1) := by
      rcases h41 with q | q
      · rw [q]; exact Iff.rfl
      · rw [q]; exact Iff.rfl
    by_cases dv : z.2 = (if ls_lv (T pos) = 4 then 0 else 1)
    · obtain ⟨t', q', k', j, f1, f2, f3, f4, f5, f6, f8, f9, f10, f11⟩ := ls_fdec U.1 (show t + 1 ≤ N by omega) h41 hc
      have FR : ∀ u, t ≤ u → u ≤ t' → (C u).2.2.2.2.1 = fr := by
        intro u u1 u2
        rcases Nat.eq_or_lt_of_le u1 with g1 | g1
        · subst g1; rw [ec]
        · exact f10 u (by omega) u2
      have cu' := ls_cu_dec hcu (by omega) f2 FR f3
      have cd' := ls_d_le cu'.1 cu'.2.2.1 f3
      have tz' : t' ≤ tz := cu'.2.2.1.2
      have T72' := ls_T5 U.1 f2 f3
      have hi' := (ls_ac cu' (Or.inr rfl) T72')
      have qhi := ls_hi cu'.1 cu'.2.1 ⟨cu'.2.2.1.1, hi'.1⟩ f3 (Or.inl T72')
      have wz : ls_wf 0 z.2 := by rw [← k0]; exact a3
      have P := ls_Phi_lt (tl := tl) (as := as) (st := 5) (st' := 5) (fr := fr) (fr' := fr) (N := N) (t := t) (t' := t') (Nat.le_refl _) (by omega) f2
      have S' : ls_S yn mt tl oc mc mu ((T, V, C, kF, n, N, d, e, ta, tz)) t' as ((5, q', es, pe, fr, L, k')) Ls xs ys os cs f_tickLimit a_outKind a_outValue a_codeOp a_codeArg a_codeKind a_codePlace a_methodSign a_methodStart a_declared (upd a_cellKind (88 + x1.length) 0) (vp_updL a_cellValue (88 + x1.length) z.2) a_callReturn a_tk a_tv a_tp a_mName a_mKind a_mCount a_mPar a_mAt a_vName a_vDecl a_vKind a_vVal a_sk a_sv a_oKind a_oAt a_oArgs a_cKind a_cA a_cB a_outK a_outV := by
        refine ⟨cu', ?_, by rw [eys]; exact hY0, hO, hE, ls_gl_k (fun c hc' => ⟨pk_un (by omega), pk_uLn (by omega)⟩) hG, ls_lev_k (fun c hc' => ⟨pk_un (by omega), pk_uLn (by omega)⟩) (by rw [List.length_cons]; omega) (ls_cu_l8 hcu) hV, hl, ho, hM⟩
        rw [exs]
        have := ls_stk_push wz a4
        refine ⟨?_, this.2.1, a3, this.2.2.2⟩
        rw [k0]
        exact this.1
      have G0 : ls_G (ls_Phi tl as 5 fr N t') (f_tickLimit, f_tokenCount, nI oc, 0, f_errorPlace, f_lastKind, f_lastValue, f_codeSize, nI mc, nI mu, nI (88 + xs.length), nI as.length, nI (k'.1 - d), nI tl, f_state, f_pos, f_expressionStart, f_pendingCount, f_frameTop, f_localCount, a_tokenCode, a_tokenValue, a_outKind, a_outValue, a_codeOp, a_codeArg, a_codeKind, a_codePlace, a_methodSign, a_methodStart, a_declared, upd a_cellKind (88 + x1.length) 0, vp_updL a_cellValue (88 + x1.length) z.2, a_callReturn, a_pendingLevel, a_pendingPlace, a_pendingMore, a_frameKind, a_frameMore, a_localName) (nI mt, nI yn, nI (140 + mu), nI mc, nI (ls_sl Ls + L.length), nI (ls_sl Ls), nI ys.length, nI os.length, nI cs.length, nI (q' + e), nI (ls_md 5 pe), 0, f_errorPlace, nI (mt - tl), nI as.length, nI oc, f_lastKind, nI (ls_pt 5 fr), f_lastValue, f_cnt, f_full, f_flag, f_need, a_tk, a_tv, a_tp, a_mName, a_mKind, a_mCount, a_mPar, a_mAt, a_vName, a_vDecl, a_vKind, a_vVal, a_sk, a_sv, a_oKind, a_oAt, a_oArgs, a_cKind, a_cA, a_cB, a_outK, a_outV) := ih S' (by omega) (fun q => absurd q.1 (by decide))
      rw [ls_md_5, ls_pt_x (by omega)] at G0
      have hx : ls_xr 1 (f_tickLimit, f_tokenCount, nI oc, 0, f_errorPlace, f_lastKind, f_lastValue, f_codeSize, nI mc, nI mu, nI (88 + xs.length), nI as.length, nI (k.1 - d), nI tl, f_state, f_pos, f_expressionStart, f_pendingCount, f_frameTop, f_localCount, a_tokenCode, a_tokenValue, a_outKind, a_outValue, a_codeOp, a_codeArg, a_codeKind, a_codePlace, a_methodSign, a_methodStart, a_declared, a_cellKind, a_cellValue, a_callReturn, a_pendingLevel, a_pendingPlace, a_pendingMore, a_frameKind, a_frameMore, a_localName) (f_tickLimit, f_tokenCount, nI oc, 0, f_errorPlace, f_lastKind, f_lastValue, f_codeSize, nI mc, nI mu, nI (88 + xs.length), nI as.length, nI (k'.1 - d), nI tl, f_state, f_pos, f_expressionStart, f_pendingCount, f_frameTop, f_localCount, a_tokenCode, a_tokenValue, a_outKind, a_outValue, a_codeOp, a_codeArg, a_codeKind, a_codePlace, a_methodSign, a_methodStart, a_declared, upd a_cellKind (88 + x1.length) 0, vp_updL a_cellValue (88 + x1.length) z.2, a_callReturn, a_pendingLevel, a_pendingPlace, a_pendingMore, a_frameKind, a_frameMore, a_localName) := by
        rw [xl8, ← ls_jmp (a := k'.1) (b := k.1) cd'.1 d1]
        refine xr_of (fun post f s hs hh => gx_7 d2 hs op7 (hx_decide (d := 0) d2 ⟨by omega, by omega⟩ kd7 (by omega) a1 (by omega) a2 (fun g => absurd k0 g) (fun _ _ => ?_) (fun _ g => absurd (DV.mpr dv) g)))
        rw [cd.2.2.2.1, f9]
        exact hh
      refine ls_G_go hx (yr_after B (fun post hp => YA post ?_)) G0 (by omega) (by omega)
      rw [yl] at hp ⊢
      refine hy_binary_d (lo := (C ta).2.1) (hi := (C tz).2.1) c34 aa os4 (by omega) t3 b1 (by omega) b2 UT lo' (fun g => absurd k0 g) (fun _ g => absurd dv g) (fun _ _ => ⟨j, q', f6, qhi.1, ?_, hp⟩)
      rcases f8 with g | g | g | g
      · exact Or.inl g
      · exact Or.inr (Or.inl g)
      · exact Or.inr (Or.inr (Or.inl g))
      · exact Or.inr (Or.inr (Or.inr ⟨g, f5⟩))
    · have cu' := cu1 k0 c34
      have LB' := ls_cu_len cu'
      have ob := LB'.2.2.1
      rw [List.length_cons] at ob
      have P := ls_Phi_lt (tl := tl) (as := as) (st := 5) (st' := 4) (fr := fr) (fr' := fr) (N := N) (t := t) (t' := t + 1) (by rw [ls_lo5_x (by omega), ls_lo5_x (by omega)]; exact Nat.le_refl _) (by omega) ltN
      have S' : ls_S yn mt tl oc mc mu ((T, V, C, kF, n, N, d, e, ta, tz)) (t + 1) as ((4, pos + 1, es, (ls_lv (T pos), pos, k.1) :: pe, fr, L, ls_em k 7 0 (nI (T pos - 41)) (nI pos))) Ls x1 ys ((7, pos + e, 0) :: os) cs f_tickLimit a_outKind a_outValue a_codeOp a_codeArg a_codeKind a_codePlace a_methodSign a_methodStart a_declared a_cellKind a_cellValue a_callReturn a_tk a_tv a_tp a_mName a_mKind a_mCount a_mPar a_mAt a_vName a_vDecl a_vKind a_vVal a_sk a_sv (upd a_oKind os.length (nI 7)) (upd a_oAt os.length (nI (pos + e))) (upd a_oArgs os.length 0) a_cKind a_cA a_cB a_outK a_outV :=
        ⟨cu', a4, by rw [eys]; exact hY0, ⟨pk_us, pk_us, pk_us, ls_StP_ag (fun j hj => ⟨pk_un (by omega), pk_un (by omega), pk_un (by omega)⟩) hO⟩, hE, hG, hV, hl, ho, hM⟩
      have G0 : ls_G (ls_Phi tl as 4 fr N (t + 1)) (f_tickLimit, f_tokenCount, nI oc, 0, f_errorPlace, f_lastKind, f_lastValue, f_codeSize, nI mc, nI mu, nI (88 + x1.length), nI as.length, nI ((ls_em k 7 0 (nI (T pos - 41)) (nI pos)).1 - d), nI tl, f_state, f_pos, f_expressionStart, f_pendingCount, f_frameTop, f_localCount, a_tokenCode, a_tokenValue, a_outKind, a_outValue, a_codeOp, a_codeArg, a_codeKind, a_codePlace, a_methodSign, a_methodStart, a_declared, a_cellKind, a_cellValue, a_callReturn, a_pendingLevel, a_pendingPlace, a_pendingMore, a_frameKind, a_frameMore, a_localName) (nI mt, nI yn, nI (140 + mu), nI mc, nI (ls_sl Ls + L.length), nI (ls_sl Ls), nI ys.length, nI (os.length + 1), nI cs.length, nI (pos + 1 + e), nI (ls_md 4 ((ls_lv (T pos), pos, k.1) :: pe)), 0, f_errorPlace, nI (mt - tl), nI as.length, nI oc, f_lastKind, nI (ls_pt 4 fr), f_lastValue, f_cnt, f_full, f_flag, f_need, a_tk, a_tv, a_tp, a_mName, a_mKind, a_mCount, a_mPar, a_mAt, a_vName, a_vDecl, a_vKind, a_vVal, a_sk, a_sv, upd a_oKind os.length (nI 7), upd a_oAt os.length (nI (pos + e)), upd a_oArgs os.length 0, a_cKind, a_cA, a_cB, a_outK, a_outV) := ih S' (by omega) (fun q => absurd q.1 (by decide))
      have E1 : ls_md 4 ((ls_lv (T pos), pos, k.1) :: pe) = 2 := by
        unfold ls_md
        rw [if_pos rfl]
        show (if decide (ls_lv (T pos) ≤ 2) = true then 1 else 2) = _
        rw [if_neg (fun g => by have := of_decide_eq_true g; omega)]
      rw [E1, ls_pt_x (by omega), ls_ni d1 (show (ls_em k 7 0 (nI (T pos - 41)) (nI pos)).1 = k.1 + 1 from rfl)] at G0
      have hx : ls_xr 1 (f_tickLimit, f_tokenCount, nI oc, 0, f_errorPlace, f_lastKind, f_lastValue, f_codeSize, nI mc, nI mu, nI (88 + xs.length), nI as.length, nI (k.1 - d), nI tl, f_state, f_pos, f_expressionStart, f_pendingCount, f_frameTop, f_localCount, a_tokenCode, a_tokenValue, a_outKind, a_outValue, a_codeOp, a_codeArg, a_codeKind, a_codePlace, a_methodSign, a_methodStart, a_declared, a_cellKind, a_cellValue, a_callReturn, a_pendingLevel, a_pendingPlace, a_pendingMore, a_frameKind, a_frameMore, a_localName) (f_tickLimit, f_tokenCount, nI oc, 0, f_errorPlace, f_lastKind, f_lastValue, f_codeSize, nI mc, nI mu, nI (88 + x1.length), nI as.length, nI (k.1 - d + 1), nI tl, f_state, f_pos, f_expressionStart, f_pendingCount, f_frameTop, f_localCount, a_tokenCode, a_tokenValue, a_outKind, a_outValue, a_codeOp, a_codeArg, a_codeKind, a_codePlace, a_methodSign, a_methodStart, a_declared, a_cellKind, a_cellValue, a_callReturn, a_pendingLevel, a_pendingPlace, a_pendingMore, a_frameKind, a_frameMore, a_localName) := by
        rw [xl8]
        exact xr_of (fun post f s hs hh => gx_7 d2 hs op7 (hx_decide (d := 0) d2 ⟨by omega, by omega⟩ kd7 (by omega) a1 (by omega) a2 (fun g => absurd k0 g) (fun _ g => absurd (DV.mp g) dv) (fun _ _ => hh)))
      refine ls_G_go hx (yr_after B (fun post hp => YA post ?_)) G0 (by omega) (by omega)
      rw [yl] at hp ⊢
      refine hy_binary_d (lo := (C ta).2.1) (hi := (C tz).2.1) c34 aa os4 (by omega) t3 b1 (by omega) b2 UT lo' (fun g => absurd k0 g) (fun _ _ => ?_) (fun _ g => absurd g dv)
      rw [show pos + e + 1 = pos + 1 + e by omega]
      exact hp
  · have hx : ls_xr 1 (f_tickLimit, f_tokenCount, nI oc, 0, f_errorPlace, f_lastKind, f_lastValue, f_codeSize, nI mc, nI mu, nI (88 + xs.length), nI as.length, nI (k.1 - d), nI tl, f_state, f_pos, f_expressionStart, f_pendingCount, f_frameTop, f_localCount, a_tokenCode, a_tokenValue, a_outKind, a_outValue, a_codeOp, a_codeArg, a_codeKind, a_codePlace, a_methodSign, a_methodStart, a_declared, a_cellKind, a_cellValue, a_callReturn, a_pendingLevel, a_pendingPlace, a_pendingMore, a_frameKind, a_frameMore, a_localName) (f_tickLimit, f_tokenCount, nI oc, nI 3, nI pos, f_lastKind, f_lastValue, f_codeSize, nI mc, nI mu, nI (88 + x1.length), nI as.length, nI (k.1 - d + 1), nI tl, f_state, f_pos, f_expressionStart, f_pendingCount, f_frameTop, f_localCount, a_tokenCode, a_tokenValue, a_outKind, a_outValue, a_codeOp, a_codeArg, a_codeKind, a_codePlace, a_methodSign, a_methodStart, a_declared, a_cellKind, a_cellValue, a_callReturn, a_pendingLevel, a_pendingPlace, a_pendingMore, a_frameKind, a_frameMore, a_localName) := by
      rw [xl8]
      refine xr_of (fun post f s hs hh => gx_7 d2 hs op7 (hx_decide (d := 0) d2 ⟨by omega, by omega⟩ kd7 (by omega) a1 (by omega) a2 (fun _ => ?_) (fun g => absurd g k0) (fun g => absurd g k0)))
      rw [pl7]
      exact hh
    have hy : ls_yr 1 (nI mt, nI yn, nI (140 + mu), nI mc, nI (ls_sl Ls + L.length), nI (ls_sl Ls), nI ys.length, nI os.length, nI cs.length, nI (pos + e), nI 3, 0, f_errorPlace, nI (mt - tl), nI as.length, nI oc, f_lastKind, nI 0, f_lastValue, f_cnt, f_full, f_flag, f_need, a_tk, a_tv, a_tp, a_mName, a_mKind, a_mCount, a_mPar, a_mAt, a_vName, a_vDecl, a_vKind, a_vVal, a_sk, a_sv, a_oKind, a_oAt, a_oArgs, a_cKind, a_cA, a_cB, a_outK, a_outV) (nI mt, nI yn, nI (140 + mu), nI mc, nI (ls_sl Ls + L.length), nI (ls_sl Ls), nI ys.length, nI (os.length + 1), nI cs.length, nI (pos + e + 1), 2, nI 3, nI pos, nI (mt - tl), nI as.length, nI oc, f_lastKind, nI 0, f_lastValue, f_cnt, f_full, f_flag, f_need, a_tk, a_tv, a_tp, a_mName, a_mKind, a_mCount, a_mPar, a_mAt, a_vName, a_vDecl, a_vKind, a_vVal, a_sk, a_sv, upd a_oKind os.length (nI 7), upd a_oAt os.length (nI (pos + e)), upd a_oArgs os.length 0, a_cKind, a_cA, a_cB, a_outK, a_outV) := by
      refine yr_after B (fun post hp => YA post ?_)
      rw [yl] at hp ⊢
      refine hy_binary_d (lo := (C ta).2.1) (hi := (C tz).2.1) c34 aa os4 (by omega) t3 b1 (by omega) b2 UT lo' (fun _ => ?_) (fun g => absurd g k0) (fun g => absurd g k0)
      rw [t4]
      exact hp
    exact gs_err h ⟨by decide, by decide⟩ (by rw [← hF]; unfold ls_Phi; omega) (by rw [← hF]; unfold ls_Phi; omega) hx hy
set_option maxHeartbeats 200000 in
/-- a group's end -/
theorem gs_close {pl mo : Nat} (ih : ls_IH F) (h : ls_S yn mt tl oc mc mu ((T, V, C, kF, n, N, d, e, ta, tz)) t as ((5, pos, es, (1, pl, mo) :: pe, fr, L, k)) Ls xs ys os cs f_tickLimit a_outKind a_outValue a_codeOp a_codeArg a_codeKind a_codePlace a_methodSign a_methodStart a_declared a_cellKind a_cellValue a_callReturn a_tk a_tv a_tp a_mName a_mKind a_mCount a_mPar a_mAt a_vName a_vDecl a_vKind a_vVal a_sk a_sv a_oKind a_oAt a_oArgs a_cKind a_cA a_cB a_outK a_outV) (hF : ls_Phi tl as 5 fr N t = F) (h16 : T pos = 16) (hc : C (t + 1) = (5, pos + 1, es, pe, fr, L, k)) : ls_G F (f_tickLimit, f_tokenCount, nI oc, 0, f_errorPlace, f_lastKind, f_lastValue, f_codeSize, nI mc, nI mu, nI (88 + xs.length), nI as.length, nI (k.1 - d), nI tl, f_state, f_pos, f_expressionStart, f_pendingCount, f_frameTop, f_localCount, a_tokenCode, a_tokenValue, a_outKind, a_outValue, a_codeOp, a_codeArg, a_codeKind, a_codePlace, a_methodSign, a_methodStart, a_declared, a_cellKind, a_cellValue, a_callReturn, a_pendingLevel, a_pendingPlace, a_pendingMore, a_frameKind, a_frameMore, a_localName) (nI mt, nI yn, nI (140 + mu), nI mc, nI (ls_sl Ls + L.length), nI (ls_sl Ls), nI ys.length, nI os.length, nI cs.length, nI (pos + e), nI 3, 0, f_errorPlace, nI (mt - tl), nI as.length, nI oc, f_lastKind, nI 0, f_lastValue, f_cnt, f_full, f_flag, f_need, a_tk, a_tv, a_tp, a_mName, a_mKind, a_mCount, a_mPar, a_mAt, a_vName, a_vDecl, a_vKind, a_vVal, a_sk, a_sv, a_oKind, a_oAt, a_oArgs, a_cKind, a_cA, a_cB, a_outK, a_outV) := by
  have h' := h
  obtain ⟨hcu, hX, hY, hO, hE, hG, hV, hl, ho, hM⟩ := h'
  have U := hcu.1
  have tt := hcu.2.2.1
  have ec := hcu.2.2.2.1
  have T72 := ls_T5 U.1 (by have := U.2.2.1; omega) ec
  obtain ⟨lt, ltN, _, d1, d2, t1, t2, t3, t4, t5⟩ := ls_ac hcu (Or.inr rfl) T72
  have B := ls_Sb5 h t3
  have LB := ls_cu_len hcu
  have as8 := hl.2.2.2.1
  have cd := ls_cod U tt ec (Nat.le_refl _) (t' := t) ⟨Nat.le_refl _, tt.2⟩ ec (Nat.le_refl _)
  have lv := ls_lv_ge (T pos)
  obtain ⟨z, w, xr, yr, os', exs, eys, wl, eos, W34, WD, NX, _⟩ := ls_cu_red hcu
  have w0 : w = [] := List.eq_nil_of_length_eq_zero wl
  subst w0
  have exs' : xs = z :: xr := by rw [exs, if_neg (by show ¬ ((1 : Nat) = 3 ∨ (1 : Nat) = 4); omega)]; rfl
  have eys' : ys = z :: yr := eys
  have hO1 := hO
  rw [eos] at hO1
  obtain ⟨o1, o2, o3, _⟩ := hO1
  have ol : os.length = os'.length + 1 := by rw [eos, List.length_cons]
  have LE : ls_lv (T pos) = 2 := by rw [h16]; rfl
  refine gs_red (a := 0) (b := 1) (z' := z) (ck' := a_cellKind) (cv' := a_cellValue) (sk' := a_sk) (sv' := a_sv) ih h hF hc exs eys eos (NX a_declared _ _ _ (fun _ _ => rfl) hc) (by omega) (by omega) (fun _ _ => ⟨rfl, rfl⟩) (by rw [← exs']; exact hX) (by rw [← eys']; exact hY) ?_ ?_
  · rw [show 88 + xr.length + 1 = 88 + xs.length by rw [exs', List.length_cons]; omega]
    exact ls_xr_0
  · rw [show yr.length + 1 = ys.length by rw [eys', List.length_cons]]
    refine yr_after B (fun post hp => ?_)
    rw [ol]
    refine hy_after_n (kd := 2) (lq := 0) (q := pl + e) (g := 0) t3 t1 t2 (by omega) o1 ⟨by omega, by omega⟩ o2 (fun q => by omega) o3 (by omega) (Or.inl (by omega)) (fun q => by omega) (fun _ q => by omega) (fun _ _ => ?_) (fun _ q => by omega) (fun _ q => by omega)
    rw [show pos + e + 1 = pos + 1 + e by omega]
    exact hp
set_option maxHeartbeats 200000 in
/-- the next argument -/
theorem gs_comma {pl mo : Nat} (ih : ls_IH F) (h : ls_S yn mt tl oc mc mu ((T, V, C, kF, n, N, d, e, ta, tz)) t as ((5, pos, es, (0, pl, mo) :: pe, fr, L, k)) Ls xs ys os cs f_tickLimit a_outKind a_outValue a_codeOp a_codeArg a_codeKind a_codePlace a_methodSign a_methodStart a_declared a_cellKind a_cellValue a_callReturn a_tk a_tv a_tp a_mName a_mKind a_mCount a_mPar a_mAt a_vName a_vDecl a_vKind a_vVal a_sk a_sv a_oKind a_oAt a_oArgs a_cKind a_cA a_cB a_outK a_outV) (hF : ls_Phi tl as 5 fr N t = F) (h19 : T pos = 19) (hm : 1 ≤ mo ∧ mo ≤ 3) (hc : C (t + 1) = (4, pos + 1, es, (0, pl, mo + 1) :: pe, fr, L, k)) : ls_G F (f_tickLimit, f_tokenCount, nI oc, 0, f_errorPlace, f_lastKind, f_lastValue, f_codeSize, nI mc, nI mu, nI (88 + xs.length), nI as.length, nI (k.1 - d), nI tl, f_state, f_pos, f_expressionStart, f_pendingCount, f_frameTop, f_localCount, a_tokenCode, a_tokenValue, a_outKind, a_outValue, a_codeOp, a_codeArg, a_codeKind, a_codePlace, a_methodSign, a_methodStart, a_declared, a_cellKind, a_cellValue, a_callReturn, a_pendingLevel, a_pendingPlace, a_pendingMore, a_frameKind, a_frameMore, a_localName) (nI mt, nI yn, nI (140 + mu), nI mc, nI (ls_sl Ls + L.length), nI (ls_sl Ls), nI ys.length, nI os.length, nI cs.length, nI (pos + e), nI 3, 0, f_errorPlace, nI (mt - tl), nI as.length, nI oc, f_lastKind, nI 0, f_lastValue, f_cnt, f_full, f_flag, f_need, a_tk, a_tv, a_tp, a_mName, a_mKind, a_mCount, a_mPar, a_mAt, a_vName, a_vDecl, a_vKind, a_vVal, a_sk, a_sv, a_oKind, a_oAt, a_oArgs, a_cKind, a_cA, a_cB, a_outK, a_outV) := by
  have h' := h
  obtain ⟨hcu, hX, hY, hO, hE, hG, hV, hl, ho, hM⟩ := h'
  have U := hcu.1
  have tt := hcu.2.2.1
  have ec := hcu.2.2.2.1
  have T72 := ls_T5 U.1 (by have := U.2.2.1; omega) ec
  obtain ⟨lt, ltN, _, d1, d2, t1, t2, t3, t4, t5⟩ := ls_ac hcu (Or.inr rfl) T72
  have B := ls_Sb5 h t3
  have LB := ls_cu_len hcu
  have as8 := hl.2.2.2.1
  have cd := ls_cod U tt ec (Nat.le_refl _) (t' := t) ⟨Nat.le_refl _, tt.2⟩ ec (Nat.le_refl _)
  have lv := ls_lv_ge (T pos)
  obtain ⟨z, w, xr, yr, os', exs, eys, wl, eos, W34, WD, _, NC⟩ := ls_cu_red hcu
  have cu' := NC (pos + 1) k pl mo rfl hm.1 hc
  have hO1 := hO
  rw [eos] at hO1
  obtain ⟨o1, o2, o3, o4⟩ := hO1
  have ol : os.length = os'.length + 1 := by rw [eos, List.length_cons]
  have LE : ls_lv (T pos) = 2 := by rw [h19]; rfl
  have P := ls_Phi_lt (tl := tl) (as := as) (st := 5) (st' := 4) (fr := fr) (fr' := fr) (N := N) (t := t) (t' := t + 1) (by rw [ls_lo5_x (by omega), ls_lo5_x (by omega)]; exact Nat.le_refl _) (by omega) ltN
  have S' : ls_S yn mt tl oc mc mu ((T, V, C, kF, n, N, d, e, ta, tz)) (t + 1) as ((4, pos + 1, es, (0, pl, mo + 1) :: pe, fr, L, k)) Ls xs ys (ls_oe T e (0, pl, mo + 1) :: os') cs f_tickLimit a_outKind a_outValue a_codeOp a_codeArg a_codeKind a_codePlace a_methodSign a_methodStart a_declared a_cellKind a_cellValue a_callReturn a_tk a_tv a_tp a_mName a_mKind a_mCount a_mPar a_mAt a_vName a_vDecl a_vKind a_vVal a_sk a_sv a_oKind a_oAt (upd a_oArgs os'.length (nI (mo + 1))) a_cKind a_cA a_cB a_outK a_outV :=
    ⟨cu', hX, hY, ⟨o1, o2, pk_us, ls_StP_ag (fun j hj => ⟨rfl, rfl, pk_un (by omega)⟩) o4⟩, hE, hG, hV, hl, ho, hM⟩
  have G0 : ls_G (ls_Phi tl as 4 fr N (t + 1)) (f_tickLimit, f_tokenCount, nI oc, 0, f_errorPlace, f_lastKind, f_lastValue, f_codeSize, nI mc, nI mu, nI (88 + xs.length), nI as.length, nI (k.1 - d), nI tl, f_state, f_pos, f_expressionStart, f_pendingCount, f_frameTop, f_localCount, a_tokenCode, a_tokenValue, a_outKind, a_outValue, a_codeOp, a_codeArg, a_codeKind, a_codePlace, a_methodSign, a_methodStart, a_declared, a_cellKind, a_cellValue, a_callReturn, a_pendingLevel, a_pendingPlace, a_pendingMore, a_frameKind, a_frameMore, a_localName) (nI mt, nI yn, nI (140 + mu), nI mc, nI (ls_sl Ls + L.length), nI (ls_sl Ls), nI ys.length, nI (os'.length + 1), nI cs.length, nI (pos + 1 + e), nI (ls_md 4 ((0, pl, mo + 1) :: pe)), 0, f_errorPlace, nI (mt - tl), nI as.length, nI oc, f_lastKind, nI (ls_pt 4 fr), f_lastValue, f_cnt, f_full, f_flag, f_need, a_tk, a_tv, a_tp, a_mName, a_mKind, a_mCount, a_mPar, a_mAt, a_vName, a_vDecl, a_vKind, a_vVal, a_sk, a_sv, a_oKind, a_oAt, upd a_oArgs os'.length (nI (mo + 1)), a_cKind, a_cA, a_cB, a_outK, a_outV) := ih S' (by omega) (fun q => absurd q.1 (by decide))
  rw [show ls_md 4 ((0, pl, mo + 1) :: pe) = 1 from rfl, ls_pt_x (by omega)] at G0
  refine ls_G_go ls_xr_0 (yr_after B (fun post hp => ?_)) G0 (by omega) (by omega)
  rw [ol]
  refine hy_after_n (kd := 3) (lq := 0) (q := pl + e) (g := mo) t3 t1 t2 (by omega) o1 ⟨by omega, by omega⟩ o2 (fun q => by omega) o3 (by omega) (Or.inl (by omega)) (fun q => by omega) (fun _ q => by omega) (fun _ q => by omega) (fun _ _ _ => ?_) (fun _ _ q => absurd h19 q)
  rw [show pos + e + 1 = pos + 1 + e by omega]
  exact hp
end
