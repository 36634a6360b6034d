/-! Operands -/
section
variable {T : Nat → Nat} {V : Nat → Int32} {C : Nat → LsC} {kF : LsK} {n N d e ta tz : Nat} {yn : Nat} {cr mk D : Nat → Int32} {co ca ck cp tk : Nat → Int32} {tv : Nat → Int64} {tp : Nat → Int32}
variable {t st pos es : Nat} {pe : List LsP} {fr : List LsF} {L : List Nat} {k : LsK} {as : List LsA} {Ls : List (List Nat)} {xs ys : List LsV} {os cs : List LsP}
set_option maxHeartbeats 200000 in
/-- within an expression: the token, and the present instruction -/
theorem ls_ac (h : ls_cu yn cr mk D (ls_UA co ca ck cp tk tv tp) (T, V, C, kF, n, N, d, e, ta, tz) t as (st, pos, es, pe, fr, L, k) Ls xs ys os cs) (hs : st = 4 ∨ st = 5) (h72 : T pos ≠ 72) : t < tz ∧ t < N ∧ tz ≤ N ∧ d ≤ k.1 ∧ k.1 - d < 761 ∧ (tk (pos + e) = nI (T pos) ∧ T pos < 100 ∧ pos + e < 384 ∧ ls_pl tp (pos + e) = nI pos ∧ (70 ≤ T pos → tv (pos + e) = (V pos).toInt64)) := by
  obtain ⟨h1, h2, h3, h4, _⟩ := ls_cu_e h hs
  have U := h1
  obtain ⟨g1, g2, g3, _⟩ := h1
  have lt := ls_UK_lt h2 g3.2 g1 h3.2 h4 (by omega) (fun q => by omega)
  have dd := ls_d_le U h3 h4
  exact ⟨lt, by omega, g3.2, dd.1, dd.2, ls_tokp U h2 ⟨h3.1, lt⟩ h4 (Or.inl h72)⟩
set_option maxHeartbeats 200000 in
/-- the token behind an operand of one token -/
theorem ls_ac1 {pos' : Nat} {k' : LsK} (h : ls_cu yn cr mk D (ls_UA co ca ck cp tk tv tp) (T, V, C, kF, n, N, d, e, ta, tz) t as (4, pos, es, pe, fr, L, k) Ls xs ys os cs) (hc : C (t + 1) = (5, pos', es, pe, fr, L, k')) : tk (pos' + e) = nI (T pos') ∧ T pos' < 100 ∧ pos' + e < 384 := by
  have h' := ls_cu_opd (z := (0, 0)) h hc
  have lt := h'.2.2.1.2
  have g := h'.1.2.2.1.2
  have := ls_ac h' (Or.inr rfl) (ls_T5 h'.1.1 (by omega) hc)
  exact ⟨this.2.2.2.2.2.1, this.2.2.2.2.2.2.1, this.2.2.2.2.2.2.2.1⟩
set_option maxHeartbeats 200000 in
theorem ls_ni (h : d ≤ k.1) {k' : LsK} (e' : k'.1 = k.1 + 1) : nI (k'.1 - d) = nI (k.1 - d + 1) := by
  rw [e', show k.1 + 1 - d = k.1 - d + 1 by omega]
end
section
variable {f_tickLimit f_tokenCount f_outCount f_error f_errorPlace f_lastKind f_codeSize f_methodCount f_methodTokens f_cellCount f_activeCalls f_next f_ticksLeft f_state f_pos f_expressionStart f_pendingCount f_frameTop f_localCount : Int32}
variable {f_lastValue : Int64}
variable {a_tokenCode a_tokenValue a_outKind a_codeOp a_codeArg a_codeKind a_codePlace a_methodSign a_methodStart a_declared a_cellKind a_callReturn a_pendingLevel a_pendingPlace a_pendingMore a_frameKind a_frameMore a_localName : Nat → Int32}
variable {a_outValue a_cellValue : Nat → Int64}
variable {f_cnt f_full f_flag f_need : Int32}
variable {a_tk a_tp a_mName a_mKind a_mCount a_mPar a_mAt a_vName a_vDecl a_vKind a_sk a_oKind a_oAt a_oArgs a_cKind a_cA a_cB a_outK : Nat → Int32}
variable {a_tv a_vVal a_sv a_outV : Nat → Int64}
variable {yn mt tl oc mc mu : Nat} {T : Nat → Nat} {V : Nat → Int32} {C : Nat → LsC} {kF : LsK} {n N d e ta tz t : Nat} {as : List LsA} {st pos es : Nat} {pe : List LsP} {fr : List LsF} {L : List Nat} {k : LsK} {Ls : List (List Nat)} {xs ys : List LsV} {os cs : List LsP} {F : Nat}
set_option maxHeartbeats 200000 in
theorem ls_Sb (h : ls_S yn mt tl oc mc mu ((T, V, C, kF, n, N, d, e, ta, tz)) t as ((4, pos, es, pe, fr, L, k)) Ls xs ys os cs f_tickLimit a_outKind a_outValue a_codeOp a_codeArg a_codeKind a_codePlace a_methodSign a_methodStart a_declared a_cellKind a_cellValue a_callReturn a_tk a_tv a_tp a_mName a_mKind a_mCount a_mPar a_mAt a_vName a_vDecl a_vKind a_vVal a_sk a_sv a_oKind a_oAt a_oArgs a_cKind a_cA a_cB a_outK a_outV) (hp : pos + e < 384) : cs.length < 1000 ∧ pos + e < 1000 ∧ yn < 1000 := by
  obtain ⟨hcu, _, _, _, _, _, _, hl, _⟩ := h
  have B := ls_cu_len hcu
  have := hl.2.2.2.1
  have := hl.2.2.2.2
  exact ⟨by omega, by omega, by omega⟩
set_option maxHeartbeats 200000 in
/-- the reference looks whether an assignment begins: here none does -/
theorem gs_y4 (h : ls_S yn mt tl oc mc mu ((T, V, C, kF, n, N, d, e, ta, tz)) t as ((4, pos, es, pe, fr, L, k)) Ls xs ys os cs f_tickLimit a_outKind a_outValue a_codeOp a_codeArg a_codeKind a_codePlace a_methodSign a_methodStart a_declared a_cellKind a_cellValue a_callReturn a_tk a_tv a_tp a_mName a_mKind a_mCount a_mPar a_mAt a_vName a_vDecl a_vKind a_vVal a_sk a_sv a_oKind a_oAt a_oArgs a_cKind a_cA a_cB a_outK a_outV) (h72 : T pos ≠ 72) (hn : ls_nam (T pos) → a_tk (pos + 1 + e) = nI (T (pos + 1)) ∧ T (pos + 1) < 100 ∧ pos + 1 + e < 384 ∧ ¬ (ls_starts pe = true ∧ ls_asg (T (pos + 1)))) : ∃ b, b ≤ 1 ∧ ls_yr b (nI mt, nI yn, nI (140 + mu), nI mc, nI (ls_sl Ls + L.length), nI (ls_sl Ls), nI ys.length, nI os.length, nI cs.length, nI (pos + e), nI (ls_md 4 pe), 0, f_errorPlace, nI (mt - tl), nI as.length, nI oc, f_lastKind, nI 0, f_lastValue, f_cnt, f_full, f_flag, f_need, a_tk, a_tv, a_tp, a_mName, a_mKind, a_mCount, a_mPar, a_mAt, a_vName, a_vDecl, a_vKind, a_vVal, a_sk, a_sv, a_oKind, a_oAt, a_oArgs, a_cKind, a_cA, a_cB, a_outK, a_outV) (nI mt, nI yn, nI (140 + mu), nI mc, nI (ls_sl Ls + L.length), nI (ls_sl Ls), nI ys.length, nI os.length, nI cs.length, nI (pos + e), nI 2, 0, f_errorPlace, nI (mt - tl), nI as.length, nI oc, f_lastKind, nI 0, f_lastValue, f_cnt, f_full, f_flag, f_need, a_tk, a_tv, a_tp, a_mName, a_mKind, a_mCount, a_mPar, a_mAt, a_vName, a_vDecl, a_vKind, a_vVal, a_sk, a_sv, a_oKind, a_oAt, a_oArgs, a_cKind, a_cA, a_cB, a_outK, a_outV) := by
  have A := ls_ac h.1 (Or.inl rfl) h72
  obtain ⟨_, _, _, _, _, t1, t2, t3, _⟩ := A
  have B := ls_Sb h t3
  by_cases s : ls_starts pe = true
  · have e1 : ls_md 4 pe = 1 := by
      unfold ls_md
      rw [if_pos rfl, if_pos s]
    rw [e1]
    refine ⟨1, Nat.le_refl _, yr_expr B (fun post hp => ?_)⟩
    by_cases nm : ls_nam (T pos)
    · obtain ⟨u1, u2, u3, u4⟩ := hn nm
      rw [show pos + 1 + e = pos + e + 1 by omega] at u1 u3
      exact hy_expr_1 u3 t1 t2 nm u1 u2 (fun q => u4 ⟨s, q⟩) hp
    · exact hy_expr_0 t3 t1 t2 nm hp
  · have e1 : ls_md 4 pe = 2 := by
      unfold ls_md
      rw [if_pos rfl, if_neg s]
    rw [e1]
    exact ⟨0, by omega, ls_yr_0⟩
set_option maxHeartbeats 200000 in
/-- numbers and words -/
theorem gs_lit {kd : Nat} {x : Int64} {ag : Int32} (ih : ls_IH F) (h : ls_S yn mt tl oc mc mu ((T, V, C, kF, n, N, d, e, ta, tz)) t as ((4, pos, es, pe, fr, L, k)) Ls xs ys os cs f_tickLimit a_outKind a_outValue a_codeOp a_codeArg a_codeKind a_codePlace a_methodSign a_methodStart a_declared a_cellKind a_cellValue a_callReturn a_tk a_tv a_tp a_mName a_mKind a_mCount a_mPar a_mAt a_vName a_vDecl a_vKind a_vVal a_sk a_sv a_oKind a_oAt a_oArgs a_cKind a_cA a_cB a_outK a_outV) (hF : ls_Phi tl as 4 fr N t = F) (hT : (T pos = 70 ∧ kd = 3) ∨ (T pos = 71 ∧ kd = 4) ∨ (T pos = 13 ∧ kd = 0) ∨ (T pos = 14 ∧ kd = 0)) (hx0 : x = (if T pos = 13 then 1 else if T pos = 14 then 0 else (V pos).toInt64)) (hag : ag.toInt64 = x) (hc : C (t + 1) = (5, pos + 1, es, pe, fr, L, ls_em k 2 ag (nI kd) (nI pos))) : ls_G F (f_tickLimit, f_tokenCount, nI oc, 0, f_errorPlace, f_lastKind, f_lastValue, f_codeSize, nI mc, nI mu, nI (88 + xs.length), nI as.length, nI (k.1 - d), nI tl, f_state, f_pos, f_expressionStart, f_pendingCount, f_frameTop, f_localCount, a_tokenCode, a_tokenValue, a_outKind, a_outValue, a_codeOp, a_codeArg, a_codeKind, a_codePlace, a_methodSign, a_methodStart, a_declared, a_cellKind, a_cellValue, a_callReturn, a_pendingLevel, a_pendingPlace, a_pendingMore, a_frameKind, a_frameMore, a_localName) (nI mt, nI yn, nI (140 + mu), nI mc, nI (ls_sl Ls + L.length), nI (ls_sl Ls), nI ys.length, nI os.length, nI cs.length, nI (pos + e), nI (ls_md 4 pe), 0, f_errorPlace, nI (mt - tl), nI as.length, nI oc, f_lastKind, nI 0, f_lastValue, f_cnt, f_full, f_flag, f_need, a_tk, a_tv, a_tp, a_mName, a_mKind, a_mCount, a_mPar, a_mAt, a_vName, a_vDecl, a_vKind, a_vVal, a_sk, a_sv, a_oKind, a_oAt, a_oArgs, a_cKind, a_cA, a_cB, a_outK, a_outV) := by
  have A := ls_ac h.1 (Or.inl rfl) (by omega)
  obtain ⟨lt, ltN, _, d1, d2, t1, t2, t3, t4, t5⟩ := A
  have B := ls_Sb h t3
  obtain ⟨b, b1, yr1⟩ := gs_y4 h (by omega) (fun q => by have := q.1; omega)
  have U := h.1.1
  have tt := h.1.2.2.1
  have ec := h.1.2.2.2.1
  have kk := ls_fem U.1 (by omega) hc (by decide) (by decide) (by decide) (by decide)
  have cd := ls_cod U tt ec (Nat.le_refl _) (t' := t) ⟨Nat.le_refl _, tt.2⟩ ec (Nat.le_refl _)
  have kd4 : kd ≤ 4 := by omega
  have hw : ls_wf kd x := by
    refine ⟨kd4, fun q => ?_, fun q => ?_⟩
    · rw [hx0]
      rcases hT with g | g | g | g
      · omega
      · omega
      · right; rw [if_pos g.1]
      · left; rw [if_neg (by omega), if_pos g.1]
    · rw [← hag, ls_i3264]
  refine gs_opd (a := 1) (b := b + 1) (z := (kd, x)) ih h hF hc hw (by omega) (by omega) (fun hb => ?_) (fun hb => ?_)
  · rw [ls_ni d1 (show (ls_em k 2 ag (nI kd) (nI pos)).1 = k.1 + 1 from rfl)]
    refine xr_of (fun post f s hs hh => gx_2 d2 hs (cd.2.2.1.trans kk.1) ?_)
    rw [cd.2.2.2.2.1, kk.2.2.1, cd.2.2.2.1, kk.2.1, hag]
    exact hx_push hb hh
  · refine ls_yr_t yr1 (yr_value B (fun post hp => ?_))
    rcases hT with g | g | g | g
    · refine hy_value_n t3 hb t1 (by omega) ?_
      rw [show T pos - 67 = kd by omega, t5 (by omega)]
      rw [if_neg (by omega), if_neg (by omega)] at hx0
      rw [← hx0, show pos + e + 1 = pos + 1 + e by omega]
      exact hp
    · refine hy_value_n t3 hb t1 (by omega) ?_
      rw [show T pos - 67 = kd by omega, t5 (by omega)]
      rw [if_neg (by omega), if_neg (by omega)] at hx0
      rw [← hx0, show pos + e + 1 = pos + 1 + e by omega]
      exact hp
    · refine hy_value_b t3 hb t1 (by omega) ?_
      rw [if_pos g.1] at hx0 ⊢
      rw [← hx0, show pos + e + 1 = pos + 1 + e by omega]
      obtain ⟨_, rfl⟩ := g
      exact hp
    · refine hy_value_b t3 hb t1 (by omega) ?_
      rw [if_neg (show ¬ T pos = 13 by omega)]
      rw [if_neg (by omega), if_pos g.1] at hx0
      rw [← hx0, show pos + e + 1 = pos + 1 + e by omega]
      obtain ⟨_, rfl⟩ := g
      exact hp
end
section
variable {f_tickLimit f_tokenCount f_outCount f_error f_errorPlace f_lastKind f_codeSize f_methodCount f_methodTokens f_cellCount f_activeCalls f_next f_ticksLeft f_state f_pos f_expressionStart f_pendingCount f_frameTop f_localCount : Int32}
variable {f_lastValue : Int64}
variable {a_tokenCode a_tokenValue a_outKind a_codeOp a_codeArg a_codeKind a_codePlace a_methodSign a_methodStart a_declared a_cellKind a_callReturn a_pendingLevel a_pendingPlace a_pendingMore a_frameKind a_frameMore a_localName : Nat → Int32}
variable {a_outValue a_cellValue : Nat → Int64}
variable {f_nEnv f_base f_ns f_no f_nc f_pc f_mode f_ticks f_calls f_part f_cnt f_full f_flag f_need : Int32}
variable {a_tk a_tp a_mName a_mKind a_mCount a_mPar a_mAt a_vName a_vDecl a_vKind a_sk a_oKind a_oAt a_oArgs a_cKind a_cA a_cB a_outK : Nat → Int32}
variable {a_tv a_vVal a_sv a_outV : Nat → Int64}
variable {yn mt tl oc mc mu : Nat} {T : Nat → Nat} {V : Nat → Int32} {C : Nat → LsC} {kF : LsK} {n N d e ta tz t : Nat} {as : List LsA} {c : LsC} {Ls : List (List Nat)} {xs ys : List LsV} {os cs : List LsP} {F a b er : Nat} {u : SX} {v : SY} {pl : Int32} {vn sk0 ok0 oa0 og0 ck0 ca0 cb0 cr0 : Nat → Int32} {sv0 : Nat → Int64}
set_option maxHeartbeats 200000 in
/-- both stop -/
theorem gs_err (h : ls_S yn mt tl oc mc mu ((T, V, C, kF, n, N, d, e, ta, tz)) t as c Ls xs ys os cs f_tickLimit a_outKind a_outValue a_codeOp a_codeArg a_codeKind a_codePlace a_methodSign a_methodStart a_declared a_cellKind a_cellValue cr0 a_tk a_tv a_tp a_mName a_mKind a_mCount a_mPar a_mAt vn a_vDecl a_vKind a_vVal sk0 sv0 ok0 oa0 og0 ck0 ca0 cb0 a_outK a_outV) (her : er ≠ 0 ∧ er < 10) (h1 : 1 + a ≤ F) (h2 : 1 + b ≤ F) (hx : ls_xr a u (f_tickLimit, f_tokenCount, nI oc, nI er, pl, f_lastKind, f_lastValue, f_codeSize, nI mc, nI mu, f_cellCount, f_activeCalls, f_next, f_ticksLeft, f_state, f_pos, f_expressionStart, f_pendingCount, f_frameTop, f_localCount, a_tokenCode, a_tokenValue, a_outKind, a_outValue, a_codeOp, a_codeArg, a_codeKind, a_codePlace, a_methodSign, a_methodStart, a_declared, a_cellKind, a_cellValue, a_callReturn, a_pendingLevel, a_pendingPlace, a_pendingMore, a_frameKind, a_frameMore, a_localName)) (hy : ls_yr b v (nI mt, nI yn, nI (140 + mu), nI mc, f_nEnv, f_base, f_ns, f_no, f_nc, f_pc, f_mode, nI er, pl, f_ticks, f_calls, nI oc, f_lastKind, f_part, f_lastValue, f_cnt, f_full, f_flag, f_need, a_tk, a_tv, a_tp, a_mName, a_mKind, a_mCount, a_mPar, a_mAt, a_vName, a_vDecl, a_vKind, a_vVal, a_sk, a_sv, a_oKind, a_oAt, a_oArgs, a_cKind, a_cA, a_cB, a_outK, a_outV)) : ls_G F u v := by
  obtain ⟨hcu, hX, hY, hO, hE, hG, hV, hl, ho, hM⟩ := h
  rw [← hl.1] at hy
  exact ls_G_go hx hy (ls_G_err hl.2.2.1 hl.1 her ho hG hM) h1 h2
set_option maxHeartbeats 200000 in
/-- both stop, and the reference's operands are of no account -/
theorem gs_err2 (h : ls_S yn mt tl oc mc mu ((T, V, C, kF, n, N, d, e, ta, tz)) t as c Ls xs ys os cs f_tickLimit a_outKind a_outValue a_codeOp a_codeArg a_codeKind a_codePlace a_methodSign a_methodStart a_declared a_cellKind a_cellValue cr0 a_tk a_tv a_tp a_mName a_mKind a_mCount a_mPar a_mAt vn a_vDecl a_vKind a_vVal sk0 sv0 ok0 oa0 og0 ck0 ca0 cb0 a_outK a_outV) (her : er ≠ 0 ∧ er < 10) (h1 : 1 + a ≤ F) (h2 : 1 + b ≤ F) (hx : ls_xr a u (f_tickLimit, f_tokenCount, nI oc, nI er, pl, f_lastKind, f_lastValue, f_codeSize, nI mc, nI mu, f_cellCount, f_activeCalls, f_next, f_ticksLeft, f_state, f_pos, f_expressionStart, f_pendingCount, f_frameTop, f_localCount, a_tokenCode, a_tokenValue, a_outKind, a_outValue, a_codeOp, a_codeArg, a_codeKind, a_codePlace, a_methodSign, a_methodStart, a_declared, a_cellKind, a_cellValue, a_callReturn, a_pendingLevel, a_pendingPlace, a_pendingMore, a_frameKind, a_frameMore, a_localName)) (hy : ∀ post f s, s + b ≤ 2000000 → (∀ (sk' : Nat → Int32) (sv' : Nat → Int64), ls_YH post f (s + b) (nI mt, nI yn, nI (140 + mu), nI mc, f_nEnv, f_base, f_ns, f_no, f_nc, f_pc, f_mode, nI er, pl, f_ticks, f_calls, nI oc, f_lastKind, f_part, f_lastValue, f_cnt, f_full, f_flag, f_need, a_tk, a_tv, a_tp, a_mName, a_mKind, a_mCount, a_mPar, a_mAt, a_vName, a_vDecl, a_vKind, a_vVal, sk', sv', a_oKind, a_oAt, a_oArgs, a_cKind, a_cA, a_cB, a_outK, a_outV)) → ls_YH post (f + b) s v) : ls_G F u v := by
  obtain ⟨hcu, hX, hY, hO, hE, hG, hV, hl, ho, hM⟩ := h
  rw [← hl.1] at hy
  have ne : nI er ≠ 0 := fun q => her.1 ((ls_k8 (b := 0) (by omega) (by decide)).mp q)
  refine ⟨(f_tickLimit, f_tokenCount, nI oc, nI er, pl, f_lastKind, f_lastValue, f_codeSize, nI mc, nI mu, f_cellCount, f_activeCalls, f_next, f_ticksLeft, f_state, f_pos, f_expressionStart, f_pendingCount, f_frameTop, f_localCount, a_tokenCode, a_tokenValue, a_outKind, a_outValue, a_codeOp, a_codeArg, a_codeKind, a_codePlace, a_methodSign, a_methodStart, a_declared, a_cellKind, a_cellValue, a_callReturn, a_pendingLevel, a_pendingPlace, a_pendingMore, a_frameKind, a_frameMore, a_localName), fun post f s hf hs hp => ?_, fun post f s hf hs hp => ?_⟩
  · have := hx post (f - a) s (by omega) (by
      obtain ⟨f', e'⟩ : ∃ f', f - a = f' + 1 := ⟨f - a - 1, by omega⟩
      rw [e']
      exact ls_XH_end (ls_gn_e ne) hp)
    rw [show f - a + a = f by omega] at this
    exact this
  · have := hy post (f - b) s (by omega) (fun sk' sv' => by
      obtain ⟨f', e'⟩ : ∃ f', f - b = f' + 1 := ⟨f - b - 1, by omega⟩
      rw [e']
      exact gy_err ne (hp _ ⟨oc, er, mc, mu, yn, ⟨rfl, mt, hl.2.2.1, hl.1⟩, rfl, rfl, her.2, rfl, ⟨ho.1, rfl, rfl, ho.2⟩, rfl, rfl, rfl, rfl, rfl, rfl, rfl, hG, hM⟩))
    rw [show f - b + b = f by omega] at this
    exact this
end
