/-! Operators whose operands are there -/
section
variable {dc ck ck' : Nat → Int32} {cv cv' : Nat → Int64} {vd vk : Nat → Int32} {vv : Nat → Int64} {vN : Nat → Int32} {Ls : List (List Nat)}
set_option maxHeartbeats 200000 in
theorem ls_sm_k {c p : Nat} (h : ck' c = ck c ∧ cv' c = cv c) (g : ls_sm dc ck cv vd vk vv c p) : ls_sm dc ck' cv' vd vk vv c p := by
  obtain ⟨d, k, h1, h2, h3, h4, h5, h6, h7, h8, h9⟩ := g
  exact ⟨d, k, h1, h2, h3, h.1.trans h4, h5, h6, h7.trans h.2.symm, by rw [h.2]; exact h8, h9⟩
set_option maxHeartbeats 200000 in
theorem ls_gl_k (h : ∀ c, c < 88 → ck' c = ck c ∧ cv' c = cv c) (hG : ls_gl dc ck cv vd vk vv) : ls_gl dc ck' cv' vd vk vv := by
  intro i hi
  rcases hG i hi with g | g
  · exact Or.inl (ls_sm_k (h i (by omega)) g)
  · exact Or.inr g
set_option maxHeartbeats 200000 in
theorem ls_lev_k (h : ∀ c, c < 88 → ck' c = ck c ∧ cv' c = cv c) (hl : Ls.length ≤ 9) (h8 : ∀ M ∈ Ls, M.length ≤ 8) (hV : ls_lev (ls_sm dc ck cv vd vk vv) vN Ls) : ls_lev (ls_sm dc ck' cv' vd vk vv) vN Ls :=
  ls_lev_mono (fun c p hc h16 hp g => ls_sm_k (h c (by omega)) g) h8 (fun _ _ => rfl) hV
set_option maxHeartbeats 200000 in
theorem ls_stk_ag {a a' : Nat → Int32} {b b' : Nat → Int64} {o : Nat} : ∀ {xs : List LsV}, (∀ j, o ≤ j → j < o + xs.length → a' j = a j ∧ b' j = b j) → ls_stk a b o xs → ls_stk a' b' o xs
  | [], _, _ => trivial
  | z :: r, h, ⟨h1, h2, h3, h4⟩ => by
    rw [List.length_cons] at h
    obtain ⟨g1, g2⟩ := h (o + r.length) (by omega) (by omega)
    exact ⟨g1.trans h1, g2.trans h2, h3, ls_stk_ag (fun j hj hj2 => h j hj (by omega)) h4⟩
end
section
variable {T : Nat → Nat} {V : Nat → Int32} {C : Nat → LsC} {kF : LsK} {n N d e ta tz : Nat} {yn : Nat} {cr mk D : Nat → Int32} {co ca ck cp tk : Nat → Int32} {tv : Nat → Int64} {tp : Nat → Int32}
variable {t st pos es p : Nat} {pe : List LsP} {fr : List LsF} {L : List Nat} {k : LsK} {as : List LsA} {Ls : List (List Nat)} {xs ys : List LsV} {os cs : List LsP}
set_option maxHeartbeats 200000 in
theorem ls_toke2 (h : ls_UA co ca ck cp tk tv tp (T, V, C, kF, n, N, d, e, ta, tz)) (h3 : ta ≤ t ∧ t ≤ tz) (ec : C t = (st, pos, es, pe, fr, L, k)) (hs : st = 4 ∨ st = 5) (h1 : es ≤ p) (h2 : p < pos) : tk (p + e) = nI (T p) ∧ T p < 100 ∧ p + e < 384 ∧ ls_pl tp (p + e) = nI p := by
  have U := h
  obtain ⟨g1, g2, g3, _⟩ := h
  obtain ⟨s, k0, o1, o2, o3, o4, o5, o6⟩ := ls_org g1 (ta := ta) (by rw [g2.2]; decide) t h3.1 (by omega) (by rw [ec]; exact hs)
  have lo := ls_pos_le g1 (show ta ≤ s + 1 by omega) (show s + 1 ≤ N by omega)
  have hi := ls_pos_le g1 h3.2 g3.2
  rw [ec] at hi o3
  rw [o3] at lo
  have := ls_tok1 U (Nat.le_trans lo h1) (Nat.lt_of_lt_of_le h2 hi)
  exact ⟨this.1, this.2.1, this.2.2.1, this.2.2.2.1⟩
set_option maxHeartbeats 200000 in
/-- a pending operator's own places -/
theorem ls_pgx (h : ls_cu yn cr mk D (ls_UA co ca ck cp tk tv tp) (T, V, C, kF, n, N, d, e, ta, tz) t as (st, pos, es, pe, fr, L, k) Ls xs ys os cs) (hs : st = 4 ∨ st = 5) {x : LsP} (hx : x ∈ pe) : es ≤ x.2.1 ∧ (x.1 = 2 → es + 1 ≤ x.2.1) ∧ x.1 < 14 ∧ x.2.1 < pos ∧ (x.1 = 0 → ls_nam (T x.2.1) ∧ x.2.2 ≤ 3) ∧ (x.1 = 2 → ls_asg (T x.2.1)) ∧ (x.1 = 13 → T x.2.1 = 15 ∨ (22 ≤ T x.2.1 ∧ T x.2.1 ≤ 25)) ∧ (2 < x.1 → x.1 ≠ 13 → ls_lv (T x.2.1) = x.1) ∧ es ≤ pos := by
  have U := h.1
  have tt : ta ≤ t ∧ t ≤ tz := h.2.2.1
  have ec : C t = (st, pos, es, pe, fr, L, k) := h.2.2.2.1
  obtain ⟨g1, g2, g3, _⟩ := U
  have P := ls_pgt g1 (ta := ta) (by rw [g2.2]; decide) t tt.1 (by omega) (by rw [ec]; exact hs)
  rw [ec] at P
  have hI := (g1.2.2.2.2 t (by omega)).2.1
  rw [ec] at hI
  obtain ⟨_, _, _, _, _, i6, i7⟩ := hI
  rw [if_pos hs] at i7
  obtain ⟨p1, p2⟩ := P x hx
  obtain ⟨q1, q2, q3, q4, q5, q6, q7, q8⟩ := i6 x hx
  exact ⟨p1, p2, q1, q2, q4, q5, q6, q7, i7.2.1⟩
end
section
variable {f_tickLimit f_tokenCount f_outCount f_error f_errorPlace f_lastKind f_codeSize f_methodCount f_methodTokens f_cellCount f_activeCalls f_next f_ticksLeft f_state f_pos f_expressionStart f_pendingCount f_frameTop f_localCount : Int32}
variable {f_lastValue : Int64}
variable {a_tokenCode a_tokenValue a_outKind a_codeOp a_codeArg a_codeKind a_codePlace a_methodSign a_methodStart a_declared a_cellKind a_callReturn a_pendingLevel a_pendingPlace a_pendingMore a_frameKind a_frameMore a_localName : Nat → Int32}
variable {a_outValue a_cellValue : Nat → Int64}
variable {f_cnt f_full f_flag f_need : Int32}
variable {a_tk a_tp a_mName a_mKind a_mCount a_mPar a_mAt a_vName a_vDecl a_vKind a_sk a_oKind a_oAt a_oArgs a_cKind a_cA a_cB a_outK : Nat → Int32}
variable {a_tv a_vVal a_sv a_outV : Nat → Int64}
variable {yn mt tl oc mc mu : Nat} {T : Nat → Nat} {V : Nat → Int32} {C : Nat → LsC} {kF : LsK} {n N d e ta tz t : Nat} {as : List LsA} {st pos es : Nat} {pe : List LsP} {fr : List LsF} {L : List Nat} {k : LsK} {Ls : List (List Nat)} {xs ys : List LsV} {os cs : List LsP} {F : Nat}
set_option maxHeartbeats 200000 in
theorem ls_Sb5 (h : ls_S yn mt tl oc mc mu ((T, V, C, kF, n, N, d, e, ta, tz)) t as ((st, pos, es, pe, fr, L, k)) Ls xs ys os cs f_tickLimit a_outKind a_outValue a_codeOp a_codeArg a_codeKind a_codePlace a_methodSign a_methodStart a_declared a_cellKind a_cellValue a_callReturn a_tk a_tv a_tp a_mName a_mKind a_mCount a_mPar a_mAt a_vName a_vDecl a_vKind a_vVal a_sk a_sv a_oKind a_oAt a_oArgs a_cKind a_cA a_cB a_outK a_outV) (hp : pos + e < 384) : cs.length < 1000 ∧ pos + e < 1000 ∧ yn < 1000 := by
  obtain ⟨hcu, _, _, _, _, _, _, hl, _⟩ := h
  have B := ls_cu_len hcu
  have := hl.2.2.2.1
  have := hl.2.2.2.2
  exact ⟨by omega, by omega, by omega⟩
set_option maxHeartbeats 200000 in
/-- an operator is done: its operands are one -/
theorem gs_red {pos' a b : Nat} {k' : LsK} {e' : LsP} {z z' : LsV} {w xr yr : List LsV} {os' : List LsP} {ck' sk' : Nat → Int32} {cv' sv' : Nat → Int64} (ih : ls_IH F) (h : ls_S yn mt tl oc mc mu ((T, V, C, kF, n, N, d, e, ta, tz)) t as ((5, pos, es, e' :: pe, fr, L, k)) Ls xs ys os cs f_tickLimit a_outKind a_outValue a_codeOp a_codeArg a_codeKind a_codePlace a_methodSign a_methodStart a_declared a_cellKind a_cellValue a_callReturn a_tk a_tv a_tp a_mName a_mKind a_mCount a_mPar a_mAt a_vName a_vDecl a_vKind a_vVal a_sk a_sv a_oKind a_oAt a_oArgs a_cKind a_cA a_cB a_outK a_outV) (hF : ls_Phi tl as 5 fr N t = F) (hc : C (t + 1) = (5, pos', es, pe, fr, L, k')) (exs : xs = z :: (if e'.1 = 3 ∨ e'.1 = 4 then xr else w ++ xr)) (eys : ys = z :: (w ++ yr)) (eos : os = ls_oe T e e' :: os') (hcu' : ls_cu yn a_callReturn a_mKind a_declared (ls_UA a_codeOp a_codeArg a_codeKind a_codePlace a_tk a_tv a_tp) (T, V, C, kF, n, N, d, e, ta, tz) (t + 1) as (5, pos', es, pe, fr, L, k') Ls (z' :: xr) (z' :: yr) os' cs) (ha : a ≤ 2) (hb : b ≤ 2)
    (h88 : ∀ c, c < 88 → ck' c = a_cellKind c ∧ cv' c = a_cellValue c) (hX' : ls_stk ck' cv' 88 (z' :: xr)) (hY' : ls_stk sk' sv' 0 (z' :: yr))
    (hx : ls_xr a (f_tickLimit, f_tokenCount, nI oc, 0, f_errorPlace, f_lastKind, f_lastValue, f_codeSize, nI mc, nI mu, nI (88 + xs.length), nI as.length, nI (k.1 - d), nI tl, f_state, f_pos, f_expressionStart, f_pendingCount, f_frameTop, f_localCount, a_tokenCode, a_tokenValue, a_outKind, a_outValue, a_codeOp, a_codeArg, a_codeKind, a_codePlace, a_methodSign, a_methodStart, a_declared, a_cellKind, a_cellValue, a_callReturn, a_pendingLevel, a_pendingPlace, a_pendingMore, a_frameKind, a_frameMore, a_localName) (f_tickLimit, f_tokenCount, nI oc, 0, f_errorPlace, f_lastKind, f_lastValue, f_codeSize, nI mc, nI mu, nI (88 + xr.length + 1), nI as.length, nI (k'.1 - d), nI tl, f_state, f_pos, f_expressionStart, f_pendingCount, f_frameTop, f_localCount, a_tokenCode, a_tokenValue, a_outKind, a_outValue, a_codeOp, a_codeArg, a_codeKind, a_codePlace, a_methodSign, a_methodStart, a_declared, ck', cv', a_callReturn, a_pendingLevel, a_pendingPlace, a_pendingMore, a_frameKind, a_frameMore, a_localName))
    (hy : ls_yr b (nI mt, nI yn, nI (140 + mu), nI mc, nI (ls_sl Ls + L.length), nI (ls_sl Ls), nI ys.length, nI os.length, nI cs.length, nI (pos + e), nI 3, 0, f_errorPlace, nI (mt - tl), nI as.length, nI oc, f_lastKind, nI 0, f_lastValue, f_cnt, f_full, f_flag, f_need, a_tk, a_tv, a_tp, a_mName, a_mKind, a_mCount, a_mPar, a_mAt, a_vName, a_vDecl, a_vKind, a_vVal, a_sk, a_sv, a_oKind, a_oAt, a_oArgs, a_cKind, a_cA, a_cB, a_outK, a_outV) (nI mt, nI yn, nI (140 + mu), nI mc, nI (ls_sl Ls + L.length), nI (ls_sl Ls), nI (yr.length + 1), nI os'.length, nI cs.length, nI (pos' + e), nI 3, 0, f_errorPlace, nI (mt - tl), nI as.length, nI oc, f_lastKind, nI 0, f_lastValue, f_cnt, f_full, f_flag, f_need, a_tk, a_tv, a_tp, a_mName, a_mKind, a_mCount, a_mPar, a_mAt, a_vName, a_vDecl, a_vKind, a_vVal, sk', sv', a_oKind, a_oAt, a_oArgs, a_cKind, a_cA, a_cB, a_outK, a_outV)) : ls_G F (f_tickLimit, f_tokenCount, nI oc, 0, f_errorPlace, f_lastKind, f_lastValue, f_codeSize, nI mc, nI mu, nI (88 + xs.length), nI as.length, nI (k.1 - d), nI tl, f_state, f_pos, f_expressionStart, f_pendingCount, f_frameTop, f_localCount, a_tokenCode, a_tokenValue, a_outKind, a_outValue, a_codeOp, a_codeArg, a_codeKind, a_codePlace, a_methodSign, a_methodStart, a_declared, a_cellKind, a_cellValue, a_callReturn, a_pendingLevel, a_pendingPlace, a_pendingMore, a_frameKind, a_frameMore, a_localName) (nI mt, nI yn, nI (140 + mu), nI mc, nI (ls_sl Ls + L.length), nI (ls_sl Ls), nI ys.length, nI os.length, nI cs.length, nI (pos + e), nI 3, 0, f_errorPlace, nI (mt - tl), nI as.length, nI oc, f_lastKind, nI 0, f_lastValue, f_cnt, f_full, f_flag, f_need, a_tk, a_tv, a_tp, a_mName, a_mKind, a_mCount, a_mPar, a_mAt, a_vName, a_vDecl, a_vKind, a_vVal, a_sk, a_sv, a_oKind, a_oAt, a_oArgs, a_cKind, a_cA, a_cB, a_outK, a_outV) := by
  obtain ⟨hcu, hX, hY, hO, hE, hG, hV, hl, ho, hM⟩ := h
  have lt := (ls_tl5 hcu.1.1 (by have := hcu.2.2.1; have := hcu.1.2.2.1; omega) hcu.2.2.2.1).1
  have LB := ls_cu_len hcu
  have as8 := hl.2.2.2.1
  have P := ls_Phi_lt (tl := tl) (as := as) (st := 5) (st' := 5) (fr := fr) (fr' := fr) (N := N) (t := t) (t' := t + 1) (Nat.le_refl _) (by omega) lt
  have hO' : ls_StP a_oKind a_oAt a_oArgs os' := by
    rw [eos] at hO
    exact hO.2.2.2
  have S' : ls_S yn mt tl oc mc mu ((T, V, C, kF, n, N, d, e, ta, tz)) (t + 1) as ((5, pos', es, pe, fr, L, k')) Ls (z' :: xr) (z' :: yr) os' cs f_tickLimit a_outKind a_outValue a_codeOp a_codeArg a_codeKind a_codePlace a_methodSign a_methodStart a_declared ck' cv' a_callReturn a_tk a_tv a_tp a_mName a_mKind a_mCount a_mPar a_mAt a_vName a_vDecl a_vKind a_vVal sk' sv' a_oKind a_oAt a_oArgs a_cKind a_cA a_cB a_outK a_outV :=
    ⟨hcu', hX', hY', hO', hE, ls_gl_k h88 hG, ls_lev_k h88 (by rw [List.length_cons]; omega) (ls_cu_l8 hcu) hV, hl, ho, hM⟩
  have G0 : ls_G (ls_Phi tl as 5 fr N (t + 1)) (f_tickLimit, f_tokenCount, nI oc, 0, f_errorPlace, f_lastKind, f_lastValue, f_codeSize, nI mc, nI mu, nI (88 + xr.length + 1), nI as.length, nI (k'.1 - d), nI tl, f_state, f_pos, f_expressionStart, f_pendingCount, f_frameTop, f_localCount, a_tokenCode, a_tokenValue, a_outKind, a_outValue, a_codeOp, a_codeArg, a_codeKind, a_codePlace, a_methodSign, a_methodStart, a_declared, ck', cv', a_callReturn, a_pendingLevel, a_pendingPlace, a_pendingMore, a_frameKind, a_frameMore, a_localName) (nI mt, nI yn, nI (140 + mu), nI mc, nI (ls_sl Ls + L.length), nI (ls_sl Ls), nI (yr.length + 1), nI os'.length, nI cs.length, nI (pos' + e), nI (ls_md 5 pe), 0, f_errorPlace, nI (mt - tl), nI as.length, nI oc, f_lastKind, nI (ls_pt 5 fr), f_lastValue, f_cnt, f_full, f_flag, f_need, a_tk, a_tv, a_tp, a_mName, a_mKind, a_mCount, a_mPar, a_mAt, a_vName, a_vDecl, a_vKind, a_vVal, sk', sv', a_oKind, a_oAt, a_oArgs, a_cKind, a_cA, a_cB, a_outK, a_outV) := ih S' (by omega)
  rw [ls_md_5, ls_pt_x (by omega)] at G0
  exact ls_G_go hx hy G0 (by omega) (by omega)
set_option maxHeartbeats 200000 in
/-- casts and signs -/
theorem gs_r13 {pl mo : Nat} {k' : LsK} (ih : ls_IH F) (h : ls_S yn mt tl oc mc mu ((T, V, C, kF, n, N, d, e, ta, tz)) t as ((5, pos, es, (13, pl, mo) :: pe, fr, L, k)) Ls xs ys os cs f_tickLimit a_outKind a_outValue a_codeOp a_codeArg a_codeKind a_codePlace a_methodSign a_methodStart a_declared a_cellKind a_cellValue a_callReturn a_tk a_tv a_tp a_mName a_mKind a_mCount a_mPar a_mAt a_vName a_vDecl a_vKind a_vVal a_sk a_sv a_oKind a_oAt a_oArgs a_cKind a_cA a_cB a_outK a_outV) (hF : ls_Phi tl as 5 fr N t = F) (hk : k' = ls_red T pos 13 pl mo k) (hc : C (t + 1) = (5, pos, es, pe, fr, L, k')) : ls_G F (f_tickLimit, f_tokenCount, nI oc, 0, f_errorPlace, f_lastKind, f_lastValue, f_codeSize, nI mc, nI mu, nI (88 + xs.length), nI as.length, nI (k.1 - d), nI tl, f_state, f_pos, f_expressionStart, f_pendingCount, f_frameTop, f_localCount, a_tokenCode, a_tokenValue, a_outKind, a_outValue, a_codeOp, a_codeArg, a_codeKind, a_codePlace, a_methodSign, a_methodStart, a_declared, a_cellKind, a_cellValue, a_callReturn, a_pendingLevel, a_pendingPlace, a_pendingMore, a_frameKind, a_frameMore, a_localName) (nI mt, nI yn, nI (140 + mu), nI mc, nI (ls_sl Ls + L.length), nI (ls_sl Ls), nI ys.length, nI os.length, nI cs.length, nI (pos + e), nI 3, 0, f_errorPlace, nI (mt - tl), nI as.length, nI oc, f_lastKind, nI 0, f_lastValue, f_cnt, f_full, f_flag, f_need, a_tk, a_tv, a_tp, a_mName, a_mKind, a_mCount, a_mPar, a_mAt, a_vName, a_vDecl, a_vKind, a_vVal, a_sk, a_sv, a_oKind, a_oAt, a_oArgs, a_cKind, a_cA, a_cB, a_outK, a_outV) := by
  have h' := h
  obtain ⟨hcu, hX, hY, hO, hE, hG, hV, hl, ho, hM⟩ := h'
  have U := hcu.1
  have tt := hcu.2.2.1
  have ec := hcu.2.2.2.1
  have T72 := ls_T5 U.1 (by have := U.2.2.1; omega) ec
  obtain ⟨lt, ltN, _, d1, d2, t1, t2, t3, t4, t5⟩ := ls_ac hcu (Or.inr rfl) T72
  have B := ls_Sb5 h t3
  have LB := ls_cu_len hcu
  have as8 := hl.2.2.2.1
  obtain ⟨z, w, xr, yr, os', exs, eys, wl, eos, _, _, NX, _⟩ := ls_cu_red hcu
  have w0 : w = [] := List.eq_nil_of_length_eq_zero wl
  subst w0
  have exs' : xs = z :: xr := by rw [exs, if_neg (by show ¬ ((13 : Nat) = 3 ∨ (13 : Nat) = 4); omega)]; rfl
  have eys' : ys = z :: yr := eys
  have px := ls_pgx hcu (Or.inr rfl) (x := (13, pl, mo)) (List.mem_cons_self ..)
  dsimp only at px
  have TP := ls_toke2 U tt ec (Or.inr rfl) (p := pl) px.1 px.2.2.2.1
  have px13 := px.2.2.2.2.2.2.1 rfl
  have OE : ls_oe T e (13, pl, mo) = (if T pl = 15 then 6 else 5, pl + e, 0) := rfl
  rw [exs'] at hX
  rw [eys'] at hY
  obtain ⟨x1, x2, x3, x4⟩ := hX
  obtain ⟨y1, y2, _, y4⟩ := hY
  rw [Nat.zero_add] at y1 y2
  have hO1 := hO
  rw [eos, OE] at hO1
  obtain ⟨o1, o2, o3, _⟩ := hO1
  have xl : xs.length = xr.length + 1 := by rw [exs', List.length_cons]
  have yl : ys.length = yr.length + 1 := by rw [eys', List.length_cons]
  have ol : os.length = os'.length + 1 := by rw [eos, List.length_cons]
  have z4 := x3.1
  have cd := ls_cod U tt ec (Nat.le_refl _) (t' := t) ⟨Nat.le_refl _, tt.2⟩ ec (Nat.le_refl _)
  have lv := ls_lv_ge (T pos)
  have TQ : pl + e + 1 < 384 := by have := px.2.2.2.1; omega
  -- what the reference does first
  have YA : ∀ post : SY → Prop, wpY_unary post (nI mt, nI yn, nI (140 + mu), nI mc, nI (ls_sl Ls + L.length), nI (ls_sl Ls), nI ys.length, nI os'.length, nI cs.length, nI (pos + e), nI 3, 0, f_errorPlace, nI (mt - tl), nI as.length, nI oc, f_lastKind, nI 0, f_lastValue, f_cnt, f_full, f_flag, f_need, a_tk, a_tv, a_tp, a_mName, a_mKind, a_mCount, a_mPar, a_mAt, a_vName, a_vDecl, a_vKind, a_vVal, a_sk, a_sv, a_oKind, a_oAt, a_oArgs, a_cKind, a_cA, a_cB, a_outK, a_outV) (nI (if T pl = 15 then 6 else 5)) (nI (pl + e)) → wpY_after post (nI mt, nI yn, nI (140 + mu), nI mc, nI (ls_sl Ls + L.length), nI (ls_sl Ls), nI ys.length, nI os.length, nI cs.length, nI (pos + e), nI 3, 0, f_errorPlace, nI (mt - tl), nI as.length, nI oc, f_lastKind, nI 0, f_lastValue, f_cnt, f_full, f_flag, f_need, a_tk, a_tv, a_tp, a_mName, a_mKind, a_mCount, a_mPar, a_mAt, a_vName, a_vDecl, a_vKind, a_vVal, a_sk, a_sv, a_oKind, a_oAt, a_oArgs, a_cKind, a_cA, a_cB, a_outK, a_outV) := by
    intro post g
    rw [ol]
    exact hy_after_r (kd := if T pl = 15 then 6 else 5) t3 t1 t2 (by omega) o1 (by split <;> omega) o2 TP.2.2.1 TP.1 TP.2.1 (Or.inr ⟨by split <;> omega, Or.inl (by split <;> omega)⟩) (fun q => by split at q <;> omega) (fun _ => g) (fun q => by split at q <;> omega)
  have lt2 := ls_tl5 U.1 (by omega) hc
  by_cases c15 : T pl = 15
  · have kk0 : k' = ls_em k 6 15 (nI mo) (nI pl) := by
      rw [hk]
      unfold ls_red
      rw [if_neg (by decide), if_pos rfl, if_pos c15]
    subst kk0
    have kk := ls_fem U.1 (by omega) hc (by decide) (by decide) (by decide) (by decide)
    have ch := (ls_tl_ch U.1 (by omega) ec (Or.inr rfl)).1
    obtain ⟨em, em5⟩ := ch.2.1.2.2.2 rfl c15
    dsimp only at em em5
    have TP1 := ls_toke2 U tt ec (Or.inr rfl) (p := pl + 1) (by have := px.1; omega) (by
      have nx := px.2.2.2.1
      apply Decidable.byContradiction
      intro q
      have : pos = pl + 1 := by omega
      rw [this] at T72
      -- an operand ends behind a kind's word: impossible, its level is none
      have q5 := ls_qe U.1 _ t k (by omega) ec
      rw [this] at q5
      have lvv := ls_lv_c (T (pl + 1))
      omega)
    have E15 : (if T pl = 15 then 6 else 5 : Nat) = 6 := if_pos c15
    rw [E15] at YA
    cases hv : ls_cst mo z.1 z.2 with
    | some r =>
      obtain ⟨kz, vz⟩ := r
      have wz : ls_wf kz vz := ls_cst_wf x3 (by omega) hv
      refine gs_red (a := 1) (b := 1) (z' := (kz, vz)) (ck' := upd a_cellKind (88 + xr.length) (nI kz)) (cv' := vp_updL a_cellValue (88 + xr.length) vz) (sk' := upd a_sk yr.length (nI kz)) (sv' := vp_updL a_sv yr.length vz) ih h hF hc exs eys eos (NX a_declared pos _ _ (fun _ _ => rfl) hc) (by omega) (by omega) (fun c hc' => ⟨pk_un (by omega), pk_uLn (by omega)⟩) (ls_stk_push wz x4) (by have := ls_stk_push (o := 0) wz y4; rw [Nat.zero_add] at this; exact this) ?_ ?_
      · rw [ls_ni d1 (show (ls_em k 6 15 (nI mo) (nI pl)).1 = k.1 + 1 from rfl), xl]
        refine xr_of (fun post f s hs hh => gx_6 d2 hs (cd.2.2.1.trans kk.1) (hx_cast (t := mo) d2 ⟨by omega, by omega⟩ (by omega) (cd.2.2.2.2.1.trans kk.2.2.1) x1 (by omega) x2 (fun k2 v2 q => ?_) (fun q => by rw [hv] at q; cases q)))
        rw [hv] at q
        injection q with q
        injection q with q1 q2
        subst q1 q2
        exact hh
      · rw [yl]
        refine yr_after B (fun post hp => ?_)
        rw [← yl]
        refine YA post ?_
        rw [yl]
        refine hy_cast (t := mo) (by omega) TQ (by omega) (by rw [show pl + e + 1 = pl + 1 + e by omega, TP1.1, em]) y1 z4 y2 (fun k2 v2 q => ?_) (fun _ _ q => by rw [hv] at q; cases q)
        rw [hv] at q
        injection q with q
        injection q with q1 q2
        subst q1 q2
        exact hp
    | none =>
      have hx : ls_xr 1 (f_tickLimit, f_tokenCount, nI oc, 0, f_errorPlace, f_lastKind, f_lastValue, f_codeSize, nI mc, nI mu, nI (88 + xs.length), nI as.length, nI (k.1 - d), nI tl, f_state, f_pos, f_expressionStart, f_pendingCount, f_frameTop, f_localCount, a_tokenCode, a_tokenValue, a_outKind, a_outValue, a_codeOp, a_codeArg, a_codeKind, a_codePlace, a_methodSign, a_methodStart, a_declared, a_cellKind, a_cellValue, a_callReturn, a_pendingLevel, a_pendingPlace, a_pendingMore, a_frameKind, a_frameMore, a_localName) (f_tickLimit, f_tokenCount, nI oc, nI 3, nI pl, f_lastKind, f_lastValue, f_codeSize, nI mc, nI mu, nI (88 + xr.length), nI as.length, nI (k.1 - d + 1), nI tl, f_state, f_pos, f_expressionStart, f_pendingCount, f_frameTop, f_localCount, a_tokenCode, a_tokenValue, a_outKind, a_outValue, a_codeOp, a_codeArg, a_codeKind, a_codePlace, a_methodSign, a_methodStart, a_declared, a_cellKind, a_cellValue, a_callReturn, a_pendingLevel, a_pendingPlace, a_pendingMore, a_frameKind, a_frameMore, a_localName) := by
        rw [xl]
        refine xr_of (fun post f s hs hh => gx_6 d2 hs (cd.2.2.1.trans kk.1) (hx_cast (t := mo) d2 ⟨by omega, by omega⟩ (by omega) (cd.2.2.2.2.1.trans kk.2.2.1) x1 (by omega) x2 (fun k2 v2 q => by rw [hv] at q; cases q) (fun _ => ?_)))
        rw [cd.2.2.2.2.2, kk.2.2.2]
        exact hh
      sorry
  · sorry
end
