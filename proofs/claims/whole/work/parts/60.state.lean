/-! Both states while they run, and what a run owes -/
/-- a method's sign: its name, how many parameters, their kinds -/
def ls_sg (nm c : Nat) (P : Nat → Nat) : Nat := nm + 16 * c + 64 * (P 0 + 8 * P 1 + 64 * P 2)
/-- one method, as both keep it -/
def ls_ME (A : LsU → Prop) (mu : Nat) (U : LsU) (pb q nm c : Nat) (P : Nat → Nat) (L1 : List Nat) (tk : Nat → Int32) (ms mt nN nK nC nA : Int32) (mP : Nat → Int32) (m : Nat) : Prop := A U ∧ match U with
  | (T, _, C, _, _, _, d, e, ta, tz) => ∃ p mo es k es2 L2 k2, C ta = (0, p, es, [], [(1, c, p, L1), (2, mo, pb, [q])], L1, k) ∧ 2 ≤ ta ∧ L1.length = c ∧ c ≤ 3 ∧ q ≤ 5 ∧ nm < 16 ∧ p = pb + (if c = 0 then 5 else 4 + 3 * c) ∧ (∀ i, P i ≤ 5) ∧ (∀ i, c ≤ i → P i = 0) ∧ (∀ i, i < c → L1[c - 1 - i]? = some (T (pb + 4 + 3 * i) - 54) ∧ ls_nam (T (pb + 4 + 3 * i)) ∧ tk (pb + 4 + 3 * i + e) = nI (T (pb + 4 + 3 * i))) ∧
    140 ≤ pb + e ∧ (C tz).2.1 + e ≤ 140 + mu ∧ C tz = (3, (C tz).2.1, es2, [], [(2, mo, pb, [q])], L2, k2) ∧ (∀ u, ta ≤ u → u < tz → ∃ f S, (C u).2.2.2.2.1 = f :: S ++ [(2, mo, pb, [q])]) ∧ k2.1 - d < 2 * mu ∧
    ms = nI (ls_sg nm c P) ∧ mt = nI (k.1 - d) ∧ nN = nI (nm + 54) ∧ nK = nI q ∧ nC = nI c ∧ (∀ i, i < c → mP (3 * m + i) = nI (P i)) ∧ nA = nI (pb + e)
/-- all methods -/
def ls_MT (A : LsU → Prop) (mc mu : Nat) (tk sg st mN mK mC mP mA : Nat → Int32) : Prop := mc ≤ 8 ∧ mu ≤ 240 ∧ (∀ m, m < mc → ∃ U pb q nm c P L1, ls_ME A mu U pb q nm c P L1 tk (sg m) (st m) (mN m) (mK m) (mC m) (mA m) mP m) ∧ ∀ i j, i < j → j < mc → sg i ≠ sg j
/-- what can be asked for after a run -/
def ls_E (u : SX) (v : SY) : Prop := match u, v with
  | (f_tickLimit, f_tokenCount, f_outCount, f_error, f_errorPlace, f_lastKind, f_lastValue, f_codeSize, f_methodCount, f_methodTokens, f_cellCount, f_activeCalls, f_next, f_ticksLeft, f_state, f_pos, f_expressionStart, f_pendingCount, f_frameTop, f_localCount, a_tokenCode, a_tokenValue, a_outKind, a_outValue, a_codeOp, a_codeArg, a_codeKind, a_codePlace, a_methodSign, a_methodStart, a_declared, a_cellKind, a_cellValue, a_callReturn, a_pendingLevel, a_pendingPlace, a_pendingMore, a_frameKind, a_frameMore, a_localName), (f_most, f_n, f_stored, f_nm, f_nEnv, f_base, f_ns, f_no, f_nc, f_pc, f_mode, f_err, f_errAt, f_ticks, f_calls, f_outs, f_resK, f_part, f_resV, f_cnt, f_full, f_flag, f_need, a_tk, a_tv, a_tp, a_mName, a_mKind, a_mCount, a_mPar, a_mAt, a_vName, a_vDecl, a_vKind, a_vVal, a_sk, a_sv, a_oKind, a_oAt, a_oArgs, a_cKind, a_cA, a_cB, a_outK, a_outV) => ∃ oc er mc mu yn, (f_tickLimit = f_most ∧ ∃ mt : Nat, mt ≤ 400 ∧ f_tickLimit = nI mt) ∧ f_error = f_err ∧ f_err = nI er ∧ er < 10 ∧ f_errorPlace = f_errAt ∧ (oc ≤ 32 ∧ f_outCount = nI oc ∧ f_outs = nI oc ∧ ∀ i, i < oc → a_outKind i = a_outK i ∧ a_outValue i = a_outV i) ∧ f_lastKind = f_resK ∧ f_lastValue = f_resV ∧ f_methodCount = nI mc ∧ f_nm = nI mc ∧ f_methodTokens = nI mu ∧ f_stored = nI (140 + mu) ∧ f_n = nI yn ∧
    ls_gl a_declared a_cellKind a_cellValue a_vDecl a_vKind a_vVal ∧ ls_MT (ls_UA a_codeOp a_codeArg a_codeKind a_codePlace a_tk a_tv a_tp) mc mu a_tk a_methodSign a_methodStart a_mName a_mKind a_mCount a_mPar a_mAt
/-- the run of both from u and v, in at most F steps -/
def ls_G (F : Nat) (u : SX) (v : SY) : Prop := ∃ ue, (∀ post f s, F ≤ f → s + F ≤ 2000000 → post ue → ls_XH post f s u) ∧ (∀ post f s, F ≤ f → s + F ≤ 2000000 → (∀ ve, ls_E ue ve → post ve) → ls_YH post f s v)
def ls_xr (a : Nat) (u u' : SX) : Prop := ∀ post f s, s + a ≤ 2000000 → ls_XH post f (s + a) u' → ls_XH post (f + a) s u
def ls_yr (a : Nat) (v v' : SY) : Prop := ∀ post f s, s + a ≤ 2000000 → ls_YH post f (s + a) v' → ls_YH post (f + a) s v
section
variable {u u' u2 : SX} {v v' v2 : SY} {a b F F' : Nat}
set_option maxHeartbeats 200000 in
theorem ls_xr_t (h : ls_xr a u u') (g : ls_xr b u' u2) : ls_xr (a + b) u u2 := fun post f s hs hh => by
  have := g post f (s + a) (by omega) (by rw [show s + a + b = s + (a + b) by omega]; exact hh)
  have := h post (f + b) s (by omega) this
  rw [show f + b + a = f + (a + b) by omega] at this
  exact this
set_option maxHeartbeats 200000 in
theorem ls_yr_t (h : ls_yr a v v') (g : ls_yr b v' v2) : ls_yr (a + b) v v2 := fun post f s hs hh => by
  have := g post f (s + a) (by omega) (by rw [show s + a + b = s + (a + b) by omega]; exact hh)
  have := h post (f + b) s (by omega) this
  rw [show f + b + a = f + (a + b) by omega] at this
  exact this
set_option maxHeartbeats 200000 in
theorem ls_xr_0 : ls_xr 0 u u := fun _ _ _ _ h => h
set_option maxHeartbeats 200000 in
theorem ls_yr_0 : ls_yr 0 v v := fun _ _ _ _ h => h
set_option maxHeartbeats 200000 in
theorem ls_G_go (hx : ls_xr a u u') (hy : ls_yr b v v') (h : ls_G F' u' v') (ha : F' + a ≤ F) (hb : F' + b ≤ F) : ls_G F u v := by
  obtain ⟨ue, x, y⟩ := h
  refine ⟨ue, fun post f s hf hs hp => ?_, fun post f s hf hs hp => ?_⟩
  · have := hx post (f - a) s (by omega) (x post (f - a) (s + a) (by omega) (by omega) hp)
    rw [show f - a + a = f by omega] at this
    exact this
  · have := hy post (f - b) s (by omega) (y post (f - b) (s + b) (by omega) (by omega) hp)
    rw [show f - b + b = f by omega] at this
    exact this
set_option maxHeartbeats 200000 in
theorem ls_G_mono (h : ls_G F' u v) (hF : F' ≤ F) : ls_G F u v := ls_G_go ls_xr_0 ls_yr_0 h (by omega) (by omega)
end
/-- the lists and arrays of two states that run side by side -/
def ls_S (yn mt tl oc mc mu : Nat) (U : LsU) (t : Nat) (as : List LsA) (c : LsC) (Ls : List (List Nat)) (xs ys : List LsV) (os cs : List LsP) (lim : Int32) (oK : Nat → Int32) (oV : Nat → Int64) (co ca ck cp sg st dc cK : Nat → Int32) (cV : Nat → Int64) (cr : Nat → Int32) (tk : Nat → Int32) (tv : Nat → Int64) (tp mN mK mC mP mA vN vD vK : Nat → Int32) (vV : Nat → Int64) (sk : Nat → Int32) (sv : Nat → Int64) (nK nA nG eK eA eB yK : Nat → Int32) (yV : Nat → Int64) : Prop :=
  ls_cu yn cr mK dc (ls_UA co ca ck cp tk tv tp) U t as c Ls xs ys os cs ∧ ls_stk cK cV 88 xs ∧ ls_stk sk sv 0 ys ∧ ls_StP nK nA nG os ∧ ls_StP eK eA eB cs ∧ ls_gl dc cK cV vD vK vV ∧ ls_lev (ls_sm dc cK cV vD vK vV) vN (c.2.2.2.2.2.1 :: Ls) ∧
  (lim = nI mt ∧ tl ≤ mt ∧ mt ≤ 400 ∧ as.length ≤ 8 ∧ yn ≤ 140) ∧ (oc ≤ 32 ∧ ∀ i, i < oc → oK i = yK i ∧ oV i = yV i) ∧ ls_MT (ls_UA co ca ck cp tk tv tp) mc mu tk sg st mN mK mC mP mA
def ls_lo5 (st : Nat) (fr : List LsF) : Nat := ls_l5 fr - (if (st = 0 ∨ st = 1) ∧ ls_fk fr = 5 then 1 else 0)
def ls_Phi (tl : Nat) (as : List LsA) (st : Nat) (fr : List LsF) (N t : Nat) : Nat := 2240 * (2 * tl + as.length + ls_a5 as + ls_lo5 st fr) + 2 * (N - t) + 1
def ls_md (st : Nat) (pe : List LsP) : Nat := if st = 4 then (if ls_starts pe then 1 else 2) else if st = 5 then 3 else 0
def ls_pt (st : Nat) (fr : List LsF) : Nat := if (st = 0 ∨ st = 1) ∧ (ls_fk fr = 3 ∨ ls_fk fr = 4) then 1 else 0
section
variable {T : Nat → Nat} {V : Nat → Int32} {C : Nat → LsC} {kF : LsK} {n N d e ta tz : Nat} {co ca ck cp tk : Nat → Int32} {tv : Nat → Int64} {tp : Nat → Int32}
variable {t st pos es x : Nat} {pe : List LsP} {fr r : List LsF} {f : LsF} {L : List Nat} {k : LsK}
set_option maxHeartbeats 200000 in
/-- a method's frame stands below a block alone -/
theorem ls_n2 (h : ls_tl T V n C N kF) (ht : t ≤ N) (ec : C t = (st, pos, es, pe, f :: r, L, k)) (h1 : f.1 ≠ 1) : ¬ (x = 3 ∧ ls_fk r = 2) := by
  obtain ⟨_, _, _, _, y, hy⟩ := h.2.2.2.2 t ht
  rw [ec] at hy
  exact fun q => ls_mb_2 hy.1 h1 q.2
set_option maxHeartbeats 200000 in
theorem ls_n2U (h : ls_UA co ca ck cp tk tv tp (T, V, C, kF, n, N, d, e, ta, tz)) (tt : ta ≤ t ∧ t ≤ tz) (ec : C t = (st, pos, es, pe, f :: r, L, k)) (h1 : f.1 ≠ 1) : ¬ (x = 3 ∧ ls_fk r = 2) := ls_n2 h.1 (by have := h.2.2.1; omega) ec h1
set_option maxHeartbeats 200000 in
theorem ls_n2s (h : ls_UA co ca ck cp tk tv tp (T, V, C, kF, n, N, d, e, ta, tz)) (tt : ta ≤ t ∧ t ≤ tz) (ec : C t = (st, pos, es, pe, fr, L, k)) (hs : st = 0 ∨ st = 1 ∨ st = 2) : ¬ (x = 3 ∧ ls_fk fr = 2) := by
  obtain ⟨_, _, _, _, y, hy⟩ := h.1.2.2.2.2 t (by have := h.2.2.1; omega)
  rw [ec] at hy
  obtain ⟨_, _, _, _, _, _, q, _⟩ := ls_al_s hs hy
  exact fun g => q g.2
end
/-- what is known of all states with less ahead of them -/
def ls_IH (F : Nat) : Prop := ∀ {yn mt tl oc mc mu : Nat} {T : Nat → Nat} {V : Nat → Int32} {C : Nat → LsC} {kF : LsK} {n N d e ta tz t : Nat} {as : List LsA} {st pos es : Nat} {pe : List LsP} {fr : List LsF} {L : List Nat} {k : LsK} {Ls : List (List Nat)} {xs ys : List LsV} {os cs : List LsP}
  {f_tickLimit f_tokenCount f_errorPlace f_lastKind f_codeSize f_state f_pos f_expressionStart f_pendingCount f_frameTop f_localCount : Int32} {f_lastValue : Int64} {a_tokenCode a_tokenValue a_outKind a_codeOp a_codeArg a_codeKind a_codePlace a_methodSign a_methodStart a_declared a_cellKind a_callReturn a_pendingLevel a_pendingPlace a_pendingMore a_frameKind a_frameMore a_localName : Nat → Int32} {a_outValue a_cellValue : Nat → Int64}
  {f_cnt f_full f_flag f_need : Int32} {a_tk a_tp a_mName a_mKind a_mCount a_mPar a_mAt a_vName a_vDecl a_vKind a_sk a_oKind a_oAt a_oArgs a_cKind a_cA a_cB a_outK : Nat → Int32} {a_tv a_vVal a_sv a_outV : Nat → Int64},
  ls_S yn mt tl oc mc mu ((T, V, C, kF, n, N, d, e, ta, tz)) t as ((st, pos, es, pe, fr, L, k)) Ls xs ys os cs f_tickLimit a_outKind a_outValue a_codeOp a_codeArg a_codeKind a_codePlace a_methodSign a_methodStart a_declared a_cellKind a_cellValue a_callReturn a_tk a_tv a_tp a_mName a_mKind a_mCount a_mPar a_mAt a_vName a_vDecl a_vKind a_vVal a_sk a_sv a_oKind a_oAt a_oArgs a_cKind a_cA a_cB a_outK a_outV → ls_Phi tl as st fr N t < F → ¬ (st = 3 ∧ ls_fk fr = 2) → ls_G (ls_Phi tl as st fr N t) (f_tickLimit, f_tokenCount, nI oc, 0, f_errorPlace, f_lastKind, f_lastValue, f_codeSize, nI mc, nI mu, nI (88 + xs.length), nI as.length, nI (k.1 - d), nI tl, f_state, f_pos, f_expressionStart, f_pendingCount, f_frameTop, f_localCount, a_tokenCode, a_tokenValue, a_outKind, a_outValue, a_codeOp, a_codeArg, a_codeKind, a_codePlace, a_methodSign, a_methodStart, a_declared, a_cellKind, a_cellValue, a_callReturn, a_pendingLevel, a_pendingPlace, a_pendingMore, a_frameKind, a_frameMore, a_localName) (nI mt, nI yn, nI (140 + mu), nI mc, nI (ls_sl Ls + L.length), nI (ls_sl Ls), nI ys.length, nI os.length, nI cs.length, nI (pos + e), nI (ls_md st pe), 0, f_errorPlace, nI (mt - tl), nI as.length, nI oc, f_lastKind, nI (ls_pt st fr), f_lastValue, f_cnt, f_full, f_flag, f_need, a_tk, a_tv, a_tp, a_mName, a_mKind, a_mCount, a_mPar, a_mAt, a_vName, a_vDecl, a_vKind, a_vVal, a_sk, a_sv, a_oKind, a_oAt, a_oArgs, a_cKind, a_cA, a_cB, a_outK, a_outV)
