/-! Calls -/
/-- some cells from o on replaced -/
def ls_blk {α : Type} (a : Nat → α) (o c : Nat) (g : Nat → α) : Nat → α := fun j => if o ≤ j ∧ j < o + c then g (j - o) else a j
section
variable {α : Type} {a x g : Nat → α} {o c i j : Nat}
set_option maxHeartbeats 200000 in
theorem ls_blk_eq (h1 : ∀ j, (j < o ∨ o + c ≤ j) → x j = a j) (h2 : ∀ i, i < c → x (o + i) = g i) : x = ls_blk a o c g := by
  funext j
  unfold ls_blk
  split
  · next q =>
    have := h2 (j - o) (by omega)
    rw [show o + (j - o) = j by omega] at this
    exact this
  · exact h1 j (by omega)
set_option maxHeartbeats 200000 in
theorem ls_blk_n (h : j < o ∨ o + c ≤ j) : ls_blk a o c g j = a j := by
  unfold ls_blk
  rw [if_neg (by omega)]
set_option maxHeartbeats 200000 in
theorem ls_blk_s (h : i < c) : ls_blk a o c g (o + i) = g i := by
  unfold ls_blk
  rw [if_pos (by omega), Nat.add_sub_cancel_left]
end
section
variable {A : LsU → Prop} {mc mu : Nat} {tk sg st mN mK mC mP mA : Nat → Int32}
set_option maxHeartbeats 200000 in
/-- the methods' names, counts and parameters -/
theorem ls_MT_f (h : ls_MT A mc mu tk sg st mN mK mC mP mA) : ∃ (nf cf : Nat → Nat) (pf : Nat → Nat → Nat), ∀ m, m < mc → ∃ U pb q L1, ls_ME A mu U pb q (nf m) (cf m) (pf m) L1 tk (sg m) (st m) (mN m) (mK m) (mC m) (mA m) mP m := by
  have H : ∀ m, ∃ x : Nat × Nat × (Nat → Nat), m < mc → ∃ U pb q L1, ls_ME A mu U pb q x.1 x.2.1 x.2.2 L1 tk (sg m) (st m) (mN m) (mK m) (mC m) (mA m) mP m := by
    intro m
    by_cases q : m < mc
    · obtain ⟨U, pb, q, nm, c, P, L1, h'⟩ := h.2.2.1 m q
      exact ⟨(nm, c, P), fun _ => ⟨U, pb, q, L1, h'⟩⟩
    · exact ⟨(0, 0, fun _ => 0), fun q' => absurd q' q⟩
  obtain ⟨f, hf⟩ := Classical.axiomOfChoice H
  exact ⟨fun m => (f m).1, fun m => (f m).2.1, fun m => (f m).2.2, hf⟩
variable {nf cf : Nat → Nat} {pf : Nat → Nat → Nat}
set_option maxHeartbeats 200000 in
theorem ls_MT_sgs (h : ls_MT A mc mu tk sg st mN mK mC mP mA) (hf : ∀ m, m < mc → ∃ U pb q L1, ls_ME A mu U pb q (nf m) (cf m) (pf m) L1 tk (sg m) (st m) (mN m) (mK m) (mC m) (mA m) mP m) : ls_sgs mc sg nf cf pf ∧ ls_yms mc mN mC mP nf cf pf := by
  refine ⟨⟨h.1, fun m hm => ?_⟩, ⟨h.1, fun m hm => ?_⟩⟩
  all_goals obtain ⟨U, pb, q, L1, hA, hx⟩ := hf m hm
  all_goals obtain ⟨T, V, C, kF, n, N, d, e, ta, tz⟩ := U
  all_goals obtain ⟨p, mo, es, k, es2, L2, k2, g1, g2, g3, g4, g5, g6, g7, g8, g9, g10, g11, g12, g13, g14, g15, g16, g17, g18, g19, g20, g21, g22⟩ := hx
  · exact ⟨g16, g6, g4, g8, g9⟩
  · exact ⟨g18, g6, g20, g4, g21, g8, g9⟩
set_option maxHeartbeats 200000 in
theorem ls_MT_anti {nm c : Nat} {ak : Nat → Nat} (h : ls_MT A mc mu tk sg st mN mK mC mP mA) (hs : ls_sgs mc sg nf cf pf) : ∀ a b, a < mc → b < mc → ls_tkb nf cf pf nm c ak a = true → ls_tkb nf cf pf nm c ak b = true → ls_asb pf a b = true → ls_asb pf b a = true → a = b := by
  intro a b ha hb ta tb ab ba
  have ta := ls_tkb_t.mp ta
  have tb := ls_tkb_t.mp tb
  have ab := ls_asb_t.mp ab
  have ba := ls_asb_t.mp ba
  obtain ⟨s1, _, _, s4, _⟩ := hs.2 a ha
  obtain ⟨r1, _, _, r4, _⟩ := hs.2 b hb
  have P : ∀ i, i < 3 → pf a i = pf b i := fun i hi => ls_fit_anti ⟨pf a i, by have := s4 i; omega⟩ ⟨pf b i, by have := r4 i; omega⟩ (ab i hi) (ba i hi)
  have E : sg a = sg b := by
    rw [s1, r1]
    unfold ls_sg
    rw [ta.1, ta.2.1, tb.1, tb.2.1, P 0 (by omega), P 1 (by omega), P 2 (by omega)]
  rcases Nat.lt_trichotomy a b with q | q | q
  · exact absurd E (h.2.2.2 a b q hb)
  · exact q
  · exact absurd E.symm (h.2.2.2 b a q ha)
end
set_option maxHeartbeats 200000 in
theorem ls_LN_mk {vn : Nat → Int32} {b : Nat} {g : Nat → Nat} : ∀ {L : List Nat}, (∀ i, i < L.length → L[L.length - 1 - i]? = some (g i - 54) ∧ 54 ≤ g i ∧ vn (b + i) = nI (g i)) → ls_LN vn b L
  | [], _ => trivial
  | x :: r, h => by
    refine ⟨?_, ls_LN_mk (g := g) (fun i hi => ?_)⟩
    · obtain ⟨h1, h2, h3⟩ := h r.length (by rw [List.length_cons]; omega)
      rw [List.length_cons, show r.length + 1 - 1 - r.length = 0 by omega] at h1
      have h1' : some x = some (g r.length - 54) := h1
      injection h1' with h1'
      rw [h3, h1', show g r.length - 54 + 54 = g r.length by omega]
    · obtain ⟨h1, h2, h3⟩ := h i (by rw [List.length_cons]; omega)
      rw [List.length_cons, show r.length + 1 - 1 - i = (r.length - 1 - i) + 1 by omega] at h1
      exact ⟨h1, h2, h3⟩
section
variable {f_tickLimit f_tokenCount f_outCount f_error f_errorPlace f_lastKind f_codeSize f_methodCount f_methodTokens f_cellCount f_activeCalls f_next f_ticksLeft f_state f_pos f_expressionStart f_pendingCount f_frameTop f_localCount : Int32}
variable {f_lastValue : Int64}
variable {a_tokenCode a_tokenValue a_outKind a_codeOp a_codeArg a_codeKind a_codePlace a_methodSign a_methodStart a_declared a_cellKind a_callReturn a_pendingLevel a_pendingPlace a_pendingMore a_frameKind a_frameMore a_localName : Nat → Int32}
variable {a_outValue a_cellValue : Nat → Int64}
variable {f_cnt f_full f_flag f_need : Int32}
variable {a_tk a_tp a_mName a_mKind a_mCount a_mPar a_mAt a_vName a_vDecl a_vKind a_sk a_oKind a_oAt a_oArgs a_cKind a_cA a_cB a_outK : Nat → Int32}
variable {a_tv a_vVal a_sv a_outV : Nat → Int64}
variable {yn mt tl oc mc mu : Nat} {T : Nat → Nat} {V : Nat → Int32} {C : Nat → LsC} {kF : LsK} {n N d e ta tz t : Nat} {as : List LsA} {st pos es : Nat} {pe : List LsP} {fr : List LsF} {L : List Nat} {k : LsK} {Ls : List (List Nat)} {xs ys : List LsV} {os cs : List LsP} {F : Nat}
set_option maxHeartbeats 4000000 in
/-- a call -/
theorem gs_call {pos' nm c pl b : Nat} {pe' : List LsP} {k' : LsK} {w xr yr : List LsV} {os' : List LsP} {v0 : SY} {nK nA nG : Nat → Int32} (ih : ls_IH F) (h : ls_S yn mt tl oc mc mu ((T, V, C, kF, n, N, d, e, ta, tz)) t as ((st, pos, es, pe, fr, L, k)) Ls xs ys os cs f_tickLimit a_outKind a_outValue a_codeOp a_codeArg a_codeKind a_codePlace a_methodSign a_methodStart a_declared a_cellKind a_cellValue a_callReturn a_tk a_tv a_tp a_mName a_mKind a_mCount a_mPar a_mAt a_vName a_vDecl a_vKind a_vVal a_sk a_sv a_oKind a_oAt a_oArgs a_cKind a_cA a_cB a_outK a_outV) (hst : st = 4 ∨ st = 5) (hF : ls_Phi tl as st fr N t = F)
    (hc : C (t + 1) = (5, pos', es, pe', fr, L, k')) (hk' : k'.1 = k.1 + 1) (op : a_codeOp (k.1 - d) = 11) (ar : a_codeArg (k.1 - d) = nI (nm + 16 * c)) (plc : a_codePlace (k.1 - d) = nI pl) (hnm : nm < 16) (hc3 : c ≤ 3) (tkpl : a_tk (pl + e) = nI (nm + 54)) (hpl : pl + e < 384) (hplp : ls_pl a_tp (pl + e) = nI pl)
    (exs : xs = w ++ xr) (eys : ys = w ++ yr) (wl : w.length = c)
    (CU : ∀ z, ls_cu yn a_callReturn a_mKind a_declared (ls_UA a_codeOp a_codeArg a_codeKind a_codePlace a_tk a_tv a_tp) (T, V, C, kF, n, N, d, e, ta, tz) (t + 1) as (5, pos', es, pe', fr, L, k') Ls (z :: xr) (z :: yr) os' cs)
    (hO' : ls_StP nK nA nG os') (o2 : nA os'.length = nI (pl + e)) (o3 : nG os'.length = nI c) (ol : os'.length < 400)
    (hy : ∀ v' : SY, (∀ post : SY → Prop, post v' → wpY_call post (nI mt, nI yn, nI (140 + mu), nI mc, nI (ls_sl Ls + L.length), nI (ls_sl Ls), nI (yr.length + c), nI (os'.length + 1), nI cs.length, nI (pos' + e), nI 3, 0, f_errorPlace, nI (mt - tl), nI as.length, nI oc, f_lastKind, nI 0, f_lastValue, f_cnt, f_full, f_flag, f_need, a_tk, a_tv, a_tp, a_mName, a_mKind, a_mCount, a_mPar, a_mAt, a_vName, a_vDecl, a_vKind, a_vVal, a_sk, a_sv, nK, nA, nG, a_cKind, a_cA, a_cB, a_outK, a_outV)) → ls_yr b v0 v') (hb : b ≤ 3) : ls_G F (f_tickLimit, f_tokenCount, nI oc, 0, f_errorPlace, f_lastKind, f_lastValue, f_codeSize, nI mc, nI mu, nI (88 + xs.length), nI as.length, nI (k.1 - d), nI tl, f_state, f_pos, f_expressionStart, f_pendingCount, f_frameTop, f_localCount, a_tokenCode, a_tokenValue, a_outKind, a_outValue, a_codeOp, a_codeArg, a_codeKind, a_codePlace, a_methodSign, a_methodStart, a_declared, a_cellKind, a_cellValue, a_callReturn, a_pendingLevel, a_pendingPlace, a_pendingMore, a_frameKind, a_frameMore, a_localName) v0 := by
  have h' := h
  obtain ⟨hcu, hX, hY, hO, hE, hG, hV, hl, ho, hM⟩ := h'
  have U := hcu.1
  have tt := hcu.2.2.1
  have ec := hcu.2.2.2.1
  have hV : ls_lev (ls_sm a_declared a_cellKind a_cellValue a_vDecl a_vKind a_vVal) a_vName (L :: Ls) := hV
  have cuz := CU (0, 0)
  have LB := ls_cu_len cuz
  have LB0 := ls_cu_len hcu
  have as8 := hl.2.2.2.1
  have zN := U.2.2.1.2
  have N11 := U.1.2.2.2.1
  have tlm := hl.2.1
  have mt4 := hl.2.2.1
  have tt1 := cuz.2.2.1
  have lt2 := ls_tl5 U.1 (by omega) hc
  have dk := ls_d_le U tt ec
  have F4 : 4 ≤ F := by rw [← hF]; unfold ls_Phi; omega
  obtain ⟨nf, cf, pf, hf⟩ := ls_MT_f hM
  obtain ⟨SG, YM⟩ := ls_MT_sgs hM hf
  have xl := LB.1
  have yl := LB.2.1
  rw [List.length_cons] at xl yl
  have xl2 : xs.length = xr.length + c := by rw [exs, List.length_append, wl]; omega
  have xl3 := LB0.1
  have yl2 : ys.length = yr.length + c := by rw [eys, List.length_append, wl]; omega
  have yl3 := LB0.2.1
  have CL := LB.2.2.2.1
  have slb := LB.2.2.2.2.1
  have Lsl := LB.2.2.2.2.2.1
  have L8 := LB.2.2.2.2.2.2.1
  have posn := LB.2.2.2.2.2.2.2.2.1
  have n140 := LB.2.2.2.2.2.2.2.2.2.1
  have hX2 := hX
  have hY2 := hY
  rw [exs] at hX2
  rw [eys] at hY2
  obtain ⟨ak, av, AK, AW, BK⟩ : ∃ (ak : Nat → Nat) (av : Nat → Int64), (∀ i, i < c → a_cellKind (88 + xr.length + i) = nI (ak i) ∧ ak i ≤ 4 ∧ a_cellValue (88 + xr.length + i) = av i) ∧ (∀ i, i < c → ls_wf (ak i) (av i)) ∧ ∀ i, i < c → a_sk (yr.length + i) = nI (ak i) ∧ ak i ≤ 4 ∧ a_sv (yr.length + i) = av i := by
    refine ⟨fun i : Nat => ((w.reverse[i]?).getD (0, 0)).1, fun i : Nat => ((w.reverse[i]?).getD (0, 0)).2, fun i hi => ?_, fun i hi => ?_, fun i hi => ?_⟩
    · obtain ⟨z, z1, z2, z3, z4⟩ := ls_stk_get hX2 (by rw [wl]; exact hi)
      dsimp only
      rw [z1]
      exact ⟨z2, z4.1, z3⟩
    · obtain ⟨z, z1, z2, z3, z4⟩ := ls_stk_get hX2 (by rw [wl]; exact hi)
      dsimp only
      rw [z1]
      exact z4
    · obtain ⟨z, z1, z2, z3, z4⟩ := ls_stk_get hY2 (by rw [wl]; exact hi)
      rw [Nat.zero_add] at z2 z3
      dsimp only
      rw [z1]
      exact ⟨z2, z4.1, z3⟩
  have anti := ls_MT_anti (nm := nm) (c := c) (ak := ak) hM SG
  have HX : ∀ u' : SX, (∀ post : SX → Prop, post u' → wpX_call post (f_tickLimit, f_tokenCount, nI oc, 0, f_errorPlace, f_lastKind, f_lastValue, f_codeSize, nI mc, nI mu, nI (88 + xr.length + c), nI as.length, nI (k.1 - d + 1), nI tl, f_state, f_pos, f_expressionStart, f_pendingCount, f_frameTop, f_localCount, a_tokenCode, a_tokenValue, a_outKind, a_outValue, a_codeOp, a_codeArg, a_codeKind, a_codePlace, a_methodSign, a_methodStart, a_declared, a_cellKind, a_cellValue, a_callReturn, a_pendingLevel, a_pendingPlace, a_pendingMore, a_frameKind, a_frameMore, a_localName) (nI (k.1 - d))) → ls_xr 1 (f_tickLimit, f_tokenCount, nI oc, 0, f_errorPlace, f_lastKind, f_lastValue, f_codeSize, nI mc, nI mu, nI (88 + xs.length), nI as.length, nI (k.1 - d), nI tl, f_state, f_pos, f_expressionStart, f_pendingCount, f_frameTop, f_localCount, a_tokenCode, a_tokenValue, a_outKind, a_outValue, a_codeOp, a_codeArg, a_codeKind, a_codePlace, a_methodSign, a_methodStart, a_declared, a_cellKind, a_cellValue, a_callReturn, a_pendingLevel, a_pendingPlace, a_pendingMore, a_frameKind, a_frameMore, a_localName) u' := by
    intro u' g
    rw [show 88 + xs.length = 88 + xr.length + c by omega]
    exact xr_of (fun post f s hs hh => gx_11 dk.2 hs op (g _ hh))
  have ER : ∀ er : Nat, er ≠ 0 ∧ er < 10 → (∀ post : SX → Prop, post (f_tickLimit, f_tokenCount, nI oc, nI er, nI pl, f_lastKind, f_lastValue, f_codeSize, nI mc, nI mu, nI (88 + xr.length + c), nI as.length, nI (k.1 - d + 1), nI tl, f_state, f_pos, f_expressionStart, f_pendingCount, f_frameTop, f_localCount, a_tokenCode, a_tokenValue, a_outKind, a_outValue, a_codeOp, a_codeArg, a_codeKind, a_codePlace, a_methodSign, a_methodStart, a_declared, a_cellKind, a_cellValue, a_callReturn, a_pendingLevel, a_pendingPlace, a_pendingMore, a_frameKind, a_frameMore, a_localName) → wpX_call post (f_tickLimit, f_tokenCount, nI oc, 0, f_errorPlace, f_lastKind, f_lastValue, f_codeSize, nI mc, nI mu, nI (88 + xr.length + c), nI as.length, nI (k.1 - d + 1), nI tl, f_state, f_pos, f_expressionStart, f_pendingCount, f_frameTop, f_localCount, a_tokenCode, a_tokenValue, a_outKind, a_outValue, a_codeOp, a_codeArg, a_codeKind, a_codePlace, a_methodSign, a_methodStart, a_declared, a_cellKind, a_cellValue, a_callReturn, a_pendingLevel, a_pendingPlace, a_pendingMore, a_frameKind, a_frameMore, a_localName) (nI (k.1 - d))) → (∀ post : SY → Prop, post (nI mt, nI yn, nI (140 + mu), nI mc, nI (ls_sl Ls + L.length), nI (ls_sl Ls), nI (yr.length + c), nI os'.length, nI cs.length, nI (pos' + e), nI 3, nI er, nI pl, nI (mt - tl), nI as.length, nI oc, f_lastKind, nI 0, f_lastValue, f_cnt, f_full, f_flag, f_need, a_tk, a_tv, a_tp, a_mName, a_mKind, a_mCount, a_mPar, a_mAt, a_vName, a_vDecl, a_vKind, a_vVal, a_sk, a_sv, nK, nA, nG, a_cKind, a_cA, a_cB, a_outK, a_outV) → wpY_call post (nI mt, nI yn, nI (140 + mu), nI mc, nI (ls_sl Ls + L.length), nI (ls_sl Ls), nI (yr.length + c), nI (os'.length + 1), nI cs.length, nI (pos' + e), nI 3, 0, f_errorPlace, nI (mt - tl), nI as.length, nI oc, f_lastKind, nI 0, f_lastValue, f_cnt, f_full, f_flag, f_need, a_tk, a_tv, a_tp, a_mName, a_mKind, a_mCount, a_mPar, a_mAt, a_vName, a_vDecl, a_vKind, a_vVal, a_sk, a_sv, nK, nA, nG, a_cKind, a_cA, a_cB, a_outK, a_outV)) → ls_G F (f_tickLimit, f_tokenCount, nI oc, 0, f_errorPlace, f_lastKind, f_lastValue, f_codeSize, nI mc, nI mu, nI (88 + xs.length), nI as.length, nI (k.1 - d), nI tl, f_state, f_pos, f_expressionStart, f_pendingCount, f_frameTop, f_localCount, a_tokenCode, a_tokenValue, a_outKind, a_outValue, a_codeOp, a_codeArg, a_codeKind, a_codePlace, a_methodSign, a_methodStart, a_declared, a_cellKind, a_cellValue, a_callReturn, a_pendingLevel, a_pendingPlace, a_pendingMore, a_frameKind, a_frameMore, a_localName) v0 := fun er her gx gy => gs_err h her (by omega) (by omega) (HX _ gx) (hy _ gy)
  by_cases c5 : ∀ m, m < mc → ¬ ls_tak nf cf pf nm c ak m
  · refine ER 5 ⟨by decide, by decide⟩ (fun post hp => ?_) (fun post hp => ?_)
    · refine hx_call SG dk.2 ar hnm hc3 ⟨by omega, by omega⟩ as8 (by omega) AK (fun _ => ?_) (fun ⟨m, q1, q2⟩ _ => absurd q2 (c5 m q1)) (fun m q1 q2 => absurd q2 (c5 m q1)) (fun m q1 q2 => absurd q2 (c5 m q1)) anti (fun m q1 q2 => absurd q2 (c5 m q1))
      rw [plc]
      exact hp
    · refine hy_call YM ol o2 hpl o3 tkpl hnm hc3 (by omega) BK (by omega) (by omega) (by omega) as8 (by omega) (by omega) (by omega) rfl anti (fun _ => ?_) (fun ⟨m, q1, q2⟩ _ => absurd q2 (c5 m q1)) (fun m q1 q2 => absurd q2 (c5 m q1)) (fun m q1 q2 => absurd q2 (c5 m q1)) (fun m q1 q2 => absurd q2 (c5 m q1))
      rw [hplp]
      exact hp
  have E5 : ∃ m, m < mc ∧ ls_tak nf cf pf nm c ak m := by
    apply Classical.byContradiction
    intro q
    exact c5 (fun m q1 q2 => q ⟨m, q1, q2⟩)
  by_cases c6 : ∀ m, m < mc → ls_tak nf cf pf nm c ak m → ¬ ls_mo (ls_tkb nf cf pf nm c ak) (ls_asb pf) mc m
  · refine ER 6 ⟨by decide, by decide⟩ (fun post hp => ?_) (fun post hp => ?_)
    · refine hx_call SG dk.2 ar hnm hc3 ⟨by omega, by omega⟩ as8 (by omega) AK (fun q => absurd q c5) (fun _ _ => ?_) (fun m q1 q2 q3 => absurd q3 (c6 m q1 q2)) (fun m q1 q2 q3 => absurd q3 (c6 m q1 q2)) anti (fun m q1 q2 q3 => absurd q3 (c6 m q1 q2))
      rw [plc]
      exact hp
    · refine hy_call YM ol o2 hpl o3 tkpl hnm hc3 (by omega) BK (by omega) (by omega) (by omega) as8 (by omega) (by omega) (by omega) rfl anti (fun q => absurd q c5) (fun _ _ => ?_) (fun m q1 q2 q3 => absurd q3 (c6 m q1 q2)) (fun m q1 q2 q3 => absurd q3 (c6 m q1 q2)) (fun m q1 q2 q3 => absurd q3 (c6 m q1 q2))
      rw [hplp]
      exact hp
  obtain ⟨m, m1, m2, m3⟩ : ∃ m, m < mc ∧ ls_tak nf cf pf nm c ak m ∧ ls_mo (ls_tkb nf cf pf nm c ak) (ls_asb pf) mc m := by
    apply Classical.byContradiction
    intro q
    exact c6 (fun m q1 q2 q3 => q ⟨m, q1, q2, q3⟩)
  have UN : ∀ m', m' < mc → ls_tak nf cf pf nm c ak m' → ls_mo (ls_tkb nf cf pf nm c ak) (ls_asb pf) mc m' → m' = m := fun m' q1 q2 q3 => anti m' m q1 m1 (ls_tkb_t.mpr q2) (ls_tkb_t.mpr m2) (q3 m m1 (ls_tkb_t.mpr m2)) (m3 m' q1 (ls_tkb_t.mpr q2))
  have C6 : ¬ ∀ m, m < mc → ls_tak nf cf pf nm c ak m → ¬ ls_mo (ls_tkb nf cf pf nm c ak) (ls_asb pf) mc m := c6
  by_cases c7 : as.length = 8
  · refine ER 7 ⟨by decide, by decide⟩ (fun post hp => ?_) (fun post hp => ?_)
    · refine hx_call SG dk.2 ar hnm hc3 ⟨by omega, by omega⟩ as8 (by omega) AK (fun q => absurd q c5) (fun _ q => absurd q C6) (fun m q1 q2 q3 _ => ?_) (fun m q1 q2 q3 q4 => by omega) anti (fun m q1 q2 q3 q4 => by omega)
      rw [plc]
      exact hp
    · refine hy_call YM ol o2 hpl o3 tkpl hnm hc3 (by omega) BK (by omega) (by omega) (by omega) as8 (by omega) (by omega) (by omega) rfl anti (fun q => absurd q c5) (fun _ q => absurd q C6) (fun m q1 q2 q3 _ => ?_) (fun m q1 q2 q3 q4 => by omega) (fun m q1 q2 q3 q4 => by omega)
      rw [hplp]
      exact hp
  by_cases c9 : tl = 0
  · refine ER 9 ⟨by decide, by decide⟩ (fun post hp => ?_) (fun post hp => ?_)
    · refine hx_call SG dk.2 ar hnm hc3 ⟨by omega, by omega⟩ as8 (by omega) AK (fun q => absurd q c5) (fun _ q => absurd q C6) (fun m q1 q2 q3 q4 => absurd q4 c7) (fun m q1 q2 q3 q4 _ => ?_) anti (fun m q1 q2 q3 q4 q5 => by omega)
      rw [plc]
      exact hp
    · refine hy_call YM ol o2 hpl o3 tkpl hnm hc3 (by omega) BK (by omega) (by omega) (by omega) as8 (by omega) (by omega) (by omega) rfl anti (fun q => absurd q c5) (fun _ q => absurd q C6) (fun m q1 q2 q3 q4 => absurd q4 c7) (fun m q1 q2 q3 q4 _ => ?_) (fun m q1 q2 q3 q4 q5 => by omega)
      rw [hplp]
      exact hp
  obtain ⟨U', pb, q, L1, hA, hME⟩ := hf m m1
  obtain ⟨T', V', C', kF', n', N', d', e', ta', tz'⟩ := U'
  obtain ⟨p1, mo1, es1, k1, es2, L2, k2, g1, g2, g3, g4, g5, g6, g7, g8, g9, g10, g11, g12, g13, g14, g15, g16, g17, g18, g19, g20, g21, g22⟩ := hME
  have cm : cf m = c := m2.2.1
  have N11' := hA.1.2.2.2.1
  have zN' := hA.2.2.1
  have at384 : pb + e' + 4 + 3 * c < 384 := by
    have := hM.2.1
    rw [cm] at g7
    have lo := ls_pos_le hA.1 zN'.1 zN'.2
    rw [g1] at lo
    dsimp only at lo
    split at g7 <;> omega
  have ac8 : as.length < 8 := by omega
  have t0 : 0 < tl := by omega
  have TE : mt - tl + 1 = mt - (tl - 1) := by omega
  rw [cm] at g1 g3 g7 g10
  have SLL : ls_sl (L :: Ls) = L.length + ls_sl Ls := rfl
  have cdc : nI (k.1 - d + 1) = nI (k'.1 - d) := by rw [hk', show k.1 + 1 - d = k.1 - d + 1 by omega]
  obtain ⟨z0, x1, y1, ex1, ey1, SU⟩ := ls_cu_wait (q := q) (m := m) (D' := ls_blk a_declared (24 + 8 * as.length) c (fun i => nI (pf m i))) (cr' := upd a_callReturn as.length (nI (k.1 - d + 1))) cuz (fun j hj _ => ls_blk_n (by omega)) (fun i hi => pk_un (by omega)) (by rw [pk_us]; exact cdc) (by have := hM.1; omega) g19
  injection ex1 with _ ex1
  injection ey1 with _ ey1
  subst ex1 ey1
  have cu' : ls_cu yn (upd a_callReturn as.length (nI (k.1 - d + 1))) a_mKind (ls_blk a_declared (24 + 8 * as.length) c (fun i => nI (pf m i))) (ls_UA a_codeOp a_codeArg a_codeKind a_codePlace a_tk a_tv a_tp) (T', V', C', kF', n', N', d', e', ta', tz') ta' (((T, V, C, kF, n, N, d, e, ta, tz), t + 1) :: as) (0, p1, es1, [], [(1, c, p1, L1), (2, mo1, pb, [q])], L1, k1) (L :: Ls) xr yr os' ((1, ls_sl (L :: Ls) + L1.length, 0) :: (3, pos' + e, m * 128 + ls_sl Ls) :: cs) := by
    refine ls_cu_sm (c0 := (3, pos' + e, m * 128 + ls_sl Ls) :: cs) hA ⟨fun q => absurd q (by simp), fun _ => ⟨q, mo1, pb, es2, L2, k2, rfl, g5, ?_, g2, g13, g14⟩⟩ ⟨Nat.le_refl _, zN'.1⟩ g1 (by omega) (ls_ct_1.mpr ⟨_, rfl, (ls_ct_x (by show (2 : Nat) ≠ 1; decide) (by show (2 : Nat) ≠ 5; decide)).mpr rfl⟩) SU
    rw [g1]
    dsimp only
    omega
  have hV' : ls_lev (ls_sm (ls_blk a_declared (24 + 8 * as.length) c (fun i => nI (pf m i))) (ls_blk a_cellKind (24 + 8 * as.length) c (fun i => nI (ls_ent1 (pf m) ak i))) (ls_blk a_cellValue (24 + 8 * as.length) c av) (ls_blk a_vDecl (ls_sl Ls + L.length) c (fun i => nI (pf m i))) (ls_blk a_vKind (ls_sl Ls + L.length) c (fun i => nI (ls_ent1 (pf m) ak i))) (ls_blk a_vVal (ls_sl Ls + L.length) c av)) (ls_blk a_vName (ls_sl Ls + L.length) c (fun i => nI (T' (pb + 4 + 3 * i)))) (L1 :: L :: Ls) := by
    refine ⟨ls_LN_mk (g := fun i => T' (pb + 4 + 3 * i)) (fun i hi => ?_), fun i hi => ?_, ?_⟩
    · rw [g3] at hi ⊢
      obtain ⟨q1, q2, q3⟩ := g10 i hi
      refine ⟨q1, q2.1, ?_⟩
      rw [SLL, show L.length + ls_sl Ls + i = ls_sl Ls + L.length + i by omega]
      exact ls_blk_s hi
    · rw [g3] at hi
      rw [SLL, List.length_cons, Lsl, show 16 + 8 * (as.length + 1) + i = 24 + 8 * as.length + i by omega, show L.length + ls_sl Ls + i = ls_sl Ls + L.length + i by omega]
      have fit := m2.2.2 i hi
      have wf := ls_fit_wf (AW i hi) (g8 i) fit
      have ek : ls_ent1 (pf m) ak i = if pf m i = 5 then ak i else pf m i := rfl
      refine ⟨pf m i, ls_ent1 (pf m) ak i, g8 i, wf.1, ls_blk_s hi, ls_blk_s hi, ls_blk_s hi, ls_blk_s hi, ?_, ?_, ?_⟩
      · rw [ls_blk_s hi, ls_blk_s hi]
      · rw [ls_blk_s hi]; exact wf
      · by_cases q5 : pf m i = 5
        · exact Or.inl q5
        · exact Or.inr (by rw [ek, if_neg q5])
    · refine ls_lev_mono (fun cc pp h1 h16 hp g => ?_) (ls_cu_l8 hcu) (fun p hp => ls_blk_n (by omega)) hV
      rw [List.length_cons, Lsl] at h1
      obtain ⟨dd, kd, s1, s2, s3, s4, s5, s6, s7, s8, s9⟩ := g
      have e3 : ls_blk a_cellValue (24 + 8 * as.length) c av cc = a_cellValue cc := ls_blk_n (by omega)
      exact ⟨dd, kd, s1, s2, (ls_blk_n (by omega)).trans s3, (ls_blk_n (by omega)).trans s4, (ls_blk_n (by omega)).trans s5, (ls_blk_n (by omega)).trans s6, by rw [e3]; exact (ls_blk_n (by omega)).trans s7, by rw [e3]; exact s8, s9⟩
  have hG' : ls_gl (ls_blk a_declared (24 + 8 * as.length) c (fun i => nI (pf m i))) (ls_blk a_cellKind (24 + 8 * as.length) c (fun i => nI (ls_ent1 (pf m) ak i))) (ls_blk a_cellValue (24 + 8 * as.length) c av) (ls_blk a_vDecl (ls_sl Ls + L.length) c (fun i => nI (pf m i))) (ls_blk a_vKind (ls_sl Ls + L.length) c (fun i => nI (ls_ent1 (pf m) ak i))) (ls_blk a_vVal (ls_sl Ls + L.length) c av) := by
    intro i hi
    rcases hG i hi with g | ⟨u1, u2⟩
    · left
      obtain ⟨dd, kd, s1, s2, s3, s4, s5, s6, s7, s8, s9⟩ := g
      have e3 : ls_blk a_cellValue (24 + 8 * as.length) c av i = a_cellValue i := ls_blk_n (by omega)
      exact ⟨dd, kd, s1, s2, (ls_blk_n (by omega)).trans s3, (ls_blk_n (by omega)).trans s4, (ls_blk_n (by omega)).trans s5, (ls_blk_n (by omega)).trans s6, by rw [e3]; exact (ls_blk_n (by omega)).trans s7, by rw [e3]; exact s8, s9⟩
    · exact Or.inr ⟨(ls_blk_n (by omega)).trans u1, (ls_blk_n (by omega)).trans u2⟩
  have hX' : ls_stk (ls_blk a_cellKind (24 + 8 * as.length) c (fun i => nI (ls_ent1 (pf m) ak i))) (ls_blk a_cellValue (24 + 8 * as.length) c av) 88 xr := ls_stk_ag (fun j h1 h2 => ⟨ls_blk_n (by omega), ls_blk_n (by omega)⟩) (ls_stk_app hX2)
  have hE' : ls_StP (upd (upd a_cKind cs.length (nI 3)) (cs.length + 1) (nI 1)) (upd (upd a_cA cs.length (nI (pos' + e))) (cs.length + 1) (nI (ls_sl Ls + L.length + c))) (upd (upd a_cB cs.length (nI (m * 128 + ls_sl Ls))) (cs.length + 1) (nI 0)) ((1, ls_sl (L :: Ls) + L1.length, 0) :: (3, pos' + e, m * 128 + ls_sl Ls) :: cs) := by
    refine ⟨pk_us, ?_, pk_us, ?_, ?_, ?_, ?_⟩
    · rw [SLL, g3, show L.length + ls_sl Ls + c = ls_sl Ls + L.length + c by omega]
      exact pk_us
    · exact (pk_un (by omega)).trans pk_us
    · exact (pk_un (by omega)).trans pk_us
    · exact (pk_un (by omega)).trans pk_us
    · exact ls_StP_ag (fun j hj => ⟨(pk_un (by omega)).trans (pk_un (by omega)), (pk_un (by omega)).trans (pk_un (by omega)), (pk_un (by omega)).trans (pk_un (by omega))⟩) hE
  have hl' : f_tickLimit = nI mt ∧ tl - 1 ≤ mt ∧ mt ≤ 400 ∧ (((T, V, C, kF, n, N, d, e, ta, tz), t + 1) :: as).length ≤ 8 ∧ yn ≤ 140 := ⟨hl.1, by omega, mt4, by rw [List.length_cons]; omega, hl.2.2.2.2⟩
  have PH : ls_Phi (tl - 1) (((T, V, C, kF, n, N, d, e, ta, tz), t + 1) :: as) 0 [(1, c, p1, L1), (2, mo1, pb, [q])] N' ta' + 4 ≤ F := by
    rw [← hF]
    unfold ls_Phi
    have A5 : ls_a5 (((T, V, C, kF, n, N, d, e, ta, tz), t + 1) :: as) = ls_l5 fr + ls_a5 as := by
      show ls_l5 (C (t + 1)).2.2.2.2.1 + ls_a5 as = _
      rw [hc]
    have L0 : ls_lo5 0 [(1, c, p1, L1), (2, mo1, pb, [q])] = 0 := by
      unfold ls_lo5
      show 0 - _ = 0
      omega
    rw [A5, L0, ls_lo5_x (st := st) (by omega), List.length_cons]
    omega
  have S' : ls_S yn mt (tl - 1) oc mc mu ((T', V', C', kF', n', N', d', e', ta', tz')) ta' (((T, V, C, kF, n, N, d, e, ta, tz), t + 1) :: as) ((0, p1, es1, [], [(1, c, p1, L1), (2, mo1, pb, [q])], L1, k1)) (L :: Ls) xr yr os' ((1, ls_sl (L :: Ls) + L1.length, 0) :: (3, pos' + e, m * 128 + ls_sl Ls) :: cs) f_tickLimit a_outKind a_outValue a_codeOp a_codeArg a_codeKind a_codePlace a_methodSign a_methodStart (ls_blk a_declared (24 + 8 * as.length) c (fun i => nI (pf m i))) (ls_blk a_cellKind (24 + 8 * as.length) c (fun i => nI (ls_ent1 (pf m) ak i))) (ls_blk a_cellValue (24 + 8 * as.length) c av) (upd a_callReturn as.length (nI (k.1 - d + 1))) a_tk a_tv a_tp a_mName a_mKind a_mCount a_mPar a_mAt (ls_blk a_vName (ls_sl Ls + L.length) c (fun i => nI (T' (pb + 4 + 3 * i)))) (ls_blk a_vDecl (ls_sl Ls + L.length) c (fun i => nI (pf m i))) (ls_blk a_vKind (ls_sl Ls + L.length) c (fun i => nI (ls_ent1 (pf m) ak i))) (ls_blk a_vVal (ls_sl Ls + L.length) c av) a_sk a_sv nK nA nG (upd (upd a_cKind cs.length (nI 3)) (cs.length + 1) (nI 1)) (upd (upd a_cA cs.length (nI (pos' + e))) (cs.length + 1) (nI (ls_sl Ls + L.length + c))) (upd (upd a_cB cs.length (nI (m * 128 + ls_sl Ls))) (cs.length + 1) (nI 0)) a_outK a_outV := ⟨cu', hX', ls_stk_app hY2, hO', hE', hG', hV', hl', ho, hM⟩
  have G0 : ls_G (ls_Phi (tl - 1) (((T, V, C, kF, n, N, d, e, ta, tz), t + 1) :: as) 0 [(1, c, p1, L1), (2, mo1, pb, [q])] N' ta') (f_tickLimit, f_tokenCount, nI oc, 0, f_errorPlace, f_lastKind, f_lastValue, f_codeSize, nI mc, nI mu, nI (88 + xr.length), nI (as.length + 1), nI (k1.1 - d'), nI (tl - 1), f_state, f_pos, f_expressionStart, f_pendingCount, f_frameTop, f_localCount, a_tokenCode, a_tokenValue, a_outKind, a_outValue, a_codeOp, a_codeArg, a_codeKind, a_codePlace, a_methodSign, a_methodStart, ls_blk a_declared (24 + 8 * as.length) c (fun i => nI (pf m i)), ls_blk a_cellKind (24 + 8 * as.length) c (fun i => nI (ls_ent1 (pf m) ak i)), ls_blk a_cellValue (24 + 8 * as.length) c av, upd a_callReturn as.length (nI (k.1 - d + 1)), a_pendingLevel, a_pendingPlace, a_pendingMore, a_frameKind, a_frameMore, a_localName) (nI mt, nI yn, nI (140 + mu), nI mc, nI (ls_sl (L :: Ls) + L1.length), nI (ls_sl (L :: Ls)), nI yr.length, nI os'.length, nI (cs.length + 1 + 1), nI (p1 + e'), nI (ls_md 0 []), 0, f_errorPlace, nI (mt - (tl - 1)), nI (as.length + 1), nI oc, f_lastKind, nI (ls_pt 0 [(1, c, p1, L1), (2, mo1, pb, [q])]), f_lastValue, f_cnt, f_full, f_flag, f_need, a_tk, a_tv, a_tp, a_mName, a_mKind, a_mCount, a_mPar, a_mAt, ls_blk a_vName (ls_sl Ls + L.length) c (fun i => nI (T' (pb + 4 + 3 * i))), ls_blk a_vDecl (ls_sl Ls + L.length) c (fun i => nI (pf m i)), ls_blk a_vKind (ls_sl Ls + L.length) c (fun i => nI (ls_ent1 (pf m) ak i)), ls_blk a_vVal (ls_sl Ls + L.length) c av, a_sk, a_sv, nK, nA, nG, upd (upd a_cKind cs.length (nI 3)) (cs.length + 1) (nI 1), upd (upd a_cA cs.length (nI (pos' + e))) (cs.length + 1) (nI (ls_sl Ls + L.length + c)), upd (upd a_cB cs.length (nI (m * 128 + ls_sl Ls))) (cs.length + 1) (nI 0), a_outK, a_outV) := ih S' (by omega) (fun q => absurd q.1 (by decide))
  rw [show ls_md 0 [] = 0 from rfl, show ls_pt 0 [(1, c, p1, L1), (2, mo1, pb, [q])] = 0 from rfl, g3, SLL, show L.length + ls_sl Ls = ls_sl Ls + L.length by omega, show p1 + e' = pb + e' + (if c = 0 then 5 else 4 + 3 * c) by omega, ← g17] at G0
  refine ls_G_go (a := 1) (b := b) (HX _ (fun post hp => ?_)) (hy _ (fun post hp => ?_)) G0 (by omega) (by omega)
  · refine hx_call SG dk.2 ar hnm hc3 ⟨by omega, by omega⟩ as8 (by omega) AK (fun q => absurd q c5) (fun _ q => absurd q C6) (fun m q1 q2 q3 q4 => absurd q4 c7) (fun m q1 q2 q3 q4 q5 => absurd q5 c9) anti (fun m' q1 q2 q3 _ _ dc ck cv i1 i2 => ?_)
    have em := UN m' q1 q2 q3
    subst em
    rw [ls_blk_eq (fun j hj => (i1 j hj).1) (fun i hi => (i2 i hi).1), ls_blk_eq (fun j hj => (i1 j hj).2.1) (fun i hi => (i2 i hi).2.1), ls_blk_eq (fun j hj => (i1 j hj).2.2) (fun i hi => (i2 i hi).2.2)]
    exact hp
  · refine hy_call YM ol o2 hpl o3 tkpl hnm hc3 (by omega) BK (by omega) (by omega) (by omega) as8 (by omega) (by omega) (by omega) rfl anti (fun q => absurd q c5) (fun _ q => absurd q C6) (fun m q1 q2 q3 q4 => absurd q4 c7) (fun m q1 q2 q3 q4 q5 => by omega) (fun m' q1 q2 q3 _ _ => ?_)
    have em := UN m' q1 q2 q3
    subst em
    refine ⟨pb + e', fun i => T' (pb + 4 + 3 * i), g22, at384, fun i hi => ?_, fun vn vd vk vv i1 i2 => ?_⟩
    · obtain ⟨q1, q2, q3⟩ := g10 i hi
      rw [show pb + e' + 4 + 3 * i = pb + 4 + 3 * i + e' by omega]
      exact ⟨q3, by have := q2.2; show T' (pb + 4 + 3 * i) < 100; omega⟩
    · rw [ls_blk_eq (fun j hj => (i1 j hj).1) (fun i hi => (i2 i hi).1), ls_blk_eq (fun j hj => (i1 j hj).2.1) (fun i hi => (i2 i hi).2.1), ls_blk_eq (fun j hj => (i1 j hj).2.2.1) (fun i hi => (i2 i hi).2.2.1), ls_blk_eq (fun j hj => (i1 j hj).2.2.2) (fun i hi => (i2 i hi).2.2.2), TE]
      exact hp
end
