/-! Blocks end; declarations -/
section
variable {F : Nat → Nat → Prop} {vN : Nat → Int32} {L : List Nat} {Ls : List (List Nat)}
set_option maxHeartbeats 200000 in
theorem ls_LN_drop {b : Nat} : ∀ {L : List Nat} (m : Nat), ls_LN vN b L → ls_LN vN b (L.drop m)
  | [], m, h => by cases m <;> exact h
  | _ :: _, 0, h => h
  | _ :: _, m + 1, h => ls_LN_drop m h.2
set_option maxHeartbeats 200000 in
theorem ls_lev_drop (m : Nat) (h : ls_lev F vN (L :: Ls)) : ls_lev F vN (L.drop m :: Ls) :=
  ⟨ls_LN_drop m h.1, fun i hi => h.2.1 i (by rw [List.length_drop] at hi; omega), h.2.2⟩
end
section
variable {T : Nat → Nat} {V : Nat → Int32} {C : Nat → LsC} {kF : LsK} {n N d e ta tz : Nat} {yn : Nat} {cr mk D : Nat → Int32} {co ca ck cp tk : Nat → Int32} {tv : Nat → Int64} {tp : Nat → Int32}
variable {t st pos es : Nat} {k : LsK} {as : List LsA} {Ls : List (List Nat)} {xs ys : List LsV} {os : List LsP}
set_option maxHeartbeats 200000 in
theorem ls_sus_k : ∀ {as : List LsA} {kd Ls xs ys os cs}, ls_sus yn cr mk D (ls_UA co ca ck cp tk tv tp) as kd Ls xs ys os cs → ∀ x ∈ cs, x.1 ≤ 3
  | [], kd, Ls, xs, ys, os, cs, h, x, hx => by
    have := h.2.2.2.2.2
    subst this
    cases hx
  | (U, t) :: as, kd, Ls, xs, ys, os, cs, h, x, hx => by
    obtain ⟨T, V, C, kF, n, N, d, e, ta, tz⟩ := U
    obtain ⟨ha, pos, es, pe, f, r, L, k, q, m, ins, Ls', xs', ys', os', c1, cs', h1, h2, h3, h4, h5, h6, h7, h8, h9, h10, h11, h12, h13, h14, h15⟩ := h
    subst h13
    obtain ⟨cX, e1, e2⟩ := ls_ct_app h14
    rcases List.mem_cons.mp hx with rfl | hx
    · show (3 : Nat) ≤ 3; omega
    · rw [e1] at hx
      rcases List.mem_append.mp hx with q | q
      · have := e2 x q; omega
      · exact ls_sus_k h15 x q
set_option maxHeartbeats 200000 in
/-- below other frames than a method's the reference's entry on top is no call's -/
theorem ls_ct_n3 {b e0 : Nat} {Q : LsF → List LsF → List Nat → Nat → Prop} {c0 : List LsP} {g : LsF} (hg : g.1 = 2) : ∀ {fr : List LsF} {S : List LsF} {f : LsF} {L : List Nat} {cs : List LsP}, fr = f :: S ++ [g] → ls_mb fr → ls_ct b e0 Q c0 fr L cs → ∀ x r, cs = x :: r → x.1 ≠ 3
  | [], S, f, L, cs, e1, _, _, x, r, _ => by cases e1
  | f0 :: r0, S, f, L, cs, e1, hm, hc, x, r, hx => by
    injection e1 with e1 e2
    subst e1
    unfold ls_ct at hc
    split at hc
    · obtain ⟨cs', h1, _⟩ := hc
      rw [hx] at h1
      injection h1 with h1 _
      rw [h1]; show (1 : Nat) ≠ 3; decide
    · next n1 =>
      split at hc
      · obtain ⟨q, cs', h1, _⟩ := hc
        rw [hx] at h1
        injection h1 with h1 _
        rw [h1]; show (2 : Nat) ≠ 3; decide
      · cases S with
        | nil =>
          have e2' : r0 = [g] := e2
          have : f0.1 = 1 := hm.1 (by rw [e2']; exact hg)
          exact absurd this n1
        | cons f2 S2 => exact ls_ct_n3 hg (S := S2) (f := f2) e2 hm.2 hc x r hx
end
section
variable {f_tickLimit f_tokenCount f_outCount f_error f_errorPlace f_lastKind f_codeSize f_methodCount f_methodTokens f_cellCount f_activeCalls f_next f_ticksLeft f_state f_pos f_expressionStart f_pendingCount f_frameTop f_localCount : Int32}
variable {f_lastValue : Int64}
variable {a_tokenCode a_tokenValue a_outKind a_codeOp a_codeArg a_codeKind a_codePlace a_methodSign a_methodStart a_declared a_cellKind a_callReturn a_pendingLevel a_pendingPlace a_pendingMore a_frameKind a_frameMore a_localName : Nat → Int32}
variable {a_outValue a_cellValue : Nat → Int64}
variable {f_cnt f_full f_flag f_need : Int32}
variable {a_tk a_tp a_mName a_mKind a_mCount a_mPar a_mAt a_vName a_vDecl a_vKind a_sk a_oKind a_oAt a_oArgs a_cKind a_cA a_cB a_outK : Nat → Int32}
variable {a_tv a_vVal a_sv a_outV : Nat → Int64}
variable {yn mt tl oc mc mu : Nat} {T : Nat → Nat} {V : Nat → Int32} {C : Nat → LsC} {kF : LsK} {n N d e ta tz t : Nat} {as : List LsA} {st pos es : Nat} {pe : List LsP} {fr : List LsF} {L : List Nat} {k : LsK} {Ls : List (List Nat)} {xs ys : List LsV} {os cs : List LsP} {F : Nat}
set_option maxHeartbeats 1000000 in
/-- a block ends that is not a method's -/
theorem gs_cls {a sp : Nat} {l : List Nat} {r : List LsF} (ih : ls_IH F) (h : ls_S yn mt tl oc mc mu ((T, V, C, kF, n, N, d, e, ta, tz)) t as ((0, pos, es, [], (1, a, sp, l) :: r, L, k)) Ls xs ys os cs f_tickLimit a_outKind a_outValue a_codeOp a_codeArg a_codeKind a_codePlace a_methodSign a_methodStart a_declared a_cellKind a_cellValue a_callReturn a_tk a_tv a_tp a_mName a_mKind a_mCount a_mPar a_mAt a_vName a_vDecl a_vKind a_vVal a_sk a_sv a_oKind a_oAt a_oArgs a_cKind a_cA a_cB a_outK a_outV) (hF : ls_Phi tl as 0 ((1, a, sp, l) :: r) N t = F) (h18 : T pos = 18) (hr2 : ls_fk r ≠ 2) (hc : C (t + 1) = (3, pos + 1, es, [], r, l, k)) : ls_G F (f_tickLimit, f_tokenCount, nI oc, 0, f_errorPlace, f_lastKind, f_lastValue, f_codeSize, nI mc, nI mu, nI (88 + xs.length), nI as.length, nI (k.1 - d), nI tl, f_state, f_pos, f_expressionStart, f_pendingCount, f_frameTop, f_localCount, a_tokenCode, a_tokenValue, a_outKind, a_outValue, a_codeOp, a_codeArg, a_codeKind, a_codePlace, a_methodSign, a_methodStart, a_declared, a_cellKind, a_cellValue, a_callReturn, a_pendingLevel, a_pendingPlace, a_pendingMore, a_frameKind, a_frameMore, a_localName) (nI mt, nI yn, nI (140 + mu), nI mc, nI (ls_sl Ls + L.length), nI (ls_sl Ls), nI ys.length, nI os.length, nI cs.length, nI (pos + e), nI 0, 0, f_errorPlace, nI (mt - tl), nI as.length, nI oc, f_lastKind, nI 0, f_lastValue, f_cnt, f_full, f_flag, f_need, a_tk, a_tv, a_tp, a_mName, a_mKind, a_mCount, a_mPar, a_mAt, a_vName, a_vDecl, a_vKind, a_vVal, a_sk, a_sv, a_oKind, a_oAt, a_oArgs, a_cKind, a_cA, a_cB, a_outK, a_outV) := by
  have h' := h
  obtain ⟨hcu, hX, hY, hO, hE, hG, hV, hl, ho, hM⟩ := h'
  have U := hcu.1
  have tt := hcu.2.2.1
  have ec := hcu.2.2.2.1
  have hV : ls_lev (ls_sm a_declared a_cellKind a_cellValue a_vDecl a_vKind a_vVal) a_vName (L :: Ls) := hV
  have LB := ls_cu_len hcu
  have as8 := hl.2.2.2.1
  obtain ⟨hg, lt, ltN, d1, d2, t1, t2, t3, t4⟩ := ls_hg hcu (by omega) (fun q => by omega) (Or.inl (by omega))
  have B : cs.length < 1000 ∧ pos + e < 1000 ∧ yn < 1000 := ls_Sb5 h t3
  have CTOP := ls_cs_top hcu (by omega) as8
  obtain ⟨cs', ecs, cu'⟩ := ls_cu_cls hcu hc
  have cl : cs.length = cs'.length + 1 := by rw [ecs, List.length_cons]
  have hI := (U.1.2.2.2.2 t (by omega)).2.1
  rw [ec] at hI
  obtain ⟨_, _, _, i4, _⟩ := hI
  have i4' : (if (1 : Nat) = 1 then a = l.length ∧ (∃ m, l = L.drop m) ∧ ls_sco r l else _) := i4
  rw [if_pos rfl] at i4'
  obtain ⟨_, ⟨m, hm⟩, _⟩ := i4'
  have hV' : ls_lev (ls_sm a_declared a_cellKind a_cellValue a_vDecl a_vKind a_vVal) a_vName (l :: Ls) := by rw [hm]; exact ls_lev_drop m hV
  have hE' := hE
  rw [ecs] at hE'
  have N3 : ∀ x r', cs' = x :: r' → x.1 ≠ 3 := by
    obtain ⟨b1, b2, b3, b4, c0, b5, b6⟩ := ls_cu_s cu' (by omega)
    by_cases a0 : as = []
    · subst a0
      intro x r' hx
      rcases ls_ct_top b5 with q | ⟨a', r'', q⟩ | ⟨f, r2, L', q, r'', e1, _⟩
      · rw [b6.2.2.2.2.2] at q
        rw [q] at hx
        cases hx
      · rw [hx] at q
        injection q with q _
        rw [q]; show (1 : Nat) ≠ 3; decide
      · rw [hx] at e1
        injection e1 with e1 _
        rw [e1]; show (2 : Nat) ≠ 3; decide
    · obtain ⟨q0, mo0, pb0, es0, L0, k0, w1, w2, w3, w4, w5, w6⟩ := b2.2 a0
      obtain ⟨y, ha⟩ := (U.1.2.2.2.2 (t + 1) (by omega)).2.2.2.2
      rw [hc] at ha
      have tz1 : t + 1 < tz := ls_UK_lt b2 U.2.2.1.2 U.1 b3.2 hc (by decide) (fun q => hr2 q.2)
      obtain ⟨f, S, hS⟩ := w6 (t + 1) (by omega) tz1
      rw [hc] at hS
      exact ls_ct_n3 (g := (2, mo0, pb0, [q0])) rfl hS ha.1 b5
  have N3b : ∀ x ∈ cs', x.1 < 100 := by
    obtain ⟨b1, b2, b3, b4, c0, b5, b6⟩ := ls_cu_s cu' (by omega)
    obtain ⟨cX, e1, e2⟩ := ls_ct_app b5
    intro x hx
    rw [e1] at hx
    rcases List.mem_append.mp hx with q | q
    · have := e2 x q; omega
    · have := ls_sus_k b6 x q; omega
  have P := ls_Phi_lt (tl := tl) (as := as) (st := 0) (st' := 3) (fr := (1, a, sp, l) :: r) (fr' := r) (N := N) (t := t) (t' := t + 1) (by
    rw [ls_lo5_x (st := 3) (by omega)]
    unfold ls_lo5
    rw [if_neg (by show ¬ (_ ∧ (1 : Nat) = 5); omega)]
    show ls_l5 r ≤ 0 + ls_l5 r - 0
    omega) (by omega) ltN
  have S' : ls_S yn mt tl oc mc mu ((T, V, C, kF, n, N, d, e, ta, tz)) (t + 1) as ((3, pos + 1, es, [], r, l, k)) Ls xs ys os cs' f_tickLimit a_outKind a_outValue a_codeOp a_codeArg a_codeKind a_codePlace a_methodSign a_methodStart a_declared a_cellKind a_cellValue a_callReturn a_tk a_tv a_tp a_mName a_mKind a_mCount a_mPar a_mAt a_vName a_vDecl a_vKind a_vVal a_sk a_sv a_oKind a_oAt a_oArgs a_cKind a_cA a_cB a_outK a_outV := ⟨cu', hX, hY, hO, hE'.2.2.2, hG, hV', hl, ho, hM⟩
  have G0 : ls_G (ls_Phi tl as 3 r N (t + 1)) (f_tickLimit, f_tokenCount, nI oc, 0, f_errorPlace, f_lastKind, f_lastValue, f_codeSize, nI mc, nI mu, nI (88 + xs.length), nI as.length, nI (k.1 - d), nI tl, f_state, f_pos, f_expressionStart, f_pendingCount, f_frameTop, f_localCount, a_tokenCode, a_tokenValue, a_outKind, a_outValue, a_codeOp, a_codeArg, a_codeKind, a_codePlace, a_methodSign, a_methodStart, a_declared, a_cellKind, a_cellValue, a_callReturn, a_pendingLevel, a_pendingPlace, a_pendingMore, a_frameKind, a_frameMore, a_localName) (nI mt, nI yn, nI (140 + mu), nI mc, nI (ls_sl Ls + l.length), nI (ls_sl Ls), nI ys.length, nI os.length, nI cs'.length, nI (pos + 1 + e), nI (ls_md 3 []), 0, f_errorPlace, nI (mt - tl), nI as.length, nI oc, f_lastKind, nI (ls_pt 3 r), f_lastValue, f_cnt, f_full, f_flag, f_need, a_tk, a_tv, a_tp, a_mName, a_mKind, a_mCount, a_mPar, a_mAt, a_vName, a_vDecl, a_vKind, a_vVal, a_sk, a_sv, a_oKind, a_oAt, a_oArgs, a_cKind, a_cA, a_cB, a_outK, a_outV) := ih S' (by omega) (fun q => hr2 q.2)
  rw [show ls_md 3 [] = 0 from rfl, ls_pt_x (by omega)] at G0
  refine ls_G_go (a := 0) (b := 1) ls_xr_0 (yr_stmt B hg (fun post hp => ?_)) G0 (by omega) (by omega)
  refine hy_statement_m t3 (by have := LB.2.2.2.1; omega) hE CTOP (hy_st_close t3 (by rw [t1, h18]; rfl) ?_)
  rw [cl]
  refine hy_close (by omega) (by have := LB.2.2.2.1; omega) hE' N3b (fun _ => ?_) (fun x r' q1 q2 => absurd q2 (N3 x r' q1))
  rw [show pos + e + 1 = pos + 1 + e by omega]
  exact hp
end
