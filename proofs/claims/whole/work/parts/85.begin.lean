/-! Blocks and expressions begin -/
section
variable {f_most f_n f_stored f_nm f_nEnv f_base f_ns f_no f_nc f_pc f_mode f_err f_errAt f_ticks f_calls f_outs f_resK f_part f_cnt f_full f_flag f_need : Int32}
variable {f_resV : Int64}
variable {a_tk a_tp a_mName a_mKind a_mCount a_mPar a_mAt a_vName a_vDecl a_vKind a_sk a_oKind a_oAt a_oArgs a_cKind a_cA a_cB a_outK : Nat → Int32}
variable {a_tv a_vVal a_sv a_outV : Nat → Int64}
variable {post : SY → Prop} {p a no : Nat}
set_option maxHeartbeats 200000 in
/-- an expression's statement -/
theorem hy_begin_x6 {pt : Nat} (hno : no < 400) (hp : p < 384) (hpt : pt ≤ 1) (ha : a < 100) (n : a ≠ 20 ∧ a ≠ 17 ∧ a ≠ 6 ∧ a ≠ 8 ∧ a ≠ 12 ∧ a ≠ 9 ∧ a ≠ 10 ∧ a ≠ 11) (g : ∀ og, (∀ j, j ≠ no → og j = a_oArgs j) → og no = nI pt → post (f_most, f_n, f_stored, f_nm, f_nEnv, f_base, f_ns, nI (no + 1), f_nc, nI p, 1, f_err, f_errAt, f_ticks, f_calls, f_outs, f_resK, 0, f_resV, f_cnt, f_full, f_flag, f_need, a_tk, a_tv, a_tp, a_mName, a_mKind, a_mCount, a_mPar, a_mAt, a_vName, a_vDecl, a_vKind, a_vVal, a_sk, a_sv, upd a_oKind no (nI 1), upd a_oAt no (nI p), og, a_cKind, a_cA, a_cB, a_outK, a_outV)) : wpY_begin post (f_most, f_n, f_stored, f_nm, f_nEnv, f_base, f_ns, nI no, f_nc, nI p, f_mode, f_err, f_errAt, f_ticks, f_calls, f_outs, f_resK, nI pt, f_resV, f_cnt, f_full, f_flag, f_need, a_tk, a_tv, a_tp, a_mName, a_mKind, a_mCount, a_mPar, a_mAt, a_vName, a_vDecl, a_vKind, a_vVal, a_sk, a_sv, a_oKind, a_oAt, a_oArgs, a_cKind, a_cA, a_cB, a_outK, a_outV) (nI a) := by
  have N : ∀ w : Nat, w < 100 → a ≠ w → ¬ nI a = nI w := fun w hw h => mt (ls_k8 ha hw).mp h
  have G210 : ∀ og, (∀ j, j ≠ no → og j = a_oArgs j) → og no = nI pt → wY_begin_210 post (nI a) f_most f_n f_stored f_nm f_nEnv f_base f_ns (nI (no + 1)) f_nc (nI p) f_mode f_err f_errAt f_ticks f_calls f_outs f_resK 0 f_resV f_cnt f_full f_flag f_need a_tk a_tv a_tp a_mName a_mKind a_mCount a_mPar a_mAt a_vName a_vDecl a_vKind a_vVal a_sk a_sv (upd a_oKind no (nI 1)) (upd a_oAt no (nI p)) og a_cKind a_cA a_cB a_outK a_outV := by
    intro og h1 h2
    unfold wY_begin_210
    exact br_f (N 11 (by decide) n.2.2.2.2.2.2.2) (g og h1 h2)
  have G185 : wY_begin_185 post (nI a) (nI pt) f_most f_n f_stored f_nm f_nEnv f_base f_ns (nI no) f_nc (nI p) f_mode f_err f_errAt f_ticks f_calls f_outs f_resK 0 f_resV f_cnt f_full f_flag f_need a_tk a_tv a_tp a_mName a_mKind a_mCount a_mPar a_mAt a_vName a_vDecl a_vKind a_vVal a_sk a_sv a_oKind a_oAt a_oArgs a_cKind a_cA a_cB a_outK a_outV := by
    unfold wY_begin_185
    refine hy_openOp (kd := 1) hno (by decide) (by omega) ?_
    by_cases c : pt = 0
    · subst c
      exact br_t rfl (G210 _ (fun j hj => pk_un hj) pk_us)
    · have : pt = 1 := by omega
      subst this
      dsimp only
      rw [nI_pred, nI_clamp (by omega), show vp_nar .byte 1 = nI 1 from ls_vnb (n := 1) (by decide)]
      exact br_f (by decide) ⟨vp_in_nI hno (by decide), nm_e (G210 _ (fun j hj => (pk_un hj).trans (pk_un hj)) pk_us)⟩
  unfold wpY_begin
  dsimp only
  exact br_f (N 20 (by decide) n.1) (br_f (N 17 (by decide) n.2.1) (br_f (N 6 (by decide) n.2.2.1) (br_f (N 8 (by decide) n.2.2.2.1) (br_f (N 12 (by decide) n.2.2.2.2.1) (br_f (N 9 (by decide) n.2.2.2.2.2.1) (br_f (N 10 (by decide) n.2.2.2.2.2.2.1) (br_f (N 11 (by decide) n.2.2.2.2.2.2.2) G185)))))))
end
section
variable {f_tickLimit f_tokenCount f_outCount f_error f_errorPlace f_lastKind f_codeSize f_methodCount f_methodTokens f_cellCount f_activeCalls f_next f_ticksLeft f_state f_pos f_expressionStart f_pendingCount f_frameTop f_localCount : Int32}
variable {f_lastValue : Int64}
variable {a_tokenCode a_tokenValue a_outKind a_codeOp a_codeArg a_codeKind a_codePlace a_methodSign a_methodStart a_declared a_cellKind a_callReturn a_pendingLevel a_pendingPlace a_pendingMore a_frameKind a_frameMore a_localName : Nat → Int32}
variable {a_outValue a_cellValue : Nat → Int64}
variable {f_cnt f_full f_flag f_need : Int32}
variable {a_tk a_tp a_mName a_mKind a_mCount a_mPar a_mAt a_vName a_vDecl a_vKind a_sk a_oKind a_oAt a_oArgs a_cKind a_cA a_cB a_outK : Nat → Int32}
variable {a_tv a_vVal a_sv a_outV : Nat → Int64}
variable {yn mt tl oc mc mu : Nat} {T : Nat → Nat} {V : Nat → Int32} {C : Nat → LsC} {kF : LsK} {n N d e ta tz t : Nat} {as : List LsA} {st pos es : Nat} {pe : List LsP} {fr : List LsF} {L : List Nat} {k : LsK} {Ls : List (List Nat)} {xs ys : List LsV} {os cs : List LsP} {F : Nat}
set_option maxHeartbeats 200000 in
theorem ls_pt_le {st : Nat} {fr : List LsF} : ls_pt st fr ≤ 1 := by
  unfold ls_pt
  split <;> omega
set_option maxHeartbeats 200000 in
/-- a block -/
theorem gs_blk (ih : ls_IH F) (h : ls_S yn mt tl oc mc mu ((T, V, C, kF, n, N, d, e, ta, tz)) t as ((1, pos, es, [], fr, L, k)) Ls xs ys os cs f_tickLimit a_outKind a_outValue a_codeOp a_codeArg a_codeKind a_codePlace a_methodSign a_methodStart a_declared a_cellKind a_cellValue a_callReturn a_tk a_tv a_tp a_mName a_mKind a_mCount a_mPar a_mAt a_vName a_vDecl a_vKind a_vVal a_sk a_sv a_oKind a_oAt a_oArgs a_cKind a_cA a_cB a_outK a_outV) (hF : ls_Phi tl as 1 fr N t = F) (h17 : T pos = 17) (hc : C (t + 1) = (0, pos + 1, es, [], (1, L.length, pos, L) :: fr, L, ls_em k 1 0 0 (nI pos))) : ls_G F (f_tickLimit, f_tokenCount, nI oc, 0, f_errorPlace, f_lastKind, f_lastValue, f_codeSize, nI mc, nI mu, nI (88 + xs.length), nI as.length, nI (k.1 - d), nI tl, f_state, f_pos, f_expressionStart, f_pendingCount, f_frameTop, f_localCount, a_tokenCode, a_tokenValue, a_outKind, a_outValue, a_codeOp, a_codeArg, a_codeKind, a_codePlace, a_methodSign, a_methodStart, a_declared, a_cellKind, a_cellValue, a_callReturn, a_pendingLevel, a_pendingPlace, a_pendingMore, a_frameKind, a_frameMore, a_localName) (nI mt, nI yn, nI (140 + mu), nI mc, nI (ls_sl Ls + L.length), nI (ls_sl Ls), nI ys.length, nI os.length, nI cs.length, nI (pos + e), nI 0, 0, f_errorPlace, nI (mt - tl), nI as.length, nI oc, f_lastKind, nI (ls_pt 1 fr), f_lastValue, f_cnt, f_full, f_flag, f_need, a_tk, a_tv, a_tp, a_mName, a_mKind, a_mCount, a_mPar, a_mAt, a_vName, a_vDecl, a_vKind, a_vVal, a_sk, a_sv, a_oKind, a_oAt, a_oArgs, a_cKind, a_cA, a_cB, a_outK, a_outV) := by
  have h' := h
  obtain ⟨hcu, hX, hY, hO, hE, hG, hV, hl, ho, hM⟩ := h'
  have U := hcu.1
  have tt := hcu.2.2.1
  have ec := hcu.2.2.2.1
  obtain ⟨hg, lt, ltN, d1, d2, t1, t2, t3, t4⟩ := ls_hg hcu (by omega) (fun q => by omega) (Or.inl (by omega))
  have LB := ls_cu_len hcu
  have cd := ls_cod U tt ec (Nat.le_refl _) (t' := t) ⟨Nat.le_refl _, tt.2⟩ ec (Nat.le_refl _)
  have as8 := hl.2.2.2.1
  have hl' : f_tickLimit = nI mt ∧ tl - 1 ≤ mt ∧ mt ≤ 400 ∧ as.length ≤ 8 ∧ yn ≤ 140 := ⟨hl.1, by have := hl.2.1; omega, hl.2.2⟩
  have P2 : 2 ≤ F := by rw [← hF]; unfold ls_Phi; omega
  have kk := ls_fem U.1 (by omega) hc (by decide) (by decide) (by decide) (by decide)
  have cu' := ls_cu_blk hcu hc
  have LO : ls_lo5 0 ((1, L.length, pos, L) :: fr) ≤ ls_lo5 1 fr + 1 := by
    unfold ls_lo5
    rw [if_neg (by show ¬ (_ ∧ (1 : Nat) = 5); omega)]
    show 0 + ls_l5 fr - 0 ≤ _
    split <;> omega
  have PT : 0 < tl → ls_Phi (tl - 1) as 0 ((1, L.length, pos, L) :: fr) N (t + 1) + 4 ≤ ls_Phi tl as 1 fr N t := fun q => (ls_Phi_tk (t' := t + 1) q LO LB.2.2.2.2.2.2.2.2.2.2.2 ltN (by omega)).1
  refine gs_tick (a := 0) (F' := ls_Phi (tl - 1) as 0 ((1, L.length, pos, L) :: fr) N (t + 1)) (u' := (f_tickLimit, f_tokenCount, nI oc, 0, f_errorPlace, f_lastKind, f_lastValue, f_codeSize, nI mc, nI mu, nI (88 + xs.length), nI as.length, nI (k.1 - d + 1), nI (tl - 1), f_state, f_pos, f_expressionStart, f_pendingCount, f_frameTop, f_localCount, a_tokenCode, a_tokenValue, a_outKind, a_outValue, a_codeOp, a_codeArg, a_codeKind, a_codePlace, a_methodSign, a_methodStart, a_declared, a_cellKind, a_cellValue, a_callReturn, a_pendingLevel, a_pendingPlace, a_pendingMore, a_frameKind, a_frameMore, a_localName)) (v' := (nI mt, nI yn, nI (140 + mu), nI mc, nI (ls_sl Ls + L.length), nI (ls_sl Ls), nI ys.length, nI os.length, nI (cs.length + 1), nI (pos + 1 + e), nI 0, 0, f_errorPlace, nI (mt - (tl - 1)), nI as.length, nI oc, f_lastKind, nI 0, f_lastValue, f_cnt, f_full, f_flag, f_need, a_tk, a_tv, a_tp, a_mName, a_mKind, a_mCount, a_mPar, a_mAt, a_vName, a_vDecl, a_vKind, a_vVal, a_sk, a_sv, a_oKind, a_oAt, a_oArgs, upd a_cKind cs.length (nI 1), upd a_cA cs.length (nI (ls_sl Ls + L.length)), upd a_cB cs.length (nI 0), a_outK, a_outV)) h (by omega) (by omega) (by omega) (by omega) (cd.2.2.1.trans kk.1) (cd.2.2.2.2.2.trans kk.2.2.2) P2 (fun q => by have := PT q; omega) (fun q => by have := PT q; omega) (fun _ => ls_xr_0) (fun _ post hp => ?_) (fun q => ?_)
  · rw [h17]
    refine hy_begin_b (by have := LB.2.2.2.1; omega) (by omega) ?_
    rw [show pos + e + 1 = pos + 1 + e by omega]
    exact hp
  · have S' : ls_S yn mt (tl - 1) oc mc mu ((T, V, C, kF, n, N, d, e, ta, tz)) (t + 1) as ((0, pos + 1, es, [], (1, L.length, pos, L) :: fr, L, ls_em k 1 0 0 (nI pos))) Ls xs ys os ((1, ls_sl Ls + L.length, 0) :: cs) f_tickLimit a_outKind a_outValue a_codeOp a_codeArg a_codeKind a_codePlace a_methodSign a_methodStart a_declared a_cellKind a_cellValue a_callReturn a_tk a_tv a_tp a_mName a_mKind a_mCount a_mPar a_mAt a_vName a_vDecl a_vKind a_vVal a_sk a_sv a_oKind a_oAt a_oArgs (upd a_cKind cs.length (nI 1)) (upd a_cA cs.length (nI (ls_sl Ls + L.length))) (upd a_cB cs.length (nI 0)) a_outK a_outV := ⟨cu', hX, hY, hO, ⟨pk_us, pk_us, pk_us, ls_StP_ag (fun j hj => ⟨pk_un (by omega), pk_un (by omega), pk_un (by omega)⟩) hE⟩, hG, hV, hl', ho, hM⟩
    have G0 : ls_G (ls_Phi (tl - 1) as 0 ((1, L.length, pos, L) :: fr) N (t + 1)) (f_tickLimit, f_tokenCount, nI oc, 0, f_errorPlace, f_lastKind, f_lastValue, f_codeSize, nI mc, nI mu, nI (88 + xs.length), nI as.length, nI ((ls_em k 1 0 0 (nI pos)).1 - d), nI (tl - 1), f_state, f_pos, f_expressionStart, f_pendingCount, f_frameTop, f_localCount, a_tokenCode, a_tokenValue, a_outKind, a_outValue, a_codeOp, a_codeArg, a_codeKind, a_codePlace, a_methodSign, a_methodStart, a_declared, a_cellKind, a_cellValue, a_callReturn, a_pendingLevel, a_pendingPlace, a_pendingMore, a_frameKind, a_frameMore, a_localName) (nI mt, nI yn, nI (140 + mu), nI mc, nI (ls_sl Ls + L.length), nI (ls_sl Ls), nI ys.length, nI os.length, nI (cs.length + 1), nI (pos + 1 + e), nI (ls_md 0 []), 0, f_errorPlace, nI (mt - (tl - 1)), nI as.length, nI oc, f_lastKind, nI (ls_pt 0 ((1, L.length, pos, L) :: fr)), f_lastValue, f_cnt, f_full, f_flag, f_need, a_tk, a_tv, a_tp, a_mName, a_mKind, a_mCount, a_mPar, a_mAt, a_vName, a_vDecl, a_vKind, a_vVal, a_sk, a_sv, a_oKind, a_oAt, a_oArgs, upd a_cKind cs.length (nI 1), upd a_cA cs.length (nI (ls_sl Ls + L.length)), upd a_cB cs.length (nI 0), a_outK, a_outV) := ih S' (by have := PT q; omega) (fun q => absurd q.1 (by decide))
    rw [show ls_md 0 [] = 0 from rfl, show ls_pt 0 ((1, L.length, pos, L) :: fr) = 0 from rfl, ls_ni d1 (show (ls_em k 1 0 0 (nI pos)).1 = k.1 + 1 from rfl)] at G0
    exact G0
set_option maxHeartbeats 200000 in
/-- an expression begins behind the tick -/
theorem gs_exp {fk p ins : Nat} {og : Nat → Int32} (ih : ls_IH F) (h : ls_S yn mt tl oc mc mu ((T, V, C, kF, n, N, d, e, ta, tz)) t as ((1, pos, es, [], fr, L, k)) Ls xs ys os cs f_tickLimit a_outKind a_outValue a_codeOp a_codeArg a_codeKind a_codePlace a_methodSign a_methodStart a_declared a_cellKind a_cellValue a_callReturn a_tk a_tv a_tp a_mName a_mKind a_mCount a_mPar a_mAt a_vName a_vDecl a_vKind a_vVal a_sk a_sv a_oKind a_oAt a_oArgs a_cKind a_cA a_cB a_outK a_outV) (hF : ls_Phi tl as 1 fr N t = F) (h72 : T pos ≠ 72) (hT : 6 ≤ T pos) (h7 : T pos ≠ 7) (h18 : T pos ≠ 18) (hfk : 6 ≤ fk ∧ fk ≤ 10) (hins : ins ≤ 1 ∧ (fk = 6 → (ins = 1 ↔ (ls_fk fr = 3 ∨ ls_fk fr = 4)))) (hc : C (t + 1) = (4, p, p, [], (fk, k.1, pos, []) :: fr, L, ls_em k 1 0 0 (nI pos))) (hog : ∀ j, j ≠ os.length → og j = a_oArgs j) (hog2 : og os.length = nI ins)
    (hy : os.length < 400 → ∀ post : SY → Prop, post (nI mt, nI yn, nI (140 + mu), nI mc, nI (ls_sl Ls + L.length), nI (ls_sl Ls), nI ys.length, nI (os.length + 1), nI cs.length, nI (p + e), nI 1, 0, f_errorPlace, nI (mt - (tl - 1)), nI as.length, nI oc, f_lastKind, nI 0, f_lastValue, f_cnt, f_full, f_flag, f_need, a_tk, a_tv, a_tp, a_mName, a_mKind, a_mCount, a_mPar, a_mAt, a_vName, a_vDecl, a_vKind, a_vVal, a_sk, a_sv, upd a_oKind os.length (nI 1), upd a_oAt os.length (nI (pos + e)), og, a_cKind, a_cA, a_cB, a_outK, a_outV) → wpY_begin post (nI mt, nI yn, nI (140 + mu), nI mc, nI (ls_sl Ls + L.length), nI (ls_sl Ls), nI ys.length, nI os.length, nI cs.length, nI (pos + e), nI 0, 0, f_errorPlace, nI (mt - (tl - 1)), nI as.length, nI oc, f_lastKind, nI (ls_pt 1 fr), f_lastValue, f_cnt, f_full, f_flag, f_need, a_tk, a_tv, a_tp, a_mName, a_mKind, a_mCount, a_mPar, a_mAt, a_vName, a_vDecl, a_vKind, a_vVal, a_sk, a_sv, a_oKind, a_oAt, a_oArgs, a_cKind, a_cA, a_cB, a_outK, a_outV) (nI (T pos))) : ls_G F (f_tickLimit, f_tokenCount, nI oc, 0, f_errorPlace, f_lastKind, f_lastValue, f_codeSize, nI mc, nI mu, nI (88 + xs.length), nI as.length, nI (k.1 - d), nI tl, f_state, f_pos, f_expressionStart, f_pendingCount, f_frameTop, f_localCount, a_tokenCode, a_tokenValue, a_outKind, a_outValue, a_codeOp, a_codeArg, a_codeKind, a_codePlace, a_methodSign, a_methodStart, a_declared, a_cellKind, a_cellValue, a_callReturn, a_pendingLevel, a_pendingPlace, a_pendingMore, a_frameKind, a_frameMore, a_localName) (nI mt, nI yn, nI (140 + mu), nI mc, nI (ls_sl Ls + L.length), nI (ls_sl Ls), nI ys.length, nI os.length, nI cs.length, nI (pos + e), nI 0, 0, f_errorPlace, nI (mt - tl), nI as.length, nI oc, f_lastKind, nI (ls_pt 1 fr), f_lastValue, f_cnt, f_full, f_flag, f_need, a_tk, a_tv, a_tp, a_mName, a_mKind, a_mCount, a_mPar, a_mAt, a_vName, a_vDecl, a_vKind, a_vVal, a_sk, a_sv, a_oKind, a_oAt, a_oArgs, a_cKind, a_cA, a_cB, a_outK, a_outV) := by
  have h' := h
  obtain ⟨hcu, hX, hY, hO, hE, hG, hV, hl, ho, hM⟩ := h'
  have U := hcu.1
  have tt := hcu.2.2.1
  have ec := hcu.2.2.2.1
  obtain ⟨hg, lt, ltN, d1, d2, t1, t2, t3, t4⟩ := ls_hg hcu (by omega) (fun q => by omega) (Or.inl h72)
  have LB := ls_cu_len hcu
  have cd := ls_cod U tt ec (Nat.le_refl _) (t' := t) ⟨Nat.le_refl _, tt.2⟩ ec (Nat.le_refl _)
  have as8 := hl.2.2.2.1
  have hl' : f_tickLimit = nI mt ∧ tl - 1 ≤ mt ∧ mt ≤ 400 ∧ as.length ≤ 8 ∧ yn ≤ 140 := ⟨hl.1, by have := hl.2.1; omega, hl.2.2⟩
  have P2 : 2 ≤ F := by rw [← hF]; unfold ls_Phi; omega
  have kk := ls_fem U.1 (by omega) hc (by decide) (by decide) (by decide) (by decide)
  have cu' := ls_cu_exp (ins := ins) hcu (by omega) (fun q => by omega) (f := (fk, k.1, pos, [])) hfk.1 (Or.inl rfl) ⟨hins.1, hins.2, fun q => by have q' : fk = 11 := q; omega⟩ hc
  have LO : ls_lo5 4 ((fk, k.1, pos, []) :: fr) ≤ ls_lo5 1 fr + 1 := by
    rw [ls_lo5_x (st := 4) (by omega)]
    show (if fk = 5 then 1 else 0) + ls_l5 fr ≤ _
    rw [if_neg (by omega)]
    unfold ls_lo5
    split <;> omega
  have PT : 0 < tl → ls_Phi (tl - 1) as 4 ((fk, k.1, pos, []) :: fr) N (t + 1) + 4 ≤ ls_Phi tl as 1 fr N t := fun q => (ls_Phi_tk (t' := t + 1) q LO LB.2.2.2.2.2.2.2.2.2.2.2 ltN (by omega)).1
  refine gs_tick (a := 0) (F' := ls_Phi (tl - 1) as 4 ((fk, k.1, pos, []) :: fr) N (t + 1)) (u' := (f_tickLimit, f_tokenCount, nI oc, 0, f_errorPlace, f_lastKind, f_lastValue, f_codeSize, nI mc, nI mu, nI (88 + xs.length), nI as.length, nI (k.1 - d + 1), nI (tl - 1), f_state, f_pos, f_expressionStart, f_pendingCount, f_frameTop, f_localCount, a_tokenCode, a_tokenValue, a_outKind, a_outValue, a_codeOp, a_codeArg, a_codeKind, a_codePlace, a_methodSign, a_methodStart, a_declared, a_cellKind, a_cellValue, a_callReturn, a_pendingLevel, a_pendingPlace, a_pendingMore, a_frameKind, a_frameMore, a_localName)) (v' := (nI mt, nI yn, nI (140 + mu), nI mc, nI (ls_sl Ls + L.length), nI (ls_sl Ls), nI ys.length, nI (os.length + 1), nI cs.length, nI (p + e), nI 1, 0, f_errorPlace, nI (mt - (tl - 1)), nI as.length, nI oc, f_lastKind, nI 0, f_lastValue, f_cnt, f_full, f_flag, f_need, a_tk, a_tv, a_tp, a_mName, a_mKind, a_mCount, a_mPar, a_mAt, a_vName, a_vDecl, a_vKind, a_vVal, a_sk, a_sv, upd a_oKind os.length (nI 1), upd a_oAt os.length (nI (pos + e)), og, a_cKind, a_cA, a_cB, a_outK, a_outV)) h hT h7 h18 h72 (cd.2.2.1.trans kk.1) (cd.2.2.2.2.2.trans kk.2.2.2) P2 (fun q => by have := PT q; omega) (fun q => by have := PT q; omega) (fun _ => ls_xr_0) (fun _ post hp => hy (by have := LB.2.2.1; omega) post hp) (fun q => ?_)
  have S' : ls_S yn mt (tl - 1) oc mc mu ((T, V, C, kF, n, N, d, e, ta, tz)) (t + 1) as ((4, p, p, [], (fk, k.1, pos, []) :: fr, L, ls_em k 1 0 0 (nI pos))) Ls xs ys ((1, pos + e, ins) :: os) cs f_tickLimit a_outKind a_outValue a_codeOp a_codeArg a_codeKind a_codePlace a_methodSign a_methodStart a_declared a_cellKind a_cellValue a_callReturn a_tk a_tv a_tp a_mName a_mKind a_mCount a_mPar a_mAt a_vName a_vDecl a_vKind a_vVal a_sk a_sv (upd a_oKind os.length (nI 1)) (upd a_oAt os.length (nI (pos + e))) og a_cKind a_cA a_cB a_outK a_outV := ⟨cu', hX, hY, ⟨pk_us, pk_us, hog2, ls_StP_ag (fun j hj => ⟨pk_un (by omega), pk_un (by omega), hog j (by omega)⟩) hO⟩, hE, hG, hV, hl', ho, hM⟩
  have G0 : ls_G (ls_Phi (tl - 1) as 4 ((fk, k.1, pos, []) :: fr) N (t + 1)) (f_tickLimit, f_tokenCount, nI oc, 0, f_errorPlace, f_lastKind, f_lastValue, f_codeSize, nI mc, nI mu, nI (88 + xs.length), nI as.length, nI ((ls_em k 1 0 0 (nI pos)).1 - d), nI (tl - 1), f_state, f_pos, f_expressionStart, f_pendingCount, f_frameTop, f_localCount, a_tokenCode, a_tokenValue, a_outKind, a_outValue, a_codeOp, a_codeArg, a_codeKind, a_codePlace, a_methodSign, a_methodStart, a_declared, a_cellKind, a_cellValue, a_callReturn, a_pendingLevel, a_pendingPlace, a_pendingMore, a_frameKind, a_frameMore, a_localName) (nI mt, nI yn, nI (140 + mu), nI mc, nI (ls_sl Ls + L.length), nI (ls_sl Ls), nI ys.length, nI (os.length + 1), nI cs.length, nI (p + e), nI (ls_md 4 []), 0, f_errorPlace, nI (mt - (tl - 1)), nI as.length, nI oc, f_lastKind, nI (ls_pt 4 ((fk, k.1, pos, []) :: fr)), f_lastValue, f_cnt, f_full, f_flag, f_need, a_tk, a_tv, a_tp, a_mName, a_mKind, a_mCount, a_mPar, a_mAt, a_vName, a_vDecl, a_vKind, a_vVal, a_sk, a_sv, upd a_oKind os.length (nI 1), upd a_oAt os.length (nI (pos + e)), og, a_cKind, a_cA, a_cB, a_outK, a_outV) := ih S' (by have := PT q; omega) (fun q => absurd q.1 (by decide))
  rw [show ls_md 4 [] = 1 from rfl, ls_pt_x (by omega), ls_ni d1 (show (ls_em k 1 0 0 (nI pos)).1 = k.1 + 1 from rfl)] at G0
  exact G0
set_option maxHeartbeats 200000 in
/-- if, while, print -/
theorem gs_hdr {fk : Nat} (ih : ls_IH F) (h : ls_S yn mt tl oc mc mu ((T, V, C, kF, n, N, d, e, ta, tz)) t as ((1, pos, es, [], fr, L, k)) Ls xs ys os cs f_tickLimit a_outKind a_outValue a_codeOp a_codeArg a_codeKind a_codePlace a_methodSign a_methodStart a_declared a_cellKind a_cellValue a_callReturn a_tk a_tv a_tp a_mName a_mKind a_mCount a_mPar a_mAt a_vName a_vDecl a_vKind a_vVal a_sk a_sv a_oKind a_oAt a_oArgs a_cKind a_cA a_cB a_outK a_outV) (hF : ls_Phi tl as 1 fr N t = F) (hT : (T pos = 6 ∧ fk = 7) ∨ (T pos = 8 ∧ fk = 8) ∨ (T pos = 12 ∧ fk = 9)) (hc : C (t + 1) = (4, pos + 2, pos + 2, [], (fk, k.1, pos, []) :: fr, L, ls_em k 1 0 0 (nI pos))) : ls_G F (f_tickLimit, f_tokenCount, nI oc, 0, f_errorPlace, f_lastKind, f_lastValue, f_codeSize, nI mc, nI mu, nI (88 + xs.length), nI as.length, nI (k.1 - d), nI tl, f_state, f_pos, f_expressionStart, f_pendingCount, f_frameTop, f_localCount, a_tokenCode, a_tokenValue, a_outKind, a_outValue, a_codeOp, a_codeArg, a_codeKind, a_codePlace, a_methodSign, a_methodStart, a_declared, a_cellKind, a_cellValue, a_callReturn, a_pendingLevel, a_pendingPlace, a_pendingMore, a_frameKind, a_frameMore, a_localName) (nI mt, nI yn, nI (140 + mu), nI mc, nI (ls_sl Ls + L.length), nI (ls_sl Ls), nI ys.length, nI os.length, nI cs.length, nI (pos + e), nI 0, 0, f_errorPlace, nI (mt - tl), nI as.length, nI oc, f_lastKind, nI (ls_pt 1 fr), f_lastValue, f_cnt, f_full, f_flag, f_need, a_tk, a_tv, a_tp, a_mName, a_mKind, a_mCount, a_mPar, a_mAt, a_vName, a_vDecl, a_vKind, a_vVal, a_sk, a_sv, a_oKind, a_oAt, a_oArgs, a_cKind, a_cA, a_cB, a_outK, a_outV) := by
  have t3 := (ls_hg h.1 (by omega) (fun q => by omega) (Or.inl (by omega))).2.2.2.2.2.2.2.1
  refine gs_exp (ins := 0) (og := upd a_oArgs os.length 0) ih h hF (by omega) (by omega) (by omega) (by omega) (by omega) ⟨by omega, fun q => by omega⟩ hc (fun j hj => pk_un hj) pk_us (fun hb post hp => ?_)
  refine hy_begin_h hb (by omega) (by omega) ?_
  rw [show pos + e + 2 = pos + 2 + e by omega]
  exact hp
set_option maxHeartbeats 200000 in
/-- an expression's statement -/
theorem gs_estm (ih : ls_IH F) (h : ls_S yn mt tl oc mc mu ((T, V, C, kF, n, N, d, e, ta, tz)) t as ((1, pos, es, [], fr, L, k)) Ls xs ys os cs f_tickLimit a_outKind a_outValue a_codeOp a_codeArg a_codeKind a_codePlace a_methodSign a_methodStart a_declared a_cellKind a_cellValue a_callReturn a_tk a_tv a_tp a_mName a_mKind a_mCount a_mPar a_mAt a_vName a_vDecl a_vKind a_vVal a_sk a_sv a_oKind a_oAt a_oArgs a_cKind a_cA a_cB a_outK a_outV) (hF : ls_Phi tl as 1 fr N t = F) (hn : T pos ≠ 20 ∧ T pos ≠ 17 ∧ T pos ≠ 6 ∧ T pos ≠ 8 ∧ T pos ≠ 12 ∧ T pos ≠ 9 ∧ T pos ≠ 10 ∧ T pos ≠ 11) (hc : C (t + 1) = (4, pos, pos, [], (6, k.1, pos, []) :: fr, L, ls_em k 1 0 0 (nI pos))) : ls_G F (f_tickLimit, f_tokenCount, nI oc, 0, f_errorPlace, f_lastKind, f_lastValue, f_codeSize, nI mc, nI mu, nI (88 + xs.length), nI as.length, nI (k.1 - d), nI tl, f_state, f_pos, f_expressionStart, f_pendingCount, f_frameTop, f_localCount, a_tokenCode, a_tokenValue, a_outKind, a_outValue, a_codeOp, a_codeArg, a_codeKind, a_codePlace, a_methodSign, a_methodStart, a_declared, a_cellKind, a_cellValue, a_callReturn, a_pendingLevel, a_pendingPlace, a_pendingMore, a_frameKind, a_frameMore, a_localName) (nI mt, nI yn, nI (140 + mu), nI mc, nI (ls_sl Ls + L.length), nI (ls_sl Ls), nI ys.length, nI os.length, nI cs.length, nI (pos + e), nI 0, 0, f_errorPlace, nI (mt - tl), nI as.length, nI oc, f_lastKind, nI (ls_pt 1 fr), f_lastValue, f_cnt, f_full, f_flag, f_need, a_tk, a_tv, a_tp, a_mName, a_mKind, a_mCount, a_mPar, a_mAt, a_vName, a_vDecl, a_vKind, a_vVal, a_sk, a_sv, a_oKind, a_oAt, a_oArgs, a_cKind, a_cA, a_cB, a_outK, a_outV) := by
  have U := h.1.1
  have lt0 := (ls_tl1 U.1 (by have := U.2.2.1; have := h.1.2.2.1; omega) h.1.2.2.2.1).1
  obtain ⟨lt4, r4⟩ := ls_tl4 U.1 (show t + 1 ≤ N by omega) hc
  have T72 := ls_T4 U.1 (show t + 1 ≤ N by omega) hc
  have rs := (ls_r4_st r4).2.2
  have n18 : T pos ≠ 18 := by
    intro q
    unfold ls_r4 at r4
    dsimp only at r4
    rw [if_neg (by omega), if_neg (by omega), if_neg (by omega), if_neg (by omega), if_neg (by omega), if_neg (by omega), if_neg (by omega)] at r4
    cases r4
  obtain ⟨_, lt, _, _, _, t1, t2, t3, t4⟩ := ls_hg h.1 (by omega) (fun q => by omega) (Or.inl T72)
  have PT1 : ls_pt 1 fr = (if ls_fk fr = 3 ∨ ls_fk fr = 4 then 1 else 0) := by
    unfold ls_pt
    by_cases q : ls_fk fr = 3 ∨ ls_fk fr = 4
    · rw [if_pos ⟨Or.inr rfl, q⟩, if_pos q]
    · rw [if_neg (fun x => q x.2), if_neg q]
  refine gs_exp (ins := ls_pt 1 fr) (og := upd a_oArgs os.length (nI (ls_pt 1 fr))) ih h hF T72 (by omega) (by omega) n18 (by omega) ⟨by rw [PT1]; split <;> omega, fun _ => by rw [PT1]; split <;> simp_all⟩ hc (fun j hj => pk_un hj) pk_us (fun hb post hp => ?_)
  refine hy_begin_x6 hb t3 (by rw [PT1]; split <;> omega) t2 hn (fun og g1 g2 => ?_)
  rw [ls_updx g2 g1]
  exact hp
set_option maxHeartbeats 200000 in
/-- return with a value begins -/
theorem gs_retb (ih : ls_IH F) (h : ls_S yn mt tl oc mc mu ((T, V, C, kF, n, N, d, e, ta, tz)) t as ((1, pos, es, [], fr, L, k)) Ls xs ys os cs f_tickLimit a_outKind a_outValue a_codeOp a_codeArg a_codeKind a_codePlace a_methodSign a_methodStart a_declared a_cellKind a_cellValue a_callReturn a_tk a_tv a_tp a_mName a_mKind a_mCount a_mPar a_mAt a_vName a_vDecl a_vKind a_vVal a_sk a_sv a_oKind a_oAt a_oArgs a_cKind a_cA a_cB a_outK a_outV) (hF : ls_Phi tl as 1 fr N t = F) (h11 : T pos = 11) (n20 : T (pos + 1) ≠ 20) (hc : C (t + 1) = (4, pos + 1, pos + 1, [], (10, k.1, pos, []) :: fr, L, ls_em k 1 0 0 (nI pos))) : ls_G F (f_tickLimit, f_tokenCount, nI oc, 0, f_errorPlace, f_lastKind, f_lastValue, f_codeSize, nI mc, nI mu, nI (88 + xs.length), nI as.length, nI (k.1 - d), nI tl, f_state, f_pos, f_expressionStart, f_pendingCount, f_frameTop, f_localCount, a_tokenCode, a_tokenValue, a_outKind, a_outValue, a_codeOp, a_codeArg, a_codeKind, a_codePlace, a_methodSign, a_methodStart, a_declared, a_cellKind, a_cellValue, a_callReturn, a_pendingLevel, a_pendingPlace, a_pendingMore, a_frameKind, a_frameMore, a_localName) (nI mt, nI yn, nI (140 + mu), nI mc, nI (ls_sl Ls + L.length), nI (ls_sl Ls), nI ys.length, nI os.length, nI cs.length, nI (pos + e), nI 0, 0, f_errorPlace, nI (mt - tl), nI as.length, nI oc, f_lastKind, nI (ls_pt 1 fr), f_lastValue, f_cnt, f_full, f_flag, f_need, a_tk, a_tv, a_tp, a_mName, a_mKind, a_mCount, a_mPar, a_mAt, a_vName, a_vDecl, a_vKind, a_vVal, a_sk, a_sv, a_oKind, a_oAt, a_oArgs, a_cKind, a_cA, a_cB, a_outK, a_outV) := by
  have U := h.1.1
  obtain ⟨_, lt, ltN, _, _, t1, t2, t3, t4⟩ := ls_hg h.1 (by omega) (fun q => by omega) (Or.inl (by omega))
  have cu' := ls_cu_exp (ins := 0) h.1 (by omega) (fun q => by omega) (f := (10, k.1, pos, [])) (by show 6 ≤ 10; omega) (Or.inl rfl) ⟨by omega, fun q => by have q' : (10 : Nat) = 6 := q; omega, fun q => by have q' : (10 : Nat) = 11 := q; omega⟩ hc
  have TN := (ls_ac cu' (Or.inl rfl) (ls_T4 U.1 (by omega) hc)).2.2.2.2.2
  have p1 := ls_pt_le (st := 1) (fr := fr)
  have TN1 := TN.1
  have TN3 := TN.2.2.1
  rw [show pos + 1 + e = pos + e + 1 by omega] at TN1 TN3
  refine gs_exp (ins := ls_pt 1 fr) (og := upd a_oArgs os.length (nI (ls_pt 1 fr))) ih h hF (by omega) (by omega) (by omega) (by omega) (by omega) ⟨p1, fun q => by omega⟩ hc (fun j hj => pk_un hj) pk_us (fun hb post hp => ?_)
  refine hy_begin_x (b := T (pos + 1)) hb TN3 p1 t2 ⟨by omega, by omega, by omega, by omega, by omega, by omega, by omega⟩ (fun _ => ⟨TN1, TN.2.1, n20⟩) (fun og g1 g2 => ?_)
  rw [if_pos h11, ls_updx g2 g1, show pos + e + 1 = pos + 1 + e by omega]
  exact hp
end
