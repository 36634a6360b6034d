/-! Definitions of methods, side by side -/
section
variable {f_most f_n f_stored f_nm f_nEnv f_base f_ns f_no f_nc f_pc f_mode f_err f_errAt f_ticks f_calls f_outs f_resK f_part f_cnt f_full f_flag f_need : Int32}
variable {f_resV : Int64}
variable {a_tk a_tp a_mName a_mKind a_mCount a_mPar a_mAt a_vName a_vDecl a_vKind a_sk a_oKind a_oAt a_oArgs a_cKind a_cA a_cB a_outK : Nat → Int32}
variable {a_tv a_vVal a_sv a_outV : Nat → Int64}
variable {post : SY → Prop}
set_option maxHeartbeats 200000 in
theorem hy_decl_m {t tc mt p : Nat} (hp : p + 2 < 384) (e1 : a_tk p = nI t) (e3 : a_tk (p + 2) = 15) (he : f_err = 0) (hmt : mt < 1000) (htc : tc ≤ mt) (g1 : tc < mt → wpY_method post (nI mt, f_n, f_stored, f_nm, f_nEnv, f_base, f_ns, f_no, nI 0, nI p, f_mode, f_err, f_errAt, nI (tc + 1), f_calls, f_outs, f_resK, f_part, f_resV, f_cnt, f_full, f_flag, f_need, a_tk, a_tv, a_tp, a_mName, a_mKind, a_mCount, a_mPar, a_mAt, a_vName, a_vDecl, a_vKind, a_vVal, a_sk, a_sv, a_oKind, a_oAt, a_oArgs, a_cKind, a_cA, a_cB, a_outK, a_outV)) (g0 : tc = mt → post (nI mt, f_n, f_stored, f_nm, f_nEnv, f_base, f_ns, f_no, nI 0, nI p, f_mode, 9, ls_pl a_tp p, nI tc, f_calls, f_outs, f_resK, f_part, f_resV, f_cnt, f_full, f_flag, f_need, a_tk, a_tv, a_tp, a_mName, a_mKind, a_mCount, a_mPar, a_mAt, a_vName, a_vDecl, a_vKind, a_vVal, a_sk, a_sv, a_oKind, a_oAt, a_oArgs, a_cKind, a_cA, a_cB, a_outK, a_outV)) : wpY_declaration post (nI mt, f_n, f_stored, f_nm, f_nEnv, f_base, f_ns, f_no, nI 0, nI p, f_mode, f_err, f_errAt, nI tc, f_calls, f_outs, f_resK, f_part, f_resV, f_cnt, f_full, f_flag, f_need, a_tk, a_tv, a_tp, a_mName, a_mKind, a_mCount, a_mPar, a_mAt, a_vName, a_vDecl, a_vKind, a_vVal, a_sk, a_sv, a_oKind, a_oAt, a_oArgs, a_cKind, a_cA, a_cB, a_outK, a_outV) := by
  have e2' : nI p + 2 = nI (p + 2) := by rw [show (2 : Int32) = nI 2 from rfl, nI_add]
  unfold wpY_declaration
  dsimp only
  rw [nI_clamp (by omega), e1]
  refine ⟨vp_in_nI (by omega) (by decide), nm_e (br_t rfl (hy_tick hmt (by omega) htc (fun c => ?_) (fun c => ?_)))⟩
  · dsimp only
    unfold wY_declaration_25
    rw [e2', nI_clamp (by omega), e3]
    exact br_t he ⟨vp_in_nI hp (by decide), br_t rfl (g1 c)⟩
  · dsimp only
    unfold wY_declaration_25
    exact br_f (by decide) (g0 c)
end
section
variable {f_tickLimit f_tokenCount f_outCount f_error f_errorPlace f_lastKind f_codeSize f_methodCount f_methodTokens f_cellCount f_activeCalls f_next f_ticksLeft f_state f_pos f_expressionStart f_pendingCount f_frameTop f_localCount : Int32}
variable {f_lastValue : Int64}
variable {a_tokenCode a_tokenValue a_outKind a_codeOp a_codeArg a_codeKind a_codePlace a_methodSign a_methodStart a_declared a_cellKind a_callReturn a_pendingLevel a_pendingPlace a_pendingMore a_frameKind a_frameMore a_localName : Nat → Int32}
variable {a_outValue a_cellValue : Nat → Int64}
variable {f_cnt f_full f_flag f_need : Int32}
variable {a_tk a_tp a_mName a_mKind a_mCount a_mPar a_mAt a_vName a_vDecl a_vKind a_sk a_oKind a_oAt a_oArgs a_cKind a_cA a_cB a_outK : Nat → Int32}
variable {a_tv a_vVal a_sv a_outV : Nat → Int64}
variable {yn mt tl oc mc mu : Nat} {T : Nat → Nat} {V : Nat → Int32} {C : Nat → LsC} {kF : LsK} {n N d e ta tz t : Nat} {as : List LsA} {st pos es : Nat} {pe : List LsP} {fr : List LsF} {L : List Nat} {k : LsK} {Ls : List (List Nat)} {xs ys : List LsV} {os cs : List LsP} {F : Nat}
set_option maxHeartbeats 4000000 in
/-- a definition -/
theorem gs_def0 {p sn : Nat} {L1 : List Nat} (ih : ls_IH F) (h : ls_S n mt tl oc mc mu ((T, V, C, kF, n, N, 0, 0, 0, N)) t ([]) ((2, pos, es, [], [], [], k)) ([]) ([]) ([]) ([]) ([]) f_tickLimit a_outKind a_outValue a_codeOp a_codeArg a_codeKind a_codePlace a_methodSign a_methodStart a_declared a_cellKind a_cellValue a_callReturn a_tk a_tv a_tp a_mName a_mKind a_mCount a_mPar a_mAt a_vName a_vDecl a_vKind a_vVal a_sk a_sv a_oKind a_oAt a_oArgs a_cKind a_cA a_cB a_outK a_outV) (hF : ls_Phi tl [] 2 [] N t = F) (T6 : T pos < 6) (hnm : ls_nam (T (pos + 1))) (h15 : T (pos + 2) = 15) (hh : ls_head T pos = .ok (p, L1, sn)) (hc : C (t + 1) = (0, p, es, [], [(1, L1.length, p, L1), (2, k.1 + 1, pos, [T pos])], L1, ls_em (ls_em k 1 0 0 (nI pos)) 21 0 (nI (sn * 8 + T pos)) (nI pos))) : ls_G F (f_tickLimit, f_tokenCount, nI oc, 0, f_errorPlace, f_lastKind, f_lastValue, f_codeSize, nI mc, nI mu, nI 88, nI 0, nI k.1, nI tl, f_state, f_pos, f_expressionStart, f_pendingCount, f_frameTop, f_localCount, a_tokenCode, a_tokenValue, a_outKind, a_outValue, a_codeOp, a_codeArg, a_codeKind, a_codePlace, a_methodSign, a_methodStart, a_declared, a_cellKind, a_cellValue, a_callReturn, a_pendingLevel, a_pendingPlace, a_pendingMore, a_frameKind, a_frameMore, a_localName) (nI mt, nI n, nI (140 + mu), nI mc, nI 0, nI 0, nI 0, nI 0, nI 0, nI pos, nI 0, 0, f_errorPlace, nI (mt - tl), nI 0, nI oc, f_lastKind, nI 0, f_lastValue, f_cnt, f_full, f_flag, f_need, a_tk, a_tv, a_tp, a_mName, a_mKind, a_mCount, a_mPar, a_mAt, a_vName, a_vDecl, a_vKind, a_vVal, a_sk, a_sv, a_oKind, a_oAt, a_oArgs, a_cKind, a_cA, a_cB, a_outK, a_outV) := by
  have h' := h
  obtain ⟨hcu, hX, hY, hO, hE, hG, hV0, hl, ho, hM⟩ := h'
  have U := hcu.1
  have tt := hcu.2.2.1
  have ec := hcu.2.2.2.1
  have hV : ls_lev (ls_sm a_declared a_cellKind a_cellValue a_vDecl a_vKind a_vVal) a_vName [[]] := hV0
  have cd := ls_cod U tt ec (Nat.le_refl _) (t' := t) ⟨Nat.le_refl _, tt.2⟩ ec (Nat.le_refl _)
  obtain ⟨hg, lt, ltN, d1, d2, t1, t2, t3, t4⟩ := ls_hg hcu (by omega) (fun q => by omega) (Or.inl (by omega))
  rw [Nat.add_zero] at t1 t3 t4
  have N11 := U.1.2.2.2.1
  have n140 : n ≤ 140 := hl.2.2.2.2
  have B : (0 : Nat) < 1000 ∧ pos < 1000 ∧ n < 1000 := ⟨by omega, by omega, by omega⟩
  have hg' : 0 < 0 ∨ pos < n := hg
  have tlm := hl.2.1
  have mt4 := hl.2.2.1
  have nm16 : T (pos + 1) - 54 < 16 := by have := hnm.2; omega
  have n54 : T (pos + 1) = T (pos + 1) - 54 + 54 := by have := hnm.1; omega
  have t0 : 1 ≤ t := by
    rcases Nat.eq_zero_or_pos t with q | q
    · subst q
      have := U.2.1.2
      rw [ec] at this
      exact absurd this (show ¬ (2 : Nat) = 0 by decide)
    · exact q
  obtain ⟨c, P, L1c, c3, hp, T17, hsg, P5, P0, hL, hbh⟩ := ls_hd_ok hh
  have hcl := hbh h15
  have ppos : pos + 5 ≤ p := by split at hp <;> omega
  have hcp : p = pos + (if c = 0 then 4 else 3 + 3 * c) + 1 := by
    rw [hp]
    split <;> omega
  rw [L1c] at hc
  obtain ⟨t2', q2, es2, k2, k3, j, lt1, lt2, ec2, ec3, k3e, mok, argE, plE, pq, br, sz, k12, bot⟩ := ls_fdef U.1 (s := t + 1) (by omega) hc
  have k480 := ls_ks U.1 tt.2 ec
  have q2n := ls_ks U.1 (show t2' + 1 ≤ N by omega) ec3
  have ppq : p < q2 := by
    rcases Nat.eq_zero_or_pos j with q | q
    · subst q
      cases br
    · omega
  have hen : ls_bhd T (pos + (if c = 0 then 4 else 3 + 3 * c)) q2 := ⟨Or.inr T17, j, by omega, by rw [← hcp]; exact br⟩
  have htk : ∀ i, pos ≤ i → i < q2 → a_tk i = nI (T i) ∧ T i < 100 ∧ (70 ≤ T i → a_tv i = (V i).toInt64) := fun i i1 i2 => by
    have := ls_tokn (p := i) U ⟨tt.1, lt⟩ ec i1 (t' := t2') (by omega) ec2 i2
    exact ⟨this.1, this.2.1, this.2.2.2.2⟩
  have K1 : kF.2.1 k.1 = 1 ∧ kF.2.2.2.2 k.1 = nI pos := by
    have kk := ls_fem2 U.1 (show t + 1 ≤ N by omega) hc (by decide) (by decide) (by decide) (by decide)
    exact ⟨kk.1, kk.2.2.2⟩
  have op1 : a_codeOp k.1 = 1 := cd.2.2.1.trans K1.1
  have pl1 : a_codePlace k.1 = nI pos := cd.2.2.2.2.2.trans K1.2
  have YS : ∀ post : SY → Prop, wpY_declaration post (nI mt, nI n, nI (140 + mu), nI mc, nI 0, nI 0, nI 0, nI 0, nI 0, nI pos, nI 0, 0, f_errorPlace, nI (mt - tl), nI 0, nI oc, f_lastKind, nI 0, f_lastValue, f_cnt, f_full, f_flag, f_need, a_tk, a_tv, a_tp, a_mName, a_mKind, a_mCount, a_mPar, a_mAt, a_vName, a_vDecl, a_vKind, a_vVal, a_sk, a_sv, a_oKind, a_oAt, a_oArgs, a_cKind, a_cA, a_cB, a_outK, a_outV) → wpY_statement post (nI mt, nI n, nI (140 + mu), nI mc, nI 0, nI 0, nI 0, nI 0, nI 0, nI pos, nI 0, 0, f_errorPlace, nI (mt - tl), nI 0, nI oc, f_lastKind, nI 0, f_lastValue, f_cnt, f_full, f_flag, f_need, a_tk, a_tv, a_tp, a_mName, a_mKind, a_mCount, a_mPar, a_mAt, a_vName, a_vDecl, a_vKind, a_vVal, a_sk, a_sv, a_oKind, a_oAt, a_oArgs, a_cKind, a_cA, a_cB, a_outK, a_outV) := fun post g => hy_statement_m (cs := []) t3 (by decide) hE (fun x r q => by cases q) (hy_st_decl t3 t1 T6 g)
  have e15 : a_tk (pos + 2) = 15 := by
    rw [(htk (pos + 2) (by omega) (by omega)).1, h15]
    rfl
  have p384 : pos + 2 < 384 := by omega
  by_cases tl0 : 0 < tl
  · have hl' : f_tickLimit = nI mt ∧ tl - 1 ≤ mt ∧ mt ≤ 400 ∧ ([] : List LsA).length ≤ 8 ∧ n ≤ 140 := ⟨hl.1, by omega, hl.2.2⟩
    have hx1 : ls_xr 1 (f_tickLimit, f_tokenCount, nI oc, 0, f_errorPlace, f_lastKind, f_lastValue, f_codeSize, nI mc, nI mu, nI 88, nI 0, nI k.1, nI tl, f_state, f_pos, f_expressionStart, f_pendingCount, f_frameTop, f_localCount, a_tokenCode, a_tokenValue, a_outKind, a_outValue, a_codeOp, a_codeArg, a_codeKind, a_codePlace, a_methodSign, a_methodStart, a_declared, a_cellKind, a_cellValue, a_callReturn, a_pendingLevel, a_pendingPlace, a_pendingMore, a_frameKind, a_frameMore, a_localName) (f_tickLimit, f_tokenCount, nI oc, 0, f_errorPlace, f_lastKind, f_lastValue, f_codeSize, nI mc, nI mu, nI 88, nI 0, nI (k.1 + 1), nI (tl - 1), f_state, f_pos, f_expressionStart, f_pendingCount, f_frameTop, f_localCount, a_tokenCode, a_tokenValue, a_outKind, a_outValue, a_codeOp, a_codeArg, a_codeKind, a_codePlace, a_methodSign, a_methodStart, a_declared, a_cellKind, a_cellValue, a_callReturn, a_pendingLevel, a_pendingPlace, a_pendingMore, a_frameKind, a_frameMore, a_localName) := xr_of (fun post f s hs hh => gx_1 d2 hs op1 (hx_tick (by omega) (fun _ => hh) (fun q => by omega)))
    have TE : mt - tl + 1 = mt - (tl - 1) := by omega
    have cd2 := ls_cod (i := k.1 + 1) U tt ec (by omega) (t' := t + 1) ⟨by omega, by omega⟩ hc (by show k.1 + 1 ≤ k.1 + 1 + 1; omega)
    rw [Nat.sub_zero] at cd2
    have cd3 := ls_cod (i := k2.1) U tt ec (by omega) (t' := t2') ⟨by omega, by omega⟩ ec2 (Nat.le_refl _)
    rw [Nat.sub_zero] at cd3
    obtain ⟨f1, f2, f3, _⟩ := ls_fat U.1 (show t + 1 ≤ N by omega) hc (i := k.1 + 1) (by show k.1 + 1 < k.1 + 1 + 1; omega)
    have op21 : a_codeOp (k.1 + 1) = 21 := cd2.2.2.1.trans (f1.trans pk_us)
    have kd21 : a_codeKind (k.1 + 1) = nI (sn * 8 + T pos) := cd2.2.2.2.2.1.trans (f2.trans pk_us)
    have pl21 : a_codePlace (k.1 + 1) = nI pos := cd2.2.2.2.2.2.trans (f3.trans pk_us)
    have ar21 : nI (k.1 + 1) + a_codeArg (k.1 + 1) = nI (k2.1 + 1) := by rw [cd2.2.2.2.1.trans argE, Int32.add_comm, Int32.sub_add_cancel]
    have plz : a_codePlace (k2.1 + 1 - 1) = nI (q2 - 1) := by rw [Nat.add_sub_cancel]; exact cd3.2.2.2.2.2.trans plE
    obtain ⟨nf, cf, pf, hf⟩ := ls_MT_f hM
    obtain ⟨SG, YM⟩ := ls_MT_sgs hM hf
    have sn3 : ls_sg (T (pos + 1) - 54) c P < 30000 := ls_sg_lt' nm16 c3 P5
    have hsf : ∀ i, i < mc → a_methodSign i = nI (ls_sg (nf i) (cf i) (pf i)) ∧ ls_sg (nf i) (cf i) (pf i) < 30000 := fun i hi => by
      obtain ⟨s1, s2, s3, s4, _⟩ := SG.2 i hi
      exact ⟨s1, ls_sg_lt' s2 s3 s4⟩
    have dist : ∀ i j, i < mc → j < mc → ls_sg (nf i) (cf i) (pf i) = ls_sg (nf j) (cf j) (pf j) → i = j := fun i j hi hj E => by
      have EE : a_methodSign i = a_methodSign j := by rw [(hsf i hi).1, (hsf j hj).1, E]
      rcases Nat.lt_trichotomy i j with g | g | g
      · exact absurd EE (hM.2.2.2 i j g hj)
      · exact g
      · exact absurd EE.symm (hM.2.2.2 j i g hi)
    have IFF : ∀ i, i < mc → (ls_sg (nf i) (cf i) (pf i) = ls_sg (T (pos + 1) - 54) c P ↔ (nf i = T (pos + 1) - 54 ∧ cf i = c ∧ ∀ x, x < c → pf i x = P x)) := fun i hi => by
      obtain ⟨_, s2, s3, s4, s5⟩ := SG.2 i hi
      exact ls_sg_iff s2 nm16 s3 c3 s4 P5 s5 P0
    have EN : q2 - 1 - pos + 1 = q2 - pos := by omega
    have hfit : mu + (q2 - 1 - pos + 1) ≤ 240 → 2 * mu + (k2.1 + 1 - (k.1 + 1 + 1)) ≤ 480 := fun q => by
      have sz' : k2.1 + 2 * p ≤ k.1 + 1 + 1 + 2 * q2 := sz
      omega
    have mu2 := hM.2.1
    have mc8 := hM.1
    have ht : ls_tks T 0 pos q2 a_tk := ⟨by omega, fun i i1 i2 => ⟨(htk i i1 i2).1, (htk i i1 i2).2.1⟩⟩
    have e2P : ∀ i, i < c → T (pos + 3 + 3 * i) = P i ∧ P i ≤ 5 := fun i hi => ⟨(hL i hi).2.2, P5 i⟩
    subst hsg
    by_cases full : (mc = 8 ∧ ∀ i, i < mc → ls_sg (nf i) (cf i) (pf i) ≠ ls_sg (T (pos + 1) - 54) c P) ∨ 240 < mu + (q2 - pos)
    · have hx2 : ls_xr 1 (f_tickLimit, f_tokenCount, nI oc, 0, f_errorPlace, f_lastKind, f_lastValue, f_codeSize, nI mc, nI mu, nI 88, nI 0, nI (k.1 + 1), nI (tl - 1), f_state, f_pos, f_expressionStart, f_pendingCount, f_frameTop, f_localCount, a_tokenCode, a_tokenValue, a_outKind, a_outValue, a_codeOp, a_codeArg, a_codeKind, a_codePlace, a_methodSign, a_methodStart, a_declared, a_cellKind, a_cellValue, a_callReturn, a_pendingLevel, a_pendingPlace, a_pendingMore, a_frameKind, a_frameMore, a_localName) (f_tickLimit, f_tokenCount, nI oc, nI 8, nI pos, f_lastKind, f_lastValue, f_codeSize, nI mc, nI mu, nI 88, nI 0, nI (k.1 + 1 + 1), nI (tl - 1), f_state, f_pos, f_expressionStart, f_pendingCount, f_frameTop, f_localCount, a_tokenCode, a_tokenValue, a_outKind, a_outValue, a_codeOp, a_codeArg, a_codeKind, a_codePlace, a_methodSign, a_methodStart, a_declared, a_cellKind, a_cellValue, a_callReturn, a_pendingLevel, a_pendingPlace, a_pendingMore, a_frameKind, a_frameMore, a_localName) := by
        refine xr_of (fun post f s hs hh => gx_21 cd2.2.1 hs op21 (hx_define (en := k2.1 + 1) (sf := fun i => ls_sg (nf i) (cf i) (pf i)) (q := T pos) (p0 := pos) (p1 := q2 - 1) (by omega) (by omega) (by have := q2n.2.1; omega) kd21 (by omega) sn3 ar21 plz pl21 ⟨by omega, by omega⟩ mc8 mu2 hsf dist hfit (fun _ => hh) (fun m hm m8 le => ?_)))
        rw [EN] at le
        rcases full with ⟨g1, g2⟩ | g
        · rcases hm with ⟨m1, m2⟩ | ⟨m1, m2⟩
          · exact absurd m2 (g2 m m1)
          · omega
        · omega
      have hy1 : ls_yr 1 (nI mt, nI n, nI (140 + mu), nI mc, nI 0, nI 0, nI 0, nI 0, nI 0, nI pos, nI 0, 0, f_errorPlace, nI (mt - tl), nI 0, nI oc, f_lastKind, nI 0, f_lastValue, f_cnt, f_full, f_flag, f_need, a_tk, a_tv, a_tp, a_mName, a_mKind, a_mCount, a_mPar, a_mAt, a_vName, a_vDecl, a_vKind, a_vVal, a_sk, a_sv, a_oKind, a_oAt, a_oArgs, a_cKind, a_cA, a_cB, a_outK, a_outV) (nI mt, nI n, nI (140 + mu), nI mc, nI 0, nI 0, nI 0, nI 0, nI 0, nI pos, nI 0, nI 8, nI pos, nI (mt - tl + 1), nI 0, nI oc, f_lastKind, nI 0, f_lastValue, f_cnt, f_full, f_flag, f_need, a_tk, a_tv, a_tp, a_mName, a_mKind, a_mCount, a_mPar, a_mAt, a_vName, a_vDecl, a_vKind, a_vVal, a_sk, a_sv, a_oKind, a_oAt, a_oArgs, a_cKind, a_cA, a_cB, a_outK, a_outV) := by
        refine yr_stmt B hg' (fun post hp => YS post (hy_decl_m p384 t1 e15 rfl (by omega) (by omega) (fun _ => ?_) (fun q => by omega)))
        refine hy_method (T := T) (P := P) (nm := T (pos + 1) - 54) (c := c) (q := T pos) (en := q2) (lo := pos) (hi := q2) YM ht (Nat.le_refl _) nm16 c3 (by omega) mu2 hcl hen (Nat.le_refl _) (by omega) rfl n54 e2P (fun _ => ?_) (fun m hm m8 le => ?_)
        · rw [t4]
          exact hp
        · rcases full with ⟨g1, g2⟩ | g
          · rcases hm with ⟨m1, m2⟩ | ⟨m1, m2⟩
            · exact absurd ((IFF m m1).mpr m2) (g2 m m1)
            · omega
          · omega
      exact gs_err h ⟨by decide, by decide⟩ (by rw [← hF]; unfold ls_Phi; omega) (by rw [← hF]; unfold ls_Phi; omega) (ls_xr_t hx1 hx2) hy1
    · have FIT : mu + (q2 - pos) ≤ 240 := by
        apply Decidable.byContradiction
        intro q
        exact full (Or.inr (by omega))
      obtain ⟨m, hm, m8⟩ : ∃ m, ((m < mc ∧ ls_sg (nf m) (cf m) (pf m) = ls_sg (T (pos + 1) - 54) c P) ∨ (m = mc ∧ ∀ i, i < mc → ls_sg (nf i) (cf i) (pf i) ≠ ls_sg (T (pos + 1) - 54) c P)) ∧ m < 8 := by
        by_cases ex : ∃ i, i < mc ∧ ls_sg (nf i) (cf i) (pf i) = ls_sg (T (pos + 1) - 54) c P
        · obtain ⟨i, i1, i2⟩ := ex
          exact ⟨i, Or.inl ⟨i1, i2⟩, by omega⟩
        · have A : ∀ i, i < mc → ls_sg (nf i) (cf i) (pf i) ≠ ls_sg (T (pos + 1) - 54) c P := fun i hi E => ex ⟨i, hi, E⟩
          refine ⟨mc, Or.inr ⟨rfl, A⟩, ?_⟩
          apply Decidable.byContradiction
          intro q
          exact full (Or.inl ⟨by omega, A⟩)
      have UNI : ∀ m', ((m' < mc ∧ ls_sg (nf m') (cf m') (pf m') = ls_sg (T (pos + 1) - 54) c P) ∨ (m' = mc ∧ ∀ i, i < mc → ls_sg (nf i) (cf i) (pf i) ≠ ls_sg (T (pos + 1) - 54) c P)) → m' = m := by
        intro m' hm'
        rcases hm with ⟨a1, a2⟩ | ⟨a1, a2⟩
        · rcases hm' with ⟨b1, b2⟩ | ⟨b1, b2⟩
          · exact dist m' m b1 a1 (b2.trans a2.symm)
          · exact absurd a2 (b2 m a1)
        · rcases hm' with ⟨b1, b2⟩ | ⟨b1, b2⟩
          · exact absurd b2 (a2 m' b1)
          · omega
      obtain ⟨MT', UA'⟩ := ls_MT_def (m := m) hM hf U t0 hc rfl k480.1 L1c c3 (show T pos ≤ 5 by omega) nm16 hp P5 P0 (fun i hi => ⟨(hL i hi).1, (hL i hi).2.1⟩) lt1 lt2 ec2 bot sz k12 ppq htk FIT hm m8
      have cu' : ls_cu n a_callReturn (upd a_mKind m (nI (T pos))) a_declared (ls_UA (ls_blk a_codeOp (2 * mu) (k2.1 + 1 - (k.1 + 1 + 1)) (fun i => a_codeOp (k.1 + 1 + 1 + i))) (ls_blk a_codeArg (2 * mu) (k2.1 + 1 - (k.1 + 1 + 1)) (fun i => a_codeArg (k.1 + 1 + 1 + i))) (ls_blk a_codeKind (2 * mu) (k2.1 + 1 - (k.1 + 1 + 1)) (fun i => a_codeKind (k.1 + 1 + 1 + i))) (ls_blk a_codePlace (2 * mu) (k2.1 + 1 - (k.1 + 1 + 1)) (fun i => a_codePlace (k.1 + 1 + 1 + i))) (ls_blk a_tk (140 + mu) (q2 - pos) (fun i => a_tk (pos + i))) (ls_blk a_tv (140 + mu) (q2 - pos) (fun i => a_tv (pos + i))) (ls_blk a_tp (140 + mu) (q2 - pos) (fun i => nI (pos + i)))) (T, V, C, kF, n, N, 0, 0, 0, N) (t2' + 1) [] (3, q2, es2, [], [], [], k3) [] [] [] [] [] := ls_cu_sm (c0 := []) UA' ⟨fun _ => ⟨⟨rfl, rfl, rfl, rfl, rfl⟩, rfl⟩, fun q => absurd rfl q⟩ ⟨by omega, by omega⟩ ec3 (by omega) rfl ⟨rfl, rfl, rfl, rfl, rfl, rfl⟩
      have Ph := ls_Phi_tk (tl := tl) (as := []) (st := 2) (st' := 3) (fr := []) (fr' := []) (N := N) (t := t) (t' := t2' + 1) tl0 (by unfold ls_lo5; show 0 - _ ≤ _; omega) N11 ltN (by omega)
      have G0 := ih (f_tickLimit := f_tickLimit) (f_tokenCount := f_tokenCount) (f_errorPlace := f_errorPlace) (f_lastKind := f_lastKind) (f_codeSize := f_codeSize) (f_state := f_state) (f_pos := f_pos) (f_expressionStart := f_expressionStart) (f_pendingCount := f_pendingCount) (f_frameTop := f_frameTop) (f_localCount := f_localCount) (f_lastValue := f_lastValue) (a_tokenCode := a_tokenCode) (a_tokenValue := a_tokenValue) (a_pendingLevel := a_pendingLevel) (a_pendingPlace := a_pendingPlace) (a_pendingMore := a_pendingMore) (a_frameKind := a_frameKind) (a_frameMore := a_frameMore) (a_localName := a_localName) (f_cnt := f_cnt) (f_full := f_full) (f_flag := f_flag) (f_need := f_need) (oc := oc) ⟨cu', hX, hY, hO, hE, hG, hV, hl', ho, MT'⟩ (by omega) (fun q => absurd q.2 (by decide))
      rw [show ls_md 3 [] = 0 from rfl, show ls_pt 3 [] = 0 from rfl, k3e, Nat.sub_zero, Nat.add_zero] at G0
      have hx2 : ls_xr 1 (f_tickLimit, f_tokenCount, nI oc, 0, f_errorPlace, f_lastKind, f_lastValue, f_codeSize, nI mc, nI mu, nI 88, nI 0, nI (k.1 + 1), nI (tl - 1), f_state, f_pos, f_expressionStart, f_pendingCount, f_frameTop, f_localCount, a_tokenCode, a_tokenValue, a_outKind, a_outValue, a_codeOp, a_codeArg, a_codeKind, a_codePlace, a_methodSign, a_methodStart, a_declared, a_cellKind, a_cellValue, a_callReturn, a_pendingLevel, a_pendingPlace, a_pendingMore, a_frameKind, a_frameMore, a_localName) (f_tickLimit, f_tokenCount, nI oc, 0, f_errorPlace, f_lastKind, f_lastValue, f_codeSize, nI (if m = mc then mc + 1 else mc), nI (mu + (q2 - pos)), nI 88, nI 0, nI (k2.1 + 1), nI (tl - 1), f_state, f_pos, f_expressionStart, f_pendingCount, f_frameTop, f_localCount, a_tokenCode, a_tokenValue, a_outKind, a_outValue, ls_blk a_codeOp (2 * mu) (k2.1 + 1 - (k.1 + 1 + 1)) (fun i => a_codeOp (k.1 + 1 + 1 + i)), ls_blk a_codeArg (2 * mu) (k2.1 + 1 - (k.1 + 1 + 1)) (fun i => a_codeArg (k.1 + 1 + 1 + i)), ls_blk a_codeKind (2 * mu) (k2.1 + 1 - (k.1 + 1 + 1)) (fun i => a_codeKind (k.1 + 1 + 1 + i)), ls_blk a_codePlace (2 * mu) (k2.1 + 1 - (k.1 + 1 + 1)) (fun i => a_codePlace (k.1 + 1 + 1 + i)), upd a_methodSign m (nI (ls_sg (T (pos + 1) - 54) c P)), upd a_methodStart m (nI (2 * mu)), a_declared, a_cellKind, a_cellValue, a_callReturn, a_pendingLevel, a_pendingPlace, a_pendingMore, a_frameKind, a_frameMore, a_localName) := by
        refine xr_of (fun post f s hs hh => gx_21 cd2.2.1 hs op21 (hx_define (en := k2.1 + 1) (sf := fun i => ls_sg (nf i) (cf i) (pf i)) (q := T pos) (p0 := pos) (p1 := q2 - 1) (by omega) (by omega) (by have := q2n.2.1; omega) kd21 (by omega) sn3 ar21 plz pl21 ⟨by omega, by omega⟩ mc8 mu2 hsf dist hfit (fun q => ?_) (fun m' hm' _ _ co ca ck cp b1 b2 => ?_)))
        · rw [EN] at q
          exact absurd q full
        · have := UNI m' hm'
          subst this
          rw [EN, ls_blk_eq (x := co) (fun j hj => (b1 j hj).1) (fun i hi => (b2 i hi).1), ls_blk_eq (x := ca) (fun j hj => (b1 j hj).2.1) (fun i hi => (b2 i hi).2.1), ls_blk_eq (x := ck) (fun j hj => (b1 j hj).2.2.1) (fun i hi => (b2 i hi).2.2.1), ls_blk_eq (x := cp) (fun j hj => (b1 j hj).2.2.2) (fun i hi => (b2 i hi).2.2.2)]
          exact hh
      have hy1 : ls_yr 1 (nI mt, nI n, nI (140 + mu), nI mc, nI 0, nI 0, nI 0, nI 0, nI 0, nI pos, nI 0, 0, f_errorPlace, nI (mt - tl), nI 0, nI oc, f_lastKind, nI 0, f_lastValue, f_cnt, f_full, f_flag, f_need, a_tk, a_tv, a_tp, a_mName, a_mKind, a_mCount, a_mPar, a_mAt, a_vName, a_vDecl, a_vKind, a_vVal, a_sk, a_sv, a_oKind, a_oAt, a_oArgs, a_cKind, a_cA, a_cB, a_outK, a_outV) (nI mt, nI n, nI (140 + (mu + (q2 - pos))), nI (if m = mc then mc + 1 else mc), nI 0, nI 0, nI 0, nI 0, nI 0, nI q2, nI 0, 0, f_errorPlace, nI (mt - (tl - 1)), nI 0, nI oc, f_lastKind, nI 0, f_lastValue, f_cnt, f_full, f_flag, f_need, ls_blk a_tk (140 + mu) (q2 - pos) (fun i => a_tk (pos + i)), ls_blk a_tv (140 + mu) (q2 - pos) (fun i => a_tv (pos + i)), ls_blk a_tp (140 + mu) (q2 - pos) (fun i => nI (pos + i)), upd a_mName m (nI (T (pos + 1) - 54 + 54)), upd a_mKind m (nI (T pos)), upd a_mCount m (nI c), ls_blk a_mPar (3 * m) c (fun i => nI (P i)), upd a_mAt m (nI (140 + mu)), a_vName, a_vDecl, a_vKind, a_vVal, a_sk, a_sv, a_oKind, a_oAt, a_oArgs, a_cKind, a_cA, a_cB, a_outK, a_outV) := by
        refine yr_stmt B hg' (fun post hp => YS post (hy_decl_m p384 t1 e15 rfl (by omega) (by omega) (fun _ => ?_) (fun q => by omega)))
        refine hy_method (T := T) (P := P) (nm := T (pos + 1) - 54) (c := c) (q := T pos) (en := q2) (lo := pos) (hi := q2) YM ht (Nat.le_refl _) nm16 c3 (by omega) mu2 hcl hen (Nat.le_refl _) (by omega) rfl n54 e2P (fun q => ?_) (fun m' hm' _ _ tk tp mP tv b1 b2 b3 b4 => ?_)
        · refine absurd ?_ full
          rcases q with ⟨q1, q2⟩ | q
          · exact Or.inl ⟨q1, fun i hi E => q2 i hi ((IFF i hi).mp E)⟩
          · exact Or.inr q
        · have := UNI m' (by
            rcases hm' with ⟨q1, q2⟩ | ⟨q1, q2⟩
            · exact Or.inl ⟨q1, (IFF m' q1).mpr q2⟩
            · exact Or.inr ⟨q1, fun i hi E => q2 i hi ((IFF i hi).mp E)⟩)
          subst this
          rw [TE, ls_blk_eq (x := tk) (fun j hj => (b1 j hj).1) (fun i hi => (b2 i hi).1), ls_blk_eq (x := tp) (fun j hj => (b1 j hj).2.1) (fun i hi => (b2 i hi).2.1), ls_blk_eq (x := tv) (fun j hj => (b1 j hj).2.2) (fun i hi => (b2 i hi).2.2), ls_blk_eq (x := mP) b3 b4]
          exact hp
      exact ls_G_go (a := 1 + 1) (b := 1) (ls_xr_t hx1 hx2) hy1 G0 (by omega) (by omega)
  · have hx1 : ls_xr 1 (f_tickLimit, f_tokenCount, nI oc, 0, f_errorPlace, f_lastKind, f_lastValue, f_codeSize, nI mc, nI mu, nI 88, nI 0, nI k.1, nI tl, f_state, f_pos, f_expressionStart, f_pendingCount, f_frameTop, f_localCount, a_tokenCode, a_tokenValue, a_outKind, a_outValue, a_codeOp, a_codeArg, a_codeKind, a_codePlace, a_methodSign, a_methodStart, a_declared, a_cellKind, a_cellValue, a_callReturn, a_pendingLevel, a_pendingPlace, a_pendingMore, a_frameKind, a_frameMore, a_localName) (f_tickLimit, f_tokenCount, nI oc, nI 9, nI pos, f_lastKind, f_lastValue, f_codeSize, nI mc, nI mu, nI 88, nI 0, nI (k.1 + 1), nI tl, f_state, f_pos, f_expressionStart, f_pendingCount, f_frameTop, f_localCount, a_tokenCode, a_tokenValue, a_outKind, a_outValue, a_codeOp, a_codeArg, a_codeKind, a_codePlace, a_methodSign, a_methodStart, a_declared, a_cellKind, a_cellValue, a_callReturn, a_pendingLevel, a_pendingPlace, a_pendingMore, a_frameKind, a_frameMore, a_localName) := by
      refine xr_of (fun post f s hs hh => gx_1 d2 hs op1 (hx_tick (by omega) (fun q => absurd q tl0) (fun _ => ?_)))
      rw [pl1]
      exact hh
    have hy1 : ls_yr 1 (nI mt, nI n, nI (140 + mu), nI mc, nI 0, nI 0, nI 0, nI 0, nI 0, nI pos, nI 0, 0, f_errorPlace, nI (mt - tl), nI 0, nI oc, f_lastKind, nI 0, f_lastValue, f_cnt, f_full, f_flag, f_need, a_tk, a_tv, a_tp, a_mName, a_mKind, a_mCount, a_mPar, a_mAt, a_vName, a_vDecl, a_vKind, a_vVal, a_sk, a_sv, a_oKind, a_oAt, a_oArgs, a_cKind, a_cA, a_cB, a_outK, a_outV) (nI mt, nI n, nI (140 + mu), nI mc, nI 0, nI 0, nI 0, nI 0, nI 0, nI pos, nI 0, nI 9, nI pos, nI (mt - tl), nI 0, nI oc, f_lastKind, nI 0, f_lastValue, f_cnt, f_full, f_flag, f_need, a_tk, a_tv, a_tp, a_mName, a_mKind, a_mCount, a_mPar, a_mAt, a_vName, a_vDecl, a_vKind, a_vVal, a_sk, a_sv, a_oKind, a_oAt, a_oArgs, a_cKind, a_cA, a_cB, a_outK, a_outV) := by
      refine yr_stmt B hg' (fun post hp => YS post (hy_decl_m p384 t1 e15 rfl (by omega) (by omega) (fun q => by omega) (fun _ => ?_)))
      rw [t4]
      exact hp
    exact gs_err h ⟨by decide, by decide⟩ (by rw [← hF]; unfold ls_Phi; omega) (by rw [← hF]; unfold ls_Phi; omega) hx1 hy1
set_option maxHeartbeats 200000 in
theorem gs_def {p sn : Nat} {L1 : List Nat} (ih : ls_IH F) (h : ls_S yn mt tl oc mc mu ((T, V, C, kF, n, N, d, e, ta, tz)) t as ((2, pos, es, [], [], L, k)) Ls xs ys os cs f_tickLimit a_outKind a_outValue a_codeOp a_codeArg a_codeKind a_codePlace a_methodSign a_methodStart a_declared a_cellKind a_cellValue a_callReturn a_tk a_tv a_tp a_mName a_mKind a_mCount a_mPar a_mAt a_vName a_vDecl a_vKind a_vVal a_sk a_sv a_oKind a_oAt a_oArgs a_cKind a_cA a_cB a_outK a_outV) (hF : ls_Phi tl as 2 [] N t = F) (T6 : T pos < 6) (hnm : ls_nam (T (pos + 1))) (h15 : T (pos + 2) = 15) (hh : ls_head T pos = .ok (p, L1, sn)) (hc : C (t + 1) = (0, p, es, [], [(1, L1.length, p, L1), (2, k.1 + 1, pos, [T pos])], L1, ls_em (ls_em k 1 0 0 (nI pos)) 21 0 (nI (sn * 8 + T pos)) (nI pos))) : ls_G F (f_tickLimit, f_tokenCount, nI oc, 0, f_errorPlace, f_lastKind, f_lastValue, f_codeSize, nI mc, nI mu, nI (88 + xs.length), nI as.length, nI (k.1 - d), nI tl, f_state, f_pos, f_expressionStart, f_pendingCount, f_frameTop, f_localCount, a_tokenCode, a_tokenValue, a_outKind, a_outValue, a_codeOp, a_codeArg, a_codeKind, a_codePlace, a_methodSign, a_methodStart, a_declared, a_cellKind, a_cellValue, a_callReturn, a_pendingLevel, a_pendingPlace, a_pendingMore, a_frameKind, a_frameMore, a_localName) (nI mt, nI yn, nI (140 + mu), nI mc, nI (ls_sl Ls + L.length), nI (ls_sl Ls), nI ys.length, nI os.length, nI cs.length, nI (pos + e), nI 0, 0, f_errorPlace, nI (mt - tl), nI as.length, nI oc, f_lastKind, nI 0, f_lastValue, f_cnt, f_full, f_flag, f_need, a_tk, a_tv, a_tp, a_mName, a_mKind, a_mCount, a_mPar, a_mAt, a_vName, a_vDecl, a_vKind, a_vVal, a_sk, a_sv, a_oKind, a_oAt, a_oArgs, a_cKind, a_cA, a_cB, a_outK, a_outV) := by
  obtain ⟨z1, z2, z3, z4, z5, z6, z7, z8, z9, z10, z11, z12⟩ := ls_top0 h.1 (by omega)
  have z11 := z11.symm
  subst z1 z2 z3 z4 z5 z6 z7 z8 z9 z10 z11 z12
  exact gs_def0 ih h hF T6 hnm h15 hh hc
end
