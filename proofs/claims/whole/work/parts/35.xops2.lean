set_option maxHeartbeats 200000 in
theorem ls_a8 : ∀ x : Fin 16, (nI x.1 &&& 8 = 0 ↔ x.1 < 8) := by decide +kernel
set_option maxHeartbeats 200000 in
theorem ls_a7 : ∀ x : Fin 16, nI x.1 &&& 7 = nI (x.1 % 8) := by decide +kernel
def ls_cell (a ac : Nat) : Nat := if a < 16 then a else a + 8 * ac
set_option maxHeartbeats 200000 in
theorem ls_cell_lt {a ac : Nat} (ha : a < 24) (hac : ac ≤ 8) : ls_cell a ac < 88 := by
  unfold ls_cell
  split <;> omega
section
variable {f_tickLimit f_tokenCount f_outCount f_error f_errorPlace f_lastKind f_codeSize f_methodCount f_methodTokens f_cellCount f_activeCalls f_next f_ticksLeft f_state f_pos f_expressionStart f_pendingCount f_frameTop f_localCount : Int32}
variable {f_lastValue : Int64}
variable {a_tokenCode a_tokenValue a_outKind a_codeOp a_codeArg a_codeKind a_codePlace a_methodSign a_methodStart a_declared a_cellKind a_callReturn a_pendingLevel a_pendingPlace a_pendingMore a_frameKind a_frameMore a_localName : Nat → Int32}
variable {a_outValue a_cellValue : Nat → Int64}
variable {post : SX → Prop} {p2 : Int32 → SX → Prop} {at0 cc ac k : Nat} {v : Int64}
set_option maxHeartbeats 200000 in
theorem hx_cellOf {q : Int32 → Prop} {a : Nat} (ha : a < 24) (hac : ac ≤ 8) (hp : q (nI (ls_cell a ac))) : wpX_cellOf q (f_tickLimit, f_tokenCount, f_outCount, f_error, f_errorPlace, f_lastKind, f_lastValue, f_codeSize, f_methodCount, f_methodTokens, f_cellCount, nI ac, f_next, f_ticksLeft, f_state, f_pos, f_expressionStart, f_pendingCount, f_frameTop, f_localCount, a_tokenCode, a_tokenValue, a_outKind, a_outValue, a_codeOp, a_codeArg, a_codeKind, a_codePlace, a_methodSign, a_methodStart, a_declared, a_cellKind, a_cellValue, a_callReturn, a_pendingLevel, a_pendingPlace, a_pendingMore, a_frameKind, a_frameMore, a_localName) (nI a) := by
  have lt := ls_cell_lt ha hac
  have G : ∀ z : Nat, z = ls_cell a ac → wX_cellOf_19 q (nI z) f_tickLimit f_tokenCount f_outCount f_error f_errorPlace f_lastKind f_lastValue f_codeSize f_methodCount f_methodTokens f_cellCount (nI ac) f_next f_ticksLeft f_state f_pos f_expressionStart f_pendingCount f_frameTop f_localCount a_tokenCode a_tokenValue a_outKind a_outValue a_codeOp a_codeArg a_codeKind a_codePlace a_methodSign a_methodStart a_declared a_cellKind a_cellValue a_callReturn a_pendingLevel a_pendingPlace a_pendingMore a_frameKind a_frameMore a_localName := by
    intro z hz
    subst hz
    exact br_f (nI_pos (by omega)) (br_f (nI_ge (b := 88) lt (by decide)) hp)
  unfold wpX_cellOf
  dsimp only
  by_cases a16 : a < 16
  · exact br_f (nI_ge (b := 16) a16 (by decide)) (G a (by unfold ls_cell; rw [if_pos a16]))
  · refine br_t (nI_le (a := 16) (by omega) (by omega)) ?_
    rw [show (8 : Int32) = nI 8 from rfl, pk_mul, nI_add]
    exact G _ (by unfold ls_cell; rw [if_neg a16, Nat.mul_comm])
set_option maxHeartbeats 200000 in
theorem hx_tick {tl : Nat} {p : Int32} (htl : tl < 1000) (h1 : 0 < tl → post (f_tickLimit, f_tokenCount, f_outCount, f_error, f_errorPlace, f_lastKind, f_lastValue, f_codeSize, f_methodCount, f_methodTokens, f_cellCount, f_activeCalls, f_next, nI (tl - 1), f_state, f_pos, f_expressionStart, f_pendingCount, f_frameTop, f_localCount, a_tokenCode, a_tokenValue, a_outKind, a_outValue, a_codeOp, a_codeArg, a_codeKind, a_codePlace, a_methodSign, a_methodStart, a_declared, a_cellKind, a_cellValue, a_callReturn, a_pendingLevel, a_pendingPlace, a_pendingMore, a_frameKind, a_frameMore, a_localName)) (h0 : tl = 0 → post (f_tickLimit, f_tokenCount, f_outCount, 9, p, f_lastKind, f_lastValue, f_codeSize, f_methodCount, f_methodTokens, f_cellCount, f_activeCalls, f_next, nI tl, f_state, f_pos, f_expressionStart, f_pendingCount, f_frameTop, f_localCount, a_tokenCode, a_tokenValue, a_outKind, a_outValue, a_codeOp, a_codeArg, a_codeKind, a_codePlace, a_methodSign, a_methodStart, a_declared, a_cellKind, a_cellValue, a_callReturn, a_pendingLevel, a_pendingPlace, a_pendingMore, a_frameKind, a_frameMore, a_localName)) : wpX_spendTick post (f_tickLimit, f_tokenCount, f_outCount, f_error, f_errorPlace, f_lastKind, f_lastValue, f_codeSize, f_methodCount, f_methodTokens, f_cellCount, f_activeCalls, f_next, nI tl, f_state, f_pos, f_expressionStart, f_pendingCount, f_frameTop, f_localCount, a_tokenCode, a_tokenValue, a_outKind, a_outValue, a_codeOp, a_codeArg, a_codeKind, a_codePlace, a_methodSign, a_methodStart, a_declared, a_cellKind, a_cellValue, a_callReturn, a_pendingLevel, a_pendingPlace, a_pendingMore, a_frameKind, a_frameMore, a_localName) p := by
  cases tl with
  | zero => exact br_t (by decide) (h0 rfl)
  | succ t => exact br_f (nI_nle (by omega) (by omega)) (nm_r (nI_pred t) (h1 (by omega)))
set_option maxHeartbeats 200000 in
theorem hx_load {a : Nat} (ha : at0 < 761) (hc : cc < 376) (h24 : a < 24) (hac : ac ≤ 8) (e1 : a_codeArg at0 = nI a)
    (h1 : a_declared (ls_cell a ac) ≠ -1 → post (f_tickLimit, f_tokenCount, f_outCount, f_error, f_errorPlace, f_lastKind, f_lastValue, f_codeSize, f_methodCount, f_methodTokens, nI (cc + 1), nI ac, f_next, f_ticksLeft, f_state, f_pos, f_expressionStart, f_pendingCount, f_frameTop, f_localCount, a_tokenCode, a_tokenValue, a_outKind, a_outValue, a_codeOp, a_codeArg, a_codeKind, a_codePlace, a_methodSign, a_methodStart, a_declared, upd a_cellKind cc (a_cellKind (ls_cell a ac)), vp_updL a_cellValue cc (a_cellValue (ls_cell a ac)), a_callReturn, a_pendingLevel, a_pendingPlace, a_pendingMore, a_frameKind, a_frameMore, a_localName))
    (h0 : a_declared (ls_cell a ac) = -1 → post (f_tickLimit, f_tokenCount, f_outCount, 2, a_codePlace at0, f_lastKind, f_lastValue, f_codeSize, f_methodCount, f_methodTokens, nI cc, nI ac, f_next, f_ticksLeft, f_state, f_pos, f_expressionStart, f_pendingCount, f_frameTop, f_localCount, a_tokenCode, a_tokenValue, a_outKind, a_outValue, a_codeOp, a_codeArg, a_codeKind, a_codePlace, a_methodSign, a_methodStart, a_declared, a_cellKind, a_cellValue, a_callReturn, a_pendingLevel, a_pendingPlace, a_pendingMore, a_frameKind, a_frameMore, a_localName)) : wpX_load post (f_tickLimit, f_tokenCount, f_outCount, f_error, f_errorPlace, f_lastKind, f_lastValue, f_codeSize, f_methodCount, f_methodTokens, nI cc, nI ac, f_next, f_ticksLeft, f_state, f_pos, f_expressionStart, f_pendingCount, f_frameTop, f_localCount, a_tokenCode, a_tokenValue, a_outKind, a_outValue, a_codeOp, a_codeArg, a_codeKind, a_codePlace, a_methodSign, a_methodStart, a_declared, a_cellKind, a_cellValue, a_callReturn, a_pendingLevel, a_pendingPlace, a_pendingMore, a_frameKind, a_frameMore, a_localName) (nI at0) := by
  have ia : vp_in (nI at0) 761 := vp_in_nI ha (by decide)
  have ea : (nI at0).toNatClampNeg = at0 := nI_clamp (by omega)
  have lt := ls_cell_lt h24 hac
  have ei : (nI (ls_cell a ac)).toNatClampNeg = ls_cell a ac := nI_clamp (by omega)
  unfold wpX_load
  dsimp only
  refine ⟨ia, ?_⟩
  rw [ea, e1]
  refine hx_cellOf h24 hac ⟨vp_in_nI lt (by decide), ?_⟩
  rw [ei]
  refine br_c (fun h => ⟨ia, h0 h⟩) (fun h => ⟨vp_in_nI (by omega) (by decide), vp_in_nI (by omega) (by decide), hx_push hc (h1 h)⟩)
set_option maxHeartbeats 200000 in
theorem hx_put {cell : Nat} {kd : Int32} {x : Int64} (hc : cell < 376) (hp : post (f_tickLimit, f_tokenCount, f_outCount, f_error, f_errorPlace, f_lastKind, f_lastValue, f_codeSize, f_methodCount, f_methodTokens, f_cellCount, f_activeCalls, f_next, f_ticksLeft, f_state, f_pos, f_expressionStart, f_pendingCount, f_frameTop, f_localCount, a_tokenCode, a_tokenValue, a_outKind, a_outValue, a_codeOp, a_codeArg, a_codeKind, a_codePlace, a_methodSign, a_methodStart, a_declared, upd a_cellKind cell kd, vp_updL a_cellValue cell x, a_callReturn, a_pendingLevel, a_pendingPlace, a_pendingMore, a_frameKind, a_frameMore, a_localName)) : wpX_put post (f_tickLimit, f_tokenCount, f_outCount, f_error, f_errorPlace, f_lastKind, f_lastValue, f_codeSize, f_methodCount, f_methodTokens, f_cellCount, f_activeCalls, f_next, f_ticksLeft, f_state, f_pos, f_expressionStart, f_pendingCount, f_frameTop, f_localCount, a_tokenCode, a_tokenValue, a_outKind, a_outValue, a_codeOp, a_codeArg, a_codeKind, a_codePlace, a_methodSign, a_methodStart, a_declared, a_cellKind, a_cellValue, a_callReturn, a_pendingLevel, a_pendingPlace, a_pendingMore, a_frameKind, a_frameMore, a_localName) (nI cell) kd x := by
  have i : vp_in (nI cell) 376 := vp_in_nI hc (by decide)
  have e : (nI cell).toNatClampNeg = cell := nI_clamp (by omega)
  exact ⟨i, nm_r (by rw [e]) ⟨i, nm_r (by rw [e]) hp⟩⟩
set_option maxHeartbeats 200000 in
theorem hx_store {cell t kk : Nat} (ha : at0 < 761) (hc : 88 ≤ cc ∧ cc < 376) (hcl : cell < 88) (ht : t ≤ 5) (hkk : kk < 16) (e1 : a_codeKind at0 = nI kk) (e2 : a_cellKind cc = nI k) (hk : k ≤ 4) (e3 : a_cellValue cc = v) (hwf : ls_wf k v)
    (h1 : ∀ k', ls_cnv t (decide (8 ≤ kk)) k v = some k' → k' < 100 → p2 1 (f_tickLimit, f_tokenCount, f_outCount, f_error, f_errorPlace, f_lastKind, f_lastValue, f_codeSize, f_methodCount, f_methodTokens, nI cc, f_activeCalls, f_next, f_ticksLeft, f_state, f_pos, f_expressionStart, f_pendingCount, f_frameTop, f_localCount, a_tokenCode, a_tokenValue, a_outKind, a_outValue, a_codeOp, a_codeArg, a_codeKind, a_codePlace, a_methodSign, a_methodStart, upd a_declared cell (nI t), upd a_cellKind cell (nI k'), vp_updL a_cellValue cell v, a_callReturn, a_pendingLevel, a_pendingPlace, a_pendingMore, a_frameKind, a_frameMore, a_localName))
    (h0 : ls_cnv t (decide (8 ≤ kk)) k v = none → p2 0 (f_tickLimit, f_tokenCount, f_outCount, 3, a_codePlace at0, f_lastKind, f_lastValue, f_codeSize, f_methodCount, f_methodTokens, nI cc, f_activeCalls, f_next, f_ticksLeft, f_state, f_pos, f_expressionStart, f_pendingCount, f_frameTop, f_localCount, a_tokenCode, a_tokenValue, a_outKind, a_outValue, a_codeOp, a_codeArg, a_codeKind, a_codePlace, a_methodSign, a_methodStart, a_declared, a_cellKind, a_cellValue, a_callReturn, a_pendingLevel, a_pendingPlace, a_pendingMore, a_frameKind, a_frameMore, a_localName)) : wpX_storeConverted p2 (f_tickLimit, f_tokenCount, f_outCount, f_error, f_errorPlace, f_lastKind, f_lastValue, f_codeSize, f_methodCount, f_methodTokens, nI (cc + 1), f_activeCalls, f_next, f_ticksLeft, f_state, f_pos, f_expressionStart, f_pendingCount, f_frameTop, f_localCount, a_tokenCode, a_tokenValue, a_outKind, a_outValue, a_codeOp, a_codeArg, a_codeKind, a_codePlace, a_methodSign, a_methodStart, a_declared, a_cellKind, a_cellValue, a_callReturn, a_pendingLevel, a_pendingPlace, a_pendingMore, a_frameKind, a_frameMore, a_localName) (nI cell) (nI t) (nI at0) := by
  have ia : vp_in (nI at0) 761 := vp_in_nI ha (by decide)
  have ea : (nI at0).toNatClampNeg = at0 := nI_clamp (by omega)
  have ic : vp_in (nI cc) 376 := vp_in_nI hc.2 (by decide)
  have ec : (nI cc).toNatClampNeg = cc := nI_clamp (by omega)
  unfold wpX_storeConverted
  refine hx_pop hc.1 hc.2 ?_
  dsimp only
  refine ⟨ia, ?_⟩
  rw [ea, e1]
  have G : ∀ cz : Int32, (cz = if decide (8 ≤ kk) = true then 1 else 0) → wX_storeConverted_23 p2 (nI cell) (nI t) (nI at0) (nI cc) cz f_tickLimit f_tokenCount f_outCount f_error f_errorPlace f_lastKind f_lastValue f_codeSize f_methodCount f_methodTokens (nI cc) f_activeCalls f_next f_ticksLeft f_state f_pos f_expressionStart f_pendingCount f_frameTop f_localCount a_tokenCode a_tokenValue a_outKind a_outValue a_codeOp a_codeArg a_codeKind a_codePlace a_methodSign a_methodStart a_declared a_cellKind a_cellValue a_callReturn a_pendingLevel a_pendingPlace a_pendingMore a_frameKind a_frameMore a_localName := by
    intro cz hcz
    unfold wX_storeConverted_23
    refine hx_converted hcz hc.2 ht e2 hk e3 hwf (fun k' hk' => ?_) (fun hn => ?_)
    · have k8 : k' < 100 := by
        unfold ls_cnv at hk'
        split at hk'
        · injection hk' with hk'
          subst hk'
          split <;> omega
        · cases hk'
      refine br_f (ls_nm1 (by omega)) ⟨vp_in_nI hcl (by decide), nm_r (by rw [nI_clamp (by omega)]) ⟨ic, ?_⟩⟩
      rw [ec, e3]
      refine hx_put (by omega) ?_
      exact br_f (ls_nm1 (by omega)) (h1 k' hk' k8)
    · refine br_t rfl ⟨ia, ?_⟩
      rw [ea]
      exact br_t rfl (h0 hn)
  by_cases k8 : kk < 8
  · exact br_t ((ls_a8 ⟨kk, hkk⟩).mpr k8) (G 0 (by rw [if_neg]; simp; omega))
  · exact br_f (mt (ls_a8 ⟨kk, hkk⟩).mp k8) (G 1 (by rw [if_pos]; simp; omega))
set_option maxHeartbeats 200000 in
theorem hx_decide {z d : Nat} (ha : at0 < 761) (hc : 88 ≤ cc ∧ cc < 376) (e1 : a_codeKind at0 = nI z) (hz : z ≤ 1) (e2 : a_cellKind cc = nI k) (hk : k < 100) (e3 : a_cellValue cc = v)
    (h0 : k ≠ 0 → post (f_tickLimit, f_tokenCount, f_outCount, 3, a_codePlace at0, f_lastKind, f_lastValue, f_codeSize, f_methodCount, f_methodTokens, nI cc, f_activeCalls, f_next, f_ticksLeft, f_state, f_pos, f_expressionStart, f_pendingCount, f_frameTop, f_localCount, a_tokenCode, a_tokenValue, a_outKind, a_outValue, a_codeOp, a_codeArg, a_codeKind, a_codePlace, a_methodSign, a_methodStart, a_declared, a_cellKind, a_cellValue, a_callReturn, a_pendingLevel, a_pendingPlace, a_pendingMore, a_frameKind, a_frameMore, a_localName))
    (h1 : k = 0 → v = lN z → post (f_tickLimit, f_tokenCount, f_outCount, f_error, f_errorPlace, f_lastKind, f_lastValue, f_codeSize, f_methodCount, f_methodTokens, nI (cc + 1), f_activeCalls, nI at0 + a_codeArg at0, f_ticksLeft, f_state, f_pos, f_expressionStart, f_pendingCount, f_frameTop, f_localCount, a_tokenCode, a_tokenValue, a_outKind, a_outValue, a_codeOp, a_codeArg, a_codeKind, a_codePlace, a_methodSign, a_methodStart, a_declared, upd a_cellKind cc 0, vp_updL a_cellValue cc v, a_callReturn, a_pendingLevel, a_pendingPlace, a_pendingMore, a_frameKind, a_frameMore, a_localName))
    (h2 : k = 0 → v ≠ lN z → post (f_tickLimit, f_tokenCount, f_outCount, f_error, f_errorPlace, f_lastKind, f_lastValue, f_codeSize, f_methodCount, f_methodTokens, nI cc, f_activeCalls, f_next, f_ticksLeft, f_state, f_pos, f_expressionStart, f_pendingCount, f_frameTop, f_localCount, a_tokenCode, a_tokenValue, a_outKind, a_outValue, a_codeOp, a_codeArg, a_codeKind, a_codePlace, a_methodSign, a_methodStart, a_declared, a_cellKind, a_cellValue, a_callReturn, a_pendingLevel, a_pendingPlace, a_pendingMore, a_frameKind, a_frameMore, a_localName)) : wpX_decide post (f_tickLimit, f_tokenCount, f_outCount, f_error, f_errorPlace, f_lastKind, f_lastValue, f_codeSize, f_methodCount, f_methodTokens, nI (cc + 1), f_activeCalls, f_next, f_ticksLeft, f_state, f_pos, f_expressionStart, f_pendingCount, f_frameTop, f_localCount, a_tokenCode, a_tokenValue, a_outKind, a_outValue, a_codeOp, a_codeArg, a_codeKind, a_codePlace, a_methodSign, a_methodStart, a_declared, a_cellKind, a_cellValue, a_callReturn, a_pendingLevel, a_pendingPlace, a_pendingMore, a_frameKind, a_frameMore, a_localName) (nI at0) := by
  have ia : vp_in (nI at0) 761 := vp_in_nI ha (by decide)
  have ea : (nI at0).toNatClampNeg = at0 := nI_clamp (by omega)
  have ic : vp_in (nI cc) 376 := vp_in_nI hc.2 (by decide)
  have ec : (nI cc).toNatClampNeg = cc := nI_clamp (by omega)
  have ez : (nI z).toInt64 = lN z := nI_l (by omega)
  unfold wpX_decide
  dsimp only
  refine hx_pop hc.1 hc.2 ?_
  dsimp only
  refine ⟨ic, ?_⟩
  rw [ec, e2]
  by_cases k0 : k = 0
  · refine br_t (by rw [k0]; rfl) ⟨ic, ia, ?_⟩
    rw [ea, e3, e1, ez]
    by_cases vz : v = lN z
    · refine br_t vz ⟨ic, ?_⟩
      refine hx_push hc.2 ?_
      dsimp only
      exact ⟨ia, nm_e (h1 k0 vz)⟩
    · exact br_f vz (h2 k0 vz)
  · refine br_f (mt (ls_k8 (b := 0) hk (by decide)).mp k0) ⟨ia, ?_⟩
    rw [ea]
    exact h0 k0
set_option maxHeartbeats 200000 in
theorem hx_needBoolean (ha : at0 < 761) (hc : 88 ≤ cc ∧ cc < 376) (e2 : a_cellKind cc = nI k) (hk : k < 100) (e3 : a_cellValue cc = v)
    (h0 : k ≠ 0 → post (f_tickLimit, f_tokenCount, f_outCount, 3, a_codePlace at0, f_lastKind, f_lastValue, f_codeSize, f_methodCount, f_methodTokens, nI cc, f_activeCalls, f_next, f_ticksLeft, f_state, f_pos, f_expressionStart, f_pendingCount, f_frameTop, f_localCount, a_tokenCode, a_tokenValue, a_outKind, a_outValue, a_codeOp, a_codeArg, a_codeKind, a_codePlace, a_methodSign, a_methodStart, a_declared, a_cellKind, a_cellValue, a_callReturn, a_pendingLevel, a_pendingPlace, a_pendingMore, a_frameKind, a_frameMore, a_localName))
    (h1 : k = 0 → post (f_tickLimit, f_tokenCount, f_outCount, f_error, f_errorPlace, f_lastKind, f_lastValue, f_codeSize, f_methodCount, f_methodTokens, nI (cc + 1), f_activeCalls, f_next, f_ticksLeft, f_state, f_pos, f_expressionStart, f_pendingCount, f_frameTop, f_localCount, a_tokenCode, a_tokenValue, a_outKind, a_outValue, a_codeOp, a_codeArg, a_codeKind, a_codePlace, a_methodSign, a_methodStart, a_declared, upd a_cellKind cc 0, vp_updL a_cellValue cc v, a_callReturn, a_pendingLevel, a_pendingPlace, a_pendingMore, a_frameKind, a_frameMore, a_localName)) : wpX_needBoolean post (f_tickLimit, f_tokenCount, f_outCount, f_error, f_errorPlace, f_lastKind, f_lastValue, f_codeSize, f_methodCount, f_methodTokens, nI (cc + 1), f_activeCalls, f_next, f_ticksLeft, f_state, f_pos, f_expressionStart, f_pendingCount, f_frameTop, f_localCount, a_tokenCode, a_tokenValue, a_outKind, a_outValue, a_codeOp, a_codeArg, a_codeKind, a_codePlace, a_methodSign, a_methodStart, a_declared, a_cellKind, a_cellValue, a_callReturn, a_pendingLevel, a_pendingPlace, a_pendingMore, a_frameKind, a_frameMore, a_localName) (nI at0) := by
  have ia : vp_in (nI at0) 761 := vp_in_nI ha (by decide)
  have ea : (nI at0).toNatClampNeg = at0 := nI_clamp (by omega)
  have ic : vp_in (nI cc) 376 := vp_in_nI hc.2 (by decide)
  have ec : (nI cc).toNatClampNeg = cc := nI_clamp (by omega)
  unfold wpX_needBoolean
  dsimp only
  refine hx_pop hc.1 hc.2 ?_
  dsimp only
  refine ⟨ic, ?_⟩
  rw [ec, e2]
  by_cases k0 : k = 0
  · refine br_t (by rw [k0]; rfl) ⟨ic, ?_⟩
    rw [e3]
    exact hx_push hc.2 (h1 k0)
  · refine br_f (mt (ls_k8 (b := 0) hk (by decide)).mp k0) ⟨ia, ?_⟩
    rw [ea]
    exact h0 k0
set_option maxHeartbeats 200000 in
theorem hx_unless (ha : at0 < 761) (hc : 88 ≤ cc ∧ cc < 376) (e2 : a_cellKind cc = nI k) (hk : k < 100) (e3 : a_cellValue cc = v)
    (h0 : k ≠ 0 → post (f_tickLimit, f_tokenCount, f_outCount, 3, a_codePlace at0, f_lastKind, f_lastValue, f_codeSize, f_methodCount, f_methodTokens, nI cc, f_activeCalls, f_next, f_ticksLeft, f_state, f_pos, f_expressionStart, f_pendingCount, f_frameTop, f_localCount, a_tokenCode, a_tokenValue, a_outKind, a_outValue, a_codeOp, a_codeArg, a_codeKind, a_codePlace, a_methodSign, a_methodStart, a_declared, a_cellKind, a_cellValue, a_callReturn, a_pendingLevel, a_pendingPlace, a_pendingMore, a_frameKind, a_frameMore, a_localName))
    (h1 : k = 0 → v = 0 → post (f_tickLimit, f_tokenCount, f_outCount, f_error, f_errorPlace, f_lastKind, f_lastValue, f_codeSize, f_methodCount, f_methodTokens, nI cc, f_activeCalls, nI at0 + a_codeArg at0, f_ticksLeft, f_state, f_pos, f_expressionStart, f_pendingCount, f_frameTop, f_localCount, a_tokenCode, a_tokenValue, a_outKind, a_outValue, a_codeOp, a_codeArg, a_codeKind, a_codePlace, a_methodSign, a_methodStart, a_declared, a_cellKind, a_cellValue, a_callReturn, a_pendingLevel, a_pendingPlace, a_pendingMore, a_frameKind, a_frameMore, a_localName))
    (h2 : k = 0 → v ≠ 0 → post (f_tickLimit, f_tokenCount, f_outCount, f_error, f_errorPlace, f_lastKind, f_lastValue, f_codeSize, f_methodCount, f_methodTokens, nI cc, f_activeCalls, f_next, f_ticksLeft, f_state, f_pos, f_expressionStart, f_pendingCount, f_frameTop, f_localCount, a_tokenCode, a_tokenValue, a_outKind, a_outValue, a_codeOp, a_codeArg, a_codeKind, a_codePlace, a_methodSign, a_methodStart, a_declared, a_cellKind, a_cellValue, a_callReturn, a_pendingLevel, a_pendingPlace, a_pendingMore, a_frameKind, a_frameMore, a_localName)) : wpX_jumpUnless post (f_tickLimit, f_tokenCount, f_outCount, f_error, f_errorPlace, f_lastKind, f_lastValue, f_codeSize, f_methodCount, f_methodTokens, nI (cc + 1), f_activeCalls, f_next, f_ticksLeft, f_state, f_pos, f_expressionStart, f_pendingCount, f_frameTop, f_localCount, a_tokenCode, a_tokenValue, a_outKind, a_outValue, a_codeOp, a_codeArg, a_codeKind, a_codePlace, a_methodSign, a_methodStart, a_declared, a_cellKind, a_cellValue, a_callReturn, a_pendingLevel, a_pendingPlace, a_pendingMore, a_frameKind, a_frameMore, a_localName) (nI at0) := by
  have ia : vp_in (nI at0) 761 := vp_in_nI ha (by decide)
  have ea : (nI at0).toNatClampNeg = at0 := nI_clamp (by omega)
  have ic : vp_in (nI cc) 376 := vp_in_nI hc.2 (by decide)
  have ec : (nI cc).toNatClampNeg = cc := nI_clamp (by omega)
  unfold wpX_jumpUnless
  dsimp only
  refine hx_pop hc.1 hc.2 ?_
  dsimp only
  refine ⟨ic, ?_⟩
  rw [ec, e2]
  by_cases k0 : k = 0
  · refine br_t (by rw [k0]; rfl) ⟨ic, ?_⟩
    rw [e3]
    exact br_c (fun h => ⟨ia, nm_r (by rw [ea]) (h1 k0 h)⟩) (fun h => h2 k0 h)
  · refine br_f (mt (ls_k8 (b := 0) hk (by decide)).mp k0) ⟨ia, ?_⟩
    rw [ea]
    exact h0 k0
set_option maxHeartbeats 200000 in
theorem hx_keepResult (hc : 88 ≤ cc ∧ cc < 376) (hp : post (f_tickLimit, f_tokenCount, f_outCount, f_error, f_errorPlace, a_cellKind cc, a_cellValue cc, f_codeSize, f_methodCount, f_methodTokens, nI cc, f_activeCalls, f_next, f_ticksLeft, f_state, f_pos, f_expressionStart, f_pendingCount, f_frameTop, f_localCount, a_tokenCode, a_tokenValue, a_outKind, a_outValue, a_codeOp, a_codeArg, a_codeKind, a_codePlace, a_methodSign, a_methodStart, a_declared, a_cellKind, a_cellValue, a_callReturn, a_pendingLevel, a_pendingPlace, a_pendingMore, a_frameKind, a_frameMore, a_localName)) : wpX_keepResult post (f_tickLimit, f_tokenCount, f_outCount, f_error, f_errorPlace, f_lastKind, f_lastValue, f_codeSize, f_methodCount, f_methodTokens, nI (cc + 1), f_activeCalls, f_next, f_ticksLeft, f_state, f_pos, f_expressionStart, f_pendingCount, f_frameTop, f_localCount, a_tokenCode, a_tokenValue, a_outKind, a_outValue, a_codeOp, a_codeArg, a_codeKind, a_codePlace, a_methodSign, a_methodStart, a_declared, a_cellKind, a_cellValue, a_callReturn, a_pendingLevel, a_pendingPlace, a_pendingMore, a_frameKind, a_frameMore, a_localName) := by
  have ic : vp_in (nI cc) 376 := vp_in_nI hc.2 (by decide)
  have ec : (nI cc).toNatClampNeg = cc := nI_clamp (by omega)
  unfold wpX_keepResult
  dsimp only
  refine hx_pop hc.1 hc.2 ⟨ic, nm_r (by rw [ec]) ⟨ic, nm_r (by rw [ec]) hp⟩⟩
set_option maxHeartbeats 200000 in
theorem hx_print {oc : Nat} (ha : at0 < 761) (hc : 88 ≤ cc ∧ cc < 376) (ho : oc ≤ 32)
    (h0 : oc = 32 → post (f_tickLimit, f_tokenCount, nI oc, 8, a_codePlace at0, f_lastKind, f_lastValue, f_codeSize, f_methodCount, f_methodTokens, nI cc, f_activeCalls, f_next, f_ticksLeft, f_state, f_pos, f_expressionStart, f_pendingCount, f_frameTop, f_localCount, a_tokenCode, a_tokenValue, a_outKind, a_outValue, a_codeOp, a_codeArg, a_codeKind, a_codePlace, a_methodSign, a_methodStart, a_declared, a_cellKind, a_cellValue, a_callReturn, a_pendingLevel, a_pendingPlace, a_pendingMore, a_frameKind, a_frameMore, a_localName))
    (h1 : oc < 32 → post (f_tickLimit, f_tokenCount, nI (oc + 1), f_error, f_errorPlace, f_lastKind, f_lastValue, f_codeSize, f_methodCount, f_methodTokens, nI cc, f_activeCalls, f_next, f_ticksLeft, f_state, f_pos, f_expressionStart, f_pendingCount, f_frameTop, f_localCount, a_tokenCode, a_tokenValue, upd a_outKind oc (a_cellKind cc), vp_updL a_outValue oc (a_cellValue cc), a_codeOp, a_codeArg, a_codeKind, a_codePlace, a_methodSign, a_methodStart, a_declared, a_cellKind, a_cellValue, a_callReturn, a_pendingLevel, a_pendingPlace, a_pendingMore, a_frameKind, a_frameMore, a_localName)) : wpX_print post (f_tickLimit, f_tokenCount, nI oc, f_error, f_errorPlace, f_lastKind, f_lastValue, f_codeSize, f_methodCount, f_methodTokens, nI (cc + 1), f_activeCalls, f_next, f_ticksLeft, f_state, f_pos, f_expressionStart, f_pendingCount, f_frameTop, f_localCount, a_tokenCode, a_tokenValue, a_outKind, a_outValue, a_codeOp, a_codeArg, a_codeKind, a_codePlace, a_methodSign, a_methodStart, a_declared, a_cellKind, a_cellValue, a_callReturn, a_pendingLevel, a_pendingPlace, a_pendingMore, a_frameKind, a_frameMore, a_localName) (nI at0) := by
  have ia : vp_in (nI at0) 761 := vp_in_nI ha (by decide)
  have ea : (nI at0).toNatClampNeg = at0 := nI_clamp (by omega)
  have ic : vp_in (nI cc) 376 := vp_in_nI hc.2 (by decide)
  have ec : (nI cc).toNatClampNeg = cc := nI_clamp (by omega)
  have eo : (nI oc).toNatClampNeg = oc := nI_clamp (by omega)
  unfold wpX_print
  dsimp only
  refine hx_pop hc.1 hc.2 ?_
  dsimp only
  by_cases o32 : oc = 32
  · refine br_t (by rw [o32]; decide) ⟨ia, ?_⟩
    rw [ea]
    exact h0 o32
  · have io : vp_in (nI oc) 32 := vp_in_nI (by omega) (by decide)
    exact br_f (nI_ge (b := 32) (by omega) (by decide)) ⟨ic, io, nm_r (by rw [ec, eo]) ⟨ic, io, nm_r (by rw [ec, eo]) (nm_r (nI_1 oc) (h1 (by omega)))⟩⟩
set_option maxHeartbeats 200000 in
theorem hx_leave {kd : Int32} {x : Int64} (hc : cc < 376) (hac : ac < 8) (hp : post (f_tickLimit, f_tokenCount, f_outCount, f_error, f_errorPlace, f_lastKind, f_lastValue, f_codeSize, f_methodCount, f_methodTokens, nI (cc + 1), nI ac, a_callReturn ac, f_ticksLeft, f_state, f_pos, f_expressionStart, f_pendingCount, f_frameTop, f_localCount, a_tokenCode, a_tokenValue, a_outKind, a_outValue, a_codeOp, a_codeArg, a_codeKind, a_codePlace, a_methodSign, a_methodStart, a_declared, upd a_cellKind cc kd, vp_updL a_cellValue cc x, a_callReturn, a_pendingLevel, a_pendingPlace, a_pendingMore, a_frameKind, a_frameMore, a_localName)) : wpX_leave post (f_tickLimit, f_tokenCount, f_outCount, f_error, f_errorPlace, f_lastKind, f_lastValue, f_codeSize, f_methodCount, f_methodTokens, nI cc, nI (ac + 1), f_next, f_ticksLeft, f_state, f_pos, f_expressionStart, f_pendingCount, f_frameTop, f_localCount, a_tokenCode, a_tokenValue, a_outKind, a_outValue, a_codeOp, a_codeArg, a_codeKind, a_codePlace, a_methodSign, a_methodStart, a_declared, a_cellKind, a_cellValue, a_callReturn, a_pendingLevel, a_pendingPlace, a_pendingMore, a_frameKind, a_frameMore, a_localName) kd x := by
  refine br_f (nI_nle (by omega) (by omega)) (nm_r (nI_pred ac) ⟨vp_in_nI hac (by decide), nm_r (by rw [nI_clamp (by omega)]) ?_⟩)
  exact hx_push hc hp
set_option maxHeartbeats 200000 in
theorem hx_returnZero {t : Nat} (ha : at0 < 761) (hc : cc < 376) (hac : ac < 8) (ht : t ≤ 5) (e1 : a_codeKind at0 = nI t)
    (hp : post (f_tickLimit, f_tokenCount, f_outCount, f_error, f_errorPlace, f_lastKind, f_lastValue, f_codeSize, f_methodCount, f_methodTokens, nI (cc + 1), nI ac, a_callReturn ac, f_ticksLeft, f_state, f_pos, f_expressionStart, f_pendingCount, f_frameTop, f_localCount, a_tokenCode, a_tokenValue, a_outKind, a_outValue, a_codeOp, a_codeArg, a_codeKind, a_codePlace, a_methodSign, a_methodStart, a_declared, upd a_cellKind cc (nI (if t = 5 then 3 else t)), vp_updL a_cellValue cc 0, a_callReturn, a_pendingLevel, a_pendingPlace, a_pendingMore, a_frameKind, a_frameMore, a_localName)) : wpX_returnZero post (f_tickLimit, f_tokenCount, f_outCount, f_error, f_errorPlace, f_lastKind, f_lastValue, f_codeSize, f_methodCount, f_methodTokens, nI cc, nI (ac + 1), f_next, f_ticksLeft, f_state, f_pos, f_expressionStart, f_pendingCount, f_frameTop, f_localCount, a_tokenCode, a_tokenValue, a_outKind, a_outValue, a_codeOp, a_codeArg, a_codeKind, a_codePlace, a_methodSign, a_methodStart, a_declared, a_cellKind, a_cellValue, a_callReturn, a_pendingLevel, a_pendingPlace, a_pendingMore, a_frameKind, a_frameMore, a_localName) (nI at0) := by
  have ia : vp_in (nI at0) 761 := vp_in_nI ha (by decide)
  have ea : (nI at0).toNatClampNeg = at0 := nI_clamp (by omega)
  unfold wpX_returnZero
  dsimp only
  refine ⟨ia, ?_⟩
  rw [ea, e1]
  by_cases t5 : t = 5
  · rw [if_pos t5] at hp
    exact br_t (by rw [t5]; rfl) (hx_leave hc hac hp)
  · rw [if_neg t5] at hp
    exact br_f (mt (ls_k8 (b := 5) (by omega) (by decide)).mp t5) (hx_leave hc hac hp)
set_option maxHeartbeats 200000 in
theorem hx_returnValue {t kk : Nat} (ha : at0 < 761) (hc : 88 ≤ cc ∧ cc < 376) (hac : ac < 8) (hkk : kk < 16) (ht : kk % 8 = t) (ht5 : t ≤ 5) (e1 : a_codeKind at0 = nI kk) (e2 : a_cellKind cc = nI k) (hk : k ≤ 4) (e3 : a_cellValue cc = v) (hwf : ls_wf k v)
    (h1 : ∀ k', ls_cnv t (decide (8 ≤ kk)) k v = some k' → post (f_tickLimit, f_tokenCount, f_outCount, f_error, f_errorPlace, f_lastKind, f_lastValue, f_codeSize, f_methodCount, f_methodTokens, nI (cc + 1), nI ac, a_callReturn ac, f_ticksLeft, f_state, f_pos, f_expressionStart, f_pendingCount, f_frameTop, f_localCount, a_tokenCode, a_tokenValue, a_outKind, a_outValue, a_codeOp, a_codeArg, a_codeKind, a_codePlace, a_methodSign, a_methodStart, a_declared, upd a_cellKind cc (nI k'), vp_updL a_cellValue cc v, a_callReturn, a_pendingLevel, a_pendingPlace, a_pendingMore, a_frameKind, a_frameMore, a_localName))
    (h0 : ls_cnv t (decide (8 ≤ kk)) k v = none → post (f_tickLimit, f_tokenCount, f_outCount, 3, a_codePlace at0, f_lastKind, f_lastValue, f_codeSize, f_methodCount, f_methodTokens, nI cc, nI (ac + 1), f_next, f_ticksLeft, f_state, f_pos, f_expressionStart, f_pendingCount, f_frameTop, f_localCount, a_tokenCode, a_tokenValue, a_outKind, a_outValue, a_codeOp, a_codeArg, a_codeKind, a_codePlace, a_methodSign, a_methodStart, a_declared, a_cellKind, a_cellValue, a_callReturn, a_pendingLevel, a_pendingPlace, a_pendingMore, a_frameKind, a_frameMore, a_localName)) : wpX_returnValue post (f_tickLimit, f_tokenCount, f_outCount, f_error, f_errorPlace, f_lastKind, f_lastValue, f_codeSize, f_methodCount, f_methodTokens, nI (cc + 1), nI (ac + 1), f_next, f_ticksLeft, f_state, f_pos, f_expressionStart, f_pendingCount, f_frameTop, f_localCount, a_tokenCode, a_tokenValue, a_outKind, a_outValue, a_codeOp, a_codeArg, a_codeKind, a_codePlace, a_methodSign, a_methodStart, a_declared, a_cellKind, a_cellValue, a_callReturn, a_pendingLevel, a_pendingPlace, a_pendingMore, a_frameKind, a_frameMore, a_localName) (nI at0) := by
  have ia : vp_in (nI at0) 761 := vp_in_nI ha (by decide)
  have ea : (nI at0).toNatClampNeg = at0 := nI_clamp (by omega)
  have ic : vp_in (nI cc) 376 := vp_in_nI hc.2 (by decide)
  have ec : (nI cc).toNatClampNeg = cc := nI_clamp (by omega)
  unfold wpX_returnValue
  refine hx_pop hc.1 hc.2 ?_
  dsimp only
  refine ⟨ia, ?_⟩
  rw [ea, e1]
  have G : ∀ cz : Int32, (cz = if decide (8 ≤ kk) = true then 1 else 0) → wX_returnValue_22 post (nI at0) (nI cc) cz f_tickLimit f_tokenCount f_outCount f_error f_errorPlace f_lastKind f_lastValue f_codeSize f_methodCount f_methodTokens (nI cc) (nI (ac + 1)) f_next f_ticksLeft f_state f_pos f_expressionStart f_pendingCount f_frameTop f_localCount a_tokenCode a_tokenValue a_outKind a_outValue a_codeOp a_codeArg a_codeKind a_codePlace a_methodSign a_methodStart a_declared a_cellKind a_cellValue a_callReturn a_pendingLevel a_pendingPlace a_pendingMore a_frameKind a_frameMore a_localName := by
    intro cz hcz
    unfold wX_returnValue_22
    refine ⟨ia, ?_⟩
    rw [ea, e1, ls_a7 ⟨kk, hkk⟩, ht]
    refine hx_converted hcz hc.2 ht5 e2 hk e3 hwf (fun k' hk' => ?_) (fun hn => ?_)
    · have k8 : k' < 100 := by
        unfold ls_cnv at hk'
        split at hk'
        · injection hk' with hk'
          subst hk'
          split <;> omega
        · cases hk'
      refine br_f (ls_nm1 (by omega)) ⟨ic, ?_⟩
      rw [ec, e3]
      exact hx_leave hc.2 hac (h1 k' hk')
    · exact br_t rfl ⟨ia, h0 hn⟩
  by_cases k8 : kk < 8
  · exact br_t ((ls_a8 ⟨kk, hkk⟩).mpr k8) (G 0 (by rw [if_neg]; simp; omega))
  · exact br_f (mt (ls_a8 ⟨kk, hkk⟩).mp k8) (G 1 (by rw [if_pos]; simp; omega))
set_option maxHeartbeats 200000 in
theorem hx_putZero {a t : Nat} (ha : at0 < 761) (h24 : a < 24) (hac : ac ≤ 8) (ht : t ≤ 5) (e1 : a_codeArg at0 = nI a) (e2 : a_codeKind at0 = nI t)
    (hp : post (f_tickLimit, f_tokenCount, f_outCount, f_error, f_errorPlace, f_lastKind, f_lastValue, f_codeSize, f_methodCount, f_methodTokens, f_cellCount, nI ac, f_next, f_ticksLeft, f_state, f_pos, f_expressionStart, f_pendingCount, f_frameTop, f_localCount, a_tokenCode, a_tokenValue, a_outKind, a_outValue, a_codeOp, a_codeArg, a_codeKind, a_codePlace, a_methodSign, a_methodStart, upd a_declared (ls_cell a ac) (nI t), upd a_cellKind (ls_cell a ac) (nI (if t = 5 then 3 else t)), vp_updL a_cellValue (ls_cell a ac) 0, a_callReturn, a_pendingLevel, a_pendingPlace, a_pendingMore, a_frameKind, a_frameMore, a_localName)) : wpX_putZero post (f_tickLimit, f_tokenCount, f_outCount, f_error, f_errorPlace, f_lastKind, f_lastValue, f_codeSize, f_methodCount, f_methodTokens, f_cellCount, nI ac, f_next, f_ticksLeft, f_state, f_pos, f_expressionStart, f_pendingCount, f_frameTop, f_localCount, a_tokenCode, a_tokenValue, a_outKind, a_outValue, a_codeOp, a_codeArg, a_codeKind, a_codePlace, a_methodSign, a_methodStart, a_declared, a_cellKind, a_cellValue, a_callReturn, a_pendingLevel, a_pendingPlace, a_pendingMore, a_frameKind, a_frameMore, a_localName) (nI at0) := by
  have ia : vp_in (nI at0) 761 := vp_in_nI ha (by decide)
  have ea : (nI at0).toNatClampNeg = at0 := nI_clamp (by omega)
  have lt := ls_cell_lt h24 hac
  have ei : (nI (ls_cell a ac)).toNatClampNeg = ls_cell a ac := nI_clamp (by omega)
  unfold wpX_putZero
  dsimp only
  refine ⟨ia, ?_⟩
  rw [ea, e1, e2]
  refine hx_cellOf h24 hac ⟨ia, ?_⟩
  by_cases t5 : t = 5
  · rw [if_pos t5] at hp
    exact br_t (by rw [t5]; rfl) ⟨ia, vp_in_nI lt (by decide), nm_r (show _ = upd a_declared (ls_cell a ac) (nI t) by rw [ei]) (hx_put (by omega) hp)⟩
  · rw [if_neg t5] at hp
    exact br_f (mt (ls_k8 (b := 5) (by omega) (by decide)).mp t5) ⟨ia, vp_in_nI lt (by decide), nm_r (show _ = upd a_declared (ls_cell a ac) (nI t) by rw [ei]) (hx_put (by omega) hp)⟩
set_option maxHeartbeats 200000 in
theorem hx_declare {a t kk : Nat} (ha : at0 < 761) (hc : 88 ≤ cc ∧ cc < 376) (h24 : a < 24) (hac : ac ≤ 8) (hkk : kk < 16) (ht : kk % 8 = t) (ht5 : t ≤ 5) (e0 : a_codeArg at0 = nI a) (e1 : a_codeKind at0 = nI kk) (e2 : a_cellKind cc = nI k) (hk : k ≤ 4) (e3 : a_cellValue cc = v) (hwf : ls_wf k v)
    (h1 : ∀ k', ls_cnv t (decide (8 ≤ kk)) k v = some k' → post (f_tickLimit, f_tokenCount, f_outCount, f_error, f_errorPlace, f_lastKind, f_lastValue, f_codeSize, f_methodCount, f_methodTokens, nI cc, nI ac, f_next, f_ticksLeft, f_state, f_pos, f_expressionStart, f_pendingCount, f_frameTop, f_localCount, a_tokenCode, a_tokenValue, a_outKind, a_outValue, a_codeOp, a_codeArg, a_codeKind, a_codePlace, a_methodSign, a_methodStart, upd a_declared (ls_cell a ac) (nI t), upd a_cellKind (ls_cell a ac) (nI k'), vp_updL a_cellValue (ls_cell a ac) v, a_callReturn, a_pendingLevel, a_pendingPlace, a_pendingMore, a_frameKind, a_frameMore, a_localName))
    (h0 : ls_cnv t (decide (8 ≤ kk)) k v = none → post (f_tickLimit, f_tokenCount, f_outCount, 3, a_codePlace at0, f_lastKind, f_lastValue, f_codeSize, f_methodCount, f_methodTokens, nI cc, nI ac, f_next, f_ticksLeft, f_state, f_pos, f_expressionStart, f_pendingCount, f_frameTop, f_localCount, a_tokenCode, a_tokenValue, a_outKind, a_outValue, a_codeOp, a_codeArg, a_codeKind, a_codePlace, a_methodSign, a_methodStart, a_declared, a_cellKind, a_cellValue, a_callReturn, a_pendingLevel, a_pendingPlace, a_pendingMore, a_frameKind, a_frameMore, a_localName)) : wpX_declare post (f_tickLimit, f_tokenCount, f_outCount, f_error, f_errorPlace, f_lastKind, f_lastValue, f_codeSize, f_methodCount, f_methodTokens, nI (cc + 1), nI ac, f_next, f_ticksLeft, f_state, f_pos, f_expressionStart, f_pendingCount, f_frameTop, f_localCount, a_tokenCode, a_tokenValue, a_outKind, a_outValue, a_codeOp, a_codeArg, a_codeKind, a_codePlace, a_methodSign, a_methodStart, a_declared, a_cellKind, a_cellValue, a_callReturn, a_pendingLevel, a_pendingPlace, a_pendingMore, a_frameKind, a_frameMore, a_localName) (nI at0) := by
  have ia : vp_in (nI at0) 761 := vp_in_nI ha (by decide)
  have ea : (nI at0).toNatClampNeg = at0 := nI_clamp (by omega)
  unfold wpX_declare
  dsimp only
  refine ⟨ia, ?_⟩
  rw [ea, e0, e1, ls_a7 ⟨kk, hkk⟩, ht]
  refine hx_cellOf h24 hac ⟨ia, ?_⟩
  exact hx_store ha hc (ls_cell_lt h24 hac) ht5 hkk e1 e2 hk e3 hwf (fun k' h _ => h1 k' h) h0
set_option maxHeartbeats 200000 in
theorem hx_assign {a t kk : Nat} (ha : at0 < 761) (hc : 88 ≤ cc ∧ cc < 376) (h24 : a < 24) (hac : ac ≤ 8) (hkk : kk < 16) (ht5 : t ≤ 5) (e0 : a_codeArg at0 = nI a) (e1 : a_codeKind at0 = nI kk) (e2 : a_cellKind cc = nI k) (hk : k ≤ 4) (e3 : a_cellValue cc = v) (hwf : ls_wf k v)
    (ed : (a_declared (ls_cell a ac) = -1 ∧ t = 5) ∨ a_declared (ls_cell a ac) = nI t)
    (h1 : ∀ k', ls_cnv t (decide (8 ≤ kk)) k v = some k' → post (f_tickLimit, f_tokenCount, f_outCount, f_error, f_errorPlace, f_lastKind, f_lastValue, f_codeSize, f_methodCount, f_methodTokens, nI (cc + 1), nI ac, f_next, f_ticksLeft, f_state, f_pos, f_expressionStart, f_pendingCount, f_frameTop, f_localCount, a_tokenCode, a_tokenValue, a_outKind, a_outValue, a_codeOp, a_codeArg, a_codeKind, a_codePlace, a_methodSign, a_methodStart, upd a_declared (ls_cell a ac) (nI t), upd (upd a_cellKind (ls_cell a ac) (nI k')) cc (nI k'), vp_updL (vp_updL a_cellValue (ls_cell a ac) v) cc v, a_callReturn, a_pendingLevel, a_pendingPlace, a_pendingMore, a_frameKind, a_frameMore, a_localName))
    (h0 : ls_cnv t (decide (8 ≤ kk)) k v = none → post (f_tickLimit, f_tokenCount, f_outCount, 3, a_codePlace at0, f_lastKind, f_lastValue, f_codeSize, f_methodCount, f_methodTokens, nI cc, nI ac, f_next, f_ticksLeft, f_state, f_pos, f_expressionStart, f_pendingCount, f_frameTop, f_localCount, a_tokenCode, a_tokenValue, a_outKind, a_outValue, a_codeOp, a_codeArg, a_codeKind, a_codePlace, a_methodSign, a_methodStart, a_declared, a_cellKind, a_cellValue, a_callReturn, a_pendingLevel, a_pendingPlace, a_pendingMore, a_frameKind, a_frameMore, a_localName)) : wpX_assign post (f_tickLimit, f_tokenCount, f_outCount, f_error, f_errorPlace, f_lastKind, f_lastValue, f_codeSize, f_methodCount, f_methodTokens, nI (cc + 1), nI ac, f_next, f_ticksLeft, f_state, f_pos, f_expressionStart, f_pendingCount, f_frameTop, f_localCount, a_tokenCode, a_tokenValue, a_outKind, a_outValue, a_codeOp, a_codeArg, a_codeKind, a_codePlace, a_methodSign, a_methodStart, a_declared, a_cellKind, a_cellValue, a_callReturn, a_pendingLevel, a_pendingPlace, a_pendingMore, a_frameKind, a_frameMore, a_localName) (nI at0) := by
  have ia : vp_in (nI at0) 761 := vp_in_nI ha (by decide)
  have ea : (nI at0).toNatClampNeg = at0 := nI_clamp (by omega)
  have lt := ls_cell_lt h24 hac
  have ei : (nI (ls_cell a ac)).toNatClampNeg = ls_cell a ac := nI_clamp (by omega)
  have il : vp_in (nI (ls_cell a ac)) 88 := vp_in_nI lt (by decide)
  have il2 : vp_in (nI (ls_cell a ac)) 376 := vp_in_nI (by omega) (by decide)
  unfold wpX_assign
  dsimp only
  refine ⟨ia, ?_⟩
  rw [ea, e0]
  refine hx_cellOf h24 hac ⟨il, ?_⟩
  rw [ei]
  have G : wX_assign_31 post (nI at0) (nI (ls_cell a ac)) (nI t) f_tickLimit f_tokenCount f_outCount f_error f_errorPlace f_lastKind f_lastValue f_codeSize f_methodCount f_methodTokens (nI (cc + 1)) (nI ac) f_next f_ticksLeft f_state f_pos f_expressionStart f_pendingCount f_frameTop f_localCount a_tokenCode a_tokenValue a_outKind a_outValue a_codeOp a_codeArg a_codeKind a_codePlace a_methodSign a_methodStart a_declared a_cellKind a_cellValue a_callReturn a_pendingLevel a_pendingPlace a_pendingMore a_frameKind a_frameMore a_localName := by
    unfold wX_assign_31
    refine hx_store ha hc lt ht5 hkk e1 e2 hk e3 hwf (fun k' h k8 => br_f (by decide) ⟨il2, il2, ?_⟩) (fun h => br_t rfl (h0 h))
    rw [ei, pk_us, pk_uLs]
    exact hx_push hc.2 (h1 k' h)
  rcases ed with ⟨h, h5⟩ | h
  · subst h5
    exact br_t h G
  · rw [h]
    exact br_f (ls_nm1 (by omega)) ⟨il, G⟩
set_option maxHeartbeats 200000 in
theorem hx_update {a t : Nat} (ha : at0 < 761) (hc : 88 ≤ cc ∧ cc < 376) (h24 : a < 24) (hac : ac ≤ 8) (ht5 : t ≤ 5) (e0 : a_codeArg at0 = nI a) (e2 : a_cellKind cc = nI k) (hk : k ≤ 4) (e3 : a_cellValue cc = v)
    (ed : a_declared (ls_cell a ac) = nI t)
    (hp : post (f_tickLimit, f_tokenCount, f_outCount, f_error, f_errorPlace, f_lastKind, f_lastValue, f_codeSize, f_methodCount, f_methodTokens, nI (cc + 1), nI ac, f_next, f_ticksLeft, f_state, f_pos, f_expressionStart, f_pendingCount, f_frameTop, f_localCount, a_tokenCode, a_tokenValue, a_outKind, a_outValue, a_codeOp, a_codeArg, a_codeKind, a_codePlace, a_methodSign, a_methodStart, a_declared, upd (upd a_cellKind (ls_cell a ac) (nI (if t = 5 then k else t))) cc (nI (if t = 5 then k else t)), vp_updL (vp_updL a_cellValue (ls_cell a ac) (ls_nar (if t = 5 then k else t) v)) cc (ls_nar (if t = 5 then k else t) v), a_callReturn, a_pendingLevel, a_pendingPlace, a_pendingMore, a_frameKind, a_frameMore, a_localName)) : wpX_update post (f_tickLimit, f_tokenCount, f_outCount, f_error, f_errorPlace, f_lastKind, f_lastValue, f_codeSize, f_methodCount, f_methodTokens, nI (cc + 1), nI ac, f_next, f_ticksLeft, f_state, f_pos, f_expressionStart, f_pendingCount, f_frameTop, f_localCount, a_tokenCode, a_tokenValue, a_outKind, a_outValue, a_codeOp, a_codeArg, a_codeKind, a_codePlace, a_methodSign, a_methodStart, a_declared, a_cellKind, a_cellValue, a_callReturn, a_pendingLevel, a_pendingPlace, a_pendingMore, a_frameKind, a_frameMore, a_localName) (nI at0) := by
  have ia : vp_in (nI at0) 761 := vp_in_nI ha (by decide)
  have ea : (nI at0).toNatClampNeg = at0 := nI_clamp (by omega)
  have ic : vp_in (nI cc) 376 := vp_in_nI hc.2 (by decide)
  have ec : (nI cc).toNatClampNeg = cc := nI_clamp (by omega)
  have lt := ls_cell_lt h24 hac
  have ei : (nI (ls_cell a ac)).toNatClampNeg = ls_cell a ac := nI_clamp (by omega)
  have il : vp_in (nI (ls_cell a ac)) 88 := vp_in_nI lt (by decide)
  unfold wpX_update
  dsimp only
  refine ⟨ia, ?_⟩
  rw [ea, e0]
  refine hx_cellOf h24 hac ?_
  refine hx_pop hc.1 hc.2 ?_
  dsimp only
  refine ⟨il, ?_⟩
  rw [ei, ed]
  have G : ∀ kd : Nat, kd = (if t = 5 then k else t) → wX_update_41 post (nI (ls_cell a ac)) (nI cc) (nI kd) f_tickLimit f_tokenCount f_outCount f_error f_errorPlace f_lastKind f_lastValue f_codeSize f_methodCount f_methodTokens (nI cc) (nI ac) f_next f_ticksLeft f_state f_pos f_expressionStart f_pendingCount f_frameTop f_localCount a_tokenCode a_tokenValue a_outKind a_outValue a_codeOp a_codeArg a_codeKind a_codePlace a_methodSign a_methodStart a_declared a_cellKind a_cellValue a_callReturn a_pendingLevel a_pendingPlace a_pendingMore a_frameKind a_frameMore a_localName := by
    intro kd hkd
    rw [← hkd] at hp
    refine ⟨ic, ?_⟩
    rw [ec, e3]
    refine hx_narrowed (by rw [hkd]; split <;> omega) (hx_put (by omega) ?_)
    exact hx_push hc.2 hp
  by_cases t5 : t = 5
  · refine br_t (by rw [t5]; rfl) ⟨ic, ?_⟩
    rw [ec, e2]
    exact G k (by rw [if_pos t5])
  · exact br_f (mt (ls_k8 (b := 5) (by omega) (by decide)).mp t5) ⟨il, G t (by rw [if_neg t5])⟩
end
