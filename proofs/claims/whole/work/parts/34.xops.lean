set_option maxHeartbeats 200000 in
theorem ls_t32 {v : Int64} (h : v.toInt32.toInt64 = v) : v.toInt32.toInt = v.toInt := by
  have := congrArg Int64.toInt h
  rwa [Int32.toInt_toInt64] at this
set_option maxHeartbeats 200000 in
theorem ls_nar1 {v : Int64} (h : v.toInt32.toInt64 = v) : ls_nar 1 v = v ↔ -128 ≤ v.toInt ∧ v.toInt ≤ 127 := by
  have e := ls_t32 h
  show v.toInt32.toInt8.toInt32.toInt64 = v ↔ _
  constructor
  · intro g
    have := congrArg Int64.toInt g
    rw [Int32.toInt_toInt64, Int8.toInt_toInt32] at this
    have b1 := Int8.le_toInt v.toInt32.toInt8
    have b2 := Int8.toInt_lt v.toInt32.toInt8
    omega
  · intro ⟨g1, g2⟩
    rw [ls_i8 v.toInt32 (by omega) (by omega)]
    exact h
set_option maxHeartbeats 200000 in
theorem ls_nar2 {v : Int64} (h : v.toInt32.toInt64 = v) : ls_nar 2 v = v ↔ 0 ≤ v.toInt ∧ v.toInt ≤ 65535 := by
  have e := ls_t32 h
  show ((v.toInt32.toUInt32 % 65536).toInt32).toInt64 = v ↔ _
  rw [pk_char]
  constructor
  · intro g
    have := congrArg Int64.toInt g
    rw [Int32.toInt_toInt64, nI_toInt (by omega)] at this
    omega
  · intro ⟨g1, g2⟩
    have hb : v.toInt32.toBitVec.toNat % 65536 = v.toInt32.toBitVec.toNat ∧ v.toInt32 = nI v.toInt32.toBitVec.toNat := by
      obtain ⟨j, hj, ej⟩ := nI_of (x := v.toInt32) (by
        intro hlt
        have := Int32.lt_iff_toInt_lt.mp hlt
        have z : (0 : Int32).toInt = 0 := by decide
        omega)
      have t := nI_toInt hj
      rw [← ej, e] at t
      rw [ej, pk_tn (by omega)]
      exact ⟨by omega, rfl⟩
    rw [hb.1, ← hb.2]
    exact h
section
variable {f_tickLimit f_tokenCount f_outCount f_error f_errorPlace f_lastKind f_codeSize f_methodCount f_methodTokens f_cellCount f_activeCalls f_next f_ticksLeft f_state f_pos f_expressionStart f_pendingCount f_frameTop f_localCount : Int32}
variable {f_lastValue : Int64}
variable {a_tokenCode a_tokenValue a_outKind a_codeOp a_codeArg a_codeKind a_codePlace a_methodSign a_methodStart a_declared a_cellKind a_callReturn a_pendingLevel a_pendingPlace a_pendingMore a_frameKind a_frameMore a_localName : Nat → Int32}
variable {a_outValue a_cellValue : Nat → Int64}
variable {post : SX → Prop} {at0 cc w k : Nat} {v : Int64}
set_option maxHeartbeats 200000 in
/-- an operation's end: a value on top, or a fault of kind or division -/
theorem hx_unary (ha : at0 < 761) (hc : 88 ≤ cc ∧ cc < 376) (hw : w = 22 ∨ w = 23 ∨ w = 24 ∨ w = 25) (e1 : a_codeArg at0 = nI w) (e2 : a_cellKind cc = nI k) (hk : k < 100) (e3 : a_cellValue cc = v)
    (h1 : ∀ k' v', ls_un w k v = some (k', v') → post (f_tickLimit, f_tokenCount, f_outCount, f_error, f_errorPlace, f_lastKind, f_lastValue, f_codeSize, f_methodCount, f_methodTokens, nI (cc + 1), f_activeCalls, f_next, f_ticksLeft, f_state, f_pos, f_expressionStart, f_pendingCount, f_frameTop, f_localCount, a_tokenCode, a_tokenValue, a_outKind, a_outValue, a_codeOp, a_codeArg, a_codeKind, a_codePlace, a_methodSign, a_methodStart, a_declared, upd a_cellKind cc (nI k'), vp_updL a_cellValue cc v', a_callReturn, a_pendingLevel, a_pendingPlace, a_pendingMore, a_frameKind, a_frameMore, a_localName))
    (h0 : ls_un w k v = none → post (f_tickLimit, f_tokenCount, f_outCount, 3, a_codePlace at0, f_lastKind, f_lastValue, f_codeSize, f_methodCount, f_methodTokens, nI cc, f_activeCalls, f_next, f_ticksLeft, f_state, f_pos, f_expressionStart, f_pendingCount, f_frameTop, f_localCount, a_tokenCode, a_tokenValue, a_outKind, a_outValue, a_codeOp, a_codeArg, a_codeKind, a_codePlace, a_methodSign, a_methodStart, a_declared, a_cellKind, a_cellValue, a_callReturn, a_pendingLevel, a_pendingPlace, a_pendingMore, a_frameKind, a_frameMore, a_localName)) : wpX_applyUnary post (f_tickLimit, f_tokenCount, f_outCount, f_error, f_errorPlace, f_lastKind, f_lastValue, f_codeSize, f_methodCount, f_methodTokens, nI (cc + 1), f_activeCalls, f_next, f_ticksLeft, f_state, f_pos, f_expressionStart, f_pendingCount, f_frameTop, f_localCount, a_tokenCode, a_tokenValue, a_outKind, a_outValue, a_codeOp, a_codeArg, a_codeKind, a_codePlace, a_methodSign, a_methodStart, a_declared, a_cellKind, a_cellValue, a_callReturn, a_pendingLevel, a_pendingPlace, a_pendingMore, a_frameKind, a_frameMore, a_localName) (nI at0) := by
  have N : ∀ a v, a < 100 → v < 100 → a ≠ v → ¬ nI a = nI v := fun a v ha hv h => mt (ls_k8 ha hv).mp h
  have E : ∀ a v, a = v → nI a = nI v := fun a v h => by rw [h]
  have ia : vp_in (nI at0) 761 := vp_in_nI ha (by decide)
  have ea : (nI at0).toNatClampNeg = at0 := nI_clamp (by omega)
  have ic : vp_in (nI cc) 376 := vp_in_nI hc.2 (by decide)
  have ec : (nI cc).toNatClampNeg = cc := nI_clamp (by omega)
  unfold wpX_applyUnary
  dsimp only
  refine ⟨ia, ?_⟩
  rw [ea, e1]
  refine nm_e (hx_pop hc.1 hc.2 ?_)
  dsimp only
  refine ⟨ic, ?_⟩
  rw [ec, e2]
  refine nm_e ⟨ic, ?_⟩
  rw [e3]
  refine nm_e ?_
  have F : ls_un w k v = none → wpX_fail (fun u => match u with | (f_tickLimit, f_tokenCount, f_outCount, f_error, f_errorPlace, f_lastKind, f_lastValue, f_codeSize, f_methodCount, f_methodTokens, f_cellCount, f_activeCalls, f_next, f_ticksLeft, f_state, f_pos, f_expressionStart, f_pendingCount, f_frameTop, f_localCount, a_tokenCode, a_tokenValue, a_outKind, a_outValue, a_codeOp, a_codeArg, a_codeKind, a_codePlace, a_methodSign, a_methodStart, a_declared, a_cellKind, a_cellValue, a_callReturn, a_pendingLevel, a_pendingPlace, a_pendingMore, a_frameKind, a_frameMore, a_localName) => post (f_tickLimit, f_tokenCount, f_outCount, f_error, f_errorPlace, f_lastKind, f_lastValue, f_codeSize, f_methodCount, f_methodTokens, f_cellCount, f_activeCalls, f_next, f_ticksLeft, f_state, f_pos, f_expressionStart, f_pendingCount, f_frameTop, f_localCount, a_tokenCode, a_tokenValue, a_outKind, a_outValue, a_codeOp, a_codeArg, a_codeKind, a_codePlace, a_methodSign, a_methodStart, a_declared, a_cellKind, a_cellValue, a_callReturn, a_pendingLevel, a_pendingPlace, a_pendingMore, a_frameKind, a_frameMore, a_localName)) (f_tickLimit, f_tokenCount, f_outCount, f_error, f_errorPlace, f_lastKind, f_lastValue, f_codeSize, f_methodCount, f_methodTokens, nI cc, f_activeCalls, f_next, f_ticksLeft, f_state, f_pos, f_expressionStart, f_pendingCount, f_frameTop, f_localCount, a_tokenCode, a_tokenValue, a_outKind, a_outValue, a_codeOp, a_codeArg, a_codeKind, a_codePlace, a_methodSign, a_methodStart, a_declared, a_cellKind, a_cellValue, a_callReturn, a_pendingLevel, a_pendingPlace, a_pendingMore, a_frameKind, a_frameMore, a_localName) 3 (a_codePlace at0) := h0
  unfold ls_un at h1 h0 F
  have G126 : ∀ k' : Nat, k' < 100 → ∀ z : Int64, post (f_tickLimit, f_tokenCount, f_outCount, f_error, f_errorPlace, f_lastKind, f_lastValue, f_codeSize, f_methodCount, f_methodTokens, nI (cc + 1), f_activeCalls, f_next, f_ticksLeft, f_state, f_pos, f_expressionStart, f_pendingCount, f_frameTop, f_localCount, a_tokenCode, a_tokenValue, a_outKind, a_outValue, a_codeOp, a_codeArg, a_codeKind, a_codePlace, a_methodSign, a_methodStart, a_declared, upd a_cellKind cc (nI k'), vp_updL a_cellValue cc (ls_nar k' z), a_callReturn, a_pendingLevel, a_pendingPlace, a_pendingMore, a_frameKind, a_frameMore, a_localName) → wX_applyUnary_126 post (nI k') z f_tickLimit f_tokenCount f_outCount f_error f_errorPlace f_lastKind f_lastValue f_codeSize f_methodCount f_methodTokens (nI cc) f_activeCalls f_next f_ticksLeft f_state f_pos f_expressionStart f_pendingCount f_frameTop f_localCount a_tokenCode a_tokenValue a_outKind a_outValue a_codeOp a_codeArg a_codeKind a_codePlace a_methodSign a_methodStart a_declared a_cellKind a_cellValue a_callReturn a_pendingLevel a_pendingPlace a_pendingMore a_frameKind a_frameMore a_localName := fun k' hk' z hp =>
    hx_narrowed hk' (hx_push hc.2 hp)
  have G49 : ∀ z0 z1 : Nat, z0 = (if w = 22 then 1 else 0) → z1 = (if k = 0 then 1 else 0) → wX_applyUnary_49 post (nI at0) (nI w) (nI k) v (nI z0) (nI z1) f_tickLimit f_tokenCount f_outCount f_error f_errorPlace f_lastKind f_lastValue f_codeSize f_methodCount f_methodTokens (nI cc) f_activeCalls f_next f_ticksLeft f_state f_pos f_expressionStart f_pendingCount f_frameTop f_localCount a_tokenCode a_tokenValue a_outKind a_outValue a_codeOp a_codeArg a_codeKind a_codePlace a_methodSign a_methodStart a_declared a_cellKind a_cellValue a_callReturn a_pendingLevel a_pendingPlace a_pendingMore a_frameKind a_frameMore a_localName := by
    intro z0 z1 ez0 ez1
    by_cases w22 : w = 22
    · rw [if_pos w22] at ez0 h1 h0 F
      subst ez0
      by_cases k0 : k = 0
      · rw [if_pos k0] at ez1 h1
        subst ez1
        exact br_t rfl (br_t (E w 22 w22) (hx_push hc.2 (h1 _ _ rfl)))
      · rw [if_neg k0] at ez1 F
        subst ez1
        refine br_f (by decide) ⟨ia, ?_⟩
        rw [ea]
        exact F rfl
    · rw [if_neg w22] at ez0 h1 h0 F
      subst ez0
      by_cases k0 : k = 0
      · rw [if_pos k0] at ez1 F
        subst ez1
        refine br_f (by decide) ⟨ia, ?_⟩
        rw [ea]
        exact F rfl
      · rw [if_neg k0] at ez1 h1
        subst ez1
        refine br_t rfl (br_f (N w 22 (by omega) (by decide) w22) ?_)
        have h1' := h1 _ _ rfl
        have G95 : ∀ k' : Nat, k' = (if k = 4 then 4 else 3) → wX_applyUnary_95 post (nI w) v (nI k') f_tickLimit f_tokenCount f_outCount f_error f_errorPlace f_lastKind f_lastValue f_codeSize f_methodCount f_methodTokens (nI cc) f_activeCalls f_next f_ticksLeft f_state f_pos f_expressionStart f_pendingCount f_frameTop f_localCount a_tokenCode a_tokenValue a_outKind a_outValue a_codeOp a_codeArg a_codeKind a_codePlace a_methodSign a_methodStart a_declared a_cellKind a_cellValue a_callReturn a_pendingLevel a_pendingPlace a_pendingMore a_frameKind a_frameMore a_localName := by
          intro k' ek
          rw [← ek] at h1'
          have k'8 : k' < 100 := by rw [ek]; split <;> decide
          by_cases w25 : w = 25
          · rw [if_pos w25] at h1'
            exact br_t (E w 25 w25) (G126 k' k'8 _ h1')
          rw [if_neg w25] at h1'
          refine br_f (N w 25 (by omega) (by decide) w25) ?_
          by_cases w23 : w = 23
          · rw [if_pos w23] at h1'
            exact br_t (E w 23 w23) (G126 k' k'8 _ h1')
          · rw [if_neg w23] at h1'
            exact br_f (N w 23 (by omega) (by decide) w23) (G126 k' k'8 _ h1')
        by_cases k4 : k = 4
        · exact br_t (E k 4 k4) (G95 4 (by rw [if_pos k4]))
        · exact br_f (N k 4 hk (by decide) k4) (G95 3 (by rw [if_neg k4]))
  have G38 : ∀ z1 : Nat, z1 = (if k = 0 then 1 else 0) → wX_applyUnary_38 post (nI at0) (nI w) (nI k) v (nI z1) f_tickLimit f_tokenCount f_outCount f_error f_errorPlace f_lastKind f_lastValue f_codeSize f_methodCount f_methodTokens (nI cc) f_activeCalls f_next f_ticksLeft f_state f_pos f_expressionStart f_pendingCount f_frameTop f_localCount a_tokenCode a_tokenValue a_outKind a_outValue a_codeOp a_codeArg a_codeKind a_codePlace a_methodSign a_methodStart a_declared a_cellKind a_cellValue a_callReturn a_pendingLevel a_pendingPlace a_pendingMore a_frameKind a_frameMore a_localName := by
    intro z1 ez1
    by_cases w22 : w = 22
    · exact br_t (E w 22 w22) (G49 1 z1 (by rw [if_pos w22]) ez1)
    · exact br_f (N w 22 (by omega) (by decide) w22) (G49 0 z1 (by rw [if_neg w22]) ez1)
  by_cases k0 : k = 0
  · exact br_t (E k 0 k0) (G38 1 (by rw [if_pos k0]))
  · exact br_f (N k 0 hk (by decide) k0) (G38 0 (by rw [if_neg k0]))
set_option maxHeartbeats 200000 in
theorem hx_cast {t : Nat} (ha : at0 < 761) (hc : 88 ≤ cc ∧ cc < 376) (ht : t < 100) (e1 : a_codeKind at0 = nI t) (e2 : a_cellKind cc = nI k) (hk : k < 100) (e3 : a_cellValue cc = v)
    (h1 : ∀ k' v', ls_cst t k v = some (k', v') → post (f_tickLimit, f_tokenCount, f_outCount, f_error, f_errorPlace, f_lastKind, f_lastValue, f_codeSize, f_methodCount, f_methodTokens, nI (cc + 1), f_activeCalls, f_next, f_ticksLeft, f_state, f_pos, f_expressionStart, f_pendingCount, f_frameTop, f_localCount, a_tokenCode, a_tokenValue, a_outKind, a_outValue, a_codeOp, a_codeArg, a_codeKind, a_codePlace, a_methodSign, a_methodStart, a_declared, upd a_cellKind cc (nI k'), vp_updL a_cellValue cc v', a_callReturn, a_pendingLevel, a_pendingPlace, a_pendingMore, a_frameKind, a_frameMore, a_localName))
    (h0 : ls_cst t k v = none → post (f_tickLimit, f_tokenCount, f_outCount, 3, a_codePlace at0, f_lastKind, f_lastValue, f_codeSize, f_methodCount, f_methodTokens, nI cc, f_activeCalls, f_next, f_ticksLeft, f_state, f_pos, f_expressionStart, f_pendingCount, f_frameTop, f_localCount, a_tokenCode, a_tokenValue, a_outKind, a_outValue, a_codeOp, a_codeArg, a_codeKind, a_codePlace, a_methodSign, a_methodStart, a_declared, a_cellKind, a_cellValue, a_callReturn, a_pendingLevel, a_pendingPlace, a_pendingMore, a_frameKind, a_frameMore, a_localName)) : wpX_applyCast post (f_tickLimit, f_tokenCount, f_outCount, f_error, f_errorPlace, f_lastKind, f_lastValue, f_codeSize, f_methodCount, f_methodTokens, nI (cc + 1), f_activeCalls, f_next, f_ticksLeft, f_state, f_pos, f_expressionStart, f_pendingCount, f_frameTop, f_localCount, a_tokenCode, a_tokenValue, a_outKind, a_outValue, a_codeOp, a_codeArg, a_codeKind, a_codePlace, a_methodSign, a_methodStart, a_declared, a_cellKind, a_cellValue, a_callReturn, a_pendingLevel, a_pendingPlace, a_pendingMore, a_frameKind, a_frameMore, a_localName) (nI at0) := by
  have N : ∀ a v, a < 100 → v < 100 → a ≠ v → ¬ nI a = nI v := fun a v ha hv h => mt (ls_k8 ha hv).mp h
  have E : ∀ a v, a = v → nI a = nI v := fun a v h => by rw [h]
  have ia : vp_in (nI at0) 761 := vp_in_nI ha (by decide)
  have ea : (nI at0).toNatClampNeg = at0 := nI_clamp (by omega)
  have ic : vp_in (nI cc) 376 := vp_in_nI hc.2 (by decide)
  have ec : (nI cc).toNatClampNeg = cc := nI_clamp (by omega)
  unfold wpX_applyCast
  dsimp only
  refine ⟨ia, ?_⟩
  rw [ea, e1]
  refine nm_e (hx_pop hc.1 hc.2 ?_)
  dsimp only
  refine ⟨ic, ?_⟩
  rw [ec, e2]
  unfold ls_cst at h1 h0
  have G35 : ∀ z0 z1 : Nat, z0 = (if t = 0 then 1 else 0) → z1 = (if k = 0 then 1 else 0) → wX_applyCast_35 post (nI at0) (nI t) (nI cc) (nI z0) (nI z1) f_tickLimit f_tokenCount f_outCount f_error f_errorPlace f_lastKind f_lastValue f_codeSize f_methodCount f_methodTokens (nI cc) f_activeCalls f_next f_ticksLeft f_state f_pos f_expressionStart f_pendingCount f_frameTop f_localCount a_tokenCode a_tokenValue a_outKind a_outValue a_codeOp a_codeArg a_codeKind a_codePlace a_methodSign a_methodStart a_declared a_cellKind a_cellValue a_callReturn a_pendingLevel a_pendingPlace a_pendingMore a_frameKind a_frameMore a_localName := by
    intro z0 z1 ez0 ez1
    by_cases c : (k = 0 ↔ t = 0)
    · rw [if_pos c] at h1
      have ez : nI z1 = nI z0 := by
        rw [ez0, ez1]
        by_cases k0 : k = 0
        · rw [if_pos k0, if_pos (c.mp k0)]
        · rw [if_neg k0, if_neg (fun h => k0 (c.mpr h))]
      refine br_t ez ⟨ic, ?_⟩
      rw [ec, e3]
      exact hx_narrowed ht (hx_push hc.2 (h1 _ _ rfl))
    · rw [if_neg c] at h0
      refine br_f ?_ ⟨ia, ?_⟩
      · rw [ez0, ez1]
        by_cases k0 : k = 0
        · rw [if_pos k0, if_neg (fun h => c ⟨fun _ => h, fun _ => k0⟩)]; decide
        · by_cases t0 : t = 0
          · rw [if_neg k0, if_pos t0]; decide
          · exact absurd (show (k = 0 ↔ t = 0) from ⟨fun h => absurd h k0, fun h => absurd h t0⟩) c
      · rw [ea]
        exact h0 rfl
  have G26 : ∀ z1 : Nat, z1 = (if k = 0 then 1 else 0) → wX_applyCast_26 post (nI at0) (nI t) (nI cc) (nI z1) f_tickLimit f_tokenCount f_outCount f_error f_errorPlace f_lastKind f_lastValue f_codeSize f_methodCount f_methodTokens (nI cc) f_activeCalls f_next f_ticksLeft f_state f_pos f_expressionStart f_pendingCount f_frameTop f_localCount a_tokenCode a_tokenValue a_outKind a_outValue a_codeOp a_codeArg a_codeKind a_codePlace a_methodSign a_methodStart a_declared a_cellKind a_cellValue a_callReturn a_pendingLevel a_pendingPlace a_pendingMore a_frameKind a_frameMore a_localName := by
    intro z1 ez1
    by_cases t0 : t = 0
    · exact br_t (E t 0 t0) (G35 1 z1 (by rw [if_pos t0]) ez1)
    · exact br_f (N t 0 ht (by decide) t0) (G35 0 z1 (by rw [if_neg t0]) ez1)
  by_cases k0 : k = 0
  · exact br_t (E k 0 k0) (G26 1 (by rw [if_pos k0]))
  · exact br_f (N k 0 hk (by decide) k0) (G26 0 (by rw [if_neg k0]))
set_option maxHeartbeats 200000 in
theorem hx_binary {a b : Nat} {x y : Int64} (ha : at0 < 761) (hc : 88 ≤ cc ∧ cc + 1 < 376) (hw : 24 ≤ w ∧ w ≤ 40) (e1 : a_codeArg at0 = nI w) (e2 : a_cellKind cc = nI a) (e3 : a_cellKind (cc + 1) = nI b) (hka : a < 100) (hkb : b < 100) (e4 : a_cellValue cc = x) (e5 : a_cellValue (cc + 1) = y)
    (h1 : ∀ k' v', ls_bin w a b x y = .ok (k', v') → post (f_tickLimit, f_tokenCount, f_outCount, f_error, f_errorPlace, f_lastKind, f_lastValue, f_codeSize, f_methodCount, f_methodTokens, nI (cc + 1), f_activeCalls, f_next, f_ticksLeft, f_state, f_pos, f_expressionStart, f_pendingCount, f_frameTop, f_localCount, a_tokenCode, a_tokenValue, a_outKind, a_outValue, a_codeOp, a_codeArg, a_codeKind, a_codePlace, a_methodSign, a_methodStart, a_declared, upd a_cellKind cc (nI k'), vp_updL a_cellValue cc v', a_callReturn, a_pendingLevel, a_pendingPlace, a_pendingMore, a_frameKind, a_frameMore, a_localName))
    (h0 : ∀ e : Nat, ls_bin w a b x y = .error e → post (f_tickLimit, f_tokenCount, f_outCount, nI e, a_codePlace at0, f_lastKind, f_lastValue, f_codeSize, f_methodCount, f_methodTokens, nI cc, f_activeCalls, f_next, f_ticksLeft, f_state, f_pos, f_expressionStart, f_pendingCount, f_frameTop, f_localCount, a_tokenCode, a_tokenValue, a_outKind, a_outValue, a_codeOp, a_codeArg, a_codeKind, a_codePlace, a_methodSign, a_methodStart, a_declared, a_cellKind, a_cellValue, a_callReturn, a_pendingLevel, a_pendingPlace, a_pendingMore, a_frameKind, a_frameMore, a_localName)) : wpX_applyBinary post (f_tickLimit, f_tokenCount, f_outCount, f_error, f_errorPlace, f_lastKind, f_lastValue, f_codeSize, f_methodCount, f_methodTokens, nI (cc + 2), f_activeCalls, f_next, f_ticksLeft, f_state, f_pos, f_expressionStart, f_pendingCount, f_frameTop, f_localCount, a_tokenCode, a_tokenValue, a_outKind, a_outValue, a_codeOp, a_codeArg, a_codeKind, a_codePlace, a_methodSign, a_methodStart, a_declared, a_cellKind, a_cellValue, a_callReturn, a_pendingLevel, a_pendingPlace, a_pendingMore, a_frameKind, a_frameMore, a_localName) (nI at0) := by
  have N : ∀ a v, a < 100 → v < 100 → a ≠ v → ¬ nI a = nI v := fun a v ha hv h => mt (ls_k8 ha hv).mp h
  have E : ∀ a v, a = v → nI a = nI v := fun a v h => by rw [h]
  have ia : vp_in (nI at0) 761 := vp_in_nI ha (by decide)
  have ea : (nI at0).toNatClampNeg = at0 := nI_clamp (by omega)
  have ic : vp_in (nI cc) 376 := vp_in_nI (by omega) (by decide)
  have ec : (nI cc).toNatClampNeg = cc := nI_clamp (by omega)
  have ic1 : vp_in (nI (cc + 1)) 376 := vp_in_nI hc.2 (by decide)
  have ec1 : (nI (cc + 1)).toNatClampNeg = cc + 1 := nI_clamp (by omega)
  unfold wpX_applyBinary
  dsimp only
  refine ⟨ia, ?_⟩
  rw [ea, e1]
  refine nm_e (hx_pop (cc := cc + 1) (by omega) hc.2 ?_)
  dsimp only
  refine hx_pop hc.1 (by omega) ?_
  dsimp only
  refine ⟨ic, ic1, ?_⟩
  rw [ec, ec1, e2, e3]
  unfold ls_bin at h1 h0
  have bk3 : ∀ kd, ls_bk w a b = some kd → kd < 100 ∧ (35 ≤ w → kd = 0) := by
    intro kd h
    unfold ls_bk at h
    split at h
    · injection h with h
      subst h
      refine ⟨by (repeat' split) <;> decide, fun c => by rw [if_pos c]⟩
    · split at h
      · injection h with h
        subst h
        exact ⟨by decide, fun _ => rfl⟩
      · cases h
  have G106 : ∀ kd, ls_bk w a b = some kd → ¬ ((w = 27 ∨ w = 28) ∧ y = 0) → wX_applyBinary_106 post (nI w) (nI (cc + 1)) (nI cc) (nI kd) f_tickLimit f_tokenCount f_outCount f_error f_errorPlace f_lastKind f_lastValue f_codeSize f_methodCount f_methodTokens (nI cc) f_activeCalls f_next f_ticksLeft f_state f_pos f_expressionStart f_pendingCount f_frameTop f_localCount a_tokenCode a_tokenValue a_outKind a_outValue a_codeOp a_codeArg a_codeKind a_codePlace a_methodSign a_methodStart a_declared a_cellKind a_cellValue a_callReturn a_pendingLevel a_pendingPlace a_pendingMore a_frameKind a_frameMore a_localName := by
    intro kd hb hz
    rw [hb] at h1
    dsimp only at h1
    rw [if_neg hz] at h1
    refine ⟨ic, ic1, ?_⟩
    rw [ec, ec1, e4, e5]
    exact hx_computed hw (bk3 kd hb).1 (bk3 kd hb).2 (fun h hy => hz ⟨h, hy⟩) (hx_push (by omega) (h1 _ _ rfl))
  have G54 : ∀ (r : Int32), (∀ kd, ls_bk w a b = some kd → r = nI kd) → (ls_bk w a b = none → r = -1) → ∀ z0 : Nat, z0 = (if w = 27 ∨ w = 28 then 1 else 0) → wX_applyBinary_54 post (nI at0) (nI w) (nI (cc + 1)) (nI cc) r (nI z0) f_tickLimit f_tokenCount f_outCount f_error f_errorPlace f_lastKind f_lastValue f_codeSize f_methodCount f_methodTokens (nI cc) f_activeCalls f_next f_ticksLeft f_state f_pos f_expressionStart f_pendingCount f_frameTop f_localCount a_tokenCode a_tokenValue a_outKind a_outValue a_codeOp a_codeArg a_codeKind a_codePlace a_methodSign a_methodStart a_declared a_cellKind a_cellValue a_callReturn a_pendingLevel a_pendingPlace a_pendingMore a_frameKind a_frameMore a_localName := by
    intro r hr1 hr0 z0 ez
    cases hb : ls_bk w a b with
    | none =>
      rw [hr0 hb]
      rw [hb] at h0
      refine br_t rfl ⟨ia, ?_⟩
      rw [ea]
      exact h0 3 rfl
    | some kd =>
      rw [hr1 kd hb]
      refine br_f (ls_nm1 (by have := (bk3 kd hb).1; omega)) ?_
      by_cases d : w = 27 ∨ w = 28
      · rw [if_pos d] at ez
        subst ez
        refine br_f (by decide) ⟨ic1, ?_⟩
        rw [ec1, e5]
        by_cases y0 : y = 0
        · rw [hb] at h0
          dsimp only at h0
          rw [if_pos ⟨d, y0⟩] at h0
          refine br_t y0 ⟨ia, ?_⟩
          rw [ea]
          exact h0 4 rfl
        · exact br_f y0 (G106 kd hb (fun h => y0 h.2))
      · rw [if_neg d] at ez
        subst ez
        exact br_t rfl (G106 kd hb (fun h => d h.1))
  have GG : ∀ (r : Int32), (∀ kd, ls_bk w a b = some kd → r = nI kd) → (ls_bk w a b = none → r = -1) → ((nI w = 27 → wX_applyBinary_49 post (nI at0) (nI w) (nI (cc + 1)) (nI cc) r f_tickLimit f_tokenCount f_outCount f_error f_errorPlace f_lastKind f_lastValue f_codeSize f_methodCount f_methodTokens (nI cc) f_activeCalls f_next f_ticksLeft f_state f_pos f_expressionStart f_pendingCount f_frameTop f_localCount a_tokenCode a_tokenValue a_outKind a_outValue a_codeOp a_codeArg a_codeKind a_codePlace a_methodSign a_methodStart a_declared a_cellKind a_cellValue a_callReturn a_pendingLevel a_pendingPlace a_pendingMore a_frameKind a_frameMore a_localName) ∧ (¬ nI w = 27 → ((nI w = 28 → wX_applyBinary_49 post (nI at0) (nI w) (nI (cc + 1)) (nI cc) r f_tickLimit f_tokenCount f_outCount f_error f_errorPlace f_lastKind f_lastValue f_codeSize f_methodCount f_methodTokens (nI cc) f_activeCalls f_next f_ticksLeft f_state f_pos f_expressionStart f_pendingCount f_frameTop f_localCount a_tokenCode a_tokenValue a_outKind a_outValue a_codeOp a_codeArg a_codeKind a_codePlace a_methodSign a_methodStart a_declared a_cellKind a_cellValue a_callReturn a_pendingLevel a_pendingPlace a_pendingMore a_frameKind a_frameMore a_localName) ∧ (¬ nI w = 28 → wX_applyBinary_54 post (nI at0) (nI w) (nI (cc + 1)) (nI cc) r 0 f_tickLimit f_tokenCount f_outCount f_error f_errorPlace f_lastKind f_lastValue f_codeSize f_methodCount f_methodTokens (nI cc) f_activeCalls f_next f_ticksLeft f_state f_pos f_expressionStart f_pendingCount f_frameTop f_localCount a_tokenCode a_tokenValue a_outKind a_outValue a_codeOp a_codeArg a_codeKind a_codePlace a_methodSign a_methodStart a_declared a_cellKind a_cellValue a_callReturn a_pendingLevel a_pendingPlace a_pendingMore a_frameKind a_frameMore a_localName)))) := by
    intro r hr1 hr0
    by_cases w27 : w = 27
    · exact br_t (E w 27 w27) (G54 r hr1 hr0 1 (by rw [if_pos (Or.inl w27)]))
    refine br_f (N w 27 (by omega) (by decide) w27) ?_
    by_cases w28 : w = 28
    · exact br_t (E w 28 w28) (G54 r hr1 hr0 1 (by rw [if_pos (Or.inr w28)]))
    · exact br_f (N w 28 (by omega) (by decide) w28) (G54 r hr1 hr0 0 (by rw [if_neg (fun h => h.elim w27 w28)]))
  refine hx_binaryKind hw hka hkb (fun kd hb => GG _ (fun kd' hb' => ?_) (fun hb' => ?_)) (fun hb => GG _ (fun kd' hb' => ?_) (fun _ => rfl))
  · rw [hb] at hb'
    injection hb' with hb'
    rw [hb']
  · rw [hb] at hb'; cases hb'
  · rw [hb] at hb'; cases hb'
set_option maxHeartbeats 200000 in
/-- the conversion to a declared kind -/
theorem hx_converted {q : Int32 → Prop} {t : Nat} {cst : Bool} {cz : Int32} (hcz : cz = if cst then 1 else 0) (hc : cc < 376) (ht : t ≤ 5) (e2 : a_cellKind cc = nI k) (hk : k ≤ 4) (e3 : a_cellValue cc = v) (hwf : ls_wf k v)
    (h1 : ∀ k', ls_cnv t cst k v = some k' → q (nI k')) (h0 : ls_cnv t cst k v = none → q (-1)) : wpX_convertedKind q (f_tickLimit, f_tokenCount, f_outCount, f_error, f_errorPlace, f_lastKind, f_lastValue, f_codeSize, f_methodCount, f_methodTokens, f_cellCount, f_activeCalls, f_next, f_ticksLeft, f_state, f_pos, f_expressionStart, f_pendingCount, f_frameTop, f_localCount, a_tokenCode, a_tokenValue, a_outKind, a_outValue, a_codeOp, a_codeArg, a_codeKind, a_codePlace, a_methodSign, a_methodStart, a_declared, a_cellKind, a_cellValue, a_callReturn, a_pendingLevel, a_pendingPlace, a_pendingMore, a_frameKind, a_frameMore, a_localName) (nI t) cz (nI cc) := by
  have N : ∀ a v, a < 100 → v < 100 → a ≠ v → ¬ nI a = nI v := fun a v ha hv h => mt (ls_k8 ha hv).mp h
  have E : ∀ a v, a = v → nI a = nI v := fun a v h => by rw [h]
  have ic : vp_in (nI cc) 376 := vp_in_nI hc (by decide)
  have ec : (nI cc).toNatClampNeg = cc := nI_clamp (by omega)
  unfold wpX_convertedKind
  dsimp only
  refine ⟨ic, ?_⟩
  rw [ec, e2]
  refine nm_e ⟨ic, ?_⟩
  rw [e3]
  refine nm_e ?_
  unfold ls_cnv at h1 h0
  -- the end: x7 tells whether a constant narrows
  have G127 : ∀ x7 z0 : Nat, z0 = (if t = 5 then k else t) → (x7 = 1 → (cst = true ∧ (k = 1 ∨ k = 2 ∨ k = 3) ∧ (t = 1 ∨ t = 2) ∧ ls_nar t v = v)) → (x7 = 0 → ¬ (cst = true ∧ (k = 1 ∨ k = 2 ∨ k = 3) ∧ (t = 1 ∨ t = 2) ∧ ls_nar t v = v)) → x7 ≤ 1 → wX_convertedKind_127 q (nI t) (nI k) (nI x7) (nI z0) f_tickLimit f_tokenCount f_outCount f_error f_errorPlace f_lastKind f_lastValue f_codeSize f_methodCount f_methodTokens f_cellCount f_activeCalls f_next f_ticksLeft f_state f_pos f_expressionStart f_pendingCount f_frameTop f_localCount a_tokenCode a_tokenValue a_outKind a_outValue a_codeOp a_codeArg a_codeKind a_codePlace a_methodSign a_methodStart a_declared a_cellKind a_cellValue a_callReturn a_pendingLevel a_pendingPlace a_pendingMore a_frameKind a_frameMore a_localName := by
    intro x7 z0 ez h7 h7' le
    by_cases q7 : x7 = 0
    · subst q7
      refine br_t rfl (hx_fits (by omega) (by omega) (fun hf => br_f (by decide) ?_) (fun hf => br_t rfl ?_))
      · rw [if_pos (Or.inl hf)] at h1
        rw [ez]; exact h1 _ rfl
      · rw [if_neg (fun h => h.elim (fun g => by rw [hf] at g; cases g) (h7' rfl))] at h0
        exact h0 rfl
    · have q7 : x7 = 1 := by omega
      subst q7
      rw [if_pos (Or.inr (h7 rfl))] at h1
      refine br_f (by decide) ?_
      rw [ez]; exact h1 _ rfl
  have G116 : ∀ x7 : Nat, (x7 = 1 → (cst = true ∧ (k = 1 ∨ k = 2 ∨ k = 3) ∧ (t = 1 ∨ t = 2) ∧ ls_nar t v = v)) → (x7 = 0 → ¬ (cst = true ∧ (k = 1 ∨ k = 2 ∨ k = 3) ∧ (t = 1 ∨ t = 2) ∧ ls_nar t v = v)) → x7 ≤ 1 → wX_convertedKind_116 q (nI t) (nI k) (nI x7) f_tickLimit f_tokenCount f_outCount f_error f_errorPlace f_lastKind f_lastValue f_codeSize f_methodCount f_methodTokens f_cellCount f_activeCalls f_next f_ticksLeft f_state f_pos f_expressionStart f_pendingCount f_frameTop f_localCount a_tokenCode a_tokenValue a_outKind a_outValue a_codeOp a_codeArg a_codeKind a_codePlace a_methodSign a_methodStart a_declared a_cellKind a_cellValue a_callReturn a_pendingLevel a_pendingPlace a_pendingMore a_frameKind a_frameMore a_localName := by
    intro x7 h7 h7' le
    by_cases t5 : t = 5
    · exact br_t (E t 5 t5) (G127 x7 k (by rw [if_pos t5]) h7 h7' le)
    · exact br_f (N t 5 (by omega) (by decide) t5) (G127 x7 t (by rw [if_neg t5]) h7 h7' le)
  cases cst with
  | false =>
    rw [hcz]
    exact br_t rfl (G116 0 (fun h => by omega) (fun _ h => by cases h.1) (by decide))
  | true =>
    rw [hcz]
    refine br_f (by decide) ?_
    by_cases k123 : k = 1 ∨ k = 2 ∨ k = 3
    · have w32 := hwf.2.2 k123
      have c41 : wX_convertedKind_41 q (nI t) (nI k) v f_tickLimit f_tokenCount f_outCount f_error f_errorPlace f_lastKind f_lastValue f_codeSize f_methodCount f_methodTokens f_cellCount f_activeCalls f_next f_ticksLeft f_state f_pos f_expressionStart f_pendingCount f_frameTop f_localCount a_tokenCode a_tokenValue a_outKind a_outValue a_codeOp a_codeArg a_codeKind a_codePlace a_methodSign a_methodStart a_declared a_cellKind a_cellValue a_callReturn a_pendingLevel a_pendingPlace a_pendingMore a_frameKind a_frameMore a_localName := by
        have Z : ¬ ((t = 1 ∨ t = 2) ∧ ls_nar t v = v) → wX_convertedKind_113 q (nI t) (nI k) f_tickLimit f_tokenCount f_outCount f_error f_errorPlace f_lastKind f_lastValue f_codeSize f_methodCount f_methodTokens f_cellCount f_activeCalls f_next f_ticksLeft f_state f_pos f_expressionStart f_pendingCount f_frameTop f_localCount a_tokenCode a_tokenValue a_outKind a_outValue a_codeOp a_codeArg a_codeKind a_codePlace a_methodSign a_methodStart a_declared a_cellKind a_cellValue a_callReturn a_pendingLevel a_pendingPlace a_pendingMore a_frameKind a_frameMore a_localName := fun h => G116 0 (fun h => by omega) (fun _ g => h g.2.2) (by decide)
        have O : (t = 1 ∨ t = 2) → ls_nar t v = v → wX_convertedKind_109 q (nI t) (nI k) f_tickLimit f_tokenCount f_outCount f_error f_errorPlace f_lastKind f_lastValue f_codeSize f_methodCount f_methodTokens f_cellCount f_activeCalls f_next f_ticksLeft f_state f_pos f_expressionStart f_pendingCount f_frameTop f_localCount a_tokenCode a_tokenValue a_outKind a_outValue a_codeOp a_codeArg a_codeKind a_codePlace a_methodSign a_methodStart a_declared a_cellKind a_cellValue a_callReturn a_pendingLevel a_pendingPlace a_pendingMore a_frameKind a_frameMore a_localName := fun h1 h2 => G116 1 (fun _ => ⟨rfl, k123, h1, h2⟩) (fun h => by omega) (by decide)
        have C99 : ∀ x9 : Nat, x9 ≤ 1 → (x9 = 1 ↔ ls_nar 2 v = v) → (t = 1 → ¬ ls_nar 1 v = v) → wX_convertedKind_99 q (nI t) (nI k) (nI x9) f_tickLimit f_tokenCount f_outCount f_error f_errorPlace f_lastKind f_lastValue f_codeSize f_methodCount f_methodTokens f_cellCount f_activeCalls f_next f_ticksLeft f_state f_pos f_expressionStart f_pendingCount f_frameTop f_localCount a_tokenCode a_tokenValue a_outKind a_outValue a_codeOp a_codeArg a_codeKind a_codePlace a_methodSign a_methodStart a_declared a_cellKind a_cellValue a_callReturn a_pendingLevel a_pendingPlace a_pendingMore a_frameKind a_frameMore a_localName := by
          intro x9 l9 h9 ht1
          by_cases t2 : t = 2
          · refine br_t (E t 2 t2) ?_
            by_cases q9 : x9 = 1
            · refine br_f (by rw [q9]; decide) (O (Or.inr t2) ?_)
              rw [t2]; exact h9.mp q9
            · have : x9 = 0 := by omega
              subst this
              refine br_t rfl (Z (fun h => ?_))
              rw [t2] at h
              exact q9 (h9.mpr h.2)
          · refine br_f (N t 2 (by omega) (by decide) t2) (Z (fun h => ?_))
            have t1 : t = 1 := by omega
            rw [t1] at h
            exact ht1 t1 h.2
        have C87 : ∀ x8 x9 : Nat, x8 ≤ 1 → x9 ≤ 1 → (x8 = 1 ↔ ls_nar 1 v = v) → (x9 = 1 ↔ ls_nar 2 v = v) → wX_convertedKind_87 q (nI t) (nI k) (nI x8) (nI x9) f_tickLimit f_tokenCount f_outCount f_error f_errorPlace f_lastKind f_lastValue f_codeSize f_methodCount f_methodTokens f_cellCount f_activeCalls f_next f_ticksLeft f_state f_pos f_expressionStart f_pendingCount f_frameTop f_localCount a_tokenCode a_tokenValue a_outKind a_outValue a_codeOp a_codeArg a_codeKind a_codePlace a_methodSign a_methodStart a_declared a_cellKind a_cellValue a_callReturn a_pendingLevel a_pendingPlace a_pendingMore a_frameKind a_frameMore a_localName := by
          intro x8 x9 l8 l9 h8 h9
          by_cases t1 : t = 1
          · refine br_t (E t 1 t1) ?_
            by_cases q8 : x8 = 1
            · refine br_f (by rw [q8]; decide) (O (Or.inl t1) ?_)
              rw [t1]; exact h8.mp q8
            · have : x8 = 0 := by omega
              subst this
              exact br_t rfl (C99 x9 l9 h9 (fun _ h => q8 (h8.mpr h)))
          · exact br_f (N t 1 (by omega) (by decide) t1) (C99 x9 l9 h9 (fun h => absurd h t1))
        have C64 : ∀ x8 : Nat, x8 ≤ 1 → (x8 = 1 ↔ ls_nar 1 v = v) → wX_convertedKind_64 q (nI t) (nI k) v (nI x8) f_tickLimit f_tokenCount f_outCount f_error f_errorPlace f_lastKind f_lastValue f_codeSize f_methodCount f_methodTokens f_cellCount f_activeCalls f_next f_ticksLeft f_state f_pos f_expressionStart f_pendingCount f_frameTop f_localCount a_tokenCode a_tokenValue a_outKind a_outValue a_codeOp a_codeArg a_codeKind a_codePlace a_methodSign a_methodStart a_declared a_cellKind a_cellValue a_callReturn a_pendingLevel a_pendingPlace a_pendingMore a_frameKind a_frameMore a_localName := by
          intro x8 l8 h8
          refine br_c (fun h => C87 x8 0 l8 (by decide) h8 ?_) (fun h => br_c (fun g => C87 x8 0 l8 (by decide) h8 ?_) (fun g => C87 x8 1 l8 (by decide) h8 ?_))
          · exact ⟨fun e => by omega, fun e => absurd ((ls_nar2 w32).mp e) (fun r => by have := Int64.lt_iff_toInt_lt.mp h; have z : (0 : Int64).toInt = 0 := (by decide); omega)⟩
          · exact ⟨fun e => by omega, fun e => absurd ((ls_nar2 w32).mp e) (fun r => by have := Int64.lt_iff_toInt_lt.mp g; have z : (65535 : Int64).toInt = 65535 := (by decide); omega)⟩
          · refine ⟨fun _ => (ls_nar2 w32).mpr ?_, fun _ => rfl⟩
            have h' := Int64.not_lt.mp h
            have g' := Int64.not_lt.mp g
            have a1 := Int64.le_iff_toInt_le.mp h'
            have a2 := Int64.le_iff_toInt_le.mp g'
            have z : (0 : Int64).toInt = 0 := by decide
            have z2 : (65535 : Int64).toInt = 65535 := by decide
            omega
        refine br_c (fun h => C64 0 (by decide) ?_) (fun h => br_c (fun g => C64 0 (by decide) ?_) (fun g => C64 1 (by decide) ?_))
        · exact ⟨fun e => by omega, fun e => absurd ((ls_nar1 w32).mp e) (fun r => by have := Int64.lt_iff_toInt_lt.mp h; have z : (-128 : Int64).toInt = -128 := (by decide); omega)⟩
        · exact ⟨fun e => by omega, fun e => absurd ((ls_nar1 w32).mp e) (fun r => by have := Int64.lt_iff_toInt_lt.mp g; have z : (127 : Int64).toInt = 127 := (by decide); omega)⟩
        · refine ⟨fun _ => (ls_nar1 w32).mpr ?_, fun _ => rfl⟩
          have h' := Int64.not_lt.mp h
          have g' := Int64.not_lt.mp g
          have a1 := Int64.le_iff_toInt_le.mp h'
          have a2 := Int64.le_iff_toInt_le.mp g'
          have z : (-128 : Int64).toInt = -128 := by decide
          have z2 : (127 : Int64).toInt = 127 := by decide
          omega
      rcases k123 with h | h | h
      · exact br_t (E k 1 h) c41
      · exact br_f (N k 1 (by omega) (by decide) (by omega)) (br_t (E k 2 h) c41)
      · exact br_f (N k 1 (by omega) (by decide) (by omega)) (br_f (N k 2 (by omega) (by decide) (by omega)) (br_t (E k 3 h) c41))
    · refine br_f (N k 1 (by omega) (by decide) (by omega)) (br_f (N k 2 (by omega) (by decide) (by omega)) (br_f (N k 3 (by omega) (by decide) (by omega)) ?_))
      exact G116 0 (fun h => by omega) (fun _ h => k123 h.2.1) (by decide)
end
