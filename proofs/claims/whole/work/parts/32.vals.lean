/-! Values: kinds 0 boolean, 1 byte, 2 char, 3 int, 4 long (5: var, as a declared kind) -/
def ls_nar (k : Nat) (v : Int64) : Int64 := if k = 1 then v.toInt32.toInt8.toInt32.toInt64 else if k = 2 then ((v.toInt32.toUInt32 % 65536).toInt32).toInt64 else if k = 3 then v.toInt32.toInt64 else v
def ls_fit (f t : Nat) : Bool := decide (f = t) || decide (t = 5) || (decide (t = 3) && (decide (f = 1) || decide (f = 2))) || (decide (t = 4) && (decide (f = 1) || decide (f = 2) || decide (f = 3)))
/-- a value is what its kind holds -/
def ls_wf (k : Nat) (v : Int64) : Prop := k ≤ 4 ∧ (k = 0 → v = 0 ∨ v = 1) ∧ (k = 1 ∨ k = 2 ∨ k = 3 → v.toInt32.toInt64 = v)
/-- the kind that a conversion gives; cst: no name stands in the expression -/
def ls_cnv (t : Nat) (cst : Bool) (f : Nat) (v : Int64) : Option Nat :=
  if ls_fit f t = true ∨ (cst = true ∧ (f = 1 ∨ f = 2 ∨ f = 3) ∧ (t = 1 ∨ t = 2) ∧ ls_nar t v = v) then some (if t = 5 then f else t) else none
def ls_un (w : Nat) (k : Nat) (v : Int64) : Option (Nat × Int64) :=
  if w = 22 then (if k = 0 then some (0, 1 - v) else none)
  else if k = 0 then none
  else some (if k = 4 then 4 else 3, ls_nar (if k = 4 then 4 else 3) (if w = 25 then -v else if w = 23 then v ^^^ (-1) else v))
def ls_cst (t : Nat) (k : Nat) (v : Int64) : Option (Nat × Int64) := if (k = 0 ↔ t = 0) then some (t, ls_nar t v) else none
def ls_bk (w a b : Nat) : Option Nat :=
  if a ≠ 0 ∧ b ≠ 0 then some (if 35 ≤ w then 0 else if a = 4 ∨ (b = 4 ∧ w < 32) then 4 else 3)
  else if a = 0 ∧ b = 0 ∧ ((29 ≤ w ∧ w ≤ 31) ∨ 39 ≤ w) then some 0 else none
def ls_shf (w k : Nat) (x y : Int64) : Int64 :=
  let d : Int32 := y.toInt32 &&& (if k = 4 then 63 else 31)
  if w = 33 then x >>> (d.toInt64 &&& 63)
  else if w = 34 then (if k = 4 then (x.toUInt64 >>> (d.toInt64.toUInt64 &&& Int64.toUInt64 63)).toInt64 else ((x.toInt32.toUInt32 >>> (d.toUInt32 &&& Int32.toUInt32 31)).toInt32).toInt64)
  else x <<< (d.toInt64 &&& 63)
def ls_cmp (w : Nat) (x y : Int64) : Prop := if w = 35 then x < y else if w = 36 then x ≤ y else if w = 37 then y < x else if w = 38 then y ≤ x else if w = 39 then x = y else x ≠ y
noncomputable def ls_val (w k : Nat) (x y : Int64) : Int64 :=
  if w = 24 then ls_nar k (x + y) else if w = 25 then ls_nar k (x - y) else if w = 26 then ls_nar k (x * y)
  else if w = 27 then ls_nar k (x / y) else if w = 28 then ls_nar k (x - x / y * y)
  else if w = 29 then ls_nar k (x &&& y) else if w = 30 then ls_nar k (x ||| y) else if w = 31 then ls_nar k (x ^^^ y)
  else if w < 35 then ls_nar k (ls_shf w k x y)
  else @ite Int64 (ls_cmp w x y) (Classical.propDecidable _) 1 0
/-- an operator's result, or the error's code: 3 kinds, 4 division by zero -/
noncomputable def ls_bin (w a b : Nat) (x y : Int64) : Except Nat (Nat × Int64) := match ls_bk w a b with
  | none => .error 3
  | some k => if (w = 27 ∨ w = 28) ∧ y = 0 then .error 4 else .ok (k, ls_val w k x y)
set_option maxHeartbeats 200000 in
theorem ls_k8 {a b : Nat} (ha : a < 100) (hb : b < 100) : nI a = nI b ↔ a = b := nI_eq (by omega) (by omega)
/-! the component's value methods -/
set_option maxHeartbeats 200000 in
theorem hx_narrowed {q : Int64 → Prop} {k : Nat} {v : Int64} (hk : k < 100) (hp : q (ls_nar k v)) : wpX_narrowed q (nI k) v := by
  unfold ls_nar at hp
  refine br_c (fun h => ?_) (fun h1 => br_c (fun h => ?_) (fun h3 => ?_))
  · have := (nI_ltI (b := 1) (by omega) (by decide)).mp h
    rw [if_neg (by omega), if_neg (by omega), if_neg (by omega)] at hp
    exact hp
  · have := (nI_ltI (a := 3) (by decide) (by omega)).mp h
    rw [if_neg (by omega), if_neg (by omega), if_neg (by omega)] at hp
    exact hp
  · have g1 := mt (nI_ltI (b := 1) (by omega) (by decide)).mpr h1
    have g3 := mt (nI_ltI (a := 3) (by decide) (by omega)).mpr h3
    by_cases q1 : k = 1
    · rw [if_pos q1] at hp
      exact br_t ((ls_k8 hk (by decide)).mpr q1) hp
    refine br_f (mt (ls_k8 hk (by decide)).mp q1) ?_
    rw [if_neg q1] at hp
    by_cases q2 : k = 2
    · rw [if_pos q2] at hp
      exact br_t ((ls_k8 hk (by decide)).mpr q2) (nm_e hp)
    refine br_f (mt (ls_k8 hk (by decide)).mp q2) ?_
    rw [if_neg q2, if_pos (by omega)] at hp
    exact br_t ((ls_k8 (b := 3) hk (by decide)).mpr (by omega)) hp
set_option maxHeartbeats 200000 in
theorem hx_fits {q : Int32 → Prop} {f t : Nat} (hf : f < 100) (ht : t < 100) (h1 : ls_fit f t = true → q 1) (h0 : ls_fit f t = false → q 0) : wpX_fits q (nI f) (nI t) := by
  have N : ∀ a w, a < 100 → w < 100 → a ≠ w → ¬ nI a = nI w := fun a w ha hw h => mt (ls_k8 ha hw).mp h
  have E : ∀ a w, a = w → nI a = nI w := fun a w h => by rw [h]
  have Z : ls_fit f t = false → wX_fits_43 q (nI f) (nI t) := by
    intro h
    have h' := h
    unfold ls_fit at h'
    simp only [Bool.or_eq_false_iff, Bool.and_eq_false_iff, decide_eq_false_iff_not] at h'
    exact br_f (N f t hf ht h'.1.1.1) (br_f (N t 5 ht (by decide) h'.1.1.2) (br_t rfl (h0 h)))
  have O : ls_fit f t = true → wX_fits_39 q (nI f) (nI t) := fun h =>
    br_c (fun _ => h1 h) (fun _ => br_c (fun _ => h1 h) (fun _ => br_f (by decide) (h1 h)))
  have O' : ls_fit f t = true → (f = t ∨ t = 5) → wX_fits_43 q (nI f) (nI t) := fun h hh => by
    by_cases e : f = t
    · exact br_t (E f t e) (h1 h)
    · exact br_f (N f t hf ht e) (br_t (E t 5 (by omega)) (h1 h))
  have D : wX_fits_43 q (nI f) (nI t) ∨ ls_fit f t = true := by
    cases h : ls_fit f t with
    | false => exact Or.inl (Z h)
    | true => exact Or.inr rfl
  have fit4 : t = 4 → (f = 1 ∨ f = 2 ∨ f = 3) → ls_fit f t = true := by
    intro h1 h2
    subst h1
    rcases h2 with rfl | rfl | rfl <;> decide
  have fit3 : t = 3 → (f = 1 ∨ f = 2) → ls_fit f t = true := by
    intro h1 h2
    subst h1
    rcases h2 with rfl | rfl <;> decide
  have K : ¬ (t = 3 ∧ (f = 1 ∨ f = 2)) → ¬ (t = 4 ∧ (f = 1 ∨ f = 2 ∨ f = 3)) → wX_fits_43 q (nI f) (nI t) := by
    intro n3 n4
    rcases D with d | d
    · exact d
    · refine O' d ?_
      unfold ls_fit at d
      simp only [Bool.or_eq_true, Bool.and_eq_true, decide_eq_true_eq] at d
      omega
  have K34 : (f = 1 ∨ f = 2 ∨ f = 3) → ¬ (t = 3 ∧ (f = 1 ∨ f = 2)) → wX_fits_34 q (nI f) (nI t) := by
    intro hff n3
    by_cases t4 : t = 4
    · exact br_t (E t 4 t4) (O (fit4 t4 hff))
    · exact br_f (N t 4 ht (by decide) t4) (K n3 (fun h => t4 h.1))
  by_cases f12 : f = 1 ∨ f = 2
  · have K15 : wX_fits_15 q (nI f) (nI t) 1 := by
      refine br_f (by decide) ?_
      by_cases t3 : t = 3
      · exact br_t (E t 3 t3) (O (fit3 t3 f12))
      · exact br_f (N t 3 ht (by decide) t3) (br_f (by decide) (K34 (by omega) (fun h => t3 h.1)))
    rcases f12 with h | h
    · exact br_t (E f 1 h) K15
    · exact br_f (N f 1 hf (by decide) (by omega)) (br_t (E f 2 h) K15)
  · refine br_f (N f 1 hf (by decide) (fun h => f12 (Or.inl h))) (br_f (N f 2 hf (by decide) (fun h => f12 (Or.inr h))) (br_t rfl (br_t rfl ?_)))
    by_cases f3 : f = 3
    · exact br_t (E f 3 f3) (K34 (by omega) (fun h => f12 h.2))
    · exact br_f (N f 3 hf (by decide) f3) (K (fun h => f12 h.2) (fun h => by omega))
section
variable {f_tickLimit f_tokenCount f_outCount f_error f_errorPlace f_lastKind f_codeSize f_methodCount f_methodTokens f_cellCount f_activeCalls f_next f_ticksLeft f_state f_pos f_expressionStart f_pendingCount f_frameTop f_localCount : Int32}
variable {f_lastValue : Int64}
variable {a_tokenCode a_tokenValue a_outKind a_codeOp a_codeArg a_codeKind a_codePlace a_methodSign a_methodStart a_declared a_cellKind a_callReturn a_pendingLevel a_pendingPlace a_pendingMore a_frameKind a_frameMore a_localName : Nat → Int32}
variable {a_outValue a_cellValue : Nat → Int64}
set_option maxHeartbeats 200000 in
theorem hx_push {post : SX → Prop} {cc : Nat} {k : Int32} {v : Int64} (h : cc < 376) (hp : post (f_tickLimit, f_tokenCount, f_outCount, f_error, f_errorPlace, f_lastKind, f_lastValue, f_codeSize, f_methodCount, f_methodTokens, nI (cc + 1), f_activeCalls, f_next, f_ticksLeft, f_state, f_pos, f_expressionStart, f_pendingCount, f_frameTop, f_localCount, a_tokenCode, a_tokenValue, a_outKind, a_outValue, a_codeOp, a_codeArg, a_codeKind, a_codePlace, a_methodSign, a_methodStart, a_declared, upd a_cellKind cc k, vp_updL a_cellValue cc v, a_callReturn, a_pendingLevel, a_pendingPlace, a_pendingMore, a_frameKind, a_frameMore, a_localName)) : wpX_push post (f_tickLimit, f_tokenCount, f_outCount, f_error, f_errorPlace, f_lastKind, f_lastValue, f_codeSize, f_methodCount, f_methodTokens, nI cc, f_activeCalls, f_next, f_ticksLeft, f_state, f_pos, f_expressionStart, f_pendingCount, f_frameTop, f_localCount, a_tokenCode, a_tokenValue, a_outKind, a_outValue, a_codeOp, a_codeArg, a_codeKind, a_codePlace, a_methodSign, a_methodStart, a_declared, a_cellKind, a_cellValue, a_callReturn, a_pendingLevel, a_pendingPlace, a_pendingMore, a_frameKind, a_frameMore, a_localName) k v := by
  have e : (nI cc).toNatClampNeg = cc := nI_clamp (by omega)
  have i : vp_in (nI cc) 376 := vp_in_nI h (by decide)
  exact br_f (nI_ge h (by decide)) ⟨i, nm_r (by rw [e]) ⟨i, nm_r (by rw [e]) (nm_r (nI_1 cc) hp)⟩⟩
set_option maxHeartbeats 200000 in
theorem hx_pop {p : Int32 → SX → Prop} {cc : Nat} (h : 88 ≤ cc) (h2 : cc < 376) (hp : p (nI cc) (f_tickLimit, f_tokenCount, f_outCount, f_error, f_errorPlace, f_lastKind, f_lastValue, f_codeSize, f_methodCount, f_methodTokens, nI cc, f_activeCalls, f_next, f_ticksLeft, f_state, f_pos, f_expressionStart, f_pendingCount, f_frameTop, f_localCount, a_tokenCode, a_tokenValue, a_outKind, a_outValue, a_codeOp, a_codeArg, a_codeKind, a_codePlace, a_methodSign, a_methodStart, a_declared, a_cellKind, a_cellValue, a_callReturn, a_pendingLevel, a_pendingPlace, a_pendingMore, a_frameKind, a_frameMore, a_localName)) : wpX_popCell p (f_tickLimit, f_tokenCount, f_outCount, f_error, f_errorPlace, f_lastKind, f_lastValue, f_codeSize, f_methodCount, f_methodTokens, nI (cc + 1), f_activeCalls, f_next, f_ticksLeft, f_state, f_pos, f_expressionStart, f_pendingCount, f_frameTop, f_localCount, a_tokenCode, a_tokenValue, a_outKind, a_outValue, a_codeOp, a_codeArg, a_codeKind, a_codePlace, a_methodSign, a_methodStart, a_declared, a_cellKind, a_cellValue, a_callReturn, a_pendingLevel, a_pendingPlace, a_pendingMore, a_frameKind, a_frameMore, a_localName) :=
  br_f (nI_ge (a := 88) (by omega) (by omega)) (nm_r (nI_pred cc) hp)
set_option maxHeartbeats 200000 in
theorem hx_fail {post : SX → Prop} {a b : Int32} (hp : post (f_tickLimit, f_tokenCount, f_outCount, a, b, f_lastKind, f_lastValue, f_codeSize, f_methodCount, f_methodTokens, f_cellCount, f_activeCalls, f_next, f_ticksLeft, f_state, f_pos, f_expressionStart, f_pendingCount, f_frameTop, f_localCount, a_tokenCode, a_tokenValue, a_outKind, a_outValue, a_codeOp, a_codeArg, a_codeKind, a_codePlace, a_methodSign, a_methodStart, a_declared, a_cellKind, a_cellValue, a_callReturn, a_pendingLevel, a_pendingPlace, a_pendingMore, a_frameKind, a_frameMore, a_localName)) : wpX_fail post (f_tickLimit, f_tokenCount, f_outCount, f_error, f_errorPlace, f_lastKind, f_lastValue, f_codeSize, f_methodCount, f_methodTokens, f_cellCount, f_activeCalls, f_next, f_ticksLeft, f_state, f_pos, f_expressionStart, f_pendingCount, f_frameTop, f_localCount, a_tokenCode, a_tokenValue, a_outKind, a_outValue, a_codeOp, a_codeArg, a_codeKind, a_codePlace, a_methodSign, a_methodStart, a_declared, a_cellKind, a_cellValue, a_callReturn, a_pendingLevel, a_pendingPlace, a_pendingMore, a_frameKind, a_frameMore, a_localName) a b := hp
end
