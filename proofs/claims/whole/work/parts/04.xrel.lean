set_option maxHeartbeats 200000 in
theorem ls_lv_tab : ∀ t : Fin 43, 24 ≤ t.1 → 3 ≤ ls_lv t.1 ∧ ls_lv t.1 ≤ 12 := by decide
set_option maxHeartbeats 200000 in
theorem ls_lv_2 {t : Nat} (h : ¬ (24 ≤ t ∧ t ≤ 42)) : ls_lv t = 2 := by
  unfold ls_lv
  repeat rw [if_neg (by omega)]
set_option maxHeartbeats 200000 in
theorem ls_lv_c (t : Nat) : ls_lv t = 2 ∧ ¬ (24 ≤ t ∧ t ≤ 42) ∨ ((24 ≤ t ∧ t ≤ 42) ∧ 3 ≤ ls_lv t ∧ ls_lv t ≤ 12) := by
  by_cases h : 24 ≤ t ∧ t ≤ 42
  · exact Or.inr ⟨h, ls_lv_tab ⟨t, by omega⟩ h.1⟩
  · exact Or.inl ⟨ls_lv_2 h, h⟩
/-! Stacks in arrays, and what it means that a state of the component stands for a configuration -/
def ls_StP (a b c : Nat → Int32) : List LsP → Prop
  | [] => True
  | e :: r => a r.length = nI e.1 ∧ b r.length = nI e.2.1 ∧ c r.length = nI e.2.2 ∧ ls_StP a b c r
def ls_StF (a b : Nat → Int32) : List LsF → Prop
  | [] => a 0 = 0
  | f :: r => a (r.length + 1) = nI f.1 ∧ b (r.length + 1) = nI f.2.1 ∧ ls_StF a b r
def ls_StN (a : Nat → Int32) : List Nat → Prop
  | [] => True
  | x :: r => a r.length = nI x ∧ ls_StN a r
set_option maxHeartbeats 200000 in
theorem ls_StP_up {a b c : Nat → Int32} {j : Nat} {x y z : Int32} : ∀ {pe : List LsP}, pe.length ≤ j → ls_StP a b c pe → ls_StP (upd a j x) (upd b j y) (upd c j z) pe
  | [], _, _ => trivial
  | e :: r, h, ⟨h1, h2, h3, h4⟩ => by
    have h' : r.length + 1 ≤ j := h
    refine ⟨?_, ?_, ?_, ls_StP_up (by omega) h4⟩
    · rw [pk_un (by omega)]; exact h1
    · rw [pk_un (by omega)]; exact h2
    · rw [pk_un (by omega)]; exact h3
set_option maxHeartbeats 200000 in
theorem ls_StP_push {a b c : Nat → Int32} {pe : List LsP} (l p m : Nat) (h : ls_StP a b c pe) : ls_StP (upd a pe.length (nI l)) (upd b pe.length (nI p)) (upd c pe.length (nI m)) ((l, p, m) :: pe) :=
  ⟨pk_us, pk_us, pk_us, ls_StP_up (Nat.le_refl _) h⟩
set_option maxHeartbeats 200000 in
theorem ls_StP_more {a b c : Nat → Int32} {j : Nat} {z : Int32} : ∀ {pe : List LsP}, pe.length ≤ j → ls_StP a b c pe → ls_StP a b (upd c j z) pe
  | [], _, _ => trivial
  | e :: r, h, ⟨h1, h2, h3, h4⟩ => by
    have h' : r.length + 1 ≤ j := h
    exact ⟨h1, h2, by rw [pk_un (by omega)]; exact h3, ls_StP_more (by omega) h4⟩
set_option maxHeartbeats 200000 in
theorem ls_StF_up {a b : Nat → Int32} {j : Nat} {x y : Int32} : ∀ {fr : List LsF}, fr.length < j → ls_StF a b fr → ls_StF (upd a j x) (upd b j y) fr
  | [], h, h0 => by
    have h' : (0 : Nat) < j := h
    show upd a j x 0 = 0
    rw [pk_un (by omega)]; exact h0
  | f :: r, h, ⟨h1, h2, h3⟩ => by
    have h' : r.length + 1 < j := h
    refine ⟨?_, ?_, ls_StF_up (by omega) h3⟩
    · rw [pk_un (by omega)]; exact h1
    · rw [pk_un (by omega)]; exact h2
set_option maxHeartbeats 200000 in
theorem ls_StF_push {a b : Nat → Int32} {fr : List LsF} (k m s : Nat) (l : List Nat) (h : ls_StF a b fr) : ls_StF (upd a (fr.length + 1) (nI k)) (upd b (fr.length + 1) (nI m)) ((k, m, s, l) :: fr) :=
  ⟨pk_us, pk_us, ls_StF_up (Nat.lt_succ_self _) h⟩
set_option maxHeartbeats 200000 in
theorem ls_StF_set {a b : Nat → Int32} {f : LsF} {fr : List LsF} (k m s : Nat) (l : List Nat) (h : ls_StF a b (f :: fr)) : ls_StF (upd a (fr.length + 1) (nI k)) (upd b (fr.length + 1) (nI m)) ((k, m, s, l) :: fr) :=
  ls_StF_push k m s l h.2.2
set_option maxHeartbeats 200000 in
theorem ls_StN_up {a : Nat → Int32} {j : Nat} {x : Int32} : ∀ {L : List Nat}, L.length ≤ j → ls_StN a L → ls_StN (upd a j x) L
  | [], _, _ => trivial
  | e :: r, h, ⟨h1, h2⟩ => by
    have h' : r.length + 1 ≤ j := h
    exact ⟨by rw [pk_un (by omega)]; exact h1, ls_StN_up (by omega) h2⟩
set_option maxHeartbeats 200000 in
theorem ls_StN_push {a : Nat → Int32} {L : List Nat} (x : Nat) (h : ls_StN a L) : ls_StN (upd a L.length (nI x)) (x :: L) :=
  ⟨pk_us, ls_StN_up (Nat.le_refl _) h⟩
set_option maxHeartbeats 200000 in
theorem ls_StN_drop {a : Nat → Int32} : ∀ {L : List Nat} (m : Nat), ls_StN a L → ls_StN a (L.drop m)
  | [], m, h => by cases m <;> exact h
  | _ :: _, 0, h => h
  | _ :: _, m + 1, h => ls_StN_drop m h.2
def ls_tok (T : Nat → Nat) (V : Nat → Int32) (n : Nat) (tc tv : Nat → Int32) : Prop :=
  n ≤ 140 ∧ (∀ p, p < n → T p < 72 ∧ tc p = nI (ls_xc (T p)) ∧ (ls_nam (T p) → tv p = nI (T p - 54)) ∧ (70 ≤ T p → tv p = V p)) ∧ ∀ p, n ≤ p → T p = 72
set_option maxHeartbeats 200000 in
theorem ls_tok_le {T V n tc tv} (h : ls_tok T V n tc tv) (p : Nat) : T p ≤ 72 := by
  by_cases hp : p < n
  · have := (h.2.1 p hp).1; omega
  · have := h.2.2 p (by omega); omega
set_option maxHeartbeats 200000 in
theorem ls_tok_lt {T V n tc tv} (h : ls_tok T V n tc tv) {p : Nat} (hp : T p ≠ 72) : p < n := by
  apply Decidable.byContradiction
  intro hn
  exact hp (h.2.2 p (by omega))
/-- what the reader never changes -/
def ls_kept (u : SX) : Int32 × Int32 × Int32 × Int32 × Int64 × Int32 × Int32 × Int32 × Int32 × Int32 × Int32 × (Nat → Int32) × (Nat → Int32) × (Nat → Int32) × (Nat → Int64) × (Nat → Int32) × (Nat → Int32) × (Nat → Int32) × (Nat → Int32) × (Nat → Int64) × (Nat → Int32) := match u with
  | (f_tickLimit, f_tokenCount, f_outCount, f_error, f_errorPlace, f_lastKind, f_lastValue, f_codeSize, f_methodCount, f_methodTokens, f_cellCount, f_activeCalls, f_next, f_ticksLeft, f_state, f_pos, f_expressionStart, f_pendingCount, f_frameTop, f_localCount, a_tokenCode, a_tokenValue, a_outKind, a_outValue, a_codeOp, a_codeArg, a_codeKind, a_codePlace, a_methodSign, a_methodStart, a_declared, a_cellKind, a_cellValue, a_callReturn, a_pendingLevel, a_pendingPlace, a_pendingMore, a_frameKind, a_frameMore, a_localName) => (f_tickLimit, f_tokenCount, f_outCount, f_lastKind, f_lastValue, f_methodCount, f_methodTokens, f_cellCount, f_activeCalls, f_next, f_ticksLeft, a_tokenCode, a_tokenValue, a_outKind, a_outValue, a_methodSign, a_methodStart, a_declared, a_cellKind, a_cellValue, a_callReturn)
/-- the methods' code stands as it stood -/
def ls_lo (u : SX) (k : LsK) : Prop := match u with
  | (f_tickLimit, f_tokenCount, f_outCount, f_error, f_errorPlace, f_lastKind, f_lastValue, f_codeSize, f_methodCount, f_methodTokens, f_cellCount, f_activeCalls, f_next, f_ticksLeft, f_state, f_pos, f_expressionStart, f_pendingCount, f_frameTop, f_localCount, a_tokenCode, a_tokenValue, a_outKind, a_outValue, a_codeOp, a_codeArg, a_codeKind, a_codePlace, a_methodSign, a_methodStart, a_declared, a_cellKind, a_cellValue, a_callReturn, a_pendingLevel, a_pendingPlace, a_pendingMore, a_frameKind, a_frameMore, a_localName) => ∀ i, i < 480 → k.2.1 i = a_codeOp i ∧ k.2.2.1 i = a_codeArg i ∧ k.2.2.2.1 i = a_codeKind i ∧ k.2.2.2.2 i = a_codePlace i
def ls_XR (T : Nat → Nat) (V : Nat → Int32) (n : Nat) (u0 : SX) (c : LsC) (u : SX) : Prop := match c with
  | (st, pos, es, pe, fr, L, k) => match u with
    | (f_tickLimit, f_tokenCount, f_outCount, f_error, f_errorPlace, f_lastKind, f_lastValue, f_codeSize, f_methodCount, f_methodTokens, f_cellCount, f_activeCalls, f_next, f_ticksLeft, f_state, f_pos, f_expressionStart, f_pendingCount, f_frameTop, f_localCount, a_tokenCode, a_tokenValue, a_outKind, a_outValue, a_codeOp, a_codeArg, a_codeKind, a_codePlace, a_methodSign, a_methodStart, a_declared, a_cellKind, a_cellValue, a_callReturn, a_pendingLevel, a_pendingPlace, a_pendingMore, a_frameKind, a_frameMore, a_localName) => (f_tickLimit, f_tokenCount, f_outCount, f_lastKind, f_lastValue, f_methodCount, f_methodTokens, f_cellCount, f_activeCalls, f_next, f_ticksLeft, a_tokenCode, a_tokenValue, a_outKind, a_outValue, a_methodSign, a_methodStart, a_declared, a_cellKind, a_cellValue, a_callReturn) = ls_kept u0 ∧ ls_lo u0 k ∧ f_tokenCount = nI n ∧ ls_tok T V n a_tokenCode a_tokenValue ∧ f_error = 0 ∧ f_errorPlace = -1 ∧ f_codeSize = nI k.1 ∧ f_state = nI st ∧ f_pos = nI pos ∧ f_pendingCount = nI pe.length ∧ f_frameTop = nI fr.length ∧ f_localCount = nI L.length ∧ a_codeOp = k.2.1 ∧ a_codeArg = k.2.2.1 ∧ a_codeKind = k.2.2.2.1 ∧ a_codePlace = k.2.2.2.2 ∧ ((st = 4 ∨ st = 5) → f_expressionStart = nI es) ∧ ls_StP a_pendingLevel a_pendingPlace a_pendingMore pe ∧ ls_StF a_frameKind a_frameMore fr ∧ ls_StN a_localName L
/-- a fault was found, at e -/
def ls_XK (T : Nat → Nat) (V : Nat → Int32) (n : Nat) (u0 : SX) (e m : Nat) (u : SX) : Prop := match u with
    | (f_tickLimit, f_tokenCount, f_outCount, f_error, f_errorPlace, f_lastKind, f_lastValue, f_codeSize, f_methodCount, f_methodTokens, f_cellCount, f_activeCalls, f_next, f_ticksLeft, f_state, f_pos, f_expressionStart, f_pendingCount, f_frameTop, f_localCount, a_tokenCode, a_tokenValue, a_outKind, a_outValue, a_codeOp, a_codeArg, a_codeKind, a_codePlace, a_methodSign, a_methodStart, a_declared, a_cellKind, a_cellValue, a_callReturn, a_pendingLevel, a_pendingPlace, a_pendingMore, a_frameKind, a_frameMore, a_localName) => (f_tickLimit, f_tokenCount, f_outCount, f_lastKind, f_lastValue, f_methodCount, f_methodTokens, f_cellCount, f_activeCalls, f_next, f_ticksLeft, a_tokenCode, a_tokenValue, a_outKind, a_outValue, a_methodSign, a_methodStart, a_declared, a_cellKind, a_cellValue, a_callReturn) = ls_kept u0 ∧ f_tokenCount = nI n ∧ ls_tok T V n a_tokenCode a_tokenValue ∧ f_error = 1 ∧ f_errorPlace = nI e ∧ (∃ c, f_codeSize = nI c ∧ 480 ≤ c ∧ c ≤ 761) ∧ (∃ p, f_pos = nI p ∧ p < m) ∧ (∃ p, f_pendingCount = nI p ∧ p ≤ 140) ∧ (∃ p, f_frameTop = nI p ∧ p < 142) ∧ (∃ p, f_localCount = nI p ∧ p ≤ 8) ∧ ls_lo u0 (0, a_codeOp, a_codeArg, a_codeKind, a_codePlace)
section
variable {f_tickLimit f_tokenCount f_outCount f_error f_errorPlace f_lastKind f_codeSize f_methodCount f_methodTokens f_cellCount f_activeCalls f_next f_ticksLeft f_state f_pos f_expressionStart f_pendingCount f_frameTop f_localCount : Int32}
variable {f_lastValue : Int64}
variable {a_tokenCode a_tokenValue a_outKind a_codeOp a_codeArg a_codeKind a_codePlace a_methodSign a_methodStart a_declared a_cellKind a_callReturn a_pendingLevel a_pendingPlace a_pendingMore a_frameKind a_frameMore a_localName : Nat → Int32}
variable {a_outValue a_cellValue : Nat → Int64}
variable {T : Nat → Nat} {V : Nat → Int32} {n : Nat}
set_option maxHeartbeats 200000 in
theorem hx_wordAt {post : Int32 → Prop} {p : Nat} (h : ls_tok T V n a_tokenCode a_tokenValue) (hp : p < 1000) (g : post (nI (ls_xc (T p)))) : wpX_wordAt post (f_tickLimit, nI n, f_outCount, f_error, f_errorPlace, f_lastKind, f_lastValue, f_codeSize, f_methodCount, f_methodTokens, f_cellCount, f_activeCalls, f_next, f_ticksLeft, f_state, f_pos, f_expressionStart, f_pendingCount, f_frameTop, f_localCount, a_tokenCode, a_tokenValue, a_outKind, a_outValue, a_codeOp, a_codeArg, a_codeKind, a_codePlace, a_methodSign, a_methodStart, a_declared, a_cellKind, a_cellValue, a_callReturn, a_pendingLevel, a_pendingPlace, a_pendingMore, a_frameKind, a_frameMore, a_localName) (nI p) := by
  have hn := h.1
  refine br_f (nI_pos (by omega)) ?_
  by_cases q : p < n
  · obtain ⟨_, e, _⟩ := h.2.1 p q
    refine br_f (nI_ge q (by omega)) ⟨vp_in_nI (by omega) (by decide), ?_⟩
    rw [nI_clamp (by omega), e]; exact g
  · have e := h.2.2 p (by omega)
    rw [e] at g
    exact br_t (nI_le (by omega) (by omega)) g
set_option maxHeartbeats 200000 in
theorem hx_wordAny {post : Int32 → Prop} {p : Nat} (h : ls_tok T V n a_tokenCode a_tokenValue) (hp : p < 1000) (g : ∀ r, post r) : wpX_wordAt post (f_tickLimit, nI n, f_outCount, f_error, f_errorPlace, f_lastKind, f_lastValue, f_codeSize, f_methodCount, f_methodTokens, f_cellCount, f_activeCalls, f_next, f_ticksLeft, f_state, f_pos, f_expressionStart, f_pendingCount, f_frameTop, f_localCount, a_tokenCode, a_tokenValue, a_outKind, a_outValue, a_codeOp, a_codeArg, a_codeKind, a_codePlace, a_methodSign, a_methodStart, a_declared, a_cellKind, a_cellValue, a_callReturn, a_pendingLevel, a_pendingPlace, a_pendingMore, a_frameKind, a_frameMore, a_localName) (nI p) :=
  hx_wordAt h hp (g _)
set_option maxHeartbeats 200000 in
theorem hx_valueAny {post : Int32 → Prop} {p : Nat} (h : ls_tok T V n a_tokenCode a_tokenValue) (hp : p < 1000) (g : ∀ r, post r) : wpX_valueAt post (f_tickLimit, nI n, f_outCount, f_error, f_errorPlace, f_lastKind, f_lastValue, f_codeSize, f_methodCount, f_methodTokens, f_cellCount, f_activeCalls, f_next, f_ticksLeft, f_state, f_pos, f_expressionStart, f_pendingCount, f_frameTop, f_localCount, a_tokenCode, a_tokenValue, a_outKind, a_outValue, a_codeOp, a_codeArg, a_codeKind, a_codePlace, a_methodSign, a_methodStart, a_declared, a_cellKind, a_cellValue, a_callReturn, a_pendingLevel, a_pendingPlace, a_pendingMore, a_frameKind, a_frameMore, a_localName) (nI p) := by
  have hn := h.1
  refine br_f (nI_pos (by omega)) ?_
  by_cases q : p < n
  · exact br_f (nI_ge q (by omega)) ⟨vp_in_nI (by omega) (by decide), g _⟩
  · exact br_t (nI_le (by omega) (by omega)) (g _)
set_option maxHeartbeats 200000 in
theorem hx_valueName {post : Int32 → Prop} {p : Nat} (h : ls_tok T V n a_tokenCode a_tokenValue) (hp : p < 1000) (hn : ls_nam (T p)) (g : post (nI (T p - 54))) : wpX_valueAt post (f_tickLimit, nI n, f_outCount, f_error, f_errorPlace, f_lastKind, f_lastValue, f_codeSize, f_methodCount, f_methodTokens, f_cellCount, f_activeCalls, f_next, f_ticksLeft, f_state, f_pos, f_expressionStart, f_pendingCount, f_frameTop, f_localCount, a_tokenCode, a_tokenValue, a_outKind, a_outValue, a_codeOp, a_codeArg, a_codeKind, a_codePlace, a_methodSign, a_methodStart, a_declared, a_cellKind, a_cellValue, a_callReturn, a_pendingLevel, a_pendingPlace, a_pendingMore, a_frameKind, a_frameMore, a_localName) (nI p) := by
  have h1 := h.1
  have q : p < n := ls_tok_lt h (by have := hn.2; omega)
  obtain ⟨_, _, e, _⟩ := h.2.1 p q
  refine br_f (nI_pos (by omega)) (br_f (nI_ge q (by omega)) ⟨vp_in_nI (by omega) (by decide), ?_⟩)
  rw [nI_clamp (by omega), e hn]; exact g
set_option maxHeartbeats 200000 in
theorem hx_valueNum {post : Int32 → Prop} {p : Nat} (h : ls_tok T V n a_tokenCode a_tokenValue) (hp : p < 1000) (hn : 70 ≤ T p) (hn2 : T p < 72) (g : post (V p)) : wpX_valueAt post (f_tickLimit, nI n, f_outCount, f_error, f_errorPlace, f_lastKind, f_lastValue, f_codeSize, f_methodCount, f_methodTokens, f_cellCount, f_activeCalls, f_next, f_ticksLeft, f_state, f_pos, f_expressionStart, f_pendingCount, f_frameTop, f_localCount, a_tokenCode, a_tokenValue, a_outKind, a_outValue, a_codeOp, a_codeArg, a_codeKind, a_codePlace, a_methodSign, a_methodStart, a_declared, a_cellKind, a_cellValue, a_callReturn, a_pendingLevel, a_pendingPlace, a_pendingMore, a_frameKind, a_frameMore, a_localName) (nI p) := by
  have h1 := h.1
  have q : p < n := ls_tok_lt h (by omega)
  obtain ⟨_, _, _, e⟩ := h.2.1 p q
  refine br_f (nI_pos (by omega)) (br_f (nI_ge q (by omega)) ⟨vp_in_nI (by omega) (by decide), ?_⟩)
  rw [nI_clamp (by omega), e hn]; exact g
set_option maxHeartbeats 200000 in
theorem hx_emit {post : SX → Prop} {cs : Nat} {o a k p : Int32} (h : cs < 761) (hp : post (f_tickLimit, f_tokenCount, f_outCount, f_error, f_errorPlace, f_lastKind, f_lastValue, nI (cs + 1), f_methodCount, f_methodTokens, f_cellCount, f_activeCalls, f_next, f_ticksLeft, f_state, f_pos, f_expressionStart, f_pendingCount, f_frameTop, f_localCount, a_tokenCode, a_tokenValue, a_outKind, a_outValue, upd a_codeOp cs o, upd a_codeArg cs a, upd a_codeKind cs k, upd a_codePlace cs p, a_methodSign, a_methodStart, a_declared, a_cellKind, a_cellValue, a_callReturn, a_pendingLevel, a_pendingPlace, a_pendingMore, a_frameKind, a_frameMore, a_localName)) : wpX_emit post (f_tickLimit, f_tokenCount, f_outCount, f_error, f_errorPlace, f_lastKind, f_lastValue, nI cs, f_methodCount, f_methodTokens, f_cellCount, f_activeCalls, f_next, f_ticksLeft, f_state, f_pos, f_expressionStart, f_pendingCount, f_frameTop, f_localCount, a_tokenCode, a_tokenValue, a_outKind, a_outValue, a_codeOp, a_codeArg, a_codeKind, a_codePlace, a_methodSign, a_methodStart, a_declared, a_cellKind, a_cellValue, a_callReturn, a_pendingLevel, a_pendingPlace, a_pendingMore, a_frameKind, a_frameMore, a_localName) o a k p := by
  have e : (nI cs).toNatClampNeg = cs := nI_clamp (by omega)
  have i : vp_in (nI cs) 761 := vp_in_nI h (by decide)
  refine br_f (nI_ge h (by decide)) ⟨i, nm_r (by rw [e]) ⟨i, nm_r (by rw [e]) ⟨i, nm_r (by rw [e]) ⟨i, nm_r (by rw [e]) (nm_r (nI_1 cs) hp)⟩⟩⟩⟩
set_option maxHeartbeats 200000 in
theorem hx_openFrame {post : SX → Prop} {ft : Nat} {k m : Int32} (h : ft < 141) (hp : post (f_tickLimit, f_tokenCount, f_outCount, f_error, f_errorPlace, f_lastKind, f_lastValue, f_codeSize, f_methodCount, f_methodTokens, f_cellCount, f_activeCalls, f_next, f_ticksLeft, f_state, f_pos, f_expressionStart, f_pendingCount, nI (ft + 1), f_localCount, a_tokenCode, a_tokenValue, a_outKind, a_outValue, a_codeOp, a_codeArg, a_codeKind, a_codePlace, a_methodSign, a_methodStart, a_declared, a_cellKind, a_cellValue, a_callReturn, a_pendingLevel, a_pendingPlace, a_pendingMore, upd a_frameKind (ft + 1) k, upd a_frameMore (ft + 1) m, a_localName)) : wpX_openFrame post (f_tickLimit, f_tokenCount, f_outCount, f_error, f_errorPlace, f_lastKind, f_lastValue, f_codeSize, f_methodCount, f_methodTokens, f_cellCount, f_activeCalls, f_next, f_ticksLeft, f_state, f_pos, f_expressionStart, f_pendingCount, nI ft, f_localCount, a_tokenCode, a_tokenValue, a_outKind, a_outValue, a_codeOp, a_codeArg, a_codeKind, a_codePlace, a_methodSign, a_methodStart, a_declared, a_cellKind, a_cellValue, a_callReturn, a_pendingLevel, a_pendingPlace, a_pendingMore, a_frameKind, a_frameMore, a_localName) k m := by
  have e : (nI (ft + 1)).toNatClampNeg = ft + 1 := nI_clamp (by omega)
  have i : vp_in (nI (ft + 1)) 142 := vp_in_nI (by omega) (by decide)
  refine br_f (by rw [nI_1]; exact nI_ge (b := 142) (by omega) (by decide)) (nm_r (nI_1 ft) ⟨i, nm_r (by rw [e]) ⟨i, nm_r (by rw [e]) hp⟩⟩)
set_option maxHeartbeats 200000 in
theorem hx_closeFrame {post : SX → Prop} {ft : Nat} (h : ft < 141) (hp : post (f_tickLimit, f_tokenCount, f_outCount, f_error, f_errorPlace, f_lastKind, f_lastValue, f_codeSize, f_methodCount, f_methodTokens, f_cellCount, f_activeCalls, f_next, f_ticksLeft, f_state, f_pos, f_expressionStart, f_pendingCount, nI ft, f_localCount, a_tokenCode, a_tokenValue, a_outKind, a_outValue, a_codeOp, a_codeArg, a_codeKind, a_codePlace, a_methodSign, a_methodStart, a_declared, a_cellKind, a_cellValue, a_callReturn, a_pendingLevel, a_pendingPlace, a_pendingMore, a_frameKind, a_frameMore, a_localName)) : wpX_closeFrame post (f_tickLimit, f_tokenCount, f_outCount, f_error, f_errorPlace, f_lastKind, f_lastValue, f_codeSize, f_methodCount, f_methodTokens, f_cellCount, f_activeCalls, f_next, f_ticksLeft, f_state, f_pos, f_expressionStart, f_pendingCount, nI (ft + 1), f_localCount, a_tokenCode, a_tokenValue, a_outKind, a_outValue, a_codeOp, a_codeArg, a_codeKind, a_codePlace, a_methodSign, a_methodStart, a_declared, a_cellKind, a_cellValue, a_callReturn, a_pendingLevel, a_pendingPlace, a_pendingMore, a_frameKind, a_frameMore, a_localName) :=
  br_f (nI_nle (by omega) (by omega)) (nm_r (nI_pred ft) hp)
set_option maxHeartbeats 200000 in
theorem hx_aim {post : SX → Prop} {j : Nat} (h : j < 761) (hp : post (f_tickLimit, f_tokenCount, f_outCount, f_error, f_errorPlace, f_lastKind, f_lastValue, f_codeSize, f_methodCount, f_methodTokens, f_cellCount, f_activeCalls, f_next, f_ticksLeft, f_state, f_pos, f_expressionStart, f_pendingCount, f_frameTop, f_localCount, a_tokenCode, a_tokenValue, a_outKind, a_outValue, a_codeOp, upd a_codeArg j (f_codeSize - nI j), a_codeKind, a_codePlace, a_methodSign, a_methodStart, a_declared, a_cellKind, a_cellValue, a_callReturn, a_pendingLevel, a_pendingPlace, a_pendingMore, a_frameKind, a_frameMore, a_localName)) : wpX_aim post (f_tickLimit, f_tokenCount, f_outCount, f_error, f_errorPlace, f_lastKind, f_lastValue, f_codeSize, f_methodCount, f_methodTokens, f_cellCount, f_activeCalls, f_next, f_ticksLeft, f_state, f_pos, f_expressionStart, f_pendingCount, f_frameTop, f_localCount, a_tokenCode, a_tokenValue, a_outKind, a_outValue, a_codeOp, a_codeArg, a_codeKind, a_codePlace, a_methodSign, a_methodStart, a_declared, a_cellKind, a_cellValue, a_callReturn, a_pendingLevel, a_pendingPlace, a_pendingMore, a_frameKind, a_frameMore, a_localName) (nI j) := by
  have e : (nI j).toNatClampNeg = j := nI_clamp (by omega)
  have i : vp_in (nI j) 761 := vp_in_nI h (by decide)
  exact br_f (nI_pos (by omega)) (br_f (nI_ge h (by decide)) ⟨i, nm_r (by rw [e]) hp⟩)
set_option maxHeartbeats 200000 in
theorem hx_pend {post : SX → Prop} {pc : Nat} {l p m : Int32} (h : pc < 140) (hp : post (f_tickLimit, f_tokenCount, f_outCount, f_error, f_errorPlace, f_lastKind, f_lastValue, f_codeSize, f_methodCount, f_methodTokens, f_cellCount, f_activeCalls, f_next, f_ticksLeft, f_state, f_pos, f_expressionStart, nI (pc + 1), f_frameTop, f_localCount, a_tokenCode, a_tokenValue, a_outKind, a_outValue, a_codeOp, a_codeArg, a_codeKind, a_codePlace, a_methodSign, a_methodStart, a_declared, a_cellKind, a_cellValue, a_callReturn, upd a_pendingLevel pc l, upd a_pendingPlace pc p, upd a_pendingMore pc m, a_frameKind, a_frameMore, a_localName)) : wpX_pend post (f_tickLimit, f_tokenCount, f_outCount, f_error, f_errorPlace, f_lastKind, f_lastValue, f_codeSize, f_methodCount, f_methodTokens, f_cellCount, f_activeCalls, f_next, f_ticksLeft, f_state, f_pos, f_expressionStart, nI pc, f_frameTop, f_localCount, a_tokenCode, a_tokenValue, a_outKind, a_outValue, a_codeOp, a_codeArg, a_codeKind, a_codePlace, a_methodSign, a_methodStart, a_declared, a_cellKind, a_cellValue, a_callReturn, a_pendingLevel, a_pendingPlace, a_pendingMore, a_frameKind, a_frameMore, a_localName) l p m := by
  have e : (nI pc).toNatClampNeg = pc := nI_clamp (by omega)
  have i : vp_in (nI pc) 140 := vp_in_nI h (by decide)
  exact br_f (nI_ge h (by decide)) ⟨i, nm_r (by rw [e]) ⟨i, nm_r (by rw [e]) ⟨i, nm_r (by rw [e]) (nm_r (nI_1 pc) hp)⟩⟩⟩
set_option maxHeartbeats 200000 in
/-- a fault where no expression is open -/
theorem hx_fault0 {post : SX → Prop} {st : Nat} (h : st < 4) (hp : post (f_tickLimit, f_tokenCount, f_outCount, 1, f_pos, f_lastKind, f_lastValue, f_codeSize, f_methodCount, f_methodTokens, f_cellCount, f_activeCalls, f_next, f_ticksLeft, nI st, f_pos, f_expressionStart, f_pendingCount, f_frameTop, f_localCount, a_tokenCode, a_tokenValue, a_outKind, a_outValue, a_codeOp, a_codeArg, a_codeKind, a_codePlace, a_methodSign, a_methodStart, a_declared, a_cellKind, a_cellValue, a_callReturn, a_pendingLevel, a_pendingPlace, a_pendingMore, a_frameKind, a_frameMore, a_localName)) : wpX_fault post (f_tickLimit, f_tokenCount, f_outCount, 0, f_errorPlace, f_lastKind, f_lastValue, f_codeSize, f_methodCount, f_methodTokens, f_cellCount, f_activeCalls, f_next, f_ticksLeft, nI st, f_pos, f_expressionStart, f_pendingCount, f_frameTop, f_localCount, a_tokenCode, a_tokenValue, a_outKind, a_outValue, a_codeOp, a_codeArg, a_codeKind, a_codePlace, a_methodSign, a_methodStart, a_declared, a_cellKind, a_cellValue, a_callReturn, a_pendingLevel, a_pendingPlace, a_pendingMore, a_frameKind, a_frameMore, a_localName) := by
  have h4 : ¬ nI st = 4 := fun e => by
    have := (nI_eq (a := st) (b := 4) (by omega) (by decide)).mp e; omega
  have h5 : ¬ nI st = 5 := fun e => by
    have := (nI_eq (a := st) (b := 5) (by omega) (by decide)).mp e; omega
  exact br_t rfl (br_f h4 (br_f h5 (br_t rfl (br_t rfl hp))))
set_option maxHeartbeats 200000 in
/-- a fault within an expression -/
theorem hx_fault1 {post : SX → Prop} {st pos es : Nat} (h : st = 4 ∨ st = 5) (hq : es ≤ pos) (hq2 : pos < 1000) (hp : post (f_tickLimit, f_tokenCount, f_outCount, 1, nI (if es + 32 < pos then es + 32 else pos), f_lastKind, f_lastValue, f_codeSize, f_methodCount, f_methodTokens, f_cellCount, f_activeCalls, f_next, f_ticksLeft, nI st, nI pos, nI es, f_pendingCount, f_frameTop, f_localCount, a_tokenCode, a_tokenValue, a_outKind, a_outValue, a_codeOp, a_codeArg, a_codeKind, a_codePlace, a_methodSign, a_methodStart, a_declared, a_cellKind, a_cellValue, a_callReturn, a_pendingLevel, a_pendingPlace, a_pendingMore, a_frameKind, a_frameMore, a_localName)) : wpX_fault post (f_tickLimit, f_tokenCount, f_outCount, 0, f_errorPlace, f_lastKind, f_lastValue, f_codeSize, f_methodCount, f_methodTokens, f_cellCount, f_activeCalls, f_next, f_ticksLeft, nI st, nI pos, nI es, f_pendingCount, f_frameTop, f_localCount, a_tokenCode, a_tokenValue, a_outKind, a_outValue, a_codeOp, a_codeArg, a_codeKind, a_codePlace, a_methodSign, a_methodStart, a_declared, a_cellKind, a_cellValue, a_callReturn, a_pendingLevel, a_pendingPlace, a_pendingMore, a_frameKind, a_frameMore, a_localName) := by
  have K : wX_fault_23 post f_tickLimit f_tokenCount f_outCount 0 f_errorPlace f_lastKind f_lastValue f_codeSize f_methodCount f_methodTokens f_cellCount f_activeCalls f_next f_ticksLeft (nI st) (nI pos) (nI es) f_pendingCount f_frameTop f_localCount a_tokenCode a_tokenValue a_outKind a_outValue a_codeOp a_codeArg a_codeKind a_codePlace a_methodSign a_methodStart a_declared a_cellKind a_cellValue a_callReturn a_pendingLevel a_pendingPlace a_pendingMore a_frameKind a_frameMore a_localName := by
    refine br_f (by decide) ?_
    rw [pk_sub hq]
    by_cases q : es + 32 < pos
    · rw [if_pos q] at hp
      refine br_f (nI_ge (a := 32) (by omega) (by omega)) (br_f (by decide) (nm_r ?_ hp))
      exact (nI_add es 32)
    · rw [if_neg q] at hp
      exact br_t (nI_le (b := 32) (by omega) (by decide)) (br_t rfl hp)
  rcases h with rfl | rfl
  · exact br_t rfl (br_t rfl K)
  · exact br_t rfl (br_f (by decide) (br_t rfl K))
set_option maxHeartbeats 200000 in
theorem hx_faultN {post : SX → Prop} (hp : post (f_tickLimit, f_tokenCount, f_outCount, 1, f_errorPlace, f_lastKind, f_lastValue, f_codeSize, f_methodCount, f_methodTokens, f_cellCount, f_activeCalls, f_next, f_ticksLeft, f_state, f_pos, f_expressionStart, f_pendingCount, f_frameTop, f_localCount, a_tokenCode, a_tokenValue, a_outKind, a_outValue, a_codeOp, a_codeArg, a_codeKind, a_codePlace, a_methodSign, a_methodStart, a_declared, a_cellKind, a_cellValue, a_callReturn, a_pendingLevel, a_pendingPlace, a_pendingMore, a_frameKind, a_frameMore, a_localName)) : wpX_fault post (f_tickLimit, f_tokenCount, f_outCount, 1, f_errorPlace, f_lastKind, f_lastValue, f_codeSize, f_methodCount, f_methodTokens, f_cellCount, f_activeCalls, f_next, f_ticksLeft, f_state, f_pos, f_expressionStart, f_pendingCount, f_frameTop, f_localCount, a_tokenCode, a_tokenValue, a_outKind, a_outValue, a_codeOp, a_codeArg, a_codeKind, a_codePlace, a_methodSign, a_methodStart, a_declared, a_cellKind, a_cellValue, a_callReturn, a_pendingLevel, a_pendingPlace, a_pendingMore, a_frameKind, a_frameMore, a_localName) := br_f (by decide) hp
set_option maxHeartbeats 200000 in
theorem hx_expect {post : SX → Prop} {p w : Nat} (h : ls_tok T V n a_tokenCode a_tokenValue) (hp : p < 1000) (hw : ls_xc (T p) = w) (g : post (f_tickLimit, nI n, f_outCount, f_error, f_errorPlace, f_lastKind, f_lastValue, f_codeSize, f_methodCount, f_methodTokens, f_cellCount, f_activeCalls, f_next, f_ticksLeft, f_state, nI (p + 1), f_expressionStart, f_pendingCount, f_frameTop, f_localCount, a_tokenCode, a_tokenValue, a_outKind, a_outValue, a_codeOp, a_codeArg, a_codeKind, a_codePlace, a_methodSign, a_methodStart, a_declared, a_cellKind, a_cellValue, a_callReturn, a_pendingLevel, a_pendingPlace, a_pendingMore, a_frameKind, a_frameMore, a_localName)) : wpX_expect post (f_tickLimit, nI n, f_outCount, f_error, f_errorPlace, f_lastKind, f_lastValue, f_codeSize, f_methodCount, f_methodTokens, f_cellCount, f_activeCalls, f_next, f_ticksLeft, f_state, nI p, f_expressionStart, f_pendingCount, f_frameTop, f_localCount, a_tokenCode, a_tokenValue, a_outKind, a_outValue, a_codeOp, a_codeArg, a_codeKind, a_codePlace, a_methodSign, a_methodStart, a_declared, a_cellKind, a_cellValue, a_callReturn, a_pendingLevel, a_pendingPlace, a_pendingMore, a_frameKind, a_frameMore, a_localName) (nI w) := by
  unfold wpX_expect
  refine hx_wordAt h hp ?_
  rw [hw]
  exact br_t rfl (nm_r (nI_1 p) g)
set_option maxHeartbeats 200000 in
theorem ls_xc_lt (t : Nat) : ls_xc t < 58 := by unfold ls_xc; (repeat' split) <;> omega
set_option maxHeartbeats 200000 in
theorem ls_xc_eq {t w : Nat} (h : w < 54) : ls_xc t = w ↔ t = w := by
  unfold ls_xc
  (repeat' split) <;> omega
set_option maxHeartbeats 200000 in
theorem ls_xc_nam {t : Nat} (ht : t ≤ 72) : ls_xc t = 54 ↔ ls_nam t := by
  unfold ls_xc ls_nam
  (repeat' split) <;> omega
set_option maxHeartbeats 200000 in
theorem hx_expectF {post : SX → Prop} {p w st : Nat} (h : ls_tok T V n a_tokenCode a_tokenValue) (hp : p < 1000) (hw : w < 54) (hne : T p ≠ w) (hs : st < 4) (g : post (f_tickLimit, nI n, f_outCount, 1, nI p, f_lastKind, f_lastValue, f_codeSize, f_methodCount, f_methodTokens, f_cellCount, f_activeCalls, f_next, f_ticksLeft, nI st, nI p, f_expressionStart, f_pendingCount, f_frameTop, f_localCount, a_tokenCode, a_tokenValue, a_outKind, a_outValue, a_codeOp, a_codeArg, a_codeKind, a_codePlace, a_methodSign, a_methodStart, a_declared, a_cellKind, a_cellValue, a_callReturn, a_pendingLevel, a_pendingPlace, a_pendingMore, a_frameKind, a_frameMore, a_localName)) : wpX_expect post (f_tickLimit, nI n, f_outCount, 0, f_errorPlace, f_lastKind, f_lastValue, f_codeSize, f_methodCount, f_methodTokens, f_cellCount, f_activeCalls, f_next, f_ticksLeft, nI st, nI p, f_expressionStart, f_pendingCount, f_frameTop, f_localCount, a_tokenCode, a_tokenValue, a_outKind, a_outValue, a_codeOp, a_codeArg, a_codeKind, a_codePlace, a_methodSign, a_methodStart, a_declared, a_cellKind, a_cellValue, a_callReturn, a_pendingLevel, a_pendingPlace, a_pendingMore, a_frameKind, a_frameMore, a_localName) (nI w) := by
  unfold wpX_expect
  refine hx_wordAt h hp ?_
  refine br_f (fun e => hne ((ls_xc_eq hw).mp ((nI_eq (by have := ls_xc_lt (T p); omega) (by omega)).mp e))) ?_
  exact hx_fault0 hs g
set_option maxHeartbeats 200000 in
theorem hx_expectG {post : SX → Prop} {p w st es : Nat} (h : ls_tok T V n a_tokenCode a_tokenValue) (hp : p < 1000) (hw : w < 54) (hne : T p ≠ w) (hs : st = 4 ∨ st = 5) (hq : es ≤ p) (g : post (f_tickLimit, nI n, f_outCount, 1, nI (if es + 32 < p then es + 32 else p), f_lastKind, f_lastValue, f_codeSize, f_methodCount, f_methodTokens, f_cellCount, f_activeCalls, f_next, f_ticksLeft, nI st, nI p, nI es, f_pendingCount, f_frameTop, f_localCount, a_tokenCode, a_tokenValue, a_outKind, a_outValue, a_codeOp, a_codeArg, a_codeKind, a_codePlace, a_methodSign, a_methodStart, a_declared, a_cellKind, a_cellValue, a_callReturn, a_pendingLevel, a_pendingPlace, a_pendingMore, a_frameKind, a_frameMore, a_localName)) : wpX_expect post (f_tickLimit, nI n, f_outCount, 0, f_errorPlace, f_lastKind, f_lastValue, f_codeSize, f_methodCount, f_methodTokens, f_cellCount, f_activeCalls, f_next, f_ticksLeft, nI st, nI p, nI es, f_pendingCount, f_frameTop, f_localCount, a_tokenCode, a_tokenValue, a_outKind, a_outValue, a_codeOp, a_codeArg, a_codeKind, a_codePlace, a_methodSign, a_methodStart, a_declared, a_cellKind, a_cellValue, a_callReturn, a_pendingLevel, a_pendingPlace, a_pendingMore, a_frameKind, a_frameMore, a_localName) (nI w) := by
  unfold wpX_expect
  refine hx_wordAt h hp ?_
  refine br_f (fun e => hne ((ls_xc_eq hw).mp ((nI_eq (by have := ls_xc_lt (T p); omega) (by omega)).mp e))) ?_
  exact hx_fault1 hs hq hp g
end
