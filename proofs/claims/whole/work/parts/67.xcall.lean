/-! The component: calls -/
/-- whether method m takes the call -/
def ls_tak (nf cf : Nat → Nat) (pf : Nat → Nat → Nat) (nm c : Nat) (ak : Nat → Nat) (m : Nat) : Prop := nf m = nm ∧ cf m = c ∧ ∀ i, i < c → ls_fit (ak i) (pf m i) = true
def ls_asp (pf : Nat → Nat → Nat) (m o : Nat) : Prop := ∀ i, i < 3 → ls_fit (pf m i) (pf o i) = true
noncomputable def ls_tkb (nf cf : Nat → Nat) (pf : Nat → Nat → Nat) (nm c : Nat) (ak : Nat → Nat) (m : Nat) : Bool := @decide (ls_tak nf cf pf nm c ak m) (Classical.propDecidable _)
noncomputable def ls_asb (pf : Nat → Nat → Nat) (m o : Nat) : Bool := @decide (ls_asp pf m o) (Classical.propDecidable _)
/-- the methods' signs -/
def ls_sgs (mc : Nat) (sg : Nat → Int32) (nf cf : Nat → Nat) (pf : Nat → Nat → Nat) : Prop := mc ≤ 8 ∧ ∀ m, m < mc → sg m = nI (ls_sg (nf m) (cf m) (pf m)) ∧ nf m < 16 ∧ cf m ≤ 3 ∧ (∀ i, pf m i ≤ 5) ∧ ∀ i, cf m ≤ i → pf m i = 0
section
variable {f_tickLimit f_tokenCount f_outCount f_error f_errorPlace f_lastKind f_codeSize f_methodCount f_methodTokens f_cellCount f_activeCalls f_next f_ticksLeft f_state f_pos f_expressionStart f_pendingCount f_frameTop f_localCount : Int32}
variable {f_lastValue : Int64}
variable {a_tokenCode a_tokenValue a_outKind a_codeOp a_codeArg a_codeKind a_codePlace a_methodSign a_methodStart a_declared a_cellKind a_callReturn a_pendingLevel a_pendingPlace a_pendingMore a_frameKind a_frameMore a_localName : Nat → Int32}
variable {a_outValue a_cellValue : Nat → Int64}
variable {q : Int32 → Prop} {post : SX → Prop} {nf cf : Nat → Nat} {pf : Nat → Nat → Nat} {nm c : Nat} {ak : Nat → Nat} {mc m o fs : Nat}
set_option maxHeartbeats 200000 in
theorem ls_tkb_t {m : Nat} : ls_tkb nf cf pf nm c ak m = true ↔ ls_tak nf cf pf nm c ak m := by unfold ls_tkb; simp
set_option maxHeartbeats 200000 in
theorem ls_asb_t {m o : Nat} : ls_asb pf m o = true ↔ ls_asp pf m o := by unfold ls_asb; simp
set_option maxHeartbeats 200000 in
theorem ls_sg_lt' {n c : Nat} {P : Nat → Nat} (hn : n < 16) (hc : c ≤ 3) (hP : ∀ i, P i ≤ 5) : ls_sg n c P < 30000 := by
  have := hP 0; have := hP 1; have := hP 2
  unfold ls_sg; omega
set_option maxHeartbeats 200000 in
theorem hx_parK {i : Nat} (hs : ls_sgs mc a_methodSign nf cf pf) (hm : m < mc) (hi : i < 3) (g : q (nI (pf m i))) : wpX_parameterKind q (f_tickLimit, f_tokenCount, f_outCount, f_error, f_errorPlace, f_lastKind, f_lastValue, f_codeSize, f_methodCount, f_methodTokens, f_cellCount, f_activeCalls, f_next, f_ticksLeft, f_state, f_pos, f_expressionStart, f_pendingCount, f_frameTop, f_localCount, a_tokenCode, a_tokenValue, a_outKind, a_outValue, a_codeOp, a_codeArg, a_codeKind, a_codePlace, a_methodSign, a_methodStart, a_declared, a_cellKind, a_cellValue, a_callReturn, a_pendingLevel, a_pendingPlace, a_pendingMore, a_frameKind, a_frameMore, a_localName) (nI m) (nI i) := by
  obtain ⟨h8, hh⟩ := hs
  obtain ⟨e1, e2, e3, e4, e5⟩ := hh m hm
  have p0 := e4 0; have p1 := e4 1; have p2 := e4 2
  have lt := ls_sg_lt' e2 e3 e4
  unfold wpX_parameterKind
  dsimp only
  refine ⟨vp_in_nI (by omega) (by decide), ?_⟩
  rw [nI_clamp (by omega), e1]
  rcases (show i = 0 ∨ i = 1 ∨ i = 2 by omega) with rfl | rfl | rfl
  · rw [pk_shrN (by omega) _ 6 (by decide), pk_andN (by omega) 3 (by decide), show ls_sg (nf m) (cf m) (pf m) / 2 ^ 6 % 2 ^ 3 = pf m 0 by unfold ls_sg; omega]
    exact g
  · rw [pk_shrN (by omega) _ 9 (by decide), pk_andN (by omega) 3 (by decide), show ls_sg (nf m) (cf m) (pf m) / 2 ^ 9 % 2 ^ 3 = pf m 1 by unfold ls_sg; omega]
    exact g
  · rw [pk_shrN (by omega) _ 12 (by decide), pk_andN (by omega) 3 (by decide), show ls_sg (nf m) (cf m) (pf m) / 2 ^ 12 % 2 ^ 3 = pf m 2 by unfold ls_sg; omega]
    exact g
set_option maxHeartbeats 200000 in
theorem hx_accepts_l (hs : ls_sgs mc a_methodSign nf cf pf) (hm : m < mc) (hc : c ≤ 3) (hf : fs + c ≤ 376) (hk : ∀ i, i < c → a_cellKind (fs + i) = nI (ak i) ∧ ak i ≤ 4) : ∀ (j i fu : Nat), i + j = c → j < fu → ((∀ i', i ≤ i' → i' < c → ls_fit (ak i') (pf m i') = true) → q 1) → ((∃ i', i ≤ i' ∧ i' < c ∧ ls_fit (ak i') (pf m i') = false) → q 0) → wX_accepts_28 q (nI m) (nI fs) (nI c) f_tickLimit f_tokenCount f_outCount f_error f_errorPlace f_lastKind f_lastValue f_codeSize f_methodCount f_methodTokens f_cellCount f_activeCalls f_next f_ticksLeft f_state f_pos f_expressionStart f_pendingCount f_frameTop f_localCount a_tokenCode a_tokenValue a_outKind a_outValue a_codeOp a_codeArg a_codeKind a_codePlace a_methodSign a_methodStart a_declared a_cellKind a_cellValue a_callReturn a_pendingLevel a_pendingPlace a_pendingMore a_frameKind a_frameMore a_localName fu 1 (nI i) := by
  intro j
  induction j with
  | zero =>
    intro i fu e hf' h1 _
    obtain ⟨fu', rfl⟩ : ∃ fu', fu = fu' + 1 := ⟨fu - 1, by omega⟩
    unfold wX_accepts_28
    exact br_t (nI_le (by omega) (by omega)) ⟨rfl, h1 (fun i' a b => by omega)⟩
  | succ j ih =>
    intro i fu e hf' h1 h0
    obtain ⟨fu', rfl⟩ : ∃ fu', fu = fu' + 1 := ⟨fu - 1, by omega⟩
    obtain ⟨k1, k2⟩ := hk i (by omega)
    have pm := (hs.2 m hm).2.2.2.1 i
    unfold wX_accepts_28
    refine br_f (nI_ge (by omega) (by omega)) (br_f (by decide) (hx_parK hs hm (by omega) (nm_r (nI_add fs i) (br_f (nI_pos (by omega)) (br_f (nI_ge (b := 376) (by omega) (by decide)) ⟨vp_in_nI (by omega) (by decide), ?_⟩)))))
    rw [nI_clamp (by omega), k1]
    refine hx_fits (by omega) (by omega) (fun ft => br_f (by decide) (nm_r (nI_1 i) ?_)) (fun ft => br_t rfl (nm_r (nI_1 i) ?_))
    · refine ih (i + 1) fu' (by omega) (by omega) (fun hh => h1 (fun i' a b => ?_)) (fun ⟨i', a, b, d⟩ => h0 ⟨i', by omega, b, d⟩)
      rcases Nat.eq_or_lt_of_le a with g | g
      · rw [← g]; exact ft
      · exact hh i' (by omega) b
    · have h0' := h0 ⟨i, Nat.le_refl _, by omega, ft⟩
      cases fu' with
      | zero => omega
      | succ f =>
        unfold wX_accepts_28
        refine br_c (fun _ => ⟨rfl, h0'⟩) (fun _ => br_t rfl ⟨rfl, h0'⟩)
set_option maxHeartbeats 200000 in
theorem hx_accepts (hs : ls_sgs mc a_methodSign nf cf pf) (hm : m < mc) (hn : nm < 16) (hc : c ≤ 3) (hf : fs + c ≤ 376) (hk : ∀ i, i < c → a_cellKind (fs + i) = nI (ak i) ∧ ak i ≤ 4) (h1 : ls_tak nf cf pf nm c ak m → q 1) (h0 : ¬ ls_tak nf cf pf nm c ak m → q 0) : wpX_accepts q (f_tickLimit, f_tokenCount, f_outCount, f_error, f_errorPlace, f_lastKind, f_lastValue, f_codeSize, f_methodCount, f_methodTokens, f_cellCount, f_activeCalls, f_next, f_ticksLeft, f_state, f_pos, f_expressionStart, f_pendingCount, f_frameTop, f_localCount, a_tokenCode, a_tokenValue, a_outKind, a_outValue, a_codeOp, a_codeArg, a_codeKind, a_codePlace, a_methodSign, a_methodStart, a_declared, a_cellKind, a_cellValue, a_callReturn, a_pendingLevel, a_pendingPlace, a_pendingMore, a_frameKind, a_frameMore, a_localName) (nI m) (nI (nm + 16 * c)) (nI fs) := by
  have hs' := hs
  obtain ⟨h8, hh⟩ := hs
  obtain ⟨e1, e2, e3, e4, e5⟩ := hh m hm
  have lt := ls_sg_lt' e2 e3 e4
  unfold wpX_accepts
  dsimp only
  refine ⟨vp_in_nI (by omega) (by decide), ?_⟩
  rw [nI_clamp (by omega), e1, pk_andN (by omega) 6 (by decide), show ls_sg (nf m) (cf m) (pf m) % 2 ^ 6 = nf m + 16 * cf m by unfold ls_sg; omega, pk_shrN (by omega) _ 4 (by decide), show (nm + 16 * c) / 2 ^ 4 = c by omega]
  by_cases e : nf m + 16 * cf m = nm + 16 * c
  · refine br_t (by rw [e]) (nm_e ⟨c + 1, hx_accepts_l hs' hm hc hf hk c 0 (c + 1) (by omega) (by omega) (fun g => h1 ⟨by omega, by omega, fun i hi => g i (by omega) hi⟩) (fun ⟨i', _, b, d⟩ => h0 (fun t => ?_))⟩)
    rw [t.2.2 i' b] at d
    cases d
  · refine br_f (fun g => e ((nI_eq (by omega) (by omega)).mp g)) (nm_e ⟨c + 1, ?_⟩)
    have h0' := h0 (fun t => e (by rw [t.1, t.2.1]))
    unfold wX_accepts_28
    exact br_c (fun _ => ⟨rfl, h0'⟩) (fun _ => br_t rfl ⟨rfl, h0'⟩)
set_option maxHeartbeats 200000 in
theorem hx_asp_l (hs : ls_sgs mc a_methodSign nf cf pf) (hm : m < mc) (ho : o < mc) : ∀ (j i fu : Nat), i + j = 3 → j < fu → ((∀ i', i ≤ i' → i' < 3 → ls_fit (pf m i') (pf o i') = true) → q 1) → ((∃ i', i ≤ i' ∧ i' < 3 ∧ ls_fit (pf m i') (pf o i') = false) → q 0) → wX_isAsSpecial_5 q (nI m) (nI o) f_tickLimit f_tokenCount f_outCount f_error f_errorPlace f_lastKind f_lastValue f_codeSize f_methodCount f_methodTokens f_cellCount f_activeCalls f_next f_ticksLeft f_state f_pos f_expressionStart f_pendingCount f_frameTop f_localCount a_tokenCode a_tokenValue a_outKind a_outValue a_codeOp a_codeArg a_codeKind a_codePlace a_methodSign a_methodStart a_declared a_cellKind a_cellValue a_callReturn a_pendingLevel a_pendingPlace a_pendingMore a_frameKind a_frameMore a_localName fu 1 (nI i) := by
  intro j
  induction j with
  | zero =>
    intro i fu e hf' h1 _
    obtain ⟨fu', rfl⟩ : ∃ fu', fu = fu' + 1 := ⟨fu - 1, by omega⟩
    unfold wX_isAsSpecial_5
    exact br_t (nI_le (a := 3) (by omega) (by omega)) ⟨rfl, h1 (fun i' a b => by omega)⟩
  | succ j ih =>
    intro i fu e hf' h1 h0
    obtain ⟨fu', rfl⟩ : ∃ fu', fu = fu' + 1 := ⟨fu - 1, by omega⟩
    have pm := (hs.2 m hm).2.2.2.1 i
    have po := (hs.2 o ho).2.2.2.1 i
    unfold wX_isAsSpecial_5
    refine br_f (nI_ge (b := 3) (by omega) (by omega)) (br_f (by decide) (hx_parK hs hm (by omega) (hx_parK hs ho (by omega) (hx_fits (by omega) (by omega) (fun ft => nm_r (nI_1 i) ?_) (fun ft => nm_r (nI_1 i) ?_)))))
    · refine ih (i + 1) fu' (by omega) (by omega) (fun hh => h1 (fun i' a b => ?_)) (fun ⟨i', a, b, d⟩ => h0 ⟨i', by omega, b, d⟩)
      rcases Nat.eq_or_lt_of_le a with g | g
      · rw [← g]; exact ft
      · exact hh i' (by omega) b
    · have h0' := h0 ⟨i, Nat.le_refl _, by omega, ft⟩
      cases fu' with
      | zero => omega
      | succ f =>
        unfold wX_isAsSpecial_5
        refine br_c (fun _ => ⟨rfl, h0'⟩) (fun _ => br_t rfl ⟨rfl, h0'⟩)
set_option maxHeartbeats 200000 in
theorem hx_asp (hs : ls_sgs mc a_methodSign nf cf pf) (hm : m < mc) (ho : o < mc) (h1 : ls_asp pf m o → q 1) (h0 : ¬ ls_asp pf m o → q 0) : wpX_isAsSpecial q (f_tickLimit, f_tokenCount, f_outCount, f_error, f_errorPlace, f_lastKind, f_lastValue, f_codeSize, f_methodCount, f_methodTokens, f_cellCount, f_activeCalls, f_next, f_ticksLeft, f_state, f_pos, f_expressionStart, f_pendingCount, f_frameTop, f_localCount, a_tokenCode, a_tokenValue, a_outKind, a_outValue, a_codeOp, a_codeArg, a_codeKind, a_codePlace, a_methodSign, a_methodStart, a_declared, a_cellKind, a_cellValue, a_callReturn, a_pendingLevel, a_pendingPlace, a_pendingMore, a_frameKind, a_frameMore, a_localName) (nI m) (nI o) := by
  unfold wpX_isAsSpecial
  dsimp only
  refine ⟨4, hx_asp_l hs hm ho 3 0 4 rfl (by decide) (fun g => h1 (fun i hi => g i (by omega) hi)) (fun ⟨i', _, b, d⟩ => h0 (fun t => ?_))⟩
  rw [t i' b] at d
  cases d
/-- the best so far, as the component keeps it -/
def ls_on (b : Option Nat) : Int32 := match b with
  | none => -1
  | some b => nI b
set_option maxHeartbeats 200000 in
theorem hx_most (hs : ls_sgs mc a_methodSign nf cf pf) (hn : nm < 16) (hc : c ≤ 3) (hf : fs + c ≤ 376) (hk : ∀ i, i < c → a_cellKind (fs + i) = nI (ak i) ∧ ak i ≤ 4) (g : q (ls_on (ls_bx (ls_tkb nf cf pf nm c ak) (ls_asb pf) mc))) : wpX_mostSpecial q (f_tickLimit, f_tokenCount, f_outCount, f_error, f_errorPlace, f_lastKind, f_lastValue, f_codeSize, nI mc, f_methodTokens, f_cellCount, f_activeCalls, f_next, f_ticksLeft, f_state, f_pos, f_expressionStart, f_pendingCount, f_frameTop, f_localCount, a_tokenCode, a_tokenValue, a_outKind, a_outValue, a_codeOp, a_codeArg, a_codeKind, a_codePlace, a_methodSign, a_methodStart, a_declared, a_cellKind, a_cellValue, a_callReturn, a_pendingLevel, a_pendingPlace, a_pendingMore, a_frameKind, a_frameMore, a_localName) (nI (nm + 16 * c)) (nI fs) := by
  unfold wpX_mostSpecial
  dsimp only
  have h8 := hs.1
  have K : ∀ (j i fu : Nat), i + j = mc → j < fu → wX_mostSpecial_5 q (nI (nm + 16 * c)) (nI fs) f_tickLimit f_tokenCount f_outCount f_error f_errorPlace f_lastKind f_lastValue f_codeSize (nI mc) f_methodTokens f_cellCount f_activeCalls f_next f_ticksLeft f_state f_pos f_expressionStart f_pendingCount f_frameTop f_localCount a_tokenCode a_tokenValue a_outKind a_outValue a_codeOp a_codeArg a_codeKind a_codePlace a_methodSign a_methodStart a_declared a_cellKind a_cellValue a_callReturn a_pendingLevel a_pendingPlace a_pendingMore a_frameKind a_frameMore a_localName fu (ls_on (ls_bx (ls_tkb nf cf pf nm c ak) (ls_asb pf) i)) (nI i) := by
    intro j
    induction j with
    | zero =>
      intro i fu e hf'
      obtain ⟨fu', rfl⟩ : ∃ fu', fu = fu' + 1 := ⟨fu - 1, by omega⟩
      unfold wX_mostSpecial_5
      have : i = mc := by omega
      subst this
      exact br_t (nI_le (by omega) (by omega)) g
    | succ j ih =>
      intro i fu e hf'
      obtain ⟨fu', rfl⟩ : ∃ fu', fu = fu' + 1 := ⟨fu - 1, by omega⟩
      have IH := ih (i + 1) fu' (by omega) (by omega)
      unfold wX_mostSpecial_5
      refine br_f (nI_ge (by omega) (by omega)) (hx_accepts hs (by omega) hn hc hf hk (fun t => br_f (by decide) ?_) (fun t => br_t rfl (nm_r (nI_1 i) ?_)))
      · have tb := ls_tkb_t.mpr t
        cases hb : ls_bx (ls_tkb nf cf pf nm c ak) (ls_asb pf) i with
        | none =>
          refine br_t rfl (nm_r (nI_1 i) ?_)
          have E : ls_bx (ls_tkb nf cf pf nm c ak) (ls_asb pf) (i + 1) = some i := by
            show (match ls_bx _ _ i with | none => _ | some b => _) = _
            rw [hb]
            dsimp only
            rw [if_pos tb]
          rw [E] at IH
          exact IH
        | some b =>
          have bl := ls_bx_some hb
          refine br_f (ls_nm1 (by omega)) (hx_asp hs (by omega) (by omega) (fun t2 => br_f (by decide) (nm_r (nI_1 i) ?_)) (fun t2 => br_t rfl (nm_r (nI_1 i) ?_)))
          · have E : ls_bx (ls_tkb nf cf pf nm c ak) (ls_asb pf) (i + 1) = some i := by
              show (match ls_bx _ _ i with | none => _ | some b => _) = _
              rw [hb]
              dsimp only
              rw [if_pos (by rw [tb, ls_asb_t.mpr t2]; rfl)]
            rw [E] at IH
            exact IH
          · have E : ls_bx (ls_tkb nf cf pf nm c ak) (ls_asb pf) (i + 1) = some b := by
              show (match ls_bx _ _ i with | none => _ | some b => _) = _
              rw [hb]
              dsimp only
              rw [if_neg (by rw [tb, Bool.true_and]; exact fun h => t2 (ls_asb_t.mp h))]
            rw [E] at IH
            exact IH
      · have tb : ls_tkb nf cf pf nm c ak i = false := Bool.eq_false_iff.mpr (fun h => t (ls_tkb_t.mp h))
        have E : ls_bx (ls_tkb nf cf pf nm c ak) (ls_asb pf) (i + 1) = ls_bx (ls_tkb nf cf pf nm c ak) (ls_asb pf) i := by
          show (match ls_bx _ _ i with | none => _ | some b => _) = _
          cases hb : ls_bx (ls_tkb nf cf pf nm c ak) (ls_asb pf) i with
          | none => dsimp only; rw [tb]; rfl
          | some b => dsimp only; rw [tb]; rfl
        rw [E] at IH
        exact IH
  exact ⟨mc + 1, K mc 0 (mc + 1) (by omega) (by omega)⟩
set_option maxHeartbeats 200000 in
theorem hx_isMost (hs : ls_sgs mc a_methodSign nf cf pf) (hm : m < mc) (hn : nm < 16) (hc : c ≤ 3) (hf : fs + c ≤ 376) (hk : ∀ i, i < c → a_cellKind (fs + i) = nI (ak i) ∧ ak i ≤ 4) (h1 : ls_mo (ls_tkb nf cf pf nm c ak) (ls_asb pf) mc m → q 1) (h0 : ¬ ls_mo (ls_tkb nf cf pf nm c ak) (ls_asb pf) mc m → q 0) : wpX_isMostSpecial q (f_tickLimit, f_tokenCount, f_outCount, f_error, f_errorPlace, f_lastKind, f_lastValue, f_codeSize, nI mc, f_methodTokens, f_cellCount, f_activeCalls, f_next, f_ticksLeft, f_state, f_pos, f_expressionStart, f_pendingCount, f_frameTop, f_localCount, a_tokenCode, a_tokenValue, a_outKind, a_outValue, a_codeOp, a_codeArg, a_codeKind, a_codePlace, a_methodSign, a_methodStart, a_declared, a_cellKind, a_cellValue, a_callReturn, a_pendingLevel, a_pendingPlace, a_pendingMore, a_frameKind, a_frameMore, a_localName) (nI m) (nI (nm + 16 * c)) (nI fs) := by
  unfold wpX_isMostSpecial
  dsimp only
  have h8 := hs.1
  have K : ∀ (j i fu : Nat), i + j = mc → j < fu → (∀ o, o < i → ls_tkb nf cf pf nm c ak o = true → ls_asb pf m o = true) → wX_isMostSpecial_6 q (nI m) (nI (nm + 16 * c)) (nI fs) f_tickLimit f_tokenCount f_outCount f_error f_errorPlace f_lastKind f_lastValue f_codeSize (nI mc) f_methodTokens f_cellCount f_activeCalls f_next f_ticksLeft f_state f_pos f_expressionStart f_pendingCount f_frameTop f_localCount a_tokenCode a_tokenValue a_outKind a_outValue a_codeOp a_codeArg a_codeKind a_codePlace a_methodSign a_methodStart a_declared a_cellKind a_cellValue a_callReturn a_pendingLevel a_pendingPlace a_pendingMore a_frameKind a_frameMore a_localName fu 1 (nI i) := by
    intro j
    induction j with
    | zero =>
      intro i fu e hf' hh
      obtain ⟨fu', rfl⟩ : ∃ fu', fu = fu' + 1 := ⟨fu - 1, by omega⟩
      unfold wX_isMostSpecial_6
      have : i = mc := by omega
      subst this
      exact br_t (nI_le (by omega) (by omega)) ⟨rfl, h1 hh⟩
    | succ j ih =>
      intro i fu e hf' hh
      obtain ⟨fu', rfl⟩ : ∃ fu', fu = fu' + 1 := ⟨fu - 1, by omega⟩
      unfold wX_isMostSpecial_6
      refine br_f (nI_ge (by omega) (by omega)) (br_f (by decide) (hx_accepts hs (by omega) hn hc hf hk (fun t => br_f (by decide) (hx_asp hs hm (by omega) (fun t2 => br_f (by decide) (nm_r (nI_1 i) ?_)) (fun t2 => br_t rfl (nm_r (nI_1 i) ?_)))) (fun t => br_t rfl (nm_r (nI_1 i) ?_))))
      · refine ih (i + 1) fu' (by omega) (by omega) (fun o ho to => ?_)
        rcases Nat.lt_or_ge o i with g | g
        · exact hh o g to
        · have : o = i := by omega
          subst this
          exact ls_asb_t.mpr t2
      · have h0' := h0 (fun mo => t2 (ls_asb_t.mp (mo i (by omega) (ls_tkb_t.mpr t))))
        cases fu' with
        | zero => omega
        | succ f =>
          unfold wX_isMostSpecial_6
          refine br_c (fun _ => ⟨rfl, h0'⟩) (fun _ => br_t rfl ⟨rfl, h0'⟩)
      · refine ih (i + 1) fu' (by omega) (by omega) (fun o ho to => ?_)
        rcases Nat.lt_or_ge o i with g | g
        · exact hh o g to
        · have : o = i := by omega
          subst this
          exact absurd (ls_tkb_t.mp to) t
  exact ⟨mc + 1, K mc 0 (mc + 1) (by omega) (by omega) (fun o ho => by omega)⟩
/-- what entering does to the cells -/
def ls_ent1 (pf : Nat → Nat) (ak : Nat → Nat) (i : Nat) : Nat := if pf i = 5 then ak i else pf i
set_option maxHeartbeats 200000 in
theorem hx_enter {ac : Nat} {v : Nat → Int64} (hs : ls_sgs mc a_methodSign nf cf pf) (hm : m < mc) (hc : c ≤ 3) (hac : ac < 8) (hf : 88 ≤ fs ∧ fs + c ≤ 376) (hk : ∀ i, i < c → a_cellKind (fs + i) = nI (ak i) ∧ ak i ≤ 4 ∧ a_cellValue (fs + i) = v i)
    (g : ∀ (dc ck : Nat → Int32) (cv : Nat → Int64), (∀ j, (j < 24 + 8 * ac ∨ 24 + 8 * ac + c ≤ j) → dc j = a_declared j ∧ ck j = a_cellKind j ∧ cv j = a_cellValue j) → (∀ i, i < c → dc (24 + 8 * ac + i) = nI (pf m i) ∧ ck (24 + 8 * ac + i) = nI (ls_ent1 (pf m) ak i) ∧ cv (24 + 8 * ac + i) = v i) → post (f_tickLimit, f_tokenCount, f_outCount, f_error, f_errorPlace, f_lastKind, f_lastValue, f_codeSize, f_methodCount, f_methodTokens, nI fs, nI (ac + 1), a_methodStart m, f_ticksLeft, f_state, f_pos, f_expressionStart, f_pendingCount, f_frameTop, f_localCount, a_tokenCode, a_tokenValue, a_outKind, a_outValue, a_codeOp, a_codeArg, a_codeKind, a_codePlace, a_methodSign, a_methodStart, dc, ck, cv, upd a_callReturn ac f_next, a_pendingLevel, a_pendingPlace, a_pendingMore, a_frameKind, a_frameMore, a_localName)) : wpX_enter post (f_tickLimit, f_tokenCount, f_outCount, f_error, f_errorPlace, f_lastKind, f_lastValue, f_codeSize, f_methodCount, f_methodTokens, f_cellCount, nI ac, f_next, f_ticksLeft, f_state, f_pos, f_expressionStart, f_pendingCount, f_frameTop, f_localCount, a_tokenCode, a_tokenValue, a_outKind, a_outValue, a_codeOp, a_codeArg, a_codeKind, a_codePlace, a_methodSign, a_methodStart, a_declared, a_cellKind, a_cellValue, a_callReturn, a_pendingLevel, a_pendingPlace, a_pendingMore, a_frameKind, a_frameMore, a_localName) (nI m) (nI fs) (nI c) := by
  have h8 := hs.1
  unfold wpX_enter
  dsimp only
  rw [nI_clamp (by omega), nI_1]
  refine ⟨vp_in_nI hac (by decide), nm_e (nm_e ⟨c + 1, ?_⟩)⟩
  have K : ∀ (j i fu : Nat) (cc : Int32) (dc ck : Nat → Int32) (cv : Nat → Int64), i + j = c → j < fu → (∀ x, (x < 24 + 8 * ac ∨ 24 + 8 * ac + i ≤ x) → dc x = a_declared x ∧ ck x = a_cellKind x ∧ cv x = a_cellValue x) → (∀ x, x < i → dc (24 + 8 * ac + x) = nI (pf m x) ∧ ck (24 + 8 * ac + x) = nI (ls_ent1 (pf m) ak x) ∧ cv (24 + 8 * ac + x) = v x) → wX_enter_26 post (nI m) (nI fs) (nI c) fu (nI i) f_tickLimit f_tokenCount f_outCount f_error f_errorPlace f_lastKind f_lastValue f_codeSize f_methodCount f_methodTokens cc (nI (ac + 1)) f_next f_ticksLeft f_state f_pos f_expressionStart f_pendingCount f_frameTop f_localCount a_tokenCode a_tokenValue a_outKind a_outValue a_codeOp a_codeArg a_codeKind a_codePlace a_methodSign a_methodStart dc ck cv (upd a_callReturn ac f_next) a_pendingLevel a_pendingPlace a_pendingMore a_frameKind a_frameMore a_localName := by
    intro j
    induction j with
    | zero =>
      intro i fu cc dc ck cv e hf' h1 h2
      obtain ⟨fu', rfl⟩ : ∃ fu', fu = fu' + 1 := ⟨fu - 1, by omega⟩
      have : i = c := by omega
      subst this
      unfold wX_enter_26
      rw [nI_clamp (by omega)]
      exact br_t (nI_le (by omega) (by omega)) ⟨vp_in_nI (by omega) (by decide), nm_e (g dc ck cv h1 h2)⟩
    | succ j ih =>
      intro i fu cc dc ck cv e hf' h1 h2
      obtain ⟨fu', rfl⟩ : ∃ fu', fu = fu' + 1 := ⟨fu - 1, by omega⟩
      obtain ⟨k1, k2, k3⟩ := hk i (by omega)
      have pm := (hs.2 m hm).2.2.2.1 i
      have ec : ls_cell (16 + i) (ac + 1) = 24 + 8 * ac + i := by
        unfold ls_cell
        rw [if_neg (by omega)]; omega
      obtain ⟨_, c2, c3⟩ := h1 (fs + i) (by omega)
      unfold wX_enter_26
      refine br_f (nI_ge (by omega) (by omega)) ?_
      rw [show (16 : Int32) + nI i = nI (16 + i) by rw [show (16 : Int32) = nI 16 from rfl, nI_add]]
      refine hx_cellOf (by omega) (by omega) (hx_parK hs hm (by omega) (nm_r (nI_add fs i) ?_))
      rw [ec, nI_clamp (by omega), nI_clamp (by omega), c2, k1]
      have NEXT : wX_enter_88 post (wX_enter_26 post (nI m) (nI fs) (nI c) fu') (nI m) (nI fs) (nI c) (nI i) (nI (fs + i)) (nI (ls_ent1 (pf m) ak i)) (nI (24 + 8 * ac + i)) f_tickLimit f_tokenCount f_outCount f_error f_errorPlace f_lastKind f_lastValue f_codeSize f_methodCount f_methodTokens cc (nI (ac + 1)) f_next f_ticksLeft f_state f_pos f_expressionStart f_pendingCount f_frameTop f_localCount a_tokenCode a_tokenValue a_outKind a_outValue a_codeOp a_codeArg a_codeKind a_codePlace a_methodSign a_methodStart (upd dc (24 + 8 * ac + i) (nI (pf m i))) ck cv (upd a_callReturn ac f_next) a_pendingLevel a_pendingPlace a_pendingMore a_frameKind a_frameMore a_localName := by
        unfold wX_enter_88
        rw [nI_clamp (by omega), c3, k3]
        refine ⟨vp_in_nI (by omega) (by decide), hx_put (by omega) (nm_r (nI_1 i) ?_)⟩
        refine ih (i + 1) fu' cc _ _ _ (by omega) (by omega) (fun x hx => ?_) (fun x hx => ?_)
        · obtain ⟨y1, y2, y3⟩ := h1 x (by omega)
          exact ⟨(pk_un (by omega)).trans y1, (pk_un (by omega)).trans y2, (pk_uLn (by omega)).trans y3⟩
        · rcases Nat.lt_or_ge x i with gx | gx
          · obtain ⟨y1, y2, y3⟩ := h2 x gx
            exact ⟨(pk_un (by omega)).trans y1, (pk_un (by omega)).trans y2, (pk_uLn (by omega)).trans y3⟩
          · have : x = i := by omega
            subst this
            exact ⟨pk_us, pk_us, pk_uLs⟩
      refine ⟨vp_in_nI (by omega) (by decide), nm_e ?_⟩
      by_cases p5 : pf m i = 5
      · refine br_t (by rw [p5]; rfl) ⟨vp_in_nI (by omega) (by decide), ?_⟩
        have E : ls_ent1 (pf m) ak i = ak i := by unfold ls_ent1; rw [if_pos p5]
        rw [E] at NEXT
        exact NEXT
      · have E : ls_ent1 (pf m) ak i = pf m i := by unfold ls_ent1; rw [if_neg p5]
        rw [E] at NEXT
        exact br_f (mt (ls_k8 (b := 5) (by omega) (by decide)).mp p5) NEXT
  exact K c 0 (c + 1) f_cellCount a_declared a_cellKind a_cellValue (by omega) (by omega) (fun _ _ => ⟨rfl, rfl, rfl⟩) (fun x hx => by omega)
set_option maxHeartbeats 200000 in
/-- the whole call -/
theorem hx_call {at0 cc ac tl : Nat} {v : Nat → Int64} (hs : ls_sgs mc a_methodSign nf cf pf) (ha : at0 < 761) (ea : a_codeArg at0 = nI (nm + 16 * c)) (hn : nm < 16) (hc : c ≤ 3) (hf : 88 ≤ cc ∧ cc + c ≤ 376) (hac : ac ≤ 8) (htl : tl < 1000) (hk : ∀ i, i < c → a_cellKind (cc + i) = nI (ak i) ∧ ak i ≤ 4 ∧ a_cellValue (cc + i) = v i)
    (h5 : (∀ m, m < mc → ¬ ls_tak nf cf pf nm c ak m) → post (f_tickLimit, f_tokenCount, f_outCount, 5, a_codePlace at0, f_lastKind, f_lastValue, f_codeSize, nI mc, f_methodTokens, nI (cc + c), nI ac, f_next, nI tl, f_state, f_pos, f_expressionStart, f_pendingCount, f_frameTop, f_localCount, a_tokenCode, a_tokenValue, a_outKind, a_outValue, a_codeOp, a_codeArg, a_codeKind, a_codePlace, a_methodSign, a_methodStart, a_declared, a_cellKind, a_cellValue, a_callReturn, a_pendingLevel, a_pendingPlace, a_pendingMore, a_frameKind, a_frameMore, a_localName))
    (h6 : (∃ m, m < mc ∧ ls_tak nf cf pf nm c ak m) → (∀ m, m < mc → ls_tak nf cf pf nm c ak m → ¬ ls_mo (ls_tkb nf cf pf nm c ak) (ls_asb pf) mc m) → post (f_tickLimit, f_tokenCount, f_outCount, 6, a_codePlace at0, f_lastKind, f_lastValue, f_codeSize, nI mc, f_methodTokens, nI (cc + c), nI ac, f_next, nI tl, f_state, f_pos, f_expressionStart, f_pendingCount, f_frameTop, f_localCount, a_tokenCode, a_tokenValue, a_outKind, a_outValue, a_codeOp, a_codeArg, a_codeKind, a_codePlace, a_methodSign, a_methodStart, a_declared, a_cellKind, a_cellValue, a_callReturn, a_pendingLevel, a_pendingPlace, a_pendingMore, a_frameKind, a_frameMore, a_localName))
    (h7 : ∀ m, m < mc → ls_tak nf cf pf nm c ak m → ls_mo (ls_tkb nf cf pf nm c ak) (ls_asb pf) mc m → ac = 8 → post (f_tickLimit, f_tokenCount, f_outCount, 7, a_codePlace at0, f_lastKind, f_lastValue, f_codeSize, nI mc, f_methodTokens, nI (cc + c), nI ac, f_next, nI tl, f_state, f_pos, f_expressionStart, f_pendingCount, f_frameTop, f_localCount, a_tokenCode, a_tokenValue, a_outKind, a_outValue, a_codeOp, a_codeArg, a_codeKind, a_codePlace, a_methodSign, a_methodStart, a_declared, a_cellKind, a_cellValue, a_callReturn, a_pendingLevel, a_pendingPlace, a_pendingMore, a_frameKind, a_frameMore, a_localName))
    (h9 : ∀ m, m < mc → ls_tak nf cf pf nm c ak m → ls_mo (ls_tkb nf cf pf nm c ak) (ls_asb pf) mc m → ac < 8 → tl = 0 → post (f_tickLimit, f_tokenCount, f_outCount, 9, a_codePlace at0, f_lastKind, f_lastValue, f_codeSize, nI mc, f_methodTokens, nI (cc + c), nI ac, f_next, nI tl, f_state, f_pos, f_expressionStart, f_pendingCount, f_frameTop, f_localCount, a_tokenCode, a_tokenValue, a_outKind, a_outValue, a_codeOp, a_codeArg, a_codeKind, a_codePlace, a_methodSign, a_methodStart, a_declared, a_cellKind, a_cellValue, a_callReturn, a_pendingLevel, a_pendingPlace, a_pendingMore, a_frameKind, a_frameMore, a_localName))
    (anti : ∀ a b, a < mc → b < mc → ls_tkb nf cf pf nm c ak a = true → ls_tkb nf cf pf nm c ak b = true → ls_asb pf a b = true → ls_asb pf b a = true → a = b)
    (h1 : ∀ m, m < mc → ls_tak nf cf pf nm c ak m → ls_mo (ls_tkb nf cf pf nm c ak) (ls_asb pf) mc m → ac < 8 → 0 < tl → ∀ (dc ck : Nat → Int32) (cv : Nat → Int64), (∀ j, (j < 24 + 8 * ac ∨ 24 + 8 * ac + c ≤ j) → dc j = a_declared j ∧ ck j = a_cellKind j ∧ cv j = a_cellValue j) → (∀ i, i < c → dc (24 + 8 * ac + i) = nI (pf m i) ∧ ck (24 + 8 * ac + i) = nI (ls_ent1 (pf m) ak i) ∧ cv (24 + 8 * ac + i) = v i) → post (f_tickLimit, f_tokenCount, f_outCount, f_error, f_errorPlace, f_lastKind, f_lastValue, f_codeSize, nI mc, f_methodTokens, nI cc, nI (ac + 1), a_methodStart m, nI (tl - 1), f_state, f_pos, f_expressionStart, f_pendingCount, f_frameTop, f_localCount, a_tokenCode, a_tokenValue, a_outKind, a_outValue, a_codeOp, a_codeArg, a_codeKind, a_codePlace, a_methodSign, a_methodStart, dc, ck, cv, upd a_callReturn ac f_next, a_pendingLevel, a_pendingPlace, a_pendingMore, a_frameKind, a_frameMore, a_localName)) : wpX_call post (f_tickLimit, f_tokenCount, f_outCount, f_error, f_errorPlace, f_lastKind, f_lastValue, f_codeSize, nI mc, f_methodTokens, nI (cc + c), nI ac, f_next, nI tl, f_state, f_pos, f_expressionStart, f_pendingCount, f_frameTop, f_localCount, a_tokenCode, a_tokenValue, a_outKind, a_outValue, a_codeOp, a_codeArg, a_codeKind, a_codePlace, a_methodSign, a_methodStart, a_declared, a_cellKind, a_cellValue, a_callReturn, a_pendingLevel, a_pendingPlace, a_pendingMore, a_frameKind, a_frameMore, a_localName) (nI at0) := by
  have ia : vp_in (nI at0) 761 := vp_in_nI ha (by decide)
  have hk' : ∀ i, i < c → a_cellKind (cc + i) = nI (ak i) ∧ ak i ≤ 4 := fun i hi => ⟨(hk i hi).1, (hk i hi).2.1⟩
  unfold wpX_call
  dsimp only
  rw [nI_clamp (by omega), ea, pk_shrN (by omega) _ 4 (by decide), show (nm + 16 * c) / 2 ^ 4 = c by omega]
  have e1 : nI (cc + c) - nI c = nI cc := by rw [← nI_add]; exact Int32.add_sub_cancel (nI cc) (nI c)
  refine ⟨ia, nm_e ⟨ia, nm_e (nm_r e1 ⟨ia, hx_most hs hn hc (by omega) hk' ?_⟩)⟩⟩
  cases hb : ls_bx (ls_tkb nf cf pf nm c ak) (ls_asb pf) mc with
  | none =>
    refine br_t rfl (h5 (fun m hm t => ?_))
    have := ls_bx_none hb m hm
    rw [ls_tkb_t.mpr t] at this
    cases this
  | some b =>
    obtain ⟨b1, b2⟩ := ls_bx_some hb
    have tb := ls_tkb_t.mp b2
    refine br_f (ls_nm1 (by have := hs.1; omega)) ⟨ia, hx_isMost hs b1 hn hc (by omega) hk' (fun mo => br_f (by decide) ?_) (fun mo => br_t rfl (h6 ⟨b, b1, tb⟩ (fun m hm t mo' => ?_)))⟩
    · by_cases c8 : ac < 8
      · refine br_t (nI_lt (b := 8) c8 (by decide)) ?_
        by_cases t0 : 0 < tl
        · obtain ⟨tl', rfl⟩ : ∃ tl', tl = tl' + 1 := ⟨tl - 1, by omega⟩
          refine br_t (nI_lt (a := 0) t0 (by omega)) (nm_r (nI_pred tl') ?_)
          exact hx_enter hs b1 hc c8 ⟨hf.1, hf.2⟩ hk (h1 b b1 tb mo c8 t0)
        · exact br_f (nI_nlt (a := 0) (b := tl) (by omega) (by decide)) (h9 b b1 tb mo c8 (by omega))
      · exact br_f (nI_nlt (b := 8) (by omega) (by omega)) (h7 b b1 tb mo (by omega))
    · have := ls_bx_most anti hm (ls_tkb_t.mpr t) mo' mc (Nat.le_refl _) hm
      rw [hb] at this
      injection this with this
      subst this
      exact mo mo'
end
