section
variable {f_tickLimit f_tokenCount f_outCount f_error f_errorPlace f_lastKind f_codeSize f_methodCount f_methodTokens f_cellCount f_activeCalls f_next f_ticksLeft f_state f_pos f_expressionStart f_pendingCount f_frameTop f_localCount : Int32}
variable {f_lastValue : Int64}
variable {a_tokenCode a_tokenValue a_outKind a_codeOp a_codeArg a_codeKind a_codePlace a_methodSign a_methodStart a_declared a_cellKind a_callReturn a_pendingLevel a_pendingPlace a_pendingMore a_frameKind a_frameMore a_localName : Nat → Int32}
variable {a_outValue a_cellValue : Nat → Int64}
variable {T : Nat → Nat} {V : Nat → Int32} {n : Nat} {u0 u : SX} {post : SX → Prop} {pos es : Nat} {pe : List LsP} {fr : List LsF} {L : List Nat} {k : LsK}
set_option maxHeartbeats 200000 in
/-- the address of a name -/
theorem hx_addressOf {q : Int32 → Prop} {nm : Nat} (hnm : nm < 16) (hN : ls_StN a_localName L) (hL : ∀ x ∈ L, x < 16) (b3 : L.length ≤ 8) (hp : q (nI (ls_addr L nm))) : wpX_addressOf q (f_tickLimit, f_tokenCount, f_outCount, f_error, f_errorPlace, f_lastKind, f_lastValue, f_codeSize, f_methodCount, f_methodTokens, f_cellCount, f_activeCalls, f_next, f_ticksLeft, f_state, f_pos, f_expressionStart, f_pendingCount, f_frameTop, nI L.length, a_tokenCode, a_tokenValue, a_outKind, a_outValue, a_codeOp, a_codeArg, a_codeKind, a_codePlace, a_methodSign, a_methodStart, a_declared, a_cellKind, a_cellValue, a_callReturn, a_pendingLevel, a_pendingPlace, a_pendingMore, a_frameKind, a_frameMore, a_localName) (nI nm) := by
  have key : ∀ (M : List Nat), ls_StN a_localName M → ∀ i, i < M.length → ∃ x y, a_localName i = nI x ∧ M = y ++ x :: M.drop (M.length - i) ∧ (M.drop (M.length - i)).length = i := by
    intro M
    induction M with
    | nil => intro _ i hi; exact absurd hi (by simp)
    | cons z r ih =>
      intro hS i hi
      obtain ⟨s1, s2⟩ := hS
      have hi' : i < r.length + 1 := hi
      by_cases q : i = r.length
      · subst q
        refine ⟨z, [], s1, ?_, ?_⟩
        · show z :: r = z :: (z :: r).drop (r.length + 1 - r.length)
          rw [show r.length + 1 - r.length = 1 by omega]; rfl
        · show ((z :: r).drop (r.length + 1 - r.length)).length = r.length
          rw [show r.length + 1 - r.length = 1 by omega]; rfl
      · obtain ⟨x, y, h1, h2, h3⟩ := ih s2 i (by omega)
        have e : (z :: r).length - i = (r.length - i) + 1 := by show r.length + 1 - i = _; omega
        refine ⟨x, z :: y, h1, ?_, ?_⟩
        · rw [e, List.drop_succ_cons, List.cons_append, ← h2]
        · rw [e, List.drop_succ_cons]; exact h3
  have H : ∀ d i : Nat, i + d = L.length → wX_addressOf_4 q (nI nm) f_tickLimit f_tokenCount f_outCount f_error f_errorPlace f_lastKind f_lastValue f_codeSize f_methodCount f_methodTokens f_cellCount f_activeCalls f_next f_ticksLeft f_state f_pos f_expressionStart f_pendingCount f_frameTop (nI L.length) a_tokenCode a_tokenValue a_outKind a_outValue a_codeOp a_codeArg a_codeKind a_codePlace a_methodSign a_methodStart a_declared a_cellKind a_cellValue a_callReturn a_pendingLevel a_pendingPlace a_pendingMore a_frameKind a_frameMore a_localName (d + 1) (nI (ls_addr (L.drop (L.length - i)) nm)) (nI i) := by
    intro d
    induction d with
    | zero =>
      intro i hi
      have e : L.drop (L.length - i) = L := by rw [show L.length - i = 0 by omega]; rfl
      rw [e]
      exact br_t (nI_le (by omega) (by omega)) hp
    | succ d ih =>
      intro i hi
      obtain ⟨x, y, h1, h2, h3⟩ := key L hN i (by omega)
      have e1 : L.drop (L.length - (i + 1)) = x :: L.drop (L.length - i) := by
        have hy : y.length = L.length - (i + 1) := by
          have := congrArg List.length h2
          rw [List.length_append, List.length_cons, h3] at this
          omega
        rw [← hy]
        conv => lhs; rw [h2]
        rw [List.drop_left]
      have hx : x < 16 := hL x (by rw [h2]; simp)
      refine br_f (nI_ge (by omega) (by omega)) ⟨vp_in_nI (by omega) (by decide), ?_⟩
      rw [nI_clamp (by omega), h1]
      have I := ih (i + 1) (by omega)
      rw [e1] at I
      by_cases z : x = nm
      · subst z
        have e2 : ls_addr (x :: L.drop (L.length - i)) x = 16 + i := by
          show (if x = x then 16 + (L.drop (L.length - i)).length else _) = _
          rw [if_pos rfl, h3]
        rw [e2] at I
        exact br_t rfl (nm_r (nI_add 16 i) (nm_r (nI_1 i) I))
      · have e2 : ls_addr (x :: L.drop (L.length - i)) nm = ls_addr (L.drop (L.length - i)) nm := by
          show (if x = nm then _ else _) = _
          rw [if_neg z]
        rw [e2] at I
        exact br_f (fun h => z ((nI_eq (by omega) (by omega)).mp h)) (nm_r (nI_1 i) I)
  have := H L.length 0 (by omega)
  rw [show L.drop (L.length - 0) = [] by simp] at this
  exact ⟨_, this⟩
set_option maxHeartbeats 200000 in
/-- a new local name: from the scope that begins at mo -/
theorem hx_addLocal {p2 : Int32 → SX → Prop} {nm mo : Nat} (hnm : nm < 16) (hN : ls_StN a_localName L) (hL : ∀ x ∈ L, x < 16) (b3 : L.length ≤ 8) (hmo : mo ≤ L.length)
    (h1 : L.length < 8 → ¬ nm ∈ L.take (L.length - mo) → p2 1 (f_tickLimit, f_tokenCount, f_outCount, f_error, f_errorPlace, f_lastKind, f_lastValue, f_codeSize, f_methodCount, f_methodTokens, f_cellCount, f_activeCalls, f_next, f_ticksLeft, f_state, f_pos, f_expressionStart, f_pendingCount, f_frameTop, nI (L.length + 1), a_tokenCode, a_tokenValue, a_outKind, a_outValue, a_codeOp, a_codeArg, a_codeKind, a_codePlace, a_methodSign, a_methodStart, a_declared, a_cellKind, a_cellValue, a_callReturn, a_pendingLevel, a_pendingPlace, a_pendingMore, a_frameKind, a_frameMore, upd a_localName L.length (nI nm)))
    (h0 : ¬ (L.length < 8 ∧ ¬ nm ∈ L.take (L.length - mo)) → p2 0 (f_tickLimit, f_tokenCount, f_outCount, f_error, f_errorPlace, f_lastKind, f_lastValue, f_codeSize, f_methodCount, f_methodTokens, f_cellCount, f_activeCalls, f_next, f_ticksLeft, f_state, f_pos, f_expressionStart, f_pendingCount, f_frameTop, nI L.length, a_tokenCode, a_tokenValue, a_outKind, a_outValue, a_codeOp, a_codeArg, a_codeKind, a_codePlace, a_methodSign, a_methodStart, a_declared, a_cellKind, a_cellValue, a_callReturn, a_pendingLevel, a_pendingPlace, a_pendingMore, a_frameKind, a_frameMore, a_localName)) : wpX_addLocal p2 (f_tickLimit, f_tokenCount, f_outCount, f_error, f_errorPlace, f_lastKind, f_lastValue, f_codeSize, f_methodCount, f_methodTokens, f_cellCount, f_activeCalls, f_next, f_ticksLeft, f_state, f_pos, f_expressionStart, f_pendingCount, f_frameTop, nI L.length, a_tokenCode, a_tokenValue, a_outKind, a_outValue, a_codeOp, a_codeArg, a_codeKind, a_codePlace, a_methodSign, a_methodStart, a_declared, a_cellKind, a_cellValue, a_callReturn, a_pendingLevel, a_pendingPlace, a_pendingMore, a_frameKind, a_frameMore, a_localName) (nI nm) (nI mo) := by
  have key : ∀ (M : List Nat), ls_StN a_localName M → ∀ i, i < M.length → ∃ x, a_localName i = nI x ∧ x ∈ M ∧ M.take (M.length - i) = M.take (M.length - (i + 1)) ++ [x] := by
    intro M
    induction M with
    | nil => intro _ i hi; exact absurd hi (by simp)
    | cons z r ih =>
      intro hS i hi
      obtain ⟨s1, s2⟩ := hS
      have hi' : i < r.length + 1 := hi
      by_cases q : i = r.length
      · subst q
        refine ⟨z, s1, by simp, ?_⟩
        show (z :: r).take (r.length + 1 - r.length) = (z :: r).take (r.length + 1 - (r.length + 1)) ++ [z]
        rw [show r.length + 1 - r.length = 1 by omega, show r.length + 1 - (r.length + 1) = 0 by omega]; rfl
      · obtain ⟨x, h1, h2, h3⟩ := ih s2 i (by omega)
        refine ⟨x, h1, List.mem_cons_of_mem _ h2, ?_⟩
        have e : (z :: r).length - i = (r.length - i) + 1 := by show r.length + 1 - i = _; omega
        have e' : (z :: r).length - (i + 1) = (r.length - (i + 1)) + 1 := by show r.length + 1 - (i + 1) = _; omega
        rw [e, e', List.take_succ_cons, List.take_succ_cons, h3]; rfl
  have F : ∀ b : Nat, (b = 1 ∧ L.length < 8 ∧ ¬ nm ∈ L.take (L.length - mo)) ∨ (b = 0 ∧ ¬ (L.length < 8 ∧ ¬ nm ∈ L.take (L.length - mo))) → wX_addLocal_59 p2 (nI nm) (nI b) f_tickLimit f_tokenCount f_outCount f_error f_errorPlace f_lastKind f_lastValue f_codeSize f_methodCount f_methodTokens f_cellCount f_activeCalls f_next f_ticksLeft f_state f_pos f_expressionStart f_pendingCount f_frameTop (nI L.length) a_tokenCode a_tokenValue a_outKind a_outValue a_codeOp a_codeArg a_codeKind a_codePlace a_methodSign a_methodStart a_declared a_cellKind a_cellValue a_callReturn a_pendingLevel a_pendingPlace a_pendingMore a_frameKind a_frameMore a_localName := by
    intro b hb
    rcases hb with ⟨rfl, g1, g2⟩ | ⟨rfl, g⟩
    · refine br_f (by decide) ⟨vp_in_nI g1 (by decide), nm_r (by rw [nI_clamp (by omega)]) (nm_r (nI_1 _) ⟨rfl, h1 g1 g2⟩)⟩
    · exact br_t rfl ⟨rfl, h0 g⟩
  have Z : ∀ d i : Nat, ¬ (L.length < 8 ∧ ¬ nm ∈ L.take (L.length - mo)) → wX_addLocal_18 p2 (nI nm) f_tickLimit f_tokenCount f_outCount f_error f_errorPlace f_lastKind f_lastValue f_codeSize f_methodCount f_methodTokens f_cellCount f_activeCalls f_next f_ticksLeft f_state f_pos f_expressionStart f_pendingCount f_frameTop (nI L.length) a_tokenCode a_tokenValue a_outKind a_outValue a_codeOp a_codeArg a_codeKind a_codePlace a_methodSign a_methodStart a_declared a_cellKind a_cellValue a_callReturn a_pendingLevel a_pendingPlace a_pendingMore a_frameKind a_frameMore a_localName (d + 1) 0 (nI i) := by
    intro d i g
    exact br_c (fun _ => F 0 (Or.inr ⟨rfl, g⟩)) (fun _ => br_c (fun _ => F 0 (Or.inr ⟨rfl, g⟩)) (fun _ => br_t rfl (F 0 (Or.inr ⟨rfl, g⟩))))
  have H : ∀ d i : Nat, i + d = L.length → mo ≤ i → L.length < 8 → (¬ nm ∈ L.take (L.length - mo) ↔ ¬ nm ∈ L.take (L.length - i)) → wX_addLocal_18 p2 (nI nm) f_tickLimit f_tokenCount f_outCount f_error f_errorPlace f_lastKind f_lastValue f_codeSize f_methodCount f_methodTokens f_cellCount f_activeCalls f_next f_ticksLeft f_state f_pos f_expressionStart f_pendingCount f_frameTop (nI L.length) a_tokenCode a_tokenValue a_outKind a_outValue a_codeOp a_codeArg a_codeKind a_codePlace a_methodSign a_methodStart a_declared a_cellKind a_cellValue a_callReturn a_pendingLevel a_pendingPlace a_pendingMore a_frameKind a_frameMore a_localName (d + 2) 1 (nI i) := by
    intro d
    induction d with
    | zero =>
      intro i hi hm hl hq
      have e : L.take (L.length - i) = [] := by rw [show L.length - i = 0 by omega]; rfl
      rw [e] at hq
      exact br_f (nI_pos (by omega)) (br_t (nI_le (by omega) (by omega)) (F 1 (Or.inl ⟨rfl, hl, hq.mpr (by simp)⟩)))
    | succ d ih =>
      intro i hi hm hl hq
      obtain ⟨x, k1, k2, k3⟩ := key L hN i (by omega)
      have hx := hL x k2
      refine br_f (nI_pos (by omega)) (br_f (nI_ge (by omega) (by omega)) (br_f (by decide) ⟨vp_in_nI (by omega) (by decide), ?_⟩))
      rw [nI_clamp (by omega), k1]
      by_cases z : x = nm
      · subst z
        refine br_t rfl (nm_r (nI_1 i) (Z _ _ ?_))
        intro ⟨_, g⟩
        exact hq.mp g (by rw [k3]; simp)
      · refine br_f (fun h => z ((nI_eq (by omega) (by omega)).mp h)) (nm_r (nI_1 i) (ih (i + 1) (by omega) (by omega) hl ?_))
        rw [hq, k3]
        simp only [List.mem_append, List.mem_singleton, not_or]
        exact ⟨fun h => h.1, fun h => ⟨h, fun e => z e.symm⟩⟩
  by_cases l8 : L.length < 8
  · exact br_f (nI_ge (b := 8) l8 (by decide)) ⟨_, H (L.length - mo) mo (by omega) (Nat.le_refl _) l8 Iff.rfl⟩
  · exact br_t (nI_le (a := 8) (by omega) (by omega)) ⟨_, Z 0 mo (fun h => l8 h.1)⟩
end
