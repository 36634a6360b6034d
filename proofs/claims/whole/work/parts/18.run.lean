/-! The reading as a whole: the pure run, and the component's loop against it -/
def ls_run (T : Nat → Nat) (V : Nat → Int32) : Nat → LsC → Except Nat LsC
  | 0, c => .ok c
  | m + 1, c => if c.1 = 6 then .ok c else match ls_rs T V c with
    | .error e => .error e
    | .ok c' => ls_run T V m c'
set_option maxHeartbeats 200000 in
theorem ls_tok_txt {T V n tc tv} (h : ls_tok T V n tc tv) : ls_txt T n := ⟨h.1, fun p hp => (h.2.1 p hp).1, h.2.2⟩
section
variable {T : Nat → Nat} {V : Nat → Int32} {n : Nat} {pos es : Nat} {pe : List LsP} {fr : List LsF} {L : List Nat} {k : LsK} {c c' : LsC}
set_option maxHeartbeats 200000 in
theorem ls_st6_0 (hr : ls_r0 T pos es pe fr L k = .ok c') : c'.1 ≤ 6 := by
  unfold ls_r0 at hr
  repeat' split at hr
  all_goals (injection hr with hr; subst hr; dsimp only; omega)
set_option maxHeartbeats 200000 in
theorem ls_st6_1 (hr : ls_r1 T pos es pe fr L k = .ok c') : c'.1 ≤ 6 := by
  unfold ls_r1 ls_hdr at hr
  dsimp only at hr
  repeat' split at hr
  all_goals first | cases hr; done | (injection hr with hr; subst hr; dsimp only; omega)
set_option maxHeartbeats 200000 in
theorem ls_st6_2 (hr : ls_r2 T pos es pe fr L k = .ok c') : c'.1 ≤ 6 := by
  unfold ls_r2 ls_var at hr
  dsimp only at hr
  repeat' split at hr
  all_goals first | cases hr; done | (injection hr with hr; subst hr; dsimp only; omega)
set_option maxHeartbeats 200000 in
theorem ls_st6_3 (hr : ls_r3 T pos es pe fr L k = .ok c') : c'.1 ≤ 6 := by
  unfold ls_r3 at hr
  repeat' split at hr
  all_goals (injection hr with hr; subst hr; dsimp only; omega)
set_option maxHeartbeats 2000000 in
theorem ls_st6_4 (hr : ls_r4 T V pos es pe fr L k = .ok c') : c'.1 ≤ 6 := by
  unfold ls_r4 ls_flt at hr
  dsimp only at hr
  split at hr
  · repeat' split at hr
    all_goals (injection hr with hr; subst hr; dsimp only; omega)
  split at hr
  · injection hr with hr; subst hr; dsimp only; omega
  split at hr
  · injection hr with hr; subst hr; dsimp only; omega
  split at hr
  · injection hr with hr; subst hr; dsimp only; omega
  split at hr
  · injection hr with hr; subst hr; dsimp only; omega
  split at hr
  · repeat' split at hr
    all_goals first | cases hr; done | (injection hr with hr; subst hr; dsimp only; omega)
  split at hr
  · injection hr with hr; subst hr; dsimp only; omega
  · cases hr
set_option maxHeartbeats 2000000 in
theorem ls_st6_e (hr : ls_end T pos es fr L k = .ok c') : c'.1 ≤ 6 := by
  unfold ls_end at hr
  repeat' split at hr
  all_goals first | cases hr; done | (injection hr with hr; subst hr; dsimp only; omega)
set_option maxHeartbeats 2000000 in
theorem ls_st6_5 (hr : ls_r5 T pos es pe fr L k = .ok c') : c'.1 ≤ 6 := by
  unfold ls_r5 at hr
  dsimp only at hr
  split at hr
  · split at hr
    · injection hr with hr; subst hr; dsimp only; omega
    · exact ls_st6_e hr
  split at hr
  · injection hr with hr; subst hr; dsimp only; omega
  split at hr
  · injection hr with hr; subst hr; dsimp only; omega
  split at hr
  · split at hr
    · injection hr with hr; subst hr; dsimp only; omega
    · injection hr with hr; subst hr; dsimp only; omega
  unfold ls_flt at hr
  repeat' split at hr
  all_goals first | cases hr; done | (injection hr with hr; subst hr; dsimp only; omega)
set_option maxHeartbeats 200000 in
theorem ls_st6 (hr : ls_rs T V c = .ok c') : c'.1 ≤ 6 := by
  obtain ⟨st, pos, es, pe, fr, L, k⟩ := c
  unfold ls_rs at hr
  dsimp only at hr
  split at hr
  · exact ls_st6_0 hr
  split at hr
  · exact ls_st6_1 hr
  split at hr
  · exact ls_st6_2 hr
  split at hr
  · exact ls_st6_3 hr
  split at hr
  · exact ls_st6_4 hr
  · exact ls_st6_5 hr
set_option maxHeartbeats 200000 in
theorem ls_inv_rs (hT : ls_txt T n) (h6 : c.1 < 6) (h : ls_Inv T n c) (hr : ls_rs T V c = .ok c') : ls_Inv T n c' ∧ ls_mu n c' < ls_mu n c := by
  obtain ⟨st, pos, es, pe, fr, L, k⟩ := c
  unfold ls_rs at hr
  dsimp only at hr h6
  split at hr
  · next q => subst q; exact ls_inv_r0 hT h hr
  split at hr
  · next q => subst q; exact ls_inv_r1 hT h hr
  split at hr
  · next q => subst q; exact ls_inv_r2 hT h hr
  split at hr
  · next q => subst q; exact ls_inv_r3 hT h hr
  split at hr
  · next q => subst q; exact ls_inv_r4 hT h hr
  · have q : st = 5 := by omega
    subst q; exact ls_inv_r5 hT h hr
set_option maxHeartbeats 200000 in
theorem ls_mu0 (h6 : c.1 ≤ 6) (h : ls_Inv T n c) (hm : ls_mu n c = 0) : c.1 = 6 := by
  obtain ⟨st, pos, es, pe, fr, L, k⟩ := c
  obtain ⟨h1, h2, h3, h4, h5, hp, h7⟩ := h
  dsimp only at h6
  by_cases q : st = 4 ∨ st = 5
  · rw [if_pos q] at h7
    obtain ⟨a1, a2, a3, a4, f, r, a5, a6, a7⟩ := h7
    subst a5
    simp only [ls_mu, ls_fw] at hm
    rw [if_neg (show ¬ f.1 = 1 by have := a6.1; omega)] at hm
    omega
  · simp only [ls_mu, ls_sw] at hm
    show st = 6
    repeat' split at hm
    all_goals omega
set_option maxHeartbeats 200000 in
theorem ls_fok_all {g : LsF} : ∀ {fr : List LsF}, ls_fok k fr → g ∈ fr → (1 ≤ g.1 ∧ g.1 ≤ 5) ∧ (2 ≤ g.1 → 480 ≤ g.2.1 ∧ g.2.1 < k.1) ∧ (g.1 = 2 → k.2.2.2.1 g.2.1 &&& 7 = nI (g.2.2.2.headD 0) ∧ g.2.2.2.headD 0 < 8)
  | [], _, h => absurd h (by simp)
  | f :: r, ⟨h1, h2, h3, h4⟩, h => by
    rcases List.mem_cons.mp h with rfl | h
    · exact ⟨h1, h2, fun q => (h3 q).2⟩
    · exact ls_fok_all h4 h
end
section
variable {T : Nat → Nat} {V : Nat → Int32} {n : Nat} {u0 u : SX} {post : SX → Prop} {c : LsC}
set_option maxHeartbeats 200000 in
/-- one step of the component's reading -/
theorem rx_step (h : ls_XR T V n u0 c u) (hI : ls_Inv T n c) (hp : ls_out T V n u0 (ls_rs T V c) post) : match c with
    | (st, _) => (st = 0 → wpX_begin post u) ∧ (st = 1 → wpX_beginStatement post u) ∧ (st = 2 → wpX_beginDeclaration post u) ∧ (st = 3 → wpX_finish post u) ∧ (st = 4 → wpX_readOperand post u) ∧ (st = 5 → wpX_readOperator post u) := by
  obtain ⟨st, pos, es, pe, fr, L, k⟩ := c
  have n140 : n ≤ 140 := by
    obtain ⟨f_tickLimit, f_tokenCount, f_outCount, f_error, f_errorPlace, f_lastKind, f_lastValue, f_codeSize, f_methodCount, f_methodTokens, f_cellCount, f_activeCalls, f_next, f_ticksLeft, f_state, f_pos, f_expressionStart, f_pendingCount, f_frameTop, f_localCount, a_tokenCode, a_tokenValue, a_outKind, a_outValue, a_codeOp, a_codeArg, a_codeKind, a_codePlace, a_methodSign, a_methodStart, a_declared, a_cellKind, a_cellValue, a_callReturn, a_pendingLevel, a_pendingPlace, a_pendingMore, a_frameKind, a_frameMore, a_localName⟩ := u
    obtain ⟨_, _, _, ht, _⟩ := h
    exact ht.1
  have hTT : ls_txt T n := by
    obtain ⟨f_tickLimit, f_tokenCount, f_outCount, f_error, f_errorPlace, f_lastKind, f_lastValue, f_codeSize, f_methodCount, f_methodTokens, f_cellCount, f_activeCalls, f_next, f_ticksLeft, f_state, f_pos, f_expressionStart, f_pendingCount, f_frameTop, f_localCount, a_tokenCode, a_tokenValue, a_outKind, a_outValue, a_codeOp, a_codeArg, a_codeKind, a_codePlace, a_methodSign, a_methodStart, a_declared, a_cellKind, a_cellValue, a_callReturn, a_pendingLevel, a_pendingPlace, a_pendingMore, a_frameKind, a_frameMore, a_localName⟩ := u
    obtain ⟨_, _, _, ht, _⟩ := h
    exact ls_tok_txt ht
  obtain ⟨h1, h2, h3, h4, h5, h6, h7⟩ := hI
  unfold ls_rs at hp
  dsimp only at hp
  refine ⟨fun q => ?_, fun q => ?_, fun q => ?_, fun q => ?_, fun q => ?_, fun q => ?_⟩
  · subst q
    rw [if_pos rfl] at hp
    rw [if_neg (by omega)] at h7
    obtain ⟨a1, a2, a3, a4, a5⟩ := h7
    refine rx_r0 h (by omega) (by omega) (fun f hf h1 => ?_) (fun f hf => ?_) hp
    · cases fr with
      | nil => simp at hf
      | cons g r =>
        injection hf with hf; subst hf
        have h4' : (if g.1 = 1 then g.2.1 = g.2.2.2.length ∧ (∃ m, g.2.2.2 = L.drop m) ∧ ls_sco r g.2.2.2 else _) := h4
        rw [if_pos h1] at h4'
        exact ⟨h4'.1, h4'.2.1⟩
    · have := ls_fok_all a4 (List.mem_of_mem_head? hf)
      omega
  · subst q
    rw [if_neg (by omega), if_pos rfl] at hp
    rw [if_neg (by omega)] at h7
    obtain ⟨a1, a2, a3, a4, a5⟩ := h7
    refine rx_r1 h ⟨h5, by omega⟩ (fun t => ?_) (by omega) (by omega) h2 (by rw [a3]; simp) (fun f hf => ?_) (fun f hf q => ?_) hp
    · have := ls_txt_lt hTT t; omega
    · have := ls_fok_all a4 hf; omega
    · obtain ⟨g1, g2, g3⟩ := ls_fok_all a4 hf
      exact ⟨(g2 (by omega)).2, (g3 q).1, (g3 q).2⟩
  · subst q
    rw [if_neg (by omega), if_neg (by omega), if_pos rfl] at hp
    rw [if_neg (by omega)] at h7
    obtain ⟨a1, a2, a3, a4, a5⟩ := h7
    obtain ⟨t6, a6⟩ := a5 rfl
    have pn := ls_txt_lt hTT (p := pos) (by omega)
    refine rx_r2 h ⟨h5, by omega⟩ (by omega) (by omega) h2 (by rw [a3]; simp) h3 (fun e => ?_) t6 (fun f hf => ?_) hp
    · subst e; exact h4
    · cases fr with
      | nil => simp at hf
      | cons g r =>
        have g1 := a6 f hf
        injection hf with hf; subst hf
        have h4' : (if g.1 = 1 then g.2.1 = g.2.2.2.length ∧ (∃ m, g.2.2.2 = L.drop m) ∧ ls_sco r g.2.2.2 else _) := h4
        rw [if_pos g1] at h4'
        obtain ⟨e1, ⟨m, e2⟩, _⟩ := h4'
        rw [e1, e2, List.length_drop]; omega
  · subst q
    rw [if_neg (by omega), if_neg (by omega), if_neg (by omega), if_pos rfl] at hp
    rw [if_neg (by omega)] at h7
    obtain ⟨a1, a2, a3, a4, a5⟩ := h7
    refine rx_r3 h ⟨h5, ?_⟩ (by omega) (by omega) (fun f hf => ?_) (fun f hf q => ?_) (fun f hf q => ?_) (fun f hf q => ?_) hp
    · omega
    · have := ls_fok_all a4 hf; omega
    · exact (ls_fok_all a4 hf).2.1 q
    · obtain ⟨g1, g2, g3⟩ := ls_fok_all a4 hf
      exact ⟨(g2 (by omega)).2, (g3 q).1, (g3 q).2⟩
    · cases fr with
      | nil => simp at hf
      | cons g r =>
        injection hf with hf; subst hf
        have r0 := (a4.2.2.1 q).1
        subst r0
        have a2' : 1 ≤ pos := a2
        exact ⟨rfl, by omega⟩
  · subst q
    rw [if_neg (by omega), if_neg (by omega), if_neg (by omega), if_neg (by omega), if_pos rfl] at hp
    rw [if_pos (Or.inl rfl), if_pos rfl] at h7
    obtain ⟨a1, a2, a3, a4, f, r, a5, a6, a7⟩ := h7
    exact rx_r4 h ⟨h5, by omega⟩ (fun t => by have := ls_txt_lt hTT t; omega) (by omega) (by omega) h2 (by omega) a2 h3 (fun e he => (h6 e he).1) hp
  · subst q
    rw [if_neg (by omega), if_neg (by omega), if_neg (by omega), if_neg (by omega), if_neg (by omega)] at hp
    rw [if_pos (Or.inr rfl), if_neg (by decide)] at h7
    obtain ⟨a1, a2, a3, a4, f, r, a5, a6, a7⟩ := h7
    refine rx_r5 h ⟨h5, by omega⟩ (fun t => by have := ls_txt_lt hTT t; omega) (fun e he => ?_) h1 (by omega) h2 (by omega) a2 h3 h6 ?_ hp
    · cases pe with
      | nil => simp at he
      | cons e0 r0 =>
        injection he with he; subst he
        have d0 : ls_dpe T (e0 :: r0) = (if e0.1 = 2 then (if T e0.2.1 = 21 then 1 else 2) else if e0.1 = 1 then 0 else 1) + ls_dpe T r0 := rfl
        rw [d0] at a1
        split
        · next q => rw [if_pos q.1, if_neg q.2] at a1; omega
        · omega
    · obtain ⟨fk, mo, sp, l⟩ := f
      obtain ⟨g1, g2, g3, g4, g5, g6, g7, g8⟩ := a6
      refine ⟨fk, mo, sp, l, r, a5, g1, g2, g4, g5, fun q => ⟨(g7 q).1, (g7 q).2.1, by have := (g7 q).2.2; dsimp only at this; omega⟩, g8, fun f hf => ?_, fun f hf q => ?_⟩
      · have := ls_fok_all a7 hf; omega
      · obtain ⟨g1, g2, g3⟩ := ls_fok_all a7 hf
        exact ⟨(g2 (by omega)).2, (g3 q).1, (g3 q).2⟩
end
section
variable {T : Nat → Nat} {V : Nat → Int32} {n : Nat} {u0 u : SX} {post : SX → Prop} {c : LsC}
/-- what the reading leaves behind -/
def ls_rfin (T : Nat → Nat) (V : Nat → Int32) (n : Nat) (u0 : SX) (r : Except Nat LsC) (post : SX → Prop) : Prop := match r with
  | .ok (st, pos, es, pe, fr, L, k) => ∀ u', ls_XR T V n u0 (st, pos, es, pe, fr, L, ls_em k 0 0 0 (nI pos)) u' → post u'
  | .error e => ∀ u', ls_XK T V n u0 e 400 u' → post u'
set_option maxHeartbeats 200000 in
theorem rx_err {e m : Nat} {x : Int32} (h : ls_XK T V n u0 e 400 u) (hp : ∀ u', ls_XK T V n u0 e 400 u' → post u') : match u with
    | (f_tickLimit, f_tokenCount, f_outCount, f_error, f_errorPlace, f_lastKind, f_lastValue, f_codeSize, f_methodCount, f_methodTokens, f_cellCount, f_activeCalls, f_next, f_ticksLeft, f_state, f_pos, f_expressionStart, f_pendingCount, f_frameTop, f_localCount, a_tokenCode, a_tokenValue, a_outKind, a_outValue, a_codeOp, a_codeArg, a_codeKind, a_codePlace, a_methodSign, a_methodStart, a_declared, a_cellKind, a_cellValue, a_callReturn, a_pendingLevel, a_pendingPlace, a_pendingMore, a_frameKind, a_frameMore, a_localName) => wX_readText_48 post (m + 1) x f_tickLimit f_tokenCount f_outCount f_error f_errorPlace f_lastKind f_lastValue f_codeSize f_methodCount f_methodTokens f_cellCount f_activeCalls f_next f_ticksLeft f_state f_pos f_expressionStart f_pendingCount f_frameTop f_localCount a_tokenCode a_tokenValue a_outKind a_outValue a_codeOp a_codeArg a_codeKind a_codePlace a_methodSign a_methodStart a_declared a_cellKind a_cellValue a_callReturn a_pendingLevel a_pendingPlace a_pendingMore a_frameKind a_frameMore a_localName := by
  have K : match u with | (f_tickLimit, f_tokenCount, f_outCount, f_error, f_errorPlace, f_lastKind, f_lastValue, f_codeSize, f_methodCount, f_methodTokens, f_cellCount, f_activeCalls, f_next, f_ticksLeft, f_state, f_pos, f_expressionStart, f_pendingCount, f_frameTop, f_localCount, a_tokenCode, a_tokenValue, a_outKind, a_outValue, a_codeOp, a_codeArg, a_codeKind, a_codePlace, a_methodSign, a_methodStart, a_declared, a_cellKind, a_cellValue, a_callReturn, a_pendingLevel, a_pendingPlace, a_pendingMore, a_frameKind, a_frameMore, a_localName) => wX_readText_153 post f_tickLimit f_tokenCount f_outCount f_error f_errorPlace f_lastKind f_lastValue f_codeSize f_methodCount f_methodTokens f_cellCount f_activeCalls f_next f_ticksLeft f_state f_pos f_expressionStart f_pendingCount f_frameTop f_localCount a_tokenCode a_tokenValue a_outKind a_outValue a_codeOp a_codeArg a_codeKind a_codePlace a_methodSign a_methodStart a_declared a_cellKind a_cellValue a_callReturn a_pendingLevel a_pendingPlace a_pendingMore a_frameKind a_frameMore a_localName := by
    have E : wpX_emit post u 0 0 0 (match u with | (f_tickLimit, f_tokenCount, f_outCount, f_error, f_errorPlace, f_lastKind, f_lastValue, f_codeSize, f_methodCount, f_methodTokens, f_cellCount, f_activeCalls, f_next, f_ticksLeft, f_state, f_pos, f_expressionStart, f_pendingCount, f_frameTop, f_localCount, a_tokenCode, a_tokenValue, a_outKind, a_outValue, a_codeOp, a_codeArg, a_codeKind, a_codePlace, a_methodSign, a_methodStart, a_declared, a_cellKind, a_cellValue, a_callReturn, a_pendingLevel, a_pendingPlace, a_pendingMore, a_frameKind, a_frameMore, a_localName) => f_pos) := kx_emit h hp
    obtain ⟨f_tickLimit, f_tokenCount, f_outCount, f_error, f_errorPlace, f_lastKind, f_lastValue, f_codeSize, f_methodCount, f_methodTokens, f_cellCount, f_activeCalls, f_next, f_ticksLeft, f_state, f_pos, f_expressionStart, f_pendingCount, f_frameTop, f_localCount, a_tokenCode, a_tokenValue, a_outKind, a_outValue, a_codeOp, a_codeArg, a_codeKind, a_codePlace, a_methodSign, a_methodStart, a_declared, a_cellKind, a_cellValue, a_callReturn, a_pendingLevel, a_pendingPlace, a_pendingMore, a_frameKind, a_frameMore, a_localName⟩ := u
    refine kx_emit h fun u' h' => ?_
    obtain ⟨f_tickLimit, f_tokenCount, f_outCount, f_error, f_errorPlace, f_lastKind, f_lastValue, f_codeSize, f_methodCount, f_methodTokens, f_cellCount, f_activeCalls, f_next, f_ticksLeft, f_state, f_pos, f_expressionStart, f_pendingCount, f_frameTop, f_localCount, a_tokenCode, a_tokenValue, a_outKind, a_outValue, a_codeOp, a_codeArg, a_codeKind, a_codePlace, a_methodSign, a_methodStart, a_declared, a_cellKind, a_cellValue, a_callReturn, a_pendingLevel, a_pendingPlace, a_pendingMore, a_frameKind, a_frameMore, a_localName⟩ := u'
    exact hp _ h'
  obtain ⟨f_tickLimit, f_tokenCount, f_outCount, f_error, f_errorPlace, f_lastKind, f_lastValue, f_codeSize, f_methodCount, f_methodTokens, f_cellCount, f_activeCalls, f_next, f_ticksLeft, f_state, f_pos, f_expressionStart, f_pendingCount, f_frameTop, f_localCount, a_tokenCode, a_tokenValue, a_outKind, a_outValue, a_codeOp, a_codeArg, a_codeKind, a_codePlace, a_methodSign, a_methodStart, a_declared, a_cellKind, a_cellValue, a_callReturn, a_pendingLevel, a_pendingPlace, a_pendingMore, a_frameKind, a_frameMore, a_localName⟩ := u
  obtain ⟨hk, h1, ht, h2, hr⟩ := h
  refine br_c (fun _ => K) (fun _ => br_c (fun _ => K) (fun _ => br_f (by rw [h2]; decide) K))
set_option maxHeartbeats 200000 in
theorem rx_loop : ∀ (m : Nat) (c : LsC) (u : SX) (step : Nat), ls_XR T V n u0 c u → ls_Inv T n c → c.1 ≤ 6 → ls_mu n c ≤ m → step + m ≤ 1120 → ls_rfin T V n u0 (ls_run T V m c) post → match u with
    | (f_tickLimit, f_tokenCount, f_outCount, f_error, f_errorPlace, f_lastKind, f_lastValue, f_codeSize, f_methodCount, f_methodTokens, f_cellCount, f_activeCalls, f_next, f_ticksLeft, f_state, f_pos, f_expressionStart, f_pendingCount, f_frameTop, f_localCount, a_tokenCode, a_tokenValue, a_outKind, a_outValue, a_codeOp, a_codeArg, a_codeKind, a_codePlace, a_methodSign, a_methodStart, a_declared, a_cellKind, a_cellValue, a_callReturn, a_pendingLevel, a_pendingPlace, a_pendingMore, a_frameKind, a_frameMore, a_localName) => wX_readText_48 post (m + 1) (nI step) f_tickLimit f_tokenCount f_outCount f_error f_errorPlace f_lastKind f_lastValue f_codeSize f_methodCount f_methodTokens f_cellCount f_activeCalls f_next f_ticksLeft f_state f_pos f_expressionStart f_pendingCount f_frameTop f_localCount a_tokenCode a_tokenValue a_outKind a_outValue a_codeOp a_codeArg a_codeKind a_codePlace a_methodSign a_methodStart a_declared a_cellKind a_cellValue a_callReturn a_pendingLevel a_pendingPlace a_pendingMore a_frameKind a_frameMore a_localName := by
  intro m
  induction m with
  | zero =>
    intro c u step h hI h6 hm hs hp
    have e6 := ls_mu0 h6 hI (by omega)
    obtain ⟨st, pos, es, pe, fr, L, k⟩ := c
    dsimp only at e6
    subst e6
    obtain ⟨h1, h2, h3, h4, h5, h6, h7⟩ := hI
    rw [if_neg (by omega)] at h7
    obtain ⟨f_tickLimit, f_tokenCount, f_outCount, f_error, f_errorPlace, f_lastKind, f_lastValue, f_codeSize, f_methodCount, f_methodTokens, f_cellCount, f_activeCalls, f_next, f_ticksLeft, f_state, f_pos, f_expressionStart, f_pendingCount, f_frameTop, f_localCount, a_tokenCode, a_tokenValue, a_outKind, a_outValue, a_codeOp, a_codeArg, a_codeKind, a_codePlace, a_methodSign, a_methodStart, a_declared, a_cellKind, a_cellValue, a_callReturn, a_pendingLevel, a_pendingPlace, a_pendingMore, a_frameKind, a_frameMore, a_localName⟩ := u
    obtain ⟨hk, hlo, rfl, ht, rfl, rfl, rfl, rfl, rfl, rfl, rfl, rfl, rfl, rfl, rfl, rfl, hes, hP, hF, hN⟩ := h
    have n140 := ht.1
    have K : wX_readText_153 post f_tickLimit (nI n) f_outCount 0 (-1) f_lastKind f_lastValue (nI k.1) f_methodCount f_methodTokens f_cellCount f_activeCalls f_next f_ticksLeft (nI 6) (nI pos) f_expressionStart (nI pe.length) (nI fr.length) (nI L.length) a_tokenCode a_tokenValue a_outKind a_outValue k.2.1 k.2.2.1 k.2.2.2.1 k.2.2.2.2 a_methodSign a_methodStart a_declared a_cellKind a_cellValue a_callReturn a_pendingLevel a_pendingPlace a_pendingMore a_frameKind a_frameMore a_localName := by
      refine hx_emit (by omega) ?_
      exact hp _ ⟨hk, ls_lo_emK hlo h5, rfl, ht, rfl, rfl, rfl, rfl, rfl, rfl, rfl, rfl, rfl, rfl, rfl, rfl, hes, hP, hF, hN⟩
    exact br_c (fun _ => K) (fun _ => br_t rfl K)
  | succ m ih =>
    intro c u step h hI h6 hm hs hp
    by_cases e6 : c.1 = 6
    · have hp' : ls_rfin T V n u0 (.ok c) post := by
        unfold ls_run at hp
        rw [if_pos e6] at hp
        exact hp
      obtain ⟨st, pos, es, pe, fr, L, k⟩ := c
      dsimp only at e6
      subst e6
      obtain ⟨h1, h2, h3, h4, h5, h6, h7⟩ := hI
      rw [if_neg (by omega)] at h7
      obtain ⟨f_tickLimit, f_tokenCount, f_outCount, f_error, f_errorPlace, f_lastKind, f_lastValue, f_codeSize, f_methodCount, f_methodTokens, f_cellCount, f_activeCalls, f_next, f_ticksLeft, f_state, f_pos, f_expressionStart, f_pendingCount, f_frameTop, f_localCount, a_tokenCode, a_tokenValue, a_outKind, a_outValue, a_codeOp, a_codeArg, a_codeKind, a_codePlace, a_methodSign, a_methodStart, a_declared, a_cellKind, a_cellValue, a_callReturn, a_pendingLevel, a_pendingPlace, a_pendingMore, a_frameKind, a_frameMore, a_localName⟩ := u
      obtain ⟨hk, hlo, rfl, ht, rfl, rfl, rfl, rfl, rfl, rfl, rfl, rfl, rfl, rfl, rfl, rfl, hes, hP, hF, hN⟩ := h
      have n140 := ht.1
      have K : wX_readText_153 post f_tickLimit (nI n) f_outCount 0 (-1) f_lastKind f_lastValue (nI k.1) f_methodCount f_methodTokens f_cellCount f_activeCalls f_next f_ticksLeft (nI 6) (nI pos) f_expressionStart (nI pe.length) (nI fr.length) (nI L.length) a_tokenCode a_tokenValue a_outKind a_outValue k.2.1 k.2.2.1 k.2.2.2.1 k.2.2.2.2 a_methodSign a_methodStart a_declared a_cellKind a_cellValue a_callReturn a_pendingLevel a_pendingPlace a_pendingMore a_frameKind a_frameMore a_localName := by
        refine hx_emit (by omega) ?_
        exact hp' _ ⟨hk, ls_lo_emK hlo h5, rfl, ht, rfl, rfl, rfl, rfl, rfl, rfl, rfl, rfl, rfl, rfl, rfl, rfl, hes, hP, hF, hN⟩
      exact br_c (fun _ => K) (fun _ => br_t rfl K)
    · unfold ls_run at hp
      rw [if_neg e6] at hp
      have hTT : ls_txt T n := by
        obtain ⟨f_tickLimit, f_tokenCount, f_outCount, f_error, f_errorPlace, f_lastKind, f_lastValue, f_codeSize, f_methodCount, f_methodTokens, f_cellCount, f_activeCalls, f_next, f_ticksLeft, f_state, f_pos, f_expressionStart, f_pendingCount, f_frameTop, f_localCount, a_tokenCode, a_tokenValue, a_outKind, a_outValue, a_codeOp, a_codeArg, a_codeKind, a_codePlace, a_methodSign, a_methodStart, a_declared, a_cellKind, a_cellValue, a_callReturn, a_pendingLevel, a_pendingPlace, a_pendingMore, a_frameKind, a_frameMore, a_localName⟩ := u
        obtain ⟨st, pos, es, pe, fr, L, k⟩ := c
        obtain ⟨_, _, _, ht, _⟩ := h
        exact ls_tok_txt ht
      have OUT : ls_out T V n u0 (ls_rs T V c) (fun u => match u with | (f_tickLimit, f_tokenCount, f_outCount, f_error, f_errorPlace, f_lastKind, f_lastValue, f_codeSize, f_methodCount, f_methodTokens, f_cellCount, f_activeCalls, f_next, f_ticksLeft, f_state, f_pos, f_expressionStart, f_pendingCount, f_frameTop, f_localCount, a_tokenCode, a_tokenValue, a_outKind, a_outValue, a_codeOp, a_codeArg, a_codeKind, a_codePlace, a_methodSign, a_methodStart, a_declared, a_cellKind, a_cellValue, a_callReturn, a_pendingLevel, a_pendingPlace, a_pendingMore, a_frameKind, a_frameMore, a_localName) => ∀ x, x = nI step + 1 → wX_readText_48 post (m + 1) x f_tickLimit f_tokenCount f_outCount f_error f_errorPlace f_lastKind f_lastValue f_codeSize f_methodCount f_methodTokens f_cellCount f_activeCalls f_next f_ticksLeft f_state f_pos f_expressionStart f_pendingCount f_frameTop f_localCount a_tokenCode a_tokenValue a_outKind a_outValue a_codeOp a_codeArg a_codeKind a_codePlace a_methodSign a_methodStart a_declared a_cellKind a_cellValue a_callReturn a_pendingLevel a_pendingPlace a_pendingMore a_frameKind a_frameMore a_localName) := by
        unfold ls_out
        split
        · next c' hc =>
          intro u' hu'
          rw [hc] at hp
          obtain ⟨i1, i2⟩ := ls_inv_rs hTT (by omega) hI hc
          have G := ih c' u' (step + 1) hu' i1 (ls_st6 hc) (by omega) (by omega) hp
          obtain ⟨f_tickLimit, f_tokenCount, f_outCount, f_error, f_errorPlace, f_lastKind, f_lastValue, f_codeSize, f_methodCount, f_methodTokens, f_cellCount, f_activeCalls, f_next, f_ticksLeft, f_state, f_pos, f_expressionStart, f_pendingCount, f_frameTop, f_localCount, a_tokenCode, a_tokenValue, a_outKind, a_outValue, a_codeOp, a_codeArg, a_codeKind, a_codePlace, a_methodSign, a_methodStart, a_declared, a_cellKind, a_cellValue, a_callReturn, a_pendingLevel, a_pendingPlace, a_pendingMore, a_frameKind, a_frameMore, a_localName⟩ := u'
          exact nm_r (nI_1 step) G
        · next e hc =>
          intro u' hu'
          rw [hc] at hp
          have G := fun x => rx_err (m := m) (x := x) hu' hp
          obtain ⟨f_tickLimit, f_tokenCount, f_outCount, f_error, f_errorPlace, f_lastKind, f_lastValue, f_codeSize, f_methodCount, f_methodTokens, f_cellCount, f_activeCalls, f_next, f_ticksLeft, f_state, f_pos, f_expressionStart, f_pendingCount, f_frameTop, f_localCount, a_tokenCode, a_tokenValue, a_outKind, a_outValue, a_codeOp, a_codeArg, a_codeKind, a_codePlace, a_methodSign, a_methodStart, a_declared, a_cellKind, a_cellValue, a_callReturn, a_pendingLevel, a_pendingPlace, a_pendingMore, a_frameKind, a_frameMore, a_localName⟩ := u'
          exact fun x _ => G x
      have S := rx_step h hI OUT
      obtain ⟨st, pos, es, pe, fr, L, k⟩ := c
      dsimp only at S e6 h6
      obtain ⟨S0, S1, S2, S3, S4, S5⟩ := S
      obtain ⟨f_tickLimit, f_tokenCount, f_outCount, f_error, f_errorPlace, f_lastKind, f_lastValue, f_codeSize, f_methodCount, f_methodTokens, f_cellCount, f_activeCalls, f_next, f_ticksLeft, f_state, f_pos, f_expressionStart, f_pendingCount, f_frameTop, f_localCount, a_tokenCode, a_tokenValue, a_outKind, a_outValue, a_codeOp, a_codeArg, a_codeKind, a_codePlace, a_methodSign, a_methodStart, a_declared, a_cellKind, a_cellValue, a_callReturn, a_pendingLevel, a_pendingPlace, a_pendingMore, a_frameKind, a_frameMore, a_localName⟩ := u
      obtain ⟨hk, hlo, rfl, ht, rfl, rfl, rfl, rfl, rfl, rfl, rfl, rfl, rfl, rfl, rfl, rfl, hes, hP, hF, hN⟩ := h
      refine br_f (nI_ge (b := 1120) (by omega) (by decide)) ?_
      rcases (show st = 0 ∨ st = 1 ∨ st = 2 ∨ st = 3 ∨ st = 4 ∨ st = 5 by omega) with rfl | rfl | rfl | rfl | rfl | rfl
      · exact br_f (by decide) (br_t rfl (br_f (by decide) (br_f (by decide) (br_t rfl (S0 rfl)))))
      · exact br_f (by decide) (br_t rfl (br_f (by decide) (br_f (by decide) (br_f (by decide) (br_t rfl (S1 rfl))))))
      · exact br_f (by decide) (br_t rfl (br_f (by decide) (br_f (by decide) (br_f (by decide) (br_f (by decide) (br_t rfl (S2 rfl)))))))
      · exact br_f (by decide) (br_t rfl (br_f (by decide) (br_f (by decide) (br_f (by decide) (br_f (by decide) (br_f (by decide) (br_t rfl (S3 rfl))))))))
      · exact br_f (by decide) (br_t rfl (br_f (by decide) (br_f (by decide) (br_f (by decide) (br_f (by decide) (br_f (by decide) (br_f (by decide) (br_t rfl (S4 rfl)))))))))
      · exact br_f (by decide) (br_t rfl (br_f (by decide) (br_t (by decide) (S5 rfl))))
end
section
variable {f_tickLimit f_tokenCount f_outCount f_error f_errorPlace f_lastKind f_codeSize f_methodCount f_methodTokens f_cellCount f_activeCalls f_next f_ticksLeft f_state f_pos f_expressionStart f_pendingCount f_frameTop f_localCount : Int32}
variable {f_lastValue : Int64}
variable {a_tokenCode a_tokenValue a_outKind a_codeOp a_codeArg a_codeKind a_codePlace a_methodSign a_methodStart a_declared a_cellKind a_callReturn a_pendingLevel a_pendingPlace a_pendingMore a_frameKind a_frameMore a_localName : Nat → Int32}
variable {a_outValue a_cellValue : Nat → Int64}
variable {T : Nat → Nat} {V : Nat → Int32} {n : Nat} {post : SX → Prop}
set_option maxHeartbeats 200000 in
theorem rx_readText (ht : ls_tok T V n a_tokenCode a_tokenValue)
    (hp : ls_rfin T V n (f_tickLimit, nI n, f_outCount, 0, -1, f_lastKind, f_lastValue, f_codeSize, f_methodCount, f_methodTokens, f_cellCount, f_activeCalls, f_next, f_ticksLeft, f_state, f_pos, f_expressionStart, f_pendingCount, f_frameTop, f_localCount, a_tokenCode, a_tokenValue, a_outKind, a_outValue, a_codeOp, a_codeArg, a_codeKind, a_codePlace, a_methodSign, a_methodStart, a_declared, a_cellKind, a_cellValue, a_callReturn, a_pendingLevel, a_pendingPlace, a_pendingMore, a_frameKind, a_frameMore, a_localName) (ls_run T V 1120 (0, 0, 0, [], [], [], (480, a_codeOp, a_codeArg, a_codeKind, a_codePlace))) post) : wpX_readText post (f_tickLimit, nI n, f_outCount, 0, -1, f_lastKind, f_lastValue, f_codeSize, f_methodCount, f_methodTokens, f_cellCount, f_activeCalls, f_next, f_ticksLeft, f_state, f_pos, f_expressionStart, f_pendingCount, f_frameTop, f_localCount, a_tokenCode, a_tokenValue, a_outKind, a_outValue, a_codeOp, a_codeArg, a_codeKind, a_codePlace, a_methodSign, a_methodStart, a_declared, a_cellKind, a_cellValue, a_callReturn, a_pendingLevel, a_pendingPlace, a_pendingMore, a_frameKind, a_frameMore, a_localName) := by
  unfold wpX_readText
  dsimp only
  have n140 := ht.1
  refine nm_e (nm_e ⟨1121, ?_⟩)
  refine rx_loop (u0 := (f_tickLimit, nI n, f_outCount, 0, -1, f_lastKind, f_lastValue, f_codeSize, f_methodCount, f_methodTokens, f_cellCount, f_activeCalls, f_next, f_ticksLeft, f_state, f_pos, f_expressionStart, f_pendingCount, f_frameTop, f_localCount, a_tokenCode, a_tokenValue, a_outKind, a_outValue, a_codeOp, a_codeArg, a_codeKind, a_codePlace, a_methodSign, a_methodStart, a_declared, a_cellKind, a_cellValue, a_callReturn, a_pendingLevel, a_pendingPlace, a_pendingMore, a_frameKind, a_frameMore, a_localName)) 1120 (0, 0, 0, [], [], [], (480, a_codeOp, a_codeArg, a_codeKind, a_codePlace)) (f_tickLimit, nI n, f_outCount, 0, -1, f_lastKind, f_lastValue, 480, f_methodCount, f_methodTokens, f_cellCount, f_activeCalls, f_next, f_ticksLeft, 0, 0, f_expressionStart, 0, 0, 0, a_tokenCode, a_tokenValue, a_outKind, a_outValue, a_codeOp, a_codeArg, a_codeKind, a_codePlace, a_methodSign, a_methodStart, a_declared, a_cellKind, a_cellValue, a_callReturn, a_pendingLevel, a_pendingPlace, a_pendingMore, upd a_frameKind 0 0, upd a_frameMore 0 0, a_localName) 0 ?_ ?_ (by show 0 ≤ 6; decide) ?_ (by decide) hp
  · exact ⟨rfl, fun i hi => ⟨rfl, rfl, rfl, rfl⟩, rfl, ht, rfl, rfl, rfl, rfl, rfl, rfl, rfl, rfl, rfl, rfl, rfl, rfl, (fun h => by omega), trivial, pk_us, trivial⟩
  · refine ⟨by omega, by simp, by simp, rfl, by show 480 ≤ 480; decide, ls_peok_nil, ?_⟩
    rw [if_neg (by omega)]
    exact ⟨by show 480 + 0 ≤ 480 + 2 * 0; decide, by simp, rfl, trivial, fun h => by omega⟩
  · simp only [ls_mu_def, ls_sw_0, ls_sw_1, ls_sw_2, ls_sw_3, ls_sw_4, ls_sw_5, ls_sw_6, ls_fw_0, ls_fw_1, ls_fw_2, ls_fw_3, ls_fw_4, ls_fw_5, ls_fw_6, ls_fw_7, ls_fw_8, ls_fw_9, ls_fw_10, ls_fw_11, List.length_nil, List.length_cons]; omega
end
