/-! The component's reading steps against the pure machine: states 0 to 3 -/
set_option maxHeartbeats 200000 in
theorem ls_w {t w : Nat} (hw : w < 54) : nI (ls_xc t) = nI w ↔ t = w := by
  rw [nI_eq (by have := ls_xc_lt t; omega) (by omega), ls_xc_eq hw]
set_option maxHeartbeats 200000 in
theorem ls_w54 {t : Nat} (ht : t ≤ 72) : nI (ls_xc t) = 54 ↔ ls_nam t := by
  rw [← ls_xc_nam ht]
  exact nI_eq (b := 54) (by have := ls_xc_lt t; omega) (by decide)
set_option maxHeartbeats 200000 in
theorem ls_w57 {t : Nat} (ht : t ≤ 72) : nI (ls_xc t) = 57 ↔ t = 72 := by
  have h : ls_xc t = 57 ↔ t = 72 := by unfold ls_xc; (repeat' split) <;> omega
  rw [← h]
  exact nI_eq (b := 57) (by have := ls_xc_lt t; omega) (by decide)
set_option maxHeartbeats 200000 in
theorem ls_wlt {t w : Nat} (hw : w < 54) : nI (ls_xc t) < nI w ↔ t < w := by
  have h : ls_xc t < w ↔ t < w := by unfold ls_xc; (repeat' split) <;> omega
  rw [← h]
  exact nI_ltI (by have := ls_xc_lt t; omega) (by omega)
set_option maxHeartbeats 200000 in
theorem ls_wgt {t w : Nat} (hw : w < 54) : nI w < nI (ls_xc t) ↔ w < t := by
  have h : w < ls_xc t ↔ w < t := by unfold ls_xc; (repeat' split) <;> omega
  rw [← h]
  exact nI_ltI (by omega) (by have := ls_xc_lt t; omega)
set_option maxHeartbeats 200000 in
theorem ls_isKind {q : Int32 → Prop} {t : Nat} (h1 : t < 6 → q 1) (h0 : ¬ t < 6 → q 0) : wpX_isKind q (nI (ls_xc t)) := by
  refine br_f (nI_pos (by have := ls_xc_lt t; omega)) (br_c (fun h => h0 ?_) (fun h => h1 ?_))
  · have := (ls_wgt (t := t) (w := 5) (by decide)).mp h; omega
  · have := mt (ls_wgt (t := t) (w := 5) (by decide)).mpr h; omega
def ls_out (T : Nat → Nat) (V : Nat → Int32) (n : Nat) (u0 : SX) (r : Except Nat LsC) (post : SX → Prop) : Prop := match r with
  | .ok c => ∀ u', ls_XR T V n u0 c u' → post u'
  | .error e => ∀ u', ls_XK T V n u0 e 400 u' → post u'
section
variable {T : Nat → Nat} {V : Nat → Int32} {n : Nat} {u0 u : SX} {post : SX → Prop} {pos es : Nat} {pe : List LsP} {fr : List LsF} {L : List Nat} {k : LsK}
set_option maxHeartbeats 200000 in
theorem rx_r0 (h : ls_XR T V n u0 (0, pos, es, pe, fr, L, k) u) (b1 : pos ≤ 140) (b2 : fr.length < 141) (hl : ∀ f, fr.head? = some f → f.1 = 1 → f.2.1 = f.2.2.2.length ∧ ∃ m, f.2.2.2 = L.drop m) (hfk : ∀ f, fr.head? = some f → 0 < f.1 ∧ f.1 < 12)
    (hp : ls_out T V n u0 (ls_r0 T pos es pe fr L k) post) : wpX_begin post u := by
  obtain ⟨f_tickLimit, f_tokenCount, f_outCount, f_error, f_errorPlace, f_lastKind, f_lastValue, f_codeSize, f_methodCount, f_methodTokens, f_cellCount, f_activeCalls, f_next, f_ticksLeft, f_state, f_pos, f_expressionStart, f_pendingCount, f_frameTop, f_localCount, a_tokenCode, a_tokenValue, a_outKind, a_outValue, a_codeOp, a_codeArg, a_codeKind, a_codePlace, a_methodSign, a_methodStart, a_declared, a_cellKind, a_cellValue, a_callReturn, a_pendingLevel, a_pendingPlace, a_pendingMore, a_frameKind, a_frameMore, a_localName⟩ := u
  obtain ⟨hk, hlo, rfl, ht, rfl, rfl, rfl, rfl, rfl, rfl, rfl, rfl, rfl, rfl, rfl, rfl, hes, hP, hF, hN⟩ := h
  unfold wpX_begin
  dsimp only
  refine hx_wordAt ht (by omega) ?_
  refine ⟨vp_in_nI (by omega) (by decide), ?_⟩
  rw [nI_clamp (by omega)]
  have tl := ls_tok_le ht pos
  unfold ls_r0 at hp
  cases fr with
  | nil =>
    refine nm_r (show a_frameKind 0 = 0 from hF) (br_t rfl ?_)
    by_cases t72 : T pos = 72
    · rw [if_pos ⟨t72, rfl⟩] at hp
      exact br_t ((ls_w57 tl).mpr t72) (br_t rfl (hp _ ⟨hk, hlo, rfl, ht, rfl, rfl, rfl, rfl, rfl, rfl, rfl, rfl, rfl, rfl, rfl, rfl, (fun h => by omega), hP, hF, hN⟩))
    · rw [if_neg (fun h => t72 h.1)] at hp
      refine br_f (mt (ls_w57 tl).mp t72) ?_
      have K : wX_begin_71 post (nI (ls_xc (T pos))) 1 f_tickLimit (nI n) f_outCount 0 (-1) f_lastKind f_lastValue (nI k.1) f_methodCount f_methodTokens f_cellCount f_activeCalls f_next f_ticksLeft (nI 0) (nI pos) f_expressionStart (nI pe.length) (nI 0) (nI L.length) a_tokenCode a_tokenValue a_outKind a_outValue k.2.1 k.2.2.1 k.2.2.2.1 k.2.2.2.2 a_methodSign a_methodStart a_declared a_cellKind a_cellValue a_callReturn a_pendingLevel a_pendingPlace a_pendingMore a_frameKind a_frameMore a_localName := by
        refine ls_isKind (fun t6 => ?_) (fun t6 => ?_)
        · dsimp only at hp
          rw [if_pos t6] at hp
          exact br_f (by decide) (br_f (by decide) (hp _ ⟨hk, hlo, rfl, ht, rfl, rfl, rfl, rfl, rfl, rfl, rfl, rfl, rfl, rfl, rfl, rfl, (fun h => by omega), hP, hF, hN⟩))
        · dsimp only at hp
          rw [if_neg t6] at hp
          exact br_t rfl (hp _ ⟨hk, hlo, rfl, ht, rfl, rfl, rfl, rfl, rfl, rfl, rfl, rfl, rfl, rfl, rfl, rfl, (fun h => by omega), hP, hF, hN⟩)
      exact br_c (fun _ => br_f (by decide) K) (fun _ => K)
  | cons f r =>
    obtain ⟨fk, mo, sp, l⟩ := f
    obtain ⟨f0, f12⟩ := hfk _ rfl
    dsimp only at f0 f12
    rw [if_neg (fun h => List.cons_ne_nil _ _ h.2)] at hp
    dsimp only at hp
    obtain ⟨hF1, hF2, hF3⟩ := hF
    refine nm_r (show a_frameKind (r.length + 1) = nI fk from hF1) (br_f (nI_ne0 f0 (by omega)) ?_)
    by_cases q : fk = 1
    · subst q
      rw [if_pos rfl] at hp
      refine br_t rfl ?_
      have C : wX_begin_53 post (nI (ls_xc (T pos))) (nI 1) 1 f_tickLimit (nI n) f_outCount 0 (-1) f_lastKind f_lastValue (nI k.1) f_methodCount f_methodTokens f_cellCount f_activeCalls f_next f_ticksLeft (nI 0) (nI pos) f_expressionStart (nI pe.length) (nI (r.length + 1)) (nI L.length) a_tokenCode a_tokenValue a_outKind a_outValue k.2.1 k.2.2.1 k.2.2.2.1 k.2.2.2.2 a_methodSign a_methodStart a_declared a_cellKind a_cellValue a_callReturn a_pendingLevel a_pendingPlace a_pendingMore a_frameKind a_frameMore a_localName := by
        by_cases t18 : T pos = 18
        · rw [if_pos t18] at hp
          refine br_t ((ls_w (w := 18) (by decide)).mpr t18) (br_t rfl ?_)
          unfold wpX_closeBlock
          dsimp only
          refine ⟨vp_in_nI (n := r.length + 1) (Nat.lt_succ_of_lt b2) (by decide), ?_⟩
          rw [nI_clamp (n := r.length + 1) (by have : r.length + 1 < 141 := b2; omega)]
          obtain ⟨hm, m, hd⟩ := hl _ rfl rfl
          dsimp only at hm hd
          refine nm_r (show a_frameMore (r.length + 1) = nI l.length by rw [← hm]; exact hF2) ?_
          refine hx_closeFrame (by have : r.length + 1 < 141 := b2; omega) ?_
          refine nm_r (nI_1 pos) (hp _ ⟨hk, hlo, rfl, ht, rfl, rfl, rfl, rfl, rfl, rfl, rfl, rfl, rfl, rfl, rfl, rfl, (fun h => by omega), hP, hF3, ?_⟩)
          rw [hd]; exact ls_StN_drop m hN
        · rw [if_neg t18] at hp
          refine br_f (mt (ls_w (w := 18) (by decide)).mp t18) ?_
          refine ls_isKind (fun t6 => ?_) (fun t6 => ?_)
          · rw [if_pos t6] at hp
            exact br_f (by decide) (br_f (by decide) (hp _ ⟨hk, hlo, rfl, ht, rfl, rfl, rfl, rfl, rfl, rfl, rfl, rfl, rfl, rfl, rfl, rfl, (fun h => by omega), hP, ⟨hF1, hF2, hF3⟩, hN⟩))
          · rw [if_neg t6] at hp
            exact br_t rfl (hp _ ⟨hk, hlo, rfl, ht, rfl, rfl, rfl, rfl, rfl, rfl, rfl, rfl, rfl, rfl, rfl, rfl, (fun h => by omega), hP, ⟨hF1, hF2, hF3⟩, hN⟩)
      exact br_c (fun _ => br_f (by decide) C) (fun _ => C)
    · rw [if_neg q] at hp
      have q1 : ¬ nI fk = 1 := fun h => q ((nI_eq (b := 1) (by omega) (by decide)).mp h)
      refine br_f q1 ?_
      have K : wX_begin_71 post (nI (ls_xc (T pos))) 0 f_tickLimit (nI n) f_outCount 0 (-1) f_lastKind f_lastValue (nI k.1) f_methodCount f_methodTokens f_cellCount f_activeCalls f_next f_ticksLeft (nI 0) (nI pos) f_expressionStart (nI pe.length) (nI (r.length + 1)) (nI L.length) a_tokenCode a_tokenValue a_outKind a_outValue k.2.1 k.2.2.1 k.2.2.2.1 k.2.2.2.2 a_methodSign a_methodStart a_declared a_cellKind a_cellValue a_callReturn a_pendingLevel a_pendingPlace a_pendingMore a_frameKind a_frameMore a_localName := by
        have hp1 := hp _ (show ls_XR T V n u0 _ (f_tickLimit, nI n, f_outCount, 0, -1, f_lastKind, f_lastValue, nI k.1, f_methodCount, f_methodTokens, f_cellCount, f_activeCalls, f_next, f_ticksLeft, 1, nI pos, f_expressionStart, nI pe.length, nI (r.length + 1), nI L.length, a_tokenCode, a_tokenValue, a_outKind, a_outValue, k.2.1, k.2.2.1, k.2.2.2.1, k.2.2.2.2, a_methodSign, a_methodStart, a_declared, a_cellKind, a_cellValue, a_callReturn, a_pendingLevel, a_pendingPlace, a_pendingMore, a_frameKind, a_frameMore, a_localName) from ⟨hk, hlo, rfl, ht, rfl, rfl, rfl, rfl, rfl, rfl, rfl, rfl, rfl, rfl, rfl, rfl, (fun h => by omega), hP, ⟨hF1, hF2, hF3⟩, hN⟩)
        exact ls_isKind (fun _ => br_f (by decide) (br_t rfl hp1)) (fun _ => br_t rfl hp1)
      have C : wX_begin_53 post (nI (ls_xc (T pos))) (nI fk) 0 f_tickLimit (nI n) f_outCount 0 (-1) f_lastKind f_lastValue (nI k.1) f_methodCount f_methodTokens f_cellCount f_activeCalls f_next f_ticksLeft (nI 0) (nI pos) f_expressionStart (nI pe.length) (nI (r.length + 1)) (nI L.length) a_tokenCode a_tokenValue a_outKind a_outValue k.2.1 k.2.2.1 k.2.2.2.1 k.2.2.2.2 a_methodSign a_methodStart a_declared a_cellKind a_cellValue a_callReturn a_pendingLevel a_pendingPlace a_pendingMore a_frameKind a_frameMore a_localName :=
        br_c (fun _ => br_f q1 K) (fun _ => K)
      exact br_c (fun _ => br_f (nI_ne0 f0 (by omega)) C) (fun _ => C)
end
