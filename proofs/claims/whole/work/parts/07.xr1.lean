set_option maxHeartbeats 200000 in
theorem ls_nm1 {m : Nat} (h : m < 2 ^ 31) : ¬ nI m = -1 := fun e => by
  have h1 := nI_toInt h
  rw [e] at h1
  have h2 : (-1 : Int32).toInt = -1 := by decide
  omega
section
variable {f_tickLimit f_tokenCount f_outCount f_error f_errorPlace f_lastKind f_codeSize f_methodCount f_methodTokens f_cellCount f_activeCalls f_next f_ticksLeft f_state f_pos f_expressionStart f_pendingCount f_frameTop f_localCount : Int32}
variable {f_lastValue : Int64}
variable {a_tokenCode a_tokenValue a_outKind a_codeOp a_codeArg a_codeKind a_codePlace a_methodSign a_methodStart a_declared a_cellKind a_callReturn a_pendingLevel a_pendingPlace a_pendingMore a_frameKind a_frameMore a_localName : Nat → Int32}
variable {a_outValue a_cellValue : Nat → Int64}
variable {T : Nat → Nat} {V : Nat → Int32} {n : Nat} {u0 u : SX} {post : SX → Prop} {pos es : Nat} {pe : List LsP} {fr : List LsF} {L : List Nat} {k : LsK}
set_option maxHeartbeats 200000 in
theorem ls_lo_emK {o a d p : Int32} (h : ls_lo u0 k) (hc : 480 ≤ k.1) : ls_lo u0 (ls_em k o a d p) := ls_lo_em (cc := k.1) h hc
set_option maxHeartbeats 200000 in
theorem ls_lo_aimK {j : Nat} (h : ls_lo u0 k) (hc : 480 ≤ j) : ls_lo u0 (ls_aim k j) := ls_lo_aim (cc := k.1) h hc
set_option maxHeartbeats 200000 in
/-- if, while, print: the '(' -/
theorem rx_hdr {fk tick : Nat} (hk : (f_tickLimit, f_tokenCount, f_outCount, f_lastKind, f_lastValue, f_methodCount, f_methodTokens, f_cellCount, f_activeCalls, f_next, f_ticksLeft, a_tokenCode, a_tokenValue, a_outKind, a_outValue, a_methodSign, a_methodStart, a_declared, a_cellKind, a_cellValue, a_callReturn) = ls_kept u0) (hlo : ls_lo u0 k) (ht : ls_tok T V n a_tokenCode a_tokenValue) (hP : ls_StP a_pendingLevel a_pendingPlace a_pendingMore pe) (hF : ls_StF a_frameKind a_frameMore fr) (hN : ls_StN a_localName L) (etc : f_tokenCount = nI n) (b0 : 480 ≤ k.1 ∧ k.1 ≤ 761) (b1 : pos ≤ 140) (b2 : fr.length < 141) (b3 : L.length ≤ 8) (b4 : pe.length ≤ 140)
    (hp : ls_out T V n u0 (ls_hdr T pos fk pe fr L tick k) post) : wpX_beginHeader post (f_tickLimit, nI n, f_outCount, 0, -1, f_lastKind, f_lastValue, nI k.1, f_methodCount, f_methodTokens, f_cellCount, f_activeCalls, f_next, f_ticksLeft, 1, nI pos, f_expressionStart, nI pe.length, nI fr.length, nI L.length, a_tokenCode, a_tokenValue, a_outKind, a_outValue, k.2.1, k.2.2.1, k.2.2.2.1, k.2.2.2.2, a_methodSign, a_methodStart, a_declared, a_cellKind, a_cellValue, a_callReturn, a_pendingLevel, a_pendingPlace, a_pendingMore, a_frameKind, a_frameMore, a_localName) (nI fk) (nI tick) := by
  subst etc
  unfold wpX_beginHeader
  dsimp only
  refine hx_openFrame b2 (nm_r (nI_1 pos) ?_)
  unfold ls_hdr at hp
  by_cases t : T (pos + 1) = 15
  · rw [if_pos t] at hp
    refine hx_expect (w := 15) ht (by omega) ((ls_xc_eq (by decide)).mpr t) ?_
    exact hp _ ⟨hk, hlo, rfl, ht, rfl, rfl, rfl, rfl, rfl, rfl, rfl, rfl, rfl, rfl, rfl, rfl, (fun _ => rfl), hP, ls_StF_push fk tick pos [] hF, hN⟩
  · rw [if_neg t] at hp
    refine hx_expectF (w := 15) (st := 1) ht (by omega) (by decide) t (by decide) ?_
    exact hp _ ⟨hk, rfl, ht, rfl, rfl, ⟨k.1, rfl, b0⟩, ⟨pos + 1, rfl, by omega⟩, ⟨pe.length, rfl, b4⟩, ⟨fr.length + 1, rfl, by omega⟩, ⟨L.length, rfl, b3⟩, ls_lo_cs (cc := k.1) hlo⟩
set_option maxHeartbeats 200000 in
theorem ls_loop_walk {x1 : Int32} (etc : f_frameTop = nI fr.length) (b2 : fr.length < 142) (hF : ls_StF a_frameKind a_frameMore fr) (hfk : ∀ f ∈ fr, f.1 < 12)
    (h0 : ls_loop fr = none → wX_readLoopJump_37 post x1 0 f_tickLimit f_tokenCount f_outCount f_error f_errorPlace f_lastKind f_lastValue f_codeSize f_methodCount f_methodTokens f_cellCount f_activeCalls f_next f_ticksLeft f_state f_pos f_expressionStart f_pendingCount f_frameTop f_localCount a_tokenCode a_tokenValue a_outKind a_outValue a_codeOp a_codeArg a_codeKind a_codePlace a_methodSign a_methodStart a_declared a_cellKind a_cellValue a_callReturn a_pendingLevel a_pendingPlace a_pendingMore a_frameKind a_frameMore a_localName) (h1 : ∀ m j, ls_loop fr = some m → 0 < j → j < 142 → a_frameMore j = nI m → wX_readLoopJump_37 post x1 (nI j) f_tickLimit f_tokenCount f_outCount f_error f_errorPlace f_lastKind f_lastValue f_codeSize f_methodCount f_methodTokens f_cellCount f_activeCalls f_next f_ticksLeft f_state f_pos f_expressionStart f_pendingCount f_frameTop f_localCount a_tokenCode a_tokenValue a_outKind a_outValue a_codeOp a_codeArg a_codeKind a_codePlace a_methodSign a_methodStart a_declared a_cellKind a_cellValue a_callReturn a_pendingLevel a_pendingPlace a_pendingMore a_frameKind a_frameMore a_localName) : wpX_readLoopJump post (f_tickLimit, f_tokenCount, f_outCount, f_error, f_errorPlace, f_lastKind, f_lastValue, f_codeSize, f_methodCount, f_methodTokens, f_cellCount, f_activeCalls, f_next, f_ticksLeft, f_state, f_pos, f_expressionStart, f_pendingCount, f_frameTop, f_localCount, a_tokenCode, a_tokenValue, a_outKind, a_outValue, a_codeOp, a_codeArg, a_codeKind, a_codePlace, a_methodSign, a_methodStart, a_declared, a_cellKind, a_cellValue, a_callReturn, a_pendingLevel, a_pendingPlace, a_pendingMore, a_frameKind, a_frameMore, a_localName) x1 := by
  have H : ∀ (g : List LsF), g.length ≤ fr.length → ls_StF a_frameKind a_frameMore g → (∀ f ∈ g, f.1 < 12) → ls_loop g = ls_loop fr → wX_readLoopJump_7 post x1 f_tickLimit f_tokenCount f_outCount f_error f_errorPlace f_lastKind f_lastValue f_codeSize f_methodCount f_methodTokens f_cellCount f_activeCalls f_next f_ticksLeft f_state f_pos f_expressionStart f_pendingCount f_frameTop f_localCount a_tokenCode a_tokenValue a_outKind a_outValue a_codeOp a_codeArg a_codeKind a_codePlace a_methodSign a_methodStart a_declared a_cellKind a_cellValue a_callReturn a_pendingLevel a_pendingPlace a_pendingMore a_frameKind a_frameMore a_localName (g.length + 2) 0 (nI g.length) := by
    intro g
    induction g with
    | nil => intro _ _ _ e; exact br_t (by decide) (h0 e.symm)
    | cons f r ih =>
      intro hle hS hf e
      obtain ⟨s1, s2, s3⟩ := hS
      have hle' : r.length + 1 ≤ fr.length := hle
      have f12 := hf f (List.mem_cons_self ..)
      refine br_f (nI_nle (n := r.length + 1) (by omega) (by omega)) (br_t rfl ⟨vp_in_nI (n := r.length + 1) (by omega) (by decide), ?_⟩)
      rw [show (nI (f :: r).length).toNatClampNeg = r.length + 1 from nI_clamp (n := r.length + 1) (by omega), s1]
      by_cases q : f.1 = 5
      · rw [q]
        have e2 : ls_loop fr = some f.2.1 := by rw [← e]; simp [ls_loop, q]
        refine br_t rfl (nm_r (pk_m1 r.length) ?_)
        have K := h1 _ (r.length + 1) e2 (by omega) (by omega) s2
        have ne : ¬ nI (r.length + 1) = 0 := nI_ne0 (by omega) (by omega)
        cases r with
        | nil => exact br_t (by decide) K
        | cons g2 r2 => exact br_f (nI_nle (n := r2.length + 1) (by omega) (by have : (g2 :: r2).length = r2.length + 1 := rfl; omega)) (br_f ne K)
      · refine br_f (fun h => q ((nI_eq (b := 5) (by omega) (by decide)).mp h)) (nm_r (pk_m1 r.length) ?_)
        exact ih (by omega) s3 (fun f hf' => hf f (List.mem_cons_of_mem _ hf')) (by rw [← e]; simp [ls_loop, q])
  subst etc
  exact ⟨_, H fr (Nat.le_refl _) hF hfk rfl⟩
set_option maxHeartbeats 200000 in
theorem ls_mkd_walk {q : Int32 → Prop} (etc : f_frameTop = nI fr.length) (b2 : fr.length < 142) (hF : ls_StF a_frameKind a_frameMore fr) (hfk : ∀ f ∈ fr, f.1 < 12) (hmk : ∀ f ∈ fr, f.1 = 2 → f.2.1 < 761 ∧ a_codeKind f.2.1 &&& 7 = nI (f.2.2.2.headD 0) ∧ f.2.2.2.headD 0 < 8)
    (h0 : ls_mkd fr = none → q (-1)) (h1 : ∀ m, ls_mkd fr = some m → m < 8 → q (nI m)) : wpX_openMethodKind q (f_tickLimit, f_tokenCount, f_outCount, f_error, f_errorPlace, f_lastKind, f_lastValue, f_codeSize, f_methodCount, f_methodTokens, f_cellCount, f_activeCalls, f_next, f_ticksLeft, f_state, f_pos, f_expressionStart, f_pendingCount, f_frameTop, f_localCount, a_tokenCode, a_tokenValue, a_outKind, a_outValue, a_codeOp, a_codeArg, a_codeKind, a_codePlace, a_methodSign, a_methodStart, a_declared, a_cellKind, a_cellValue, a_callReturn, a_pendingLevel, a_pendingPlace, a_pendingMore, a_frameKind, a_frameMore, a_localName) := by
  subst etc
  cases fr with
  | nil => exact br_t (by decide) (h0 rfl)
  | cons f r =>
    have key : ∀ (g : List LsF), g ≠ [] → ls_StF a_frameKind a_frameMore g → (∀ f ∈ g, f.1 < 12) → (∀ f ∈ g, f.1 = 2 → f.2.1 < 761 ∧ a_codeKind f.2.1 &&& 7 = nI (f.2.2.2.headD 0) ∧ f.2.2.2.headD 0 < 8) → (a_frameKind 1 = 2 → ∃ m d, ls_mkd g = some m ∧ a_frameMore 1 = nI d ∧ d < 761 ∧ a_codeKind d &&& 7 = nI m ∧ m < 8) ∧ (¬ a_frameKind 1 = 2 → ls_mkd g = none) := by
      intro g
      induction g with
      | nil => intro h; exact absurd rfl h
      | cons f r ih =>
        intro _ hS hf hm
        obtain ⟨s1, s2, s3⟩ := hS
        cases r with
        | nil =>
          have f12 := hf f (List.mem_cons_self ..)
          have s1' : a_frameKind 1 = nI f.1 := s1
          have s2' : a_frameMore 1 = nI f.2.1 := s2
          rw [s1']
          refine ⟨fun h => ?_, fun h => ?_⟩
          · have q : f.1 = 2 := (nI_eq (b := 2) (by omega) (by decide)).mp h
            obtain ⟨m1, m2, m3⟩ := hm f (List.mem_cons_self ..) q
            exact ⟨_, f.2.1, by simp [ls_mkd, q], s2', m1, m2, m3⟩
          · have q : f.1 ≠ 2 := fun q => h (by rw [q]; rfl)
            simp [ls_mkd, q]
        | cons g2 r2 =>
          have := ih (List.cons_ne_nil _ _) s3 (fun f hf' => hf f (List.mem_cons_of_mem _ hf')) (fun f hf' => hm f (List.mem_cons_of_mem _ hf'))
          exact this
    obtain ⟨k1, k2⟩ := key _ (List.cons_ne_nil f r) hF hfk hmk
    refine br_f (nI_nle (n := r.length + 1) (by omega) (by have : r.length + 1 < 142 := b2; omega)) (br_c (fun h => ?_) (fun h => h0 (k2 h)))
    obtain ⟨m, d, e1, e2, e3, e4, e5⟩ := k1 h
    rw [e2]
    refine nm_e (br_f (nI_pos (by omega)) (br_f (nI_ge e3 (by decide)) ⟨vp_in_nI e3 (by decide), ?_⟩))
    rw [nI_clamp (by omega), e4]
    exact nm_e (h1 m e1 e5)
end
section
variable {T : Nat → Nat} {V : Nat → Int32} {n : Nat} {u0 u : SX} {post : SX → Prop} {pos es : Nat} {pe : List LsP} {fr : List LsF} {L : List Nat} {k : LsK}
set_option maxHeartbeats 200000 in
theorem rx_r1 (h : ls_XR T V n u0 (1, pos, es, pe, fr, L, k) u) (b0 : 480 ≤ k.1 ∧ k.1 + 1 ≤ 761) (b01 : T pos ≠ 72 → k.1 + 2 ≤ 761) (b1 : pos ≤ 140) (b2 : fr.length < 141) (b3 : L.length ≤ 8) (b4 : pe.length ≤ 140) (hfk : ∀ f ∈ fr, f.1 < 12) (hmk : ∀ f ∈ fr, f.1 = 2 → f.2.1 < k.1 ∧ k.2.2.2.1 f.2.1 &&& 7 = nI (f.2.2.2.headD 0) ∧ f.2.2.2.headD 0 < 8)
    (hp : ls_out T V n u0 (ls_r1 T pos es pe fr L k) post) : wpX_beginStatement post u := by
  obtain ⟨f_tickLimit, f_tokenCount, f_outCount, f_error, f_errorPlace, f_lastKind, f_lastValue, f_codeSize, f_methodCount, f_methodTokens, f_cellCount, f_activeCalls, f_next, f_ticksLeft, f_state, f_pos, f_expressionStart, f_pendingCount, f_frameTop, f_localCount, a_tokenCode, a_tokenValue, a_outKind, a_outValue, a_codeOp, a_codeArg, a_codeKind, a_codePlace, a_methodSign, a_methodStart, a_declared, a_cellKind, a_cellValue, a_callReturn, a_pendingLevel, a_pendingPlace, a_pendingMore, a_frameKind, a_frameMore, a_localName⟩ := u
  obtain ⟨hk, hlo, rfl, ht, rfl, rfl, rfl, rfl, rfl, rfl, rfl, rfl, rfl, rfl, rfl, rfl, hes, hP, hF, hN⟩ := h
  unfold wpX_beginStatement
  dsimp only
  refine hx_wordAt ht (by omega) (hx_emit (by omega) ?_)
  dsimp only
  have hlo1 : ls_lo u0 (ls_em k 1 0 0 (nI pos)) := ls_lo_emK hlo b0.1
  have XK1 : ∀ (p ft : Nat) (K : LsK) (st : Int32), p < 400 → ft < 142 → ls_lo u0 K → (480 ≤ K.1 ∧ K.1 ≤ 761) → ∀ e fk fm, ls_XK T V n u0 e 400 (f_tickLimit, nI n, f_outCount, 1, nI e, f_lastKind, f_lastValue, nI K.1, f_methodCount, f_methodTokens, f_cellCount, f_activeCalls, f_next, f_ticksLeft, st, nI p, f_expressionStart, nI pe.length, nI ft, nI L.length, a_tokenCode, a_tokenValue, a_outKind, a_outValue, K.2.1, K.2.2.1, K.2.2.2.1, K.2.2.2.2, a_methodSign, a_methodStart, a_declared, a_cellKind, a_cellValue, a_callReturn, a_pendingLevel, a_pendingPlace, a_pendingMore, fk, fm, a_localName) :=
    fun p ft K st h1 h2 h3 h4 e fk fm => ⟨hk, rfl, ht, rfl, rfl, ⟨K.1, rfl, h4⟩, ⟨p, rfl, h1⟩, ⟨pe.length, rfl, b4⟩, ⟨ft, rfl, h2⟩, ⟨L.length, rfl, b3⟩, ls_lo_cs (cc := K.1) h3⟩
  by_cases t20 : T pos = 20
  · unfold ls_r1 at hp; dsimp only at hp
    rw [if_pos t20] at hp
    rw [t20]
    repeat first | refine br_f (by decide) ?_ | refine br_t (by decide) ?_
    refine nm_r (nI_1 pos) (hp _ ⟨hk, hlo1, rfl, ht, rfl, rfl, rfl, rfl, rfl, rfl, rfl, rfl, rfl, rfl, rfl, rfl, (fun h => by omega), hP, hF, hN⟩)
  by_cases t17 : T pos = 17
  · unfold ls_r1 at hp; dsimp only at hp
    rw [if_neg t20, if_pos t17] at hp
    rw [t17]
    repeat first | refine br_f (by decide) ?_ | refine br_t (by decide) ?_
    refine nm_r (nI_1 pos) (hx_openFrame b2 (hp _ ⟨hk, hlo1, rfl, ht, rfl, rfl, rfl, rfl, rfl, rfl, rfl, rfl, rfl, rfl, rfl, rfl, (fun h => by omega), hP, ls_StF_push 1 L.length pos L hF, hN⟩))
  by_cases t6 : T pos = 6
  · unfold ls_r1 at hp; dsimp only at hp
    rw [if_neg t20, if_neg t17, if_pos t6] at hp
    have b5 := b01 (by omega)
    rw [t6]
    repeat first | refine br_f (by decide) ?_ | refine br_t (by decide) ?_
    exact rx_hdr (k := ls_em k 1 0 0 (nI pos)) (fk := 7) (tick := k.1) hk hlo1 ht hP hF hN rfl ⟨(by show 480 ≤ k.1 + 1; omega), (by show k.1 + 1 ≤ 761; omega)⟩ b1 b2 b3 b4 hp
  by_cases t8 : T pos = 8
  · unfold ls_r1 at hp; dsimp only at hp
    rw [if_neg t20, if_neg t17, if_neg t6, if_pos t8] at hp
    rw [t8]
    repeat first | refine br_f (by decide) ?_ | refine br_t (by decide) ?_
    exact rx_hdr (k := ls_em k 1 0 0 (nI pos)) (fk := 8) (tick := k.1) hk hlo1 ht hP hF hN rfl ⟨(by show 480 ≤ k.1 + 1; omega), (by show k.1 + 1 ≤ 761; omega)⟩ b1 b2 b3 b4 hp
  by_cases t12 : T pos = 12
  · unfold ls_r1 at hp; dsimp only at hp
    rw [if_neg t20, if_neg t17, if_neg t6, if_neg t8, if_pos t12] at hp
    rw [t12]
    repeat first | refine br_f (by decide) ?_ | refine br_t (by decide) ?_
    exact rx_hdr (k := ls_em k 1 0 0 (nI pos)) (fk := 9) (tick := k.1) hk hlo1 ht hP hF hN rfl ⟨(by show 480 ≤ k.1 + 1; omega), (by show k.1 + 1 ≤ 761; omega)⟩ b1 b2 b3 b4 hp
  by_cases t9 : T pos = 9
  · unfold ls_r1 at hp; dsimp only at hp
    rw [if_neg t20, if_neg t17, if_neg t6, if_neg t8, if_neg t12, if_pos t9] at hp
    have b5 := b01 (by omega)
    rw [t9]
    repeat first | refine br_f (by decide) ?_ | refine br_t (by decide) ?_
    refine ls_loop_walk rfl (by omega) hF hfk (fun e => ?_) (fun m j e j0 j1 hm => ?_)
    · rw [e] at hp
      refine br_t rfl (hx_fault0 (st := 1) (by decide) (hp _ (XK1 pos fr.length (ls_em k 1 0 0 (nI pos)) 1 (by omega) (by omega) hlo1 ⟨by show 480 ≤ k.1 + 1; omega, by show k.1 + 1 ≤ 761; omega⟩ _ _ _)))
    · rw [e] at hp
      refine br_f (nI_ne0 j0 (by omega)) (br_t rfl ?_)
      refine hx_emit (by omega) (nm_r (nI_1 pos) ?_)
      have hlo2 : ls_lo u0 (ls_em (ls_em k 1 0 0 (nI pos)) 14 0 0 (nI pos)) := ls_lo_emK hlo1 (by show 480 ≤ k.1 + 1; omega)
      dsimp only at hp
      by_cases s : T (pos + 1) = 20
      · rw [if_pos s] at hp
        refine hx_expect (w := 20) ht (by omega) ((ls_xc_eq (by decide)).mpr s) (hp _ ⟨hk, hlo2, rfl, ht, rfl, rfl, rfl, rfl, rfl, rfl, rfl, rfl, rfl, rfl, rfl, rfl, (fun h => by omega), hP, hF, hN⟩)
      · rw [if_neg s] at hp
        refine hx_expectF (w := 20) (st := 1) ht (by omega) (by decide) s (by decide) (hp _ (XK1 (pos + 1) fr.length (ls_em (ls_em k 1 0 0 (nI pos)) 14 0 0 (nI pos)) _ (by omega) (by omega) hlo2 ⟨by show 480 ≤ k.1 + 1 + 1; omega, by show k.1 + 1 + 1 ≤ 761; omega⟩ _ _ _))
  by_cases t10 : T pos = 10
  · unfold ls_r1 at hp; dsimp only at hp
    rw [if_neg t20, if_neg t17, if_neg t6, if_neg t8, if_neg t12, if_neg t9, if_pos t10] at hp
    have b5 := b01 (by omega)
    rw [t10]
    repeat first | refine br_f (by decide) ?_ | refine br_t (by decide) ?_
    refine ls_loop_walk rfl (by omega) hF hfk (fun e => ?_) (fun m j e j0 j1 hm => ?_)
    · rw [e] at hp
      refine br_t rfl (hx_fault0 (st := 1) (by decide) (hp _ (XK1 pos fr.length (ls_em k 1 0 0 (nI pos)) 1 (by omega) (by omega) hlo1 ⟨by show 480 ≤ k.1 + 1; omega, by show k.1 + 1 ≤ 761; omega⟩ _ _ _)))
    · rw [e] at hp
      refine br_f (nI_ne0 j0 (by omega)) (br_f (by decide) ⟨vp_in_nI j1 (by decide), ?_⟩)
      rw [nI_clamp (by omega), hm, nI_1]
      refine hx_emit (by omega) (nm_r (nI_1 pos) ?_)
      have hlo2 : ls_lo u0 (ls_em (ls_em k 1 0 0 (nI pos)) 14 (nI (m + 1) - nI (k.1 + 1)) 0 (nI pos)) := ls_lo_emK hlo1 (by show 480 ≤ k.1 + 1; omega)
      dsimp only at hp
      by_cases s : T (pos + 1) = 20
      · rw [if_pos s] at hp
        refine hx_expect (w := 20) ht (by omega) ((ls_xc_eq (by decide)).mpr s) (hp _ ⟨hk, hlo2, rfl, ht, rfl, rfl, rfl, rfl, rfl, rfl, rfl, rfl, rfl, rfl, rfl, rfl, (fun h => by omega), hP, hF, hN⟩)
      · rw [if_neg s] at hp
        refine hx_expectF (w := 20) (st := 1) ht (by omega) (by decide) s (by decide) (hp _ (XK1 (pos + 1) fr.length (ls_em (ls_em k 1 0 0 (nI pos)) 14 (nI (m + 1) - nI (k.1 + 1)) 0 (nI pos)) _ (by omega) (by omega) hlo2 ⟨by show 480 ≤ k.1 + 1 + 1; omega, by show k.1 + 1 + 1 ≤ 761; omega⟩ _ _ _))
  by_cases t11 : T pos = 11
  · unfold ls_r1 at hp; dsimp only at hp
    rw [if_neg t20, if_neg t17, if_neg t6, if_neg t8, if_neg t12, if_neg t9, if_neg t10, if_pos t11] at hp
    have b5 := b01 (by omega)
    rw [t11]
    repeat first | refine br_f (by decide) ?_ | refine br_t (by decide) ?_
    unfold wpX_beginReturn
    refine ls_mkd_walk rfl (by omega) hF hfk (fun f hf h2 => ?_) (fun e => ?_) (fun m e m8 => ?_)
    · obtain ⟨m1, m2, m3⟩ := hmk f hf h2
      exact ⟨by omega, by rw [pk_un (by omega)]; exact m2, m3⟩
    · rw [e] at hp
      refine br_t rfl (hx_fault0 (st := 1) (by decide) (hp _ (XK1 pos fr.length (ls_em k 1 0 0 (nI pos)) 1 (by omega) (by omega) hlo1 ⟨by show 480 ≤ k.1 + 1; omega, by show k.1 + 1 ≤ 761; omega⟩ _ _ _)))
    · rw [e] at hp
      dsimp only at hp
      have hm : ¬ nI m = -1 := ls_nm1 (by omega)
      refine br_f hm ?_
      rw [nI_1]
      refine hx_wordAt ht (by omega) ?_
      by_cases s : T (pos + 1) = 20
      · rw [if_pos s] at hp
        refine br_t ((ls_w (w := 20) (by decide)).mpr s) (hx_emit (by omega) (nm_r (nI_add pos 2) (hp _ ⟨hk, ls_lo_emK hlo1 (by show 480 ≤ k.1 + 1; omega), rfl, ht, rfl, rfl, rfl, rfl, rfl, rfl, rfl, rfl, rfl, rfl, rfl, rfl, (fun h => by omega), hP, hF, hN⟩)))
      · rw [if_neg s] at hp
        exact br_f (mt (ls_w (w := 20) (by decide)).mp s) (nm_e (hx_openFrame b2 (hp _ ⟨hk, hlo1, rfl, ht, rfl, rfl, rfl, rfl, rfl, rfl, rfl, rfl, rfl, rfl, rfl, rfl, (fun _ => rfl), hP, ls_StF_push 10 k.1 pos [] hF, hN⟩)))
  · unfold ls_r1 at hp; dsimp only at hp
    rw [if_neg t20, if_neg t17, if_neg t6, if_neg t8, if_neg t12, if_neg t9, if_neg t10, if_neg t11] at hp
    have K : wX_beginStatement_191 post (nI k.1) f_tickLimit (nI n) f_outCount 0 (-1) f_lastKind f_lastValue (nI (k.1 + 1)) f_methodCount f_methodTokens f_cellCount f_activeCalls f_next f_ticksLeft (nI 1) (nI pos) f_expressionStart (nI pe.length) (nI fr.length) (nI L.length) a_tokenCode a_tokenValue a_outKind a_outValue (upd k.2.1 k.1 1) (upd k.2.2.1 k.1 0) (upd k.2.2.2.1 k.1 0) (upd k.2.2.2.2 k.1 (nI pos)) a_methodSign a_methodStart a_declared a_cellKind a_cellValue a_callReturn a_pendingLevel a_pendingPlace a_pendingMore a_frameKind a_frameMore a_localName :=
      hx_openFrame b2 (hp _ ⟨hk, hlo1, rfl, ht, rfl, rfl, rfl, rfl, rfl, rfl, rfl, rfl, rfl, rfl, rfl, rfl, (fun _ => rfl), hP, ls_StF_push 6 k.1 pos [] hF, hN⟩)
    have N : ∀ w, w < 54 → T pos ≠ w → ¬ nI (ls_xc (T pos)) = nI w := fun w hw h => mt (ls_w hw).mp h
    refine br_c (fun _ => K) (fun h6 => br_c (fun _ => K) (fun h20 => ?_))
    refine br_f (N 6 (by decide) t6) (br_c (fun _ => K) (fun _ => br_f (N 8 (by decide) t8) (br_f (N 9 (by decide) t9) (br_f (N 10 (by decide) t10) (br_f (N 11 (by decide) t11) (br_f (N 12 (by decide) t12) ?_))))))
    refine br_c (fun _ => K) (fun _ => br_c (fun _ => K) (fun _ => br_c (fun _ => K) (fun _ => br_c (fun _ => K) (fun _ => br_f (N 17 (by decide) t17) ?_))))
    exact br_c (fun _ => K) (fun _ => br_c (fun _ => K) (fun _ => br_f (N 20 (by decide) t20) trivial))
end
