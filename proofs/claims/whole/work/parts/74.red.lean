/-! Results keep the kinds' bounds -/
set_option maxHeartbeats 200000 in
theorem ls_nar_wf {k : Nat} {v : Int64} (hk : k ≤ 4) (h0 : k = 0 → v = 0 ∨ v = 1) : ls_wf k (ls_nar k v) := by
  unfold ls_nar
  rcases (show k = 0 ∨ k = 1 ∨ k = 2 ∨ k = 3 ∨ k = 4 by omega) with rfl | rfl | rfl | rfl | rfl
  · exact ⟨hk, fun _ => h0 rfl, fun q => by omega⟩
  · exact ⟨hk, fun q => by omega, fun _ => by rw [if_pos rfl, ls_i3264]⟩
  · exact ⟨hk, fun q => by omega, fun _ => by rw [if_neg (by decide), if_pos rfl, ls_i3264]⟩
  · exact ⟨hk, fun q => by omega, fun _ => by rw [if_neg (by decide), if_neg (by decide), if_pos rfl, ls_i3264]⟩
  · exact ⟨hk, fun q => by omega, fun q => by omega⟩
set_option maxHeartbeats 200000 in
theorem ls_un_wf {w k k' : Nat} {v v' : Int64} (hw : ls_wf k v) (h : ls_un w k v = some (k', v')) : ls_wf k' v' := by
  unfold ls_un at h
  split at h
  · split at h
    · next k0 =>
      injection h with h
      injection h with h1 h2
      subst h1 h2
      refine ⟨by omega, fun _ => ?_, fun q => by omega⟩
      rcases hw.2.1 k0 with g | g
      · rw [g]; right; decide
      · rw [g]; left; decide
    · cases h
  · split at h
    · cases h
    · injection h with h
      injection h with h1 h2
      subst h1 h2
      exact ls_nar_wf (by split <;> omega) (fun q => by split at q <;> omega)
set_option maxHeartbeats 200000 in
theorem ls_cst_wf {t k k' : Nat} {v v' : Int64} (hw : ls_wf k v) (ht : t ≤ 4) (h : ls_cst t k v = some (k', v')) : ls_wf k' v' := by
  unfold ls_cst at h
  split at h
  · next c =>
    injection h with h
    injection h with h1 h2
    subst h1 h2
    exact ls_nar_wf ht (fun q => hw.2.1 (c.mpr q))
  · cases h
set_option maxHeartbeats 200000 in
theorem ls_bin_wf {w a b k' : Nat} {x y v' : Int64} (wa : ls_wf a x) (wb : ls_wf b y) (h : ls_bin w a b x y = .ok (k', v')) (hw : 24 ≤ w ∧ w ≤ 40) : ls_wf k' v' ∧ (w < 35 → (k' = 0 ↔ a = 0) ∧ ls_nar k' v' = v') := by
  unfold ls_bin at h
  cases hb : ls_bk w a b with
  | none => rw [hb] at h; cases h
  | some kd =>
    rw [hb] at h
    dsimp only at h
    split at h
    · cases h
    · injection h with h
      injection h with h1 h2
      subst h1
      unfold ls_bk at hb
      have NN : ∀ z, ls_nar kd (ls_nar kd z) = ls_nar kd z := by
        intro z
        unfold ls_nar
        by_cases k1 : kd = 1
        · rw [if_pos k1, if_pos k1, ls_i3264]
          congr 1
          apply Int32.toInt_inj.mp
          rw [Int8.toInt_toInt32, Int32.toInt_toInt8, Int8.toInt_toInt32]
          exact Int.bmod_eq_of_le (by have := Int8.le_toInt z.toInt32.toInt8; omega) (by have := Int8.toInt_lt z.toInt32.toInt8; omega)
        · rw [if_neg k1, if_neg k1]
          by_cases k2 : kd = 2
          · rw [if_pos k2, if_pos k2, ls_i3264]
            congr 1
            rw [UInt32.toUInt32_toInt32, show ∀ u : UInt32, u % 65536 % 65536 = u % 65536 from fun u => by apply UInt32.toNat_inj.mp; rw [UInt32.toNat_mod, UInt32.toNat_mod]; exact Nat.mod_mod _ _]
          · rw [if_neg k2, if_neg k2]
            by_cases k3 : kd = 3
            · rw [if_pos k3, if_pos k3, ls_i3264]
            · rw [if_neg k3, if_neg k3]
      have LOG : a = 0 ∧ b = 0 → (x = 0 ∨ x = 1) ∧ (y = 0 ∨ y = 1) := fun q => ⟨wa.2.1 q.1, wb.2.1 q.2⟩
      have KD : kd ≤ 4 ∧ (w < 35 → (kd = 0 ↔ a = 0) ∧ (kd = 0 → (a = 0 ∧ b = 0) ∧ (29 ≤ w ∧ w ≤ 31))) ∧ (35 ≤ w → kd = 0) := by
        split at hb
        · next c =>
          injection hb with hb
          split at hb
          · exact ⟨by omega, fun q => by omega, fun _ => by omega⟩
          · split at hb
            · exact ⟨by omega, fun q => ⟨by omega, fun q => by omega⟩, fun _ => by omega⟩
            · exact ⟨by omega, fun q => ⟨by omega, fun q => by omega⟩, fun _ => by omega⟩
        · split at hb
          · next c =>
            injection hb with hb
            exact ⟨by omega, fun q => ⟨by omega, fun _ => by omega⟩, fun _ => by omega⟩
          · cases hb
      obtain ⟨K1, K2, K3⟩ := KD
      unfold ls_val at h2
      by_cases w35 : w < 35
      · have V : ∃ z, v' = ls_nar kd z ∧ (kd = 0 → z = 0 ∨ z = 1) := by
          have kz : kd = 0 → 29 ≤ w ∧ w ≤ 31 := fun q => ((K2 w35).2 q).2
          split at h2
          · exact ⟨_, h2.symm, fun q => by have := kz q; omega⟩
          split at h2
          · exact ⟨_, h2.symm, fun q => by have := kz q; omega⟩
          split at h2
          · exact ⟨_, h2.symm, fun q => by have := kz q; omega⟩
          split at h2
          · exact ⟨_, h2.symm, fun q => by have := kz q; omega⟩
          split at h2
          · exact ⟨_, h2.symm, fun q => by have := kz q; omega⟩
          split at h2
          · refine ⟨_, h2.symm, fun q => ?_⟩
            obtain ⟨g1, g2⟩ := LOG ((K2 w35).2 q).1
            rcases g1 with g1 | g1 <;> rcases g2 with g2 | g2 <;> rw [g1, g2] <;> decide
          split at h2
          · refine ⟨_, h2.symm, fun q => ?_⟩
            obtain ⟨g1, g2⟩ := LOG ((K2 w35).2 q).1
            rcases g1 with g1 | g1 <;> rcases g2 with g2 | g2 <;> rw [g1, g2] <;> decide
          split at h2
          · refine ⟨_, h2.symm, fun q => ?_⟩
            obtain ⟨g1, g2⟩ := LOG ((K2 w35).2 q).1
            rcases g1 with g1 | g1 <;> rcases g2 with g2 | g2 <;> rw [g1, g2] <;> decide
          · exact ⟨_, h2.symm, fun q => by have := kz q; omega⟩
        obtain ⟨z, e1, e2⟩ := V
        rw [e1]
        exact ⟨ls_nar_wf K1 e2, fun _ => ⟨(K2 w35).1, NN z⟩⟩
      · have k0 := K3 (by omega)
        subst k0
        refine ⟨⟨by omega, fun _ => ?_, fun q => by omega⟩, fun q => by omega⟩
        rw [if_neg (by omega), if_neg (by omega), if_neg (by omega), if_neg (by omega), if_neg (by omega), if_neg (by omega), if_neg (by omega), if_neg (by omega), if_neg w35] at h2
        rw [← h2]
        split
        · exact Or.inr rfl
        · exact Or.inl rfl
set_option maxHeartbeats 200000 in
theorem ls_fit_wf {f t : Nat} {v : Int64} (hw : ls_wf f v) (ht : t ≤ 5) (h : ls_fit f t = true) : ls_wf (if t = 5 then f else t) v := by
  have F4 := hw.1
  unfold ls_fit at h
  rcases (show t = 0 ∨ t = 1 ∨ t = 2 ∨ t = 3 ∨ t = 4 ∨ t = 5 by omega) with rfl | rfl | rfl | rfl | rfl | rfl
  · simp at h; subst h; exact hw
  · simp at h; subst h; exact hw
  · simp at h; subst h; exact hw
  · simp at h
    show ls_wf 3 v
    exact ⟨by decide, fun q => absurd q (by decide), fun _ => hw.2.2 (by omega)⟩
  · show ls_wf 4 v
    exact ⟨by decide, fun q => absurd q (by decide), fun q => absurd q (by decide)⟩
  · exact hw
set_option maxHeartbeats 200000 in
theorem ls_cnv_wf {t k k' : Nat} {c : Bool} {v : Int64} (hw : ls_wf k v) (ht : t ≤ 5) (h : ls_cnv t c k v = some k') : ls_wf k' v ∧ k' = (if t = 5 then k else t) := by
  unfold ls_cnv at h
  split at h
  · next q =>
    injection h with h
    subst h
    refine ⟨?_, rfl⟩
    rcases q with q | ⟨_, q2, q3, _⟩
    · exact ls_fit_wf hw ht q
    · rw [if_neg (by omega)]
      exact ⟨by omega, fun g => by omega, fun _ => hw.2.2 q2⟩
  · cases h
/-! Operators whose operands are there -/
section
variable {dc ck ck' : Nat → Int32} {cv cv' : Nat → Int64} {vd vk : Nat → Int32} {vv : Nat → Int64} {vN : Nat → Int32} {Ls : List (List Nat)}
set_option maxHeartbeats 200000 in
theorem ls_sm_k {c p : Nat} (h : ck' c = ck c ∧ cv' c = cv c) (g : ls_sm dc ck cv vd vk vv c p) : ls_sm dc ck' cv' vd vk vv c p := by
  obtain ⟨d, k, h1, h2, h3, h4, h5, h6, h7, h8, h9⟩ := g
  exact ⟨d, k, h1, h2, h3, h.1.trans h4, h5, h6, h7.trans h.2.symm, by rw [h.2]; exact h8, h9⟩
set_option maxHeartbeats 200000 in
theorem ls_gl_k (h : ∀ c, c < 88 → ck' c = ck c ∧ cv' c = cv c) (hG : ls_gl dc ck cv vd vk vv) : ls_gl dc ck' cv' vd vk vv := by
  intro i hi
  rcases hG i hi with g | g
  · exact Or.inl (ls_sm_k (h i (by omega)) g)
  · exact Or.inr g
set_option maxHeartbeats 200000 in
theorem ls_lev_k (h : ∀ c, c < 88 → ck' c = ck c ∧ cv' c = cv c) (hl : Ls.length ≤ 9) (h8 : ∀ M ∈ Ls, M.length ≤ 8) (hV : ls_lev (ls_sm dc ck cv vd vk vv) vN Ls) : ls_lev (ls_sm dc ck' cv' vd vk vv) vN Ls :=
  ls_lev_mono (fun c p hc h16 hp g => ls_sm_k (h c (by omega)) g) h8 (fun _ _ => rfl) hV
set_option maxHeartbeats 200000 in
theorem ls_stk_ag {a a' : Nat → Int32} {b b' : Nat → Int64} {o : Nat} : ∀ {xs : List LsV}, (∀ j, o ≤ j → j < o + xs.length → a' j = a j ∧ b' j = b j) → ls_stk a b o xs → ls_stk a' b' o xs
  | [], _, _ => trivial
  | z :: r, h, ⟨h1, h2, h3, h4⟩ => by
    rw [List.length_cons] at h
    obtain ⟨g1, g2⟩ := h (o + r.length) (by omega) (by omega)
    exact ⟨g1.trans h1, g2.trans h2, h3, ls_stk_ag (fun j hj hj2 => h j hj (by omega)) h4⟩
end
section
variable {T : Nat → Nat} {V : Nat → Int32} {C : Nat → LsC} {kF : LsK} {n N d e ta tz : Nat} {yn : Nat} {cr mk D : Nat → Int32} {co ca ck cp tk : Nat → Int32} {tv : Nat → Int64} {tp : Nat → Int32}
variable {t st pos es p : Nat} {pe : List LsP} {fr : List LsF} {L : List Nat} {k : LsK} {as : List LsA} {Ls : List (List Nat)} {xs ys : List LsV} {os cs : List LsP}
set_option maxHeartbeats 200000 in
theorem ls_toke2 (h : ls_UA co ca ck cp tk tv tp (T, V, C, kF, n, N, d, e, ta, tz)) (h3 : ta ≤ t ∧ t ≤ tz) (ec : C t = (st, pos, es, pe, fr, L, k)) (hs : st = 4 ∨ st = 5) (h1 : es ≤ p) (h2 : p < pos) : tk (p + e) = nI (T p) ∧ T p < 100 ∧ p + e < 384 ∧ ls_pl tp (p + e) = nI p := by
  have U := h
  obtain ⟨g1, g2, g3, _⟩ := h
  obtain ⟨s, k0, o1, o2, o3, o4, o5, o6⟩ := ls_org g1 (ta := ta) (by rw [g2.2]; decide) t h3.1 (by omega) (by rw [ec]; exact hs)
  have lo := ls_pos_le g1 (show ta ≤ s + 1 by omega) (show s + 1 ≤ N by omega)
  have hi := ls_pos_le g1 h3.2 g3.2
  rw [ec] at hi o3
  rw [o3] at lo
  have := ls_tok1 U (Nat.le_trans lo h1) (Nat.lt_of_lt_of_le h2 hi)
  exact ⟨this.1, this.2.1, this.2.2.1, this.2.2.2.1⟩
set_option maxHeartbeats 200000 in
/-- a pending operator's own places -/
theorem ls_pgx (h : ls_cu yn cr mk D (ls_UA co ca ck cp tk tv tp) (T, V, C, kF, n, N, d, e, ta, tz) t as (st, pos, es, pe, fr, L, k) Ls xs ys os cs) (hs : st = 4 ∨ st = 5) {x : LsP} (hx : x ∈ pe) : es ≤ x.2.1 ∧ (x.1 = 2 → es + 1 ≤ x.2.1) ∧ x.1 < 14 ∧ x.2.1 < pos ∧ (x.1 = 0 → ls_nam (T x.2.1) ∧ x.2.2 ≤ 3) ∧ (x.1 = 2 → ls_asg (T x.2.1)) ∧ (x.1 = 13 → T x.2.1 = 15 ∨ (22 ≤ T x.2.1 ∧ T x.2.1 ≤ 25)) ∧ (2 < x.1 → x.1 ≠ 13 → ls_lv (T x.2.1) = x.1) ∧ es ≤ pos := by
  have U := h.1
  have tt : ta ≤ t ∧ t ≤ tz := h.2.2.1
  have ec : C t = (st, pos, es, pe, fr, L, k) := h.2.2.2.1
  obtain ⟨g1, g2, g3, _⟩ := U
  have P := ls_pgt g1 (ta := ta) (by rw [g2.2]; decide) t tt.1 (by omega) (by rw [ec]; exact hs)
  rw [ec] at P
  have hI := (g1.2.2.2.2 t (by omega)).2.1
  rw [ec] at hI
  obtain ⟨_, _, _, _, _, i6, i7⟩ := hI
  rw [if_pos hs] at i7
  obtain ⟨p1, p2⟩ := P x hx
  obtain ⟨q1, q2, q3, q4, q5, q6, q7, q8⟩ := i6 x hx
  exact ⟨p1, p2, q1, q2, q4, q5, q6, q7, i7.2.1⟩
end
section
variable {f_tickLimit f_tokenCount f_outCount f_error f_errorPlace f_lastKind f_codeSize f_methodCount f_methodTokens f_cellCount f_activeCalls f_next f_ticksLeft f_state f_pos f_expressionStart f_pendingCount f_frameTop f_localCount : Int32}
variable {f_lastValue : Int64}
variable {a_tokenCode a_tokenValue a_outKind a_codeOp a_codeArg a_codeKind a_codePlace a_methodSign a_methodStart a_declared a_cellKind a_callReturn a_pendingLevel a_pendingPlace a_pendingMore a_frameKind a_frameMore a_localName : Nat → Int32}
variable {a_outValue a_cellValue : Nat → Int64}
variable {f_cnt f_full f_flag f_need : Int32}
variable {a_tk a_tp a_mName a_mKind a_mCount a_mPar a_mAt a_vName a_vDecl a_vKind a_sk a_oKind a_oAt a_oArgs a_cKind a_cA a_cB a_outK : Nat → Int32}
variable {a_tv a_vVal a_sv a_outV : Nat → Int64}
variable {yn mt tl oc mc mu : Nat} {T : Nat → Nat} {V : Nat → Int32} {C : Nat → LsC} {kF : LsK} {n N d e ta tz t : Nat} {as : List LsA} {st pos es : Nat} {pe : List LsP} {fr : List LsF} {L : List Nat} {k : LsK} {Ls : List (List Nat)} {xs ys : List LsV} {os cs : List LsP} {F : Nat}
set_option maxHeartbeats 200000 in
theorem ls_Sb5 (h : ls_S yn mt tl oc mc mu ((T, V, C, kF, n, N, d, e, ta, tz)) t as ((st, pos, es, pe, fr, L, k)) Ls xs ys os cs f_tickLimit a_outKind a_outValue a_codeOp a_codeArg a_codeKind a_codePlace a_methodSign a_methodStart a_declared a_cellKind a_cellValue a_callReturn a_tk a_tv a_tp a_mName a_mKind a_mCount a_mPar a_mAt a_vName a_vDecl a_vKind a_vVal a_sk a_sv a_oKind a_oAt a_oArgs a_cKind a_cA a_cB a_outK a_outV) (hp : pos + e < 384) : cs.length < 1000 ∧ pos + e < 1000 ∧ yn < 1000 := by
  obtain ⟨hcu, _, _, _, _, _, _, hl, _⟩ := h
  have B := ls_cu_len hcu
  have := hl.2.2.2.1
  have := hl.2.2.2.2
  exact ⟨by omega, by omega, by omega⟩
set_option maxHeartbeats 200000 in
/-- an operator is done: its operands are one -/
theorem gs_red {pos' a b : Nat} {k' : LsK} {e' : LsP} {z z' : LsV} {w xr yr : List LsV} {os' : List LsP} {ck' sk' : Nat → Int32} {cv' sv' : Nat → Int64} (ih : ls_IH F) (h : ls_S yn mt tl oc mc mu ((T, V, C, kF, n, N, d, e, ta, tz)) t as ((5, pos, es, e' :: pe, fr, L, k)) Ls xs ys os cs f_tickLimit a_outKind a_outValue a_codeOp a_codeArg a_codeKind a_codePlace a_methodSign a_methodStart a_declared a_cellKind a_cellValue a_callReturn a_tk a_tv a_tp a_mName a_mKind a_mCount a_mPar a_mAt a_vName a_vDecl a_vKind a_vVal a_sk a_sv a_oKind a_oAt a_oArgs a_cKind a_cA a_cB a_outK a_outV) (hF : ls_Phi tl as 5 fr N t = F) (hc : C (t + 1) = (5, pos', es, pe, fr, L, k')) (exs : xs = z :: (if e'.1 = 3 ∨ e'.1 = 4 then xr else w ++ xr)) (eys : ys = z :: (w ++ yr)) (eos : os = ls_oe T e e' :: os') (hcu' : ls_cu yn a_callReturn a_mKind a_declared (ls_UA a_codeOp a_codeArg a_codeKind a_codePlace a_tk a_tv a_tp) (T, V, C, kF, n, N, d, e, ta, tz) (t + 1) as (5, pos', es, pe, fr, L, k') Ls (z' :: xr) (z' :: yr) os' cs) (ha : a ≤ 2) (hb : b ≤ 2)
    (h88 : ∀ c, c < 88 → ck' c = a_cellKind c ∧ cv' c = a_cellValue c) (hX' : ls_stk ck' cv' 88 (z' :: xr)) (hY' : ls_stk sk' sv' 0 (z' :: yr))
    (hx : ls_xr a (f_tickLimit, f_tokenCount, nI oc, 0, f_errorPlace, f_lastKind, f_lastValue, f_codeSize, nI mc, nI mu, nI (88 + xs.length), nI as.length, nI (k.1 - d), nI tl, f_state, f_pos, f_expressionStart, f_pendingCount, f_frameTop, f_localCount, a_tokenCode, a_tokenValue, a_outKind, a_outValue, a_codeOp, a_codeArg, a_codeKind, a_codePlace, a_methodSign, a_methodStart, a_declared, a_cellKind, a_cellValue, a_callReturn, a_pendingLevel, a_pendingPlace, a_pendingMore, a_frameKind, a_frameMore, a_localName) (f_tickLimit, f_tokenCount, nI oc, 0, f_errorPlace, f_lastKind, f_lastValue, f_codeSize, nI mc, nI mu, nI (88 + xr.length + 1), nI as.length, nI (k'.1 - d), nI tl, f_state, f_pos, f_expressionStart, f_pendingCount, f_frameTop, f_localCount, a_tokenCode, a_tokenValue, a_outKind, a_outValue, a_codeOp, a_codeArg, a_codeKind, a_codePlace, a_methodSign, a_methodStart, a_declared, ck', cv', a_callReturn, a_pendingLevel, a_pendingPlace, a_pendingMore, a_frameKind, a_frameMore, a_localName))
    (hy : ls_yr b (nI mt, nI yn, nI (140 + mu), nI mc, nI (ls_sl Ls + L.length), nI (ls_sl Ls), nI ys.length, nI os.length, nI cs.length, nI (pos + e), nI 3, 0, f_errorPlace, nI (mt - tl), nI as.length, nI oc, f_lastKind, nI 0, f_lastValue, f_cnt, f_full, f_flag, f_need, a_tk, a_tv, a_tp, a_mName, a_mKind, a_mCount, a_mPar, a_mAt, a_vName, a_vDecl, a_vKind, a_vVal, a_sk, a_sv, a_oKind, a_oAt, a_oArgs, a_cKind, a_cA, a_cB, a_outK, a_outV) (nI mt, nI yn, nI (140 + mu), nI mc, nI (ls_sl Ls + L.length), nI (ls_sl Ls), nI (yr.length + 1), nI os'.length, nI cs.length, nI (pos' + e), nI 3, 0, f_errorPlace, nI (mt - tl), nI as.length, nI oc, f_lastKind, nI 0, f_lastValue, f_cnt, f_full, f_flag, f_need, a_tk, a_tv, a_tp, a_mName, a_mKind, a_mCount, a_mPar, a_mAt, a_vName, a_vDecl, a_vKind, a_vVal, sk', sv', a_oKind, a_oAt, a_oArgs, a_cKind, a_cA, a_cB, a_outK, a_outV)) : ls_G F (f_tickLimit, f_tokenCount, nI oc, 0, f_errorPlace, f_lastKind, f_lastValue, f_codeSize, nI mc, nI mu, nI (88 + xs.length), nI as.length, nI (k.1 - d), nI tl, f_state, f_pos, f_expressionStart, f_pendingCount, f_frameTop, f_localCount, a_tokenCode, a_tokenValue, a_outKind, a_outValue, a_codeOp, a_codeArg, a_codeKind, a_codePlace, a_methodSign, a_methodStart, a_declared, a_cellKind, a_cellValue, a_callReturn, a_pendingLevel, a_pendingPlace, a_pendingMore, a_frameKind, a_frameMore, a_localName) (nI mt, nI yn, nI (140 + mu), nI mc, nI (ls_sl Ls + L.length), nI (ls_sl Ls), nI ys.length, nI os.length, nI cs.length, nI (pos + e), nI 3, 0, f_errorPlace, nI (mt - tl), nI as.length, nI oc, f_lastKind, nI 0, f_lastValue, f_cnt, f_full, f_flag, f_need, a_tk, a_tv, a_tp, a_mName, a_mKind, a_mCount, a_mPar, a_mAt, a_vName, a_vDecl, a_vKind, a_vVal, a_sk, a_sv, a_oKind, a_oAt, a_oArgs, a_cKind, a_cA, a_cB, a_outK, a_outV) := by
  obtain ⟨hcu, hX, hY, hO, hE, hG, hV, hl, ho, hM⟩ := h
  have lt := (ls_tl5 hcu.1.1 (by have := hcu.2.2.1; have := hcu.1.2.2.1; omega) hcu.2.2.2.1).1
  have LB := ls_cu_len hcu
  have as8 := hl.2.2.2.1
  have P := ls_Phi_lt (tl := tl) (as := as) (st := 5) (st' := 5) (fr := fr) (fr' := fr) (N := N) (t := t) (t' := t + 1) (Nat.le_refl _) (by omega) lt
  have hO' : ls_StP a_oKind a_oAt a_oArgs os' := by
    rw [eos] at hO
    exact hO.2.2.2
  have S' : ls_S yn mt tl oc mc mu ((T, V, C, kF, n, N, d, e, ta, tz)) (t + 1) as ((5, pos', es, pe, fr, L, k')) Ls (z' :: xr) (z' :: yr) os' cs f_tickLimit a_outKind a_outValue a_codeOp a_codeArg a_codeKind a_codePlace a_methodSign a_methodStart a_declared ck' cv' a_callReturn a_tk a_tv a_tp a_mName a_mKind a_mCount a_mPar a_mAt a_vName a_vDecl a_vKind a_vVal sk' sv' a_oKind a_oAt a_oArgs a_cKind a_cA a_cB a_outK a_outV :=
    ⟨hcu', hX', hY', hO', hE, ls_gl_k h88 hG, ls_lev_k h88 (by rw [List.length_cons]; omega) (ls_cu_l8 hcu) hV, hl, ho, hM⟩
  have G0 : ls_G (ls_Phi tl as 5 fr N (t + 1)) (f_tickLimit, f_tokenCount, nI oc, 0, f_errorPlace, f_lastKind, f_lastValue, f_codeSize, nI mc, nI mu, nI (88 + xr.length + 1), nI as.length, nI (k'.1 - d), nI tl, f_state, f_pos, f_expressionStart, f_pendingCount, f_frameTop, f_localCount, a_tokenCode, a_tokenValue, a_outKind, a_outValue, a_codeOp, a_codeArg, a_codeKind, a_codePlace, a_methodSign, a_methodStart, a_declared, ck', cv', a_callReturn, a_pendingLevel, a_pendingPlace, a_pendingMore, a_frameKind, a_frameMore, a_localName) (nI mt, nI yn, nI (140 + mu), nI mc, nI (ls_sl Ls + L.length), nI (ls_sl Ls), nI (yr.length + 1), nI os'.length, nI cs.length, nI (pos' + e), nI (ls_md 5 pe), 0, f_errorPlace, nI (mt - tl), nI as.length, nI oc, f_lastKind, nI (ls_pt 5 fr), f_lastValue, f_cnt, f_full, f_flag, f_need, a_tk, a_tv, a_tp, a_mName, a_mKind, a_mCount, a_mPar, a_mAt, a_vName, a_vDecl, a_vKind, a_vVal, sk', sv', a_oKind, a_oAt, a_oArgs, a_cKind, a_cA, a_cB, a_outK, a_outV) := ih S' (by omega) (fun q => absurd q.1 (by decide))
  rw [ls_md_5, ls_pt_x (by omega)] at G0
  exact ls_G_go hx hy G0 (by omega) (by omega)
end
