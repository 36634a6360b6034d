/-! Statements: where the reference's control stands -/
section
variable {T : Nat → Nat} {V : Nat → Int32} {C : Nat → LsC} {kF : LsK} {n N d e ta tz : Nat} {yn : Nat} {cr mk D : Nat → Int32} {co ca ck cp tk : Nat → Int32} {tv : Nat → Int64} {tp : Nat → Int32}
variable {t st pos es : Nat} {pe : List LsP} {k : LsK} {as : List LsA} {Ls : List (List Nat)} {xs ys : List LsV} {os : List LsP}
set_option maxHeartbeats 200000 in
/-- the entry on top -/
theorem ls_ct_top {b e0 : Nat} {Q : LsF → List LsF → List Nat → Nat → Prop} {c0 : List LsP} : ∀ {fr : List LsF} {L : List Nat} {cs : List LsP}, ls_ct b e0 Q c0 fr L cs → cs = c0 ∨ (∃ a r, cs = (1, a, 0) :: r) ∨ ∃ f r' L' q r, cs = (2, f.2.2.1 + e0, q + e0) :: r ∧ Q f r' L' q
  | [], L, cs, h => Or.inl h
  | f :: r, L, cs, h => by
    unfold ls_ct at h
    split at h
    · obtain ⟨cs', h1, _⟩ := h
      exact Or.inr (Or.inl ⟨_, _, h1⟩)
    · split at h
      · obtain ⟨q, cs', h1, h2, _⟩ := h
        exact Or.inr (Or.inr ⟨f, r, L, q, cs', h1, h2⟩)
      · exact ls_ct_top h
set_option maxHeartbeats 200000 in
theorem ls_cs_top {fr : List LsF} {L : List Nat} {cs : List LsP} (h : ls_cu yn cr mk D (ls_UA co ca ck cp tk tv tp) (T, V, C, kF, n, N, d, e, ta, tz) t as (st, pos, es, [], fr, L, k) Ls xs ys os cs) (hs : st = 0 ∨ st = 1 ∨ st = 2) (a8 : as.length ≤ 8) : ∀ x r, cs = x :: r → (x.1 < 100 ∧ x.2.2 < 100000) ∧ (x.1 = 2 → x.2.2 ≠ pos + e) := by
  intro x r hx
  obtain ⟨a1, a2, a3, a4, c0, a5, a6⟩ := ls_cu_s h (by omega)
  have U := a1
  obtain ⟨g1, _, g3, _, ⟨g5, _⟩, _⟩ := a1
  rcases ls_ct_top a5 with q | ⟨a, r', q⟩ | ⟨f, r', L', q, r'', e1, lp⟩
  · -- the call's own entry
    rw [hx] at q
    subst q
    cases as with
    | nil => have := a6.2.2.2.2.2; cases this
    | cons A as =>
      obtain ⟨U', t'⟩ := A
      have SL := ls_sus_len ls_UA_ex a6
      obtain ⟨T', V', C', kF', n', N', d', e', ta', tz'⟩ := U'
      obtain ⟨ha, pos', es', pe', f', r', L', k', q', m, ins, Ls', xs', ys', os', c1, cs', h1, h2, h3, h4, h5, h6, h7, h8, h9, h10, h11, h12, h13, h14, h15⟩ := a6
      injection h13 with h13 _
      rw [h13]
      have := ls_sus_len ls_UA_ex h15
      rw [List.length_cons] at a8
      exact ⟨⟨by show (3 : Nat) < 100; omega, by show m * 128 + ls_sl Ls' < 100000; omega⟩, fun q => by have q' : (3 : Nat) = 2 := q; omega⟩
  · rw [hx] at q
    injection q with q _
    rw [q]
    exact ⟨⟨by show (1 : Nat) < 100; omega, by show (0 : Nat) < 100000; omega⟩, fun q => by have q' : (1 : Nat) = 2 := q; omega⟩
  · rw [hx] at e1
    injection e1 with e1 _
    rw [e1]
    obtain ⟨s, t2, k0, es2, k2, b1, b2, b3, b4, b5, b6, b7, b8, b9, b10⟩ := lp
    have ad := ls_adv3 g1 (t := t) (t' := t2) (by rw [a4]; dsimp only; omega) b3 (by omega) (by rw [b9])
    rw [a4, b9] at ad
    have ad' : pos < q := ad
    have qz := ls_pos_le g1 (show t2 ≤ tz by omega) g3.2
    rw [b9] at qz
    have qz' : q ≤ (C tz).2.1 := qz
    exact ⟨⟨by show (2 : Nat) < 100; omega, by show q + e < 100000; omega⟩, fun _ => by show q + e ≠ pos + e; omega⟩
end
section
variable {f_most f_n f_stored f_nm f_nEnv f_base f_ns f_no f_nc f_pc f_mode f_err f_errAt f_ticks f_calls f_outs f_resK f_part f_cnt f_full f_flag f_need : Int32}
variable {f_resV : Int64}
variable {a_tk a_tp a_mName a_mKind a_mCount a_mPar a_mAt a_vName a_vDecl a_vKind a_sk a_oKind a_oAt a_oArgs a_cKind a_cA a_cB a_outK : Nat → Int32}
variable {a_tv a_vVal a_sv a_outV : Nat → Int64}
variable {post : SY → Prop} {p : Nat} {cs : List LsP}
set_option maxHeartbeats 200000 in
/-- not at a loop's end -/
theorem hy_statement_m (hp : p < 384) (hl : cs.length < 700) (hs : ls_StP a_cKind a_cA a_cB cs) (hb : ∀ x r, cs = x :: r → (x.1 < 100 ∧ x.2.2 < 100000) ∧ (x.1 = 2 → x.2.2 ≠ p)) (g : wY_statement_61 post f_most f_n f_stored f_nm f_nEnv f_base f_ns f_no (nI cs.length) (nI p) f_mode f_err f_errAt f_ticks f_calls f_outs f_resK f_part f_resV f_cnt f_full f_flag f_need a_tk a_tv a_tp a_mName a_mKind a_mCount a_mPar a_mAt a_vName a_vDecl a_vKind a_vVal a_sk a_sv a_oKind a_oAt a_oArgs a_cKind a_cA a_cB a_outK a_outV) : wpY_statement post (f_most, f_n, f_stored, f_nm, f_nEnv, f_base, f_ns, f_no, nI cs.length, nI p, f_mode, f_err, f_errAt, f_ticks, f_calls, f_outs, f_resK, f_part, f_resV, f_cnt, f_full, f_flag, f_need, a_tk, a_tv, a_tp, a_mName, a_mKind, a_mCount, a_mPar, a_mAt, a_vName, a_vDecl, a_vKind, a_vVal, a_sk, a_sv, a_oKind, a_oAt, a_oArgs, a_cKind, a_cA, a_cB, a_outK, a_outV) := by
  unfold wpY_statement
  dsimp only
  cases cs with
  | nil => exact br_t (by decide) g
  | cons x r =>
    obtain ⟨s1, s2, s3, _⟩ := hs
    obtain ⟨⟨b1, b2⟩, b3⟩ := hb x r rfl
    rw [List.length_cons] at hl
    refine br_f (nI_ge (a := 0) (b := (x :: r).length) (by rw [List.length_cons]; omega) (by rw [List.length_cons]; omega)) ?_
    rw [show (x :: r).length = r.length + 1 from rfl, nI_pred, nI_clamp (by omega), s1, s3]
    refine ⟨vp_in_nI (by omega) (by decide), ?_⟩
    by_cases c2 : x.1 = 2
    · refine br_t (by rw [c2]; rfl) ⟨vp_in_nI (by omega) (by decide), br_f (fun q => ?_) g⟩
      exact b3 c2 ((nI_eq (by omega) (by omega)).mp q).symm
    · exact br_f (mt (ls_k8 (b := 2) b1 (by decide)).mp c2) g
end
