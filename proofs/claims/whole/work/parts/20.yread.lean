/-! The reference's reading, as a pure step a token. A state: what is needed, what is open (kind, names outside),
   the open parentheses (arguments), flag, count, the expression's place, the names (as tokens, inner ones first) -/
abbrev LsY := Nat × List (Nat × Nat) × List Nat × Nat × Nat × Nat × List Nat
def ls_yfin (t : Nat) : List (Nat × Nat) → Bool × List (Nat × Nat)
  | [] => (false, [])
  | e :: r => if e.1 = 2 ∨ 3 < e.1 then (if e.1 = 4 ∧ t = 7 then (true, e :: r) else ls_yfin t r) else (false, e :: r)
def ls_yins : List (Nat × Nat) → Bool
  | [] => false
  | e :: r => if e.1 = 3 then false else if e.1 = 2 then true else ls_yins r
def ls_ybot : List (Nat × Nat) → Bool
  | [] => false
  | [e] => decide (e.1 = 3)
  | _ :: g :: r => ls_ybot (g :: r)
def ls_ysc : List (Nat × Nat) → Option Nat
  | [] => none
  | e :: r => if e.1 = 1 ∨ e.1 = 3 then some e.2 else ls_ysc r
def ls_yopd (t nm : Nat) (C : List (Nat × Nat)) (O : List Nat) (ct fu : Nat) (N : List Nat) : Option LsY :=
  if 22 ≤ t ∧ t ≤ 25 then some (4, C, O, 0, ct, fu, N)
  else if t = 15 then some (15, C, 0 :: O, 0, ct, fu, N)
  else if t = 13 ∨ t = 14 ∨ 54 ≤ t then some (5, C, O, if ls_nam t then nm else 0, ct, fu, N)
  else none
def ls_yaft (t fl : Nat) (C : List (Nat × Nat)) (O : List Nat) (ct fu : Nat) (N : List Nat) : Option LsY :=
  if 2 < ls_lv t then some (4, C, O, 0, ct, fu, N)
  else if ls_asg t then (if fl = 2 then some (3, C, O, 0, ct, fu, N) else none)
  else if t = 15 then (if 0 < fl then some (17, C, 1 :: O, 0, ct, fu, N) else none)
  else match O with
    | [] => none
    | o :: r => if t = 16 then some (5, C, r, 0, ct, fu, N) else if t = 19 ∧ 0 < o ∧ o < 3 then some (3, C, (o + 1) :: r, 0, ct, fu, N) else none
def ls_ywith (nd t : Nat) (C : List (Nat × Nat)) (O : List Nat) (fl ct fu : Nat) (N : List Nat) : Option LsY :=
  if nd = 5 ∧ O = [] ∧ (t = 20 ∧ (fu = 20 ∨ fu = 11) ∨ t = 16 ∧ (fu = 6 ∨ fu = 8 ∨ fu = 12)) then some (if t = 20 then 0 else if fu = 12 then 6 else 1, C, O, 0, ct, fu, N)
  else if 32 < ct + 1 then none
  else if nd = 5 then ls_yaft t fl C O (ct + 1) fu N
  else if nd = 16 then (if t = 16 then some (4, C, O, 0, ct + 1, fu, N) else none)
  else if nd = 17 ∧ t = 16 then some (5, C, O.tail, 0, ct + 1, fu, N)
  else if nd = 15 ∧ t < 5 then some (16, C, O.tail, 0, ct + 1, fu, N)
  else ls_yopd t (if nd = 4 then 1 else 2) C O (ct + 1) fu N
def ls_ycl (C : List (Nat × Nat)) (O : List Nat) (fl ct fu : Nat) (N : List Nat) : Option LsY := match C with
  | [] => none
  | e :: r => match r with
    | [] => some (0, [], O, fl, ct, fu, N.drop (N.length - e.2))
    | g :: r2 => if g.1 = 3 then some (0, r2, O, fl, ct, fu, N.drop (N.length - g.2)) else some (0, g :: r2, O, fl, ct, fu, N.drop (N.length - e.2))
def ls_ybeg (list : Bool) (t : Nat) (C : List (Nat × Nat)) (O : List Nat) (fl ct fu : Nat) (N : List Nat) : Option LsY :=
  if t = 20 then some (0, C, O, fl, ct, fu, N)
  else if t < 6 then (if list then some (8, C, O, fl, ct, fu, N) else none)
  else if t = 17 then some (0, (1, N.length) :: C, O, fl, ct, fu, N)
  else if t = 18 then (if list then ls_ycl C O fl ct fu N else none)
  else if t = 6 then some (2, (4, N.length) :: C, O, fl, ct, 6, N)
  else if t = 8 then some (2, (2, N.length) :: C, O, fl, ct, 8, N)
  else if t = 12 then some (2, C, O, fl, ct, 12, N)
  else if t = 9 ∨ t = 10 then (if ls_yins C then some (6, C, O, fl, ct, t, N) else none)
  else if t = 11 then (if ls_ybot C then some (7, C, O, fl, ct, 11, N) else none)
  else ls_ywith 3 t C O fl 0 20 N
def ls_ydec (nd t : Nat) (C : List (Nat × Nat)) (O : List Nat) (fl ct fu : Nat) (N : List Nat) : Option LsY :=
  if ls_nam t then
    match ls_ysc C with
    | none => some (nd, C, O, fl, ct, fu, N)
    | some a => if t ∈ N.take (N.length - a) ∨ N.length = 8 then none else some (nd, C, O, fl, ct, fu, t :: N)
  else none
def ls_yhd (nd t : Nat) (C : List (Nat × Nat)) (O : List Nat) (fl ct fu : Nat) (N : List Nat) : Option LsY :=
  if nd = 8 then ls_ydec 9 t C O fl ct fu N
  else if nd = 9 then
    (if t = 15 ∧ C = [] then some (10, [(3, N.length)], [], fl, 0, 20, N)
     else if t = 20 then some (0, C, O, fl, 0, 20, N)
     else if t = 21 then some (3, C, O, fl, 0, 20, N) else none)
  else if (nd = 10 ∨ nd = 13) ∧ t = 16 then some (14, C, O, fl, ct, fu, N)
  else if nd = 10 ∨ nd = 11 then (if t < 6 then some (12, C, O, fl, ct, fu, N) else none)
  else if nd = 12 then ls_ydec 13 t C O fl ct fu N
  else if nd = 13 then (if t = 19 ∧ N.length < 3 then some (11, C, O, fl, ct, fu, N) else none)
  else if t = 17 then some (0, (1, N.length) :: C, O, fl, ct, fu, N) else none
def ls_yg (y : LsY) (t : Nat) : Option LsY := match y with
  | (nd, C, O, fl, ct, fu, N) =>
    if nd = 0 then
      match ls_yfin t C with
      | (true, C1) => some (1, (5, (C1.headD (0, 0)).2) :: C1.tail, O, fl, ct, fu, N)
      | (false, C1) => ls_ybeg true t C1 O fl ct fu N
    else if nd = 1 then ls_ybeg false t C O fl ct fu N
    else if nd = 7 ∧ t ≠ 20 then ls_ywith 3 t C O fl 0 fu N
    else if nd = 3 ∨ nd = 4 ∨ nd = 5 ∨ 15 ≤ nd then ls_ywith nd t C O fl ct fu N
    else if nd = 2 then (if t = 15 then some (3, C, O, fl, 0, fu, N) else none)
    else if nd = 6 ∨ nd = 7 then (if t = 20 then some (0, C, O, fl, ct, fu, N) else none)
    else ls_yhd nd t C O fl ct fu N
def ls_StC (a b : Nat → Int32) : List (Nat × Nat) → Prop
  | [] => True
  | e :: r => a r.length = nI e.1 ∧ b r.length = nI e.2 ∧ ls_StC a b r
set_option maxHeartbeats 200000 in
theorem ls_StC_up {a b : Nat → Int32} {j : Nat} {x y : Int32} : ∀ {C : List (Nat × Nat)}, C.length ≤ j → ls_StC a b C → ls_StC (upd a j x) (upd b j y) C
  | [], _, _ => trivial
  | e :: r, h, ⟨h1, h2, h3⟩ => by
    have h' : r.length + 1 ≤ j := h
    exact ⟨by rw [pk_un (by omega)]; exact h1, by rw [pk_un (by omega)]; exact h2, ls_StC_up (by omega) h3⟩
set_option maxHeartbeats 200000 in
theorem ls_StC_up1 {a b : Nat → Int32} {j : Nat} {x : Int32} : ∀ {C : List (Nat × Nat)}, C.length ≤ j → ls_StC a b C → ls_StC (upd a j x) b C
  | [], _, _ => trivial
  | e :: r, h, ⟨h1, h2, h3⟩ => by
    have h' : r.length + 1 ≤ j := h
    exact ⟨by rw [pk_un (by omega)]; exact h1, h2, ls_StC_up1 (by omega) h3⟩
def ls_ykept (v : SY) : (Int32 × Int32 × Int32 × Int32 × Int32 × Int32 × Int32 × Int32 × Int32 × Int32 × Int32 × Int32 × Int32 × Int32 × Int32 × Int64) × ((Nat → Int32) × (Nat → Int64) × (Nat → Int32) × (Nat → Int32) × (Nat → Int32) × (Nat → Int32) × (Nat → Int32) × (Nat → Int32)) × ((Nat → Int32) × (Nat → Int32) × (Nat → Int64) × (Nat → Int32) × (Nat → Int64) × (Nat → Int32) × (Nat → Int32) × (Nat → Int32) × (Nat → Int32) × (Nat → Int64)) := match v with
  | (f_most, f_n, f_stored, f_nm, f_nEnv, f_base, f_ns, f_no, f_nc, f_pc, f_mode, f_err, f_errAt, f_ticks, f_calls, f_outs, f_resK, f_part, f_resV, f_cnt, f_full, f_flag, f_need, a_tk, a_tv, a_tp, a_mName, a_mKind, a_mCount, a_mPar, a_mAt, a_vName, a_vDecl, a_vKind, a_vVal, a_sk, a_sv, a_oKind, a_oAt, a_oArgs, a_cKind, a_cA, a_cB, a_outK, a_outV) => ((f_most, f_n, f_stored, f_nm, f_base, f_ns, f_pc, f_mode, f_err, f_errAt, f_ticks, f_calls, f_outs, f_resK, f_part, f_resV), (a_tk, a_tv, a_tp, a_mName, a_mKind, a_mCount, a_mPar, a_mAt), (a_vDecl, a_vKind, a_vVal, a_sk, a_sv, a_oKind, a_oAt, a_cB, a_outK, a_outV))
/-- the bounds that keep every index within -/
def ls_yb (y : LsY) : Prop := match y with
  | (nd, C, O, fl, ct, fu, N) => nd < 18 ∧ C.length < 699 ∧ O.length < 399 ∧ N.length ≤ 8 ∧ (nd = 5 → fl < 3) ∧ ((nd = 3 ∨ nd = 4 ∨ nd = 5 ∨ 15 ≤ nd) → ct < 200) ∧ ((nd = 2 ∨ nd = 3 ∨ nd = 4 ∨ nd = 5 ∨ nd = 7 ∨ 15 ≤ nd) → fu < 100) ∧ (∀ e ∈ C, 1 ≤ e.1 ∧ e.1 ≤ 5 ∧ e.2 ≤ 8) ∧ (∀ x ∈ N, x < 100) ∧ (∀ x ∈ O, x ≤ 3)
def ls_YR (v0 : SY) (y : LsY) (v : SY) : Prop := match y with
  | (nd, C, O, fl, ct, fu, N) => match v with
    | (f_most, f_n, f_stored, f_nm, f_nEnv, f_base, f_ns, f_no, f_nc, f_pc, f_mode, f_err, f_errAt, f_ticks, f_calls, f_outs, f_resK, f_part, f_resV, f_cnt, f_full, f_flag, f_need, a_tk, a_tv, a_tp, a_mName, a_mKind, a_mCount, a_mPar, a_mAt, a_vName, a_vDecl, a_vKind, a_vVal, a_sk, a_sv, a_oKind, a_oAt, a_oArgs, a_cKind, a_cA, a_cB, a_outK, a_outV) => ((f_most, f_n, f_stored, f_nm, f_base, f_ns, f_pc, f_mode, f_err, f_errAt, f_ticks, f_calls, f_outs, f_resK, f_part, f_resV), (a_tk, a_tv, a_tp, a_mName, a_mKind, a_mCount, a_mPar, a_mAt), (a_vDecl, a_vKind, a_vVal, a_sk, a_sv, a_oKind, a_oAt, a_cB, a_outK, a_outV)) = ls_ykept v0 ∧ f_need = nI nd ∧ f_nc = nI C.length ∧ f_no = nI O.length ∧ f_flag = nI fl ∧ f_cnt = nI ct ∧ f_full = nI fu ∧ f_nEnv = nI N.length ∧ ls_StC a_cKind a_cA C ∧ ls_StN a_oArgs O ∧ ls_StN a_vName N
def ls_yout (v0 : SY) (r : Option LsY) (post : Int32 → SY → Prop) : Prop := match r with
  | some y => ∀ v', ls_YR v0 y v' → post 1 v'
  | none => ∀ v', ls_ykept v' = ls_ykept v0 → post 0 v'
