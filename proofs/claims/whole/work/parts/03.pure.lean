/-! The reader as a pure machine. T: the tokens in the reference's coding (72: the text's end), V: the numbers' values.
   A configuration: state, place, the expression's start, the pending operators (level, place, more), the frames
   (kind, more, place, names), the local names (inner ones first), the code (size, op, arg, kind, place). -/
def ls_xc (t : Nat) : Nat := if t < 54 then t else if t < 70 then 54 else if t = 70 then 55 else if t = 71 then 56 else 57
abbrev ls_nam (t : Nat) : Prop := 54 ≤ t ∧ t < 70
abbrev ls_asg (t : Nat) : Prop := t = 21 ∨ (43 ≤ t ∧ t ≤ 53)
def ls_lv (t : Nat) : Nat :=
  if t = 42 then 3 else if t = 41 then 4 else if t = 30 then 5 else if t = 31 then 6 else if t = 29 then 7
  else if t = 39 then 8 else if t = 40 then 8 else if 35 ≤ t ∧ t ≤ 38 then 9 else if 32 ≤ t ∧ t ≤ 34 then 10
  else if t = 24 then 11 else if t = 25 then 11 else if 26 ≤ t ∧ t ≤ 28 then 12 else 2
abbrev LsP := Nat × Nat × Nat
abbrev LsF := Nat × Nat × Nat × List Nat
abbrev LsK := Nat × (Nat → Int32) × (Nat → Int32) × (Nat → Int32) × (Nat → Int32)
abbrev LsC := Nat × Nat × Nat × List LsP × List LsF × List Nat × LsK
def ls_addr : List Nat → Nat → Nat
  | [], nm => nm
  | x :: r, nm => if x = nm then 16 + r.length else ls_addr r nm
def ls_em (k : LsK) (o a d p : Int32) : LsK := (k.1 + 1, upd k.2.1 k.1 o, upd k.2.2.1 k.1 a, upd k.2.2.2.1 k.1 d, upd k.2.2.2.2 k.1 p)
def ls_aim (k : LsK) (j : Nat) : LsK := (k.1, k.2.1, upd k.2.2.1 j (nI k.1 - nI j), k.2.2.2.1, k.2.2.2.2)
def ls_exits (k : LsK) (lo : Nat) : LsK := (k.1, k.2.1, (fun i => if lo ≤ i ∧ i < k.1 ∧ (k.2.1 i = 14 ∨ k.2.1 i = 15) ∧ k.2.2.1 i = 0 then nI k.1 - nI i else k.2.2.1 i), k.2.2.2.1, k.2.2.2.2)
def ls_hasn (T : Nat → Nat) : Nat → Nat → Bool
  | _, 0 => false
  | a, m + 1 => decide (ls_nam (T a)) || ls_hasn T (a + 1) m
def ls_const (T : Nat → Nat) (a b : Nat) : Nat := if ls_hasn T a (b - a) then 0 else 8
/-- the innermost loop's frame -/
def ls_loop : List LsF → Option Nat
  | [] => none
  | f :: r => if f.1 = 5 then some f.2.1 else ls_loop r
/-- the kind of the method that is being read -/
def ls_mkd : List LsF → Option Nat
  | [] => none
  | [f] => if f.1 = 2 then some (f.2.2.2.headD 0) else none
  | _ :: g :: r => ls_mkd (g :: r)
def ls_fk (fr : List LsF) : Nat := match fr with
  | [] => 0
  | f :: _ => f.1
/-- the parameters from place p on: i of them stand already -/
def ls_par (T : Nat → Nat) : Nat → Nat → Nat → List Nat → Nat → Except Nat (Nat × List Nat × Nat)
  | 0, _, p, _, _ => .error p
  | f + 1, i, p, L, sg =>
    if T p < 6 then
      if ls_nam (T (p + 1)) ∧ ¬ (T (p + 1) - 54) ∈ L then
        if T (p + 2) = 19 then
          if i + 1 < 3 then ls_par T f (i + 1) (p + 3) ((T (p + 1) - 54) :: L) (sg + 16 + T p * 2 ^ (6 + 3 * i)) else .error (p + 2)
        else if T (p + 2) = 16 then
          if T (p + 3) = 17 then .ok (p + 4, (T (p + 1) - 54) :: L, sg + 16 + T p * 2 ^ (6 + 3 * i)) else .error (p + 3)
        else .error (p + 2)
      else .error (p + 1)
    else .error p
def ls_head (T : Nat → Nat) (pos : Nat) : Except Nat (Nat × List Nat × Nat) :=
  if T (pos + 3) = 16 then
    if T (pos + 4) = 17 then .ok (pos + 5, [], T (pos + 1) - 54) else .error (pos + 4)
  else ls_par T 3 0 (pos + 3) [] (T (pos + 1) - 54)
def ls_r0 (T : Nat → Nat) (pos es : Nat) (pe : List LsP) (fr : List LsF) (L : List Nat) (k : LsK) : Except Nat LsC :=
  if T pos = 72 ∧ fr = [] then .ok (6, pos, es, pe, fr, L, k)
  else match fr with
    | [] => if T pos < 6 then .ok (2, pos, es, pe, fr, L, k) else .ok (1, pos, es, pe, fr, L, k)
    | (fk, mo, sp, l) :: r =>
      if fk = 1 then
        if T pos = 18 then .ok (3, pos + 1, es, pe, r, l, k)
        else if T pos < 6 then .ok (2, pos, es, pe, (fk, mo, sp, l) :: r, L, k)
        else .ok (1, pos, es, pe, (fk, mo, sp, l) :: r, L, k)
      else .ok (1, pos, es, pe, (fk, mo, sp, l) :: r, L, k)
def ls_hdr (T : Nat → Nat) (pos : Nat) (fk : Nat) (pe : List LsP) (fr : List LsF) (L : List Nat) (cs : Nat) (k : LsK) : Except Nat LsC :=
  if T (pos + 1) = 15 then .ok (4, pos + 2, pos + 2, pe, (fk, cs, pos, []) :: fr, L, k) else .error (pos + 1)
def ls_r1 (T : Nat → Nat) (pos es : Nat) (pe : List LsP) (fr : List LsF) (L : List Nat) (k0 : LsK) : Except Nat LsC :=
  let k := ls_em k0 1 0 0 (nI pos)
  if T pos = 20 then .ok (3, pos + 1, es, pe, fr, L, k)
  else if T pos = 17 then .ok (0, pos + 1, es, pe, (1, L.length, pos, L) :: fr, L, k)
  else if T pos = 6 then ls_hdr T pos 7 pe fr L k0.1 k
  else if T pos = 8 then ls_hdr T pos 8 pe fr L k0.1 k
  else if T pos = 12 then ls_hdr T pos 9 pe fr L k0.1 k
  else if T pos = 9 then match ls_loop fr with
    | none => .error pos
    | some _ => if T (pos + 1) = 20 then .ok (3, pos + 2, es, pe, fr, L, ls_em k 14 0 0 (nI pos)) else .error (pos + 1)
  else if T pos = 10 then match ls_loop fr with
    | none => .error pos
    | some mo => if T (pos + 1) = 20 then .ok (3, pos + 2, es, pe, fr, L, ls_em k 14 (nI (mo + 1) - nI k.1) 0 (nI pos)) else .error (pos + 1)
  else if T pos = 11 then match ls_mkd fr with
    | none => .error pos
    | some mq => if T (pos + 1) = 20 then .ok (3, pos + 2, es, pe, fr, L, ls_em k 18 0 (nI mq) (nI pos))
      else .ok (4, pos + 1, pos + 1, pe, (10, k0.1, pos, []) :: fr, L, k)
  else .ok (4, pos, pos, pe, (6, k0.1, pos, []) :: fr, L, k)
def ls_var (T : Nat → Nat) (pos es : Nat) (pe : List LsP) (fr : List LsF) (L : List Nat) (k : LsK) : Except Nat LsC :=
  match fr with
  | [] =>
    let k1 := ls_em k 1 0 0 (nI pos)
    if T (pos + 2) = 21 then .ok (4, pos + 3, pos + 3, pe, [(11, k.1, pos, [])], L, k1)
    else if T (pos + 2) = 20 then .ok (0, pos + 3, es, pe, [], L, ls_em k1 19 (nI (ls_addr L (T (pos + 1) - 54))) (nI (T pos)) (nI pos))
    else .error (pos + 2)
  | (fk, mo, sp, l) :: r =>
    if L.length < 8 ∧ ¬ (T (pos + 1) - 54) ∈ L.take (L.length - mo) then
      let L1 := (T (pos + 1) - 54) :: L
      let k1 := ls_em k 19 (nI (ls_addr L1 (T (pos + 1) - 54))) (nI (T pos)) (nI pos)
      if T (pos + 2) = 21 then .ok (4, pos + 3, pos + 3, pe, (11, k.1, pos, []) :: (fk, mo, sp, l) :: r, L1, k1)
      else if T (pos + 2) = 20 then .ok (0, pos + 3, es, pe, (fk, mo, sp, l) :: r, L1, k1)
      else .error (pos + 2)
    else .error (pos + 1)
def ls_r2 (T : Nat → Nat) (pos es : Nat) (pe : List LsP) (fr : List LsF) (L : List Nat) (k : LsK) : Except Nat LsC :=
  if ls_nam (T (pos + 1)) then
    if fr = [] ∧ T (pos + 2) = 15 then
      match ls_head T pos with
      | .error e => .error e
      | .ok (p, L1, sg) => .ok (0, p, es, pe, [(1, L1.length, p, L1), (2, k.1 + 1, pos, [T pos])], L1, ls_em (ls_em k 1 0 0 (nI pos)) 21 0 (nI (sg * 8 + T pos)) (nI pos))
    else ls_var T pos es pe fr L k
  else .error (pos + 1)
def ls_r3 (T : Nat → Nat) (pos es : Nat) (pe : List LsP) (fr : List LsF) (L : List Nat) (k : LsK) : Except Nat LsC :=
  match fr with
  | [] => .ok (0, pos, es, pe, [], L, k)
  | (fk, mo, sp, l) :: r =>
    if fk = 3 then
      if T pos = 7 then .ok (0, pos + 1, es, pe, (4, k.1, sp, []) :: r, L, ls_aim (ls_em k 14 0 0 (nI pos)) mo)
      else .ok (3, pos, es, pe, r, L, ls_aim k mo)
    else if fk = 4 then .ok (3, pos, es, pe, r, L, ls_aim k mo)
    else if fk = 5 then .ok (3, pos, es, pe, r, L, ls_exits (ls_em k 14 (nI (mo + 1) - nI k.1) 0 (nI pos)) mo)
    else if fk = 2 then .ok (3, pos, es, pe, r, [], ls_aim (ls_em k 18 0 (nI (l.headD 0)) (nI (pos - 1))) mo)
    else .ok (0, pos, es, pe, (fk, mo, sp, l) :: r, L, k)
/-- a fault within an expression: its 33rd token came first -/
def ls_flt (es pos : Nat) : Except Nat LsC := .error (if es + 32 < pos then es + 32 else pos)
def ls_starts (pe : List LsP) : Bool := match pe with
  | [] => true
  | e :: _ => decide (e.1 ≤ 2)
def ls_r4 (T : Nat → Nat) (V : Nat → Int32) (pos es : Nat) (pe : List LsP) (fr : List LsF) (L : List Nat) (k : LsK) : Except Nat LsC :=
  if ls_nam (T pos) then
    let nm := T pos - 54
    if T (pos + 1) = 15 then
      if T (pos + 2) = 16 then .ok (5, pos + 3, es, pe, fr, L, ls_em k 11 (nI nm) 0 (nI pos))
      else .ok (4, pos + 2, es, (0, pos, 1) :: pe, fr, L, k)
    else if ls_starts pe = true ∧ ls_asg (T (pos + 1)) then
      if T (pos + 1) = 21 then .ok (4, pos + 2, es, (2, pos + 1, ls_addr L nm) :: pe, fr, L, k)
      else .ok (4, pos + 2, es, (2, pos + 1, ls_addr L nm) :: pe, fr, L, ls_em k 3 (nI (ls_addr L nm)) 0 (nI pos))
    else .ok (5, pos + 1, es, pe, fr, L, ls_em k 3 (nI (ls_addr L nm)) 0 (nI pos))
  else if T pos = 70 then .ok (5, pos + 1, es, pe, fr, L, ls_em k 2 (V pos) 3 (nI pos))
  else if T pos = 71 then .ok (5, pos + 1, es, pe, fr, L, ls_em k 2 (V pos) 4 (nI pos))
  else if T pos = 13 then .ok (5, pos + 1, es, pe, fr, L, ls_em k 2 1 0 (nI pos))
  else if T pos = 14 then .ok (5, pos + 1, es, pe, fr, L, ls_em k 2 0 0 (nI pos))
  else if T pos = 15 then
    if T (pos + 1) < 5 then
      if T (pos + 2) = 16 then .ok (4, pos + 3, es, (13, pos, T (pos + 1)) :: pe, fr, L, k) else ls_flt es (pos + 2)
    else if T (pos + 1) = 5 then ls_flt es (pos + 1)
    else .ok (4, pos + 1, es, (1, pos, 0) :: pe, fr, L, k)
  else if 22 ≤ T pos ∧ T pos ≤ 25 then .ok (4, pos + 1, es, (13, pos, 0) :: pe, fr, L, k)
  else ls_flt es pos
def ls_red (T : Nat → Nat) (pos : Nat) (lv pl mo : Nat) (k : LsK) : LsK :=
  if lv = 2 then
    if T pl = 21 then ls_em k 9 (nI mo) (nI (ls_const T (pl + 1) pos)) (nI pl)
    else ls_em (ls_em k 5 (nI (T pl - 19)) 0 (nI pl)) 10 (nI mo) 0 (nI pl)
  else if lv = 13 then
    if T pl = 15 then ls_em k 6 15 (nI mo) (nI pl) else ls_em k 4 (nI (T pl)) (nI mo) (nI pl)
  else if T pl = 41 ∨ T pl = 42 then ls_aim (ls_em k 8 0 0 (nI pl)) mo
  else ls_em k 5 (nI (T pl)) 0 (nI pl)
def ls_end (T : Nat → Nat) (pos es : Nat) (fr : List LsF) (L : List Nat) (k : LsK) : Except Nat LsC :=
  if es + 32 < pos then .error (es + 32) else
  match fr with
  | [] => .error pos
  | (fk, mo, sp, _) :: r =>
    if fk = 7 then
      if T pos = 16 then .ok (0, pos + 1, es, [], (3, k.1, sp, []) :: r, L, ls_em k 15 0 0 (nI sp)) else .error pos
    else if fk = 8 then
      if T pos = 16 then .ok (0, pos + 1, es, [], (5, mo, sp, []) :: r, L, ls_em k 15 0 0 (nI sp)) else .error pos
    else if fk = 9 then
      if T pos = 16 then
        if T (pos + 1) = 20 then .ok (3, pos + 2, es, [], r, L, ls_em k 16 0 0 (nI sp)) else .error (pos + 1)
      else .error pos
    else if T pos = 20 then
      if fk = 10 then .ok (3, pos + 1, es, [], r, L, ls_em k 17 0 (nI ((ls_mkd r).getD 0 + ls_const T es pos)) (nI sp))
      else if fk = 11 then .ok (3, pos + 1, es, [], r, L, ls_em k 20 (nI (ls_addr L (T (sp + 1) - 54))) (nI (T sp + ls_const T es pos)) (nI (sp + 2)))
      else .ok (3, pos + 1, es, [], r, L, ls_em k (if r = [] then 13 else 12) 0 0 (nI sp))
    else .error pos
def ls_r5 (T : Nat → Nat) (pos es : Nat) (pe : List LsP) (fr : List LsF) (L : List Nat) (k : LsK) : Except Nat LsC :=
  let lev := ls_lv (T pos)
  match pe with
  | [] =>
    if 2 < lev then .ok (4, pos + 1, es, [(lev, pos, k.1)], fr, L, if T pos = 41 ∨ T pos = 42 then ls_em k 7 0 (nI (T pos - 41)) (nI pos) else k)
    else ls_end T pos es fr L k
  | (lv, pl, mo) :: r =>
    if lev ≤ lv then .ok (5, pos, es, r, fr, L, ls_red T pos lv pl mo k)
    else if 2 < lev then .ok (4, pos + 1, es, (lev, pos, k.1) :: (lv, pl, mo) :: r, fr, L, if T pos = 41 ∨ T pos = 42 then ls_em k 7 0 (nI (T pos - 41)) (nI pos) else k)
    else if T pos = 16 then
      if lv = 0 then .ok (5, pos + 1, es, r, fr, L, ls_em k 11 (nI (T pl - 54 + mo * 16)) 0 (nI pl))
      else .ok (5, pos + 1, es, r, fr, L, k)
    else if T pos = 19 ∧ lv = 0 then
      if mo < 3 then .ok (4, pos + 1, es, (lv, pl, mo + 1) :: r, fr, L, k) else ls_flt es pos
    else ls_flt es pos
def ls_rs (T : Nat → Nat) (V : Nat → Int32) (c : LsC) : Except Nat LsC :=
  match c with
  | (st, pos, es, pe, fr, L, k) =>
    if st = 0 then ls_r0 T pos es pe fr L k
    else if st = 1 then ls_r1 T pos es pe fr L k
    else if st = 2 then ls_r2 T pos es pe fr L k
    else if st = 3 then ls_r3 T pos es pe fr L k
    else if st = 4 then ls_r4 T V pos es pe fr L k
    else ls_r5 T pos es pe fr L k
