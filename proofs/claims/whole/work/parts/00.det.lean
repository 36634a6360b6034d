/-! The reference's reading ends in one state only: what it may end in, it does end in -/
def de_D {A π : Type} (ap : A → π → Prop) (W : π → Prop) : Prop := ∀ P, W P → ∃ a, ap a P ∧ ∀ Q, ap a Q → W Q
def de_a2 (a : Int32 × SY) (P : Int32 → SY → Prop) : Prop := P a.1 a.2
def de_a1 (a : SY) (P : SY → Prop) : Prop := P a
def de_a0 (a : Int32) (P : Int32 → Prop) : Prop := P a
section
variable {A π : Type} {ap : A → π → Prop}
set_option maxHeartbeats 200000 in
theorem de_br {c : Prop} {K M : π → Prop} (h1 : c → de_D ap (fun P => K P)) (h2 : ¬ c → de_D ap (fun P => M P)) : de_D ap (fun P => (c → K P) ∧ (¬ c → M P)) := fun P h => by
  by_cases q : c
  · obtain ⟨a, h3, h4⟩ := h1 q P (h.1 q)
    exact ⟨a, h3, fun Q hQ => ⟨fun _ => h4 Q hQ, fun n => absurd q n⟩⟩
  · obtain ⟨a, h3, h4⟩ := h2 q P (h.2 q)
    exact ⟨a, h3, fun Q hQ => ⟨fun n => absurd n q, fun _ => h4 Q hQ⟩⟩
set_option maxHeartbeats 200000 in
theorem de_nm {β : Type} {e : β} {K : π → β → Prop} (h : de_D ap (fun P => K P e)) : de_D ap (fun P => ∀ y, y = e → K P y) := fun P hP => by
  obtain ⟨a, h1, h2⟩ := h P (hP e rfl)
  exact ⟨a, h1, fun Q hQ y hy => by rw [hy]; exact h2 Q hQ⟩
set_option maxHeartbeats 200000 in
theorem de_and {B : Prop} {K : π → Prop} (h : B → de_D ap (fun P => K P)) : de_D ap (fun P => B ∧ K P) := fun P hP => by
  obtain ⟨a, h1, h2⟩ := h hP.1 P hP.2
  exact ⟨a, h1, fun Q hQ => ⟨hP.1, h2 Q hQ⟩⟩
set_option maxHeartbeats 200000 in
theorem de_ex {K : π → Nat → Prop} (h : ∀ n, de_D ap (fun P => K P n)) : de_D ap (fun P => ∃ n, K P n) := fun P hP => by
  obtain ⟨n, hn⟩ := hP
  obtain ⟨a, h1, h2⟩ := h n P hn
  exact ⟨a, h1, fun Q hQ => ⟨n, h2 Q hQ⟩⟩
set_option maxHeartbeats 200000 in
theorem de_no : de_D ap (fun _ => False) := fun _ h => h.elim
set_option maxHeartbeats 200000 in
theorem de_c2 {W : (Int32 → SY → Prop) → Prop} {K : π → Int32 → SY → Prop} (h : de_D de_a2 W) (g : ∀ r w, de_D ap (fun P => K P r w)) : de_D ap (fun P => W (fun r w => K P r w)) := fun P hP => by
  obtain ⟨⟨r, w⟩, h1, h2⟩ := h _ hP
  obtain ⟨a, h3, h4⟩ := g r w P h1
  exact ⟨a, h3, fun Q hQ => h2 _ (h4 Q hQ)⟩
set_option maxHeartbeats 200000 in
theorem de_c1 {W : (SY → Prop) → Prop} {K : π → SY → Prop} (h : de_D de_a1 W) (g : ∀ w, de_D ap (fun P => K P w)) : de_D ap (fun P => W (fun w => K P w)) := fun P hP => by
  obtain ⟨w, h1, h2⟩ := h _ hP
  obtain ⟨a, h3, h4⟩ := g w P h1
  exact ⟨a, h3, fun Q hQ => h2 _ (h4 Q hQ)⟩
set_option maxHeartbeats 200000 in
theorem de_c0 {W : (Int32 → Prop) → Prop} {K : π → Int32 → Prop} (h : de_D de_a0 W) (g : ∀ r, de_D ap (fun P => K P r)) : de_D ap (fun P => W (fun r => K P r)) := fun P hP => by
  obtain ⟨r, h1, h2⟩ := h _ hP
  obtain ⟨a, h3, h4⟩ := g r P h1
  exact ⟨a, h3, fun Q hQ => h2 _ (h4 Q hQ)⟩
set_option maxHeartbeats 200000 in
theorem de_p2 {r : Int32} {w : SY} : de_D de_a2 (fun P => P r w) := fun _ h => ⟨(r, w), h, fun _ q => q⟩
set_option maxHeartbeats 200000 in
theorem de_p1 {w : SY} : de_D de_a1 (fun P => P w) := fun _ h => ⟨w, h, fun _ q => q⟩
set_option maxHeartbeats 200000 in
theorem de_p0 {r : Int32} : de_D de_a0 (fun P => P r) := fun _ h => ⟨r, h, fun _ q => q⟩
end
section
variable {x1 : Int32} {f_most : Int32} {f_n : Int32} {f_stored : Int32} {f_nm : Int32} {f_nEnv : Int32} {f_base : Int32} {f_ns : Int32} {f_no : Int32} {f_pc : Int32} {f_mode : Int32} {f_err : Int32} {f_errAt : Int32} {f_ticks : Int32} {f_calls : Int32} {f_outs : Int32} {f_resK : Int32} {f_part : Int32} {f_resV : Int64} {f_cnt : Int32} {f_full : Int32} {f_flag : Int32} {f_need : Int32} {a_tk : Nat → Int32} {a_tv : Nat → Int64} {a_tp : Nat → Int32} {a_mName : Nat → Int32} {a_mKind : Nat → Int32} {a_mCount : Nat → Int32} {a_mPar : Nat → Int32} {a_mAt : Nat → Int32} {a_vName : Nat → Int32} {a_vDecl : Nat → Int32} {a_vKind : Nat → Int32} {a_vVal : Nat → Int64} {a_sk : Nat → Int32} {a_sv : Nat → Int64} {a_oKind : Nat → Int32} {a_oAt : Nat → Int32} {a_oArgs : Nat → Int32} {a_cKind : Nat → Int32} {a_cA : Nat → Int32} {a_cB : Nat → Int32} {a_outK : Nat → Int32} {a_outV : Nat → Int64} {n : Nat} {f_nc : Int32}
set_option maxHeartbeats 200000 in
theorem de_wY_finished_0 : ∀ {n : Nat} {f_nc : Int32}, de_D de_a2 (fun post => wY_finished_0 post x1 f_most f_n f_stored f_nm f_nEnv f_base f_ns f_no f_pc f_mode f_err f_errAt f_ticks f_calls f_outs f_resK f_part f_resV f_cnt f_full f_flag f_need a_tk a_tv a_tp a_mName a_mKind a_mCount a_mPar a_mAt a_vName a_vDecl a_vKind a_vVal a_sk a_sv a_oKind a_oAt a_oArgs a_cKind a_cA a_cB a_outK a_outV n f_nc) := by
  intro n
  induction n with
  | zero => intros; exact de_no
  | succ n ih =>
    intros
    unfold wY_finished_0 wY_finished_37
    try dsimp only
    repeat' first
     | with_reducible exact de_p2
     | with_reducible exact de_p1
     | with_reducible exact de_p0
     | with_reducible exact de_no
     | with_reducible exact ih
     | with_reducible refine de_br (fun _ => ?_) (fun _ => ?_)
     | with_reducible refine de_nm ?_
     | with_reducible refine de_and (fun _ => ?_)
     | with_reducible refine de_ex (fun _ => ?_)
end
section
variable {u : SY} {p0 : Int32}
set_option maxHeartbeats 200000 in
theorem de_wpY_finished : de_D de_a2 (fun post => wpY_finished post u p0) := by
  obtain ⟨f_most, f_n, f_stored, f_nm, f_nEnv, f_base, f_ns, f_no, f_nc, f_pc, f_mode, f_err, f_errAt, f_ticks, f_calls, f_outs, f_resK, f_part, f_resV, f_cnt, f_full, f_flag, f_need, a_tk, a_tv, a_tp, a_mName, a_mKind, a_mCount, a_mPar, a_mAt, a_vName, a_vDecl, a_vKind, a_vVal, a_sk, a_sv, a_oKind, a_oAt, a_oArgs, a_cKind, a_cA, a_cB, a_outK, a_outV⟩ := u
  unfold wpY_finished
  try dsimp only
  repeat' first
   | with_reducible exact de_p2
   | with_reducible exact de_p1
   | with_reducible exact de_p0
   | with_reducible exact de_no
   | with_reducible exact de_wY_finished_0
   | with_reducible refine de_br (fun _ => ?_) (fun _ => ?_)
   | with_reducible refine de_nm ?_
   | with_reducible refine de_and (fun _ => ?_)
   | with_reducible refine de_ex (fun _ => ?_)
variable {A π : Type} {ap : A → π → Prop}
set_option maxHeartbeats 200000 in
theorem dc_wpY_finished {K : π → Int32 → SY → Prop} (g : ∀ r w, de_D ap (fun P => K P r w)) : de_D ap (fun P => wpY_finished (fun r w => K P r w) u p0) := de_c2 (W := fun post => wpY_finished post u p0) de_wpY_finished g
end
section
variable {u : SY} {p0 : Int32}
set_option maxHeartbeats 200000 in
theorem de_wpY_openStatement : de_D de_a1 (fun post => wpY_openStatement post u p0) := by
  obtain ⟨f_most, f_n, f_stored, f_nm, f_nEnv, f_base, f_ns, f_no, f_nc, f_pc, f_mode, f_err, f_errAt, f_ticks, f_calls, f_outs, f_resK, f_part, f_resV, f_cnt, f_full, f_flag, f_need, a_tk, a_tv, a_tp, a_mName, a_mKind, a_mCount, a_mPar, a_mAt, a_vName, a_vDecl, a_vKind, a_vVal, a_sk, a_sv, a_oKind, a_oAt, a_oArgs, a_cKind, a_cA, a_cB, a_outK, a_outV⟩ := u
  unfold wpY_openStatement
  try dsimp only
  repeat' first
   | with_reducible exact de_p2
   | with_reducible exact de_p1
   | with_reducible exact de_p0
   | with_reducible exact de_no
   | with_reducible refine de_br (fun _ => ?_) (fun _ => ?_)
   | with_reducible refine de_nm ?_
   | with_reducible refine de_and (fun _ => ?_)
   | with_reducible refine de_ex (fun _ => ?_)
variable {A π : Type} {ap : A → π → Prop}
set_option maxHeartbeats 200000 in
theorem dc_wpY_openStatement {K : π → SY → Prop} (g : ∀ w, de_D ap (fun P => K P w)) : de_D ap (fun P => wpY_openStatement (fun w => K P w) u p0) := de_c1 (W := fun post => wpY_openStatement post u p0) de_wpY_openStatement g
end
section
variable {x1 : Int32} {f_most : Int32} {f_n : Int32} {f_stored : Int32} {f_nm : Int32} {f_nEnv : Int32} {f_base : Int32} {f_ns : Int32} {f_no : Int32} {f_nc : Int32} {f_pc : Int32} {f_mode : Int32} {f_err : Int32} {f_errAt : Int32} {f_ticks : Int32} {f_calls : Int32} {f_outs : Int32} {f_resK : Int32} {f_part : Int32} {f_resV : Int64} {f_cnt : Int32} {f_full : Int32} {f_flag : Int32} {f_need : Int32} {a_tk : Nat → Int32} {a_tv : Nat → Int64} {a_tp : Nat → Int32} {a_mName : Nat → Int32} {a_mKind : Nat → Int32} {a_mCount : Nat → Int32} {a_mPar : Nat → Int32} {a_mAt : Nat → Int32} {a_vName : Nat → Int32} {a_vDecl : Nat → Int32} {a_vKind : Nat → Int32} {a_vVal : Nat → Int64} {a_sk : Nat → Int32} {a_sv : Nat → Int64} {a_oKind : Nat → Int32} {a_oAt : Nat → Int32} {a_oArgs : Nat → Int32} {a_cKind : Nat → Int32} {a_cA : Nat → Int32} {a_cB : Nat → Int32} {a_outK : Nat → Int32} {a_outV : Nat → Int64} {n : Nat} {x2 : Int32}
set_option maxHeartbeats 200000 in
theorem de_wY_inside_7 : ∀ {n : Nat} {x2 : Int32}, de_D de_a0 (fun post => wY_inside_7 post x1 f_most f_n f_stored f_nm f_nEnv f_base f_ns f_no f_nc f_pc f_mode f_err f_errAt f_ticks f_calls f_outs f_resK f_part f_resV f_cnt f_full f_flag f_need a_tk a_tv a_tp a_mName a_mKind a_mCount a_mPar a_mAt a_vName a_vDecl a_vKind a_vVal a_sk a_sv a_oKind a_oAt a_oArgs a_cKind a_cA a_cB a_outK a_outV n x2) := by
  intro n
  induction n with
  | zero => intros; exact de_no
  | succ n ih =>
    intros
    unfold wY_inside_7
    try dsimp only
    repeat' first
     | with_reducible exact de_p2
     | with_reducible exact de_p1
     | with_reducible exact de_p0
     | with_reducible exact de_no
     | with_reducible exact ih
     | with_reducible refine de_br (fun _ => ?_) (fun _ => ?_)
     | with_reducible refine de_nm ?_
     | with_reducible refine de_and (fun _ => ?_)
     | with_reducible refine de_ex (fun _ => ?_)
end
section
variable {u : SY} {p0 : Int32}
set_option maxHeartbeats 200000 in
theorem de_wpY_inside : de_D de_a0 (fun post => wpY_inside post u p0) := by
  obtain ⟨f_most, f_n, f_stored, f_nm, f_nEnv, f_base, f_ns, f_no, f_nc, f_pc, f_mode, f_err, f_errAt, f_ticks, f_calls, f_outs, f_resK, f_part, f_resV, f_cnt, f_full, f_flag, f_need, a_tk, a_tv, a_tp, a_mName, a_mKind, a_mCount, a_mPar, a_mAt, a_vName, a_vDecl, a_vKind, a_vVal, a_sk, a_sv, a_oKind, a_oAt, a_oArgs, a_cKind, a_cA, a_cB, a_outK, a_outV⟩ := u
  unfold wpY_inside
  try dsimp only
  repeat' first
   | with_reducible exact de_p2
   | with_reducible exact de_p1
   | with_reducible exact de_p0
   | with_reducible exact de_no
   | with_reducible exact de_wY_inside_7
   | with_reducible refine de_br (fun _ => ?_) (fun _ => ?_)
   | with_reducible refine de_nm ?_
   | with_reducible refine de_and (fun _ => ?_)
   | with_reducible refine de_ex (fun _ => ?_)
variable {A π : Type} {ap : A → π → Prop}
set_option maxHeartbeats 200000 in
theorem dc_wpY_inside {K : π → Int32 → Prop} (g : ∀ r, de_D ap (fun P => K P r)) : de_D ap (fun P => wpY_inside (fun r => K P r) u p0) := de_c0 (W := fun post => wpY_inside post u p0) de_wpY_inside g
end
section
variable {x1 : Int32} {f_most : Int32} {f_n : Int32} {f_stored : Int32} {f_nm : Int32} {f_nEnv : Int32} {f_base : Int32} {f_ns : Int32} {f_no : Int32} {f_nc : Int32} {f_pc : Int32} {f_mode : Int32} {f_err : Int32} {f_errAt : Int32} {f_ticks : Int32} {f_calls : Int32} {f_outs : Int32} {f_resK : Int32} {f_part : Int32} {f_resV : Int64} {f_cnt : Int32} {f_full : Int32} {f_flag : Int32} {f_need : Int32} {a_tk : Nat → Int32} {a_tv : Nat → Int64} {a_tp : Nat → Int32} {a_mName : Nat → Int32} {a_mKind : Nat → Int32} {a_mCount : Nat → Int32} {a_mPar : Nat → Int32} {a_mAt : Nat → Int32} {a_vName : Nat → Int32} {a_vDecl : Nat → Int32} {a_vKind : Nat → Int32} {a_vVal : Nat → Int64} {a_sk : Nat → Int32} {a_sv : Nat → Int64} {a_oKind : Nat → Int32} {a_oAt : Nat → Int32} {a_oArgs : Nat → Int32} {a_cKind : Nat → Int32} {a_cA : Nat → Int32} {a_cB : Nat → Int32} {a_outK : Nat → Int32} {a_outV : Nat → Int64}
set_option maxHeartbeats 200000 in
theorem de_wY_level_85 : de_D de_a0 (fun post => wY_level_85 post x1 f_most f_n f_stored f_nm f_nEnv f_base f_ns f_no f_nc f_pc f_mode f_err f_errAt f_ticks f_calls f_outs f_resK f_part f_resV f_cnt f_full f_flag f_need a_tk a_tv a_tp a_mName a_mKind a_mCount a_mPar a_mAt a_vName a_vDecl a_vKind a_vVal a_sk a_sv a_oKind a_oAt a_oArgs a_cKind a_cA a_cB a_outK a_outV) := by
  unfold wY_level_85
  repeat' first
   | with_reducible exact de_p2
   | with_reducible exact de_p1
   | with_reducible exact de_p0
   | with_reducible exact de_no
   | with_reducible refine de_br (fun _ => ?_) (fun _ => ?_)
   | with_reducible refine de_nm ?_
   | with_reducible refine de_and (fun _ => ?_)
   | with_reducible refine de_ex (fun _ => ?_)
end
section
variable {x1 : Int32} {f_most : Int32} {f_n : Int32} {f_stored : Int32} {f_nm : Int32} {f_nEnv : Int32} {f_base : Int32} {f_ns : Int32} {f_no : Int32} {f_nc : Int32} {f_pc : Int32} {f_mode : Int32} {f_err : Int32} {f_errAt : Int32} {f_ticks : Int32} {f_calls : Int32} {f_outs : Int32} {f_resK : Int32} {f_part : Int32} {f_resV : Int64} {f_cnt : Int32} {f_full : Int32} {f_flag : Int32} {f_need : Int32} {a_tk : Nat → Int32} {a_tv : Nat → Int64} {a_tp : Nat → Int32} {a_mName : Nat → Int32} {a_mKind : Nat → Int32} {a_mCount : Nat → Int32} {a_mPar : Nat → Int32} {a_mAt : Nat → Int32} {a_vName : Nat → Int32} {a_vDecl : Nat → Int32} {a_vKind : Nat → Int32} {a_vVal : Nat → Int64} {a_sk : Nat → Int32} {a_sv : Nat → Int64} {a_oKind : Nat → Int32} {a_oAt : Nat → Int32} {a_oArgs : Nat → Int32} {a_cKind : Nat → Int32} {a_cA : Nat → Int32} {a_cB : Nat → Int32} {a_outK : Nat → Int32} {a_outV : Nat → Int64}
set_option maxHeartbeats 200000 in
theorem de_wY_level_70 : de_D de_a0 (fun post => wY_level_70 post x1 f_most f_n f_stored f_nm f_nEnv f_base f_ns f_no f_nc f_pc f_mode f_err f_errAt f_ticks f_calls f_outs f_resK f_part f_resV f_cnt f_full f_flag f_need a_tk a_tv a_tp a_mName a_mKind a_mCount a_mPar a_mAt a_vName a_vDecl a_vKind a_vVal a_sk a_sv a_oKind a_oAt a_oArgs a_cKind a_cA a_cB a_outK a_outV) := by
  unfold wY_level_70
  repeat' first
   | with_reducible exact de_p2
   | with_reducible exact de_p1
   | with_reducible exact de_p0
   | with_reducible exact de_no
   | with_reducible exact de_wY_level_85
   | with_reducible refine de_br (fun _ => ?_) (fun _ => ?_)
   | with_reducible refine de_nm ?_
   | with_reducible refine de_and (fun _ => ?_)
   | with_reducible refine de_ex (fun _ => ?_)
end
section
variable {u : SY} {p0 : Int32}
set_option maxHeartbeats 200000 in
theorem de_wpY_level : de_D de_a0 (fun post => wpY_level post u p0) := by
  obtain ⟨f_most, f_n, f_stored, f_nm, f_nEnv, f_base, f_ns, f_no, f_nc, f_pc, f_mode, f_err, f_errAt, f_ticks, f_calls, f_outs, f_resK, f_part, f_resV, f_cnt, f_full, f_flag, f_need, a_tk, a_tv, a_tp, a_mName, a_mKind, a_mCount, a_mPar, a_mAt, a_vName, a_vDecl, a_vKind, a_vVal, a_sk, a_sv, a_oKind, a_oAt, a_oArgs, a_cKind, a_cA, a_cB, a_outK, a_outV⟩ := u
  unfold wpY_level
  try dsimp only
  repeat' first
   | with_reducible exact de_p2
   | with_reducible exact de_p1
   | with_reducible exact de_p0
   | with_reducible exact de_no
   | with_reducible exact de_wY_level_70
   | with_reducible refine de_br (fun _ => ?_) (fun _ => ?_)
   | with_reducible refine de_nm ?_
   | with_reducible refine de_and (fun _ => ?_)
   | with_reducible refine de_ex (fun _ => ?_)
variable {A π : Type} {ap : A → π → Prop}
set_option maxHeartbeats 200000 in
theorem dc_wpY_level {K : π → Int32 → Prop} (g : ∀ r, de_D ap (fun P => K P r)) : de_D ap (fun P => wpY_level (fun r => K P r) u p0) := de_c0 (W := fun post => wpY_level post u p0) de_wpY_level g
end
section
variable {u : SY} {p0 : Int32}
set_option maxHeartbeats 200000 in
theorem de_wpY_isAssign : de_D de_a0 (fun post => wpY_isAssign post u p0) := by
  obtain ⟨f_most, f_n, f_stored, f_nm, f_nEnv, f_base, f_ns, f_no, f_nc, f_pc, f_mode, f_err, f_errAt, f_ticks, f_calls, f_outs, f_resK, f_part, f_resV, f_cnt, f_full, f_flag, f_need, a_tk, a_tv, a_tp, a_mName, a_mKind, a_mCount, a_mPar, a_mAt, a_vName, a_vDecl, a_vKind, a_vVal, a_sk, a_sv, a_oKind, a_oAt, a_oArgs, a_cKind, a_cA, a_cB, a_outK, a_outV⟩ := u
  unfold wpY_isAssign
  try dsimp only
  repeat' first
   | with_reducible exact de_p2
   | with_reducible exact de_p1
   | with_reducible exact de_p0
   | with_reducible exact de_no
   | with_reducible refine de_br (fun _ => ?_) (fun _ => ?_)
   | with_reducible refine de_nm ?_
   | with_reducible refine de_and (fun _ => ?_)
   | with_reducible refine de_ex (fun _ => ?_)
variable {A π : Type} {ap : A → π → Prop}
set_option maxHeartbeats 200000 in
theorem dc_wpY_isAssign {K : π → Int32 → Prop} (g : ∀ r, de_D ap (fun P => K P r)) : de_D ap (fun P => wpY_isAssign (fun r => K P r) u p0) := de_c0 (W := fun post => wpY_isAssign post u p0) de_wpY_isAssign g
end
section
variable {u : SY} {p0 : Int32} {p1 : Int32}
set_option maxHeartbeats 200000 in
theorem de_wpY_afterOperand : de_D de_a2 (fun post => wpY_afterOperand post u p0 p1) := by
  obtain ⟨f_most, f_n, f_stored, f_nm, f_nEnv, f_base, f_ns, f_no, f_nc, f_pc, f_mode, f_err, f_errAt, f_ticks, f_calls, f_outs, f_resK, f_part, f_resV, f_cnt, f_full, f_flag, f_need, a_tk, a_tv, a_tp, a_mName, a_mKind, a_mCount, a_mPar, a_mAt, a_vName, a_vDecl, a_vKind, a_vVal, a_sk, a_sv, a_oKind, a_oAt, a_oArgs, a_cKind, a_cA, a_cB, a_outK, a_outV⟩ := u
  unfold wpY_afterOperand
  try dsimp only
  repeat' first
   | with_reducible exact de_p2
   | with_reducible exact de_p1
   | with_reducible exact de_p0
   | with_reducible exact de_no
   | with_reducible refine de_br (fun _ => ?_) (fun _ => ?_)
   | with_reducible refine de_nm ?_
   | with_reducible refine de_and (fun _ => ?_)
   | with_reducible refine de_ex (fun _ => ?_)
   | with_reducible refine dc_wpY_isAssign (fun _ => ?_)
   | with_reducible refine dc_wpY_level (fun _ => ?_)
variable {A π : Type} {ap : A → π → Prop}
set_option maxHeartbeats 200000 in
theorem dc_wpY_afterOperand {K : π → Int32 → SY → Prop} (g : ∀ r w, de_D ap (fun P => K P r w)) : de_D ap (fun P => wpY_afterOperand (fun r w => K P r w) u p0 p1) := de_c2 (W := fun post => wpY_afterOperand post u p0 p1) de_wpY_afterOperand g
end
section
variable {u : SY} {p0 : Int32}
set_option maxHeartbeats 200000 in
theorem de_wpY_isSign : de_D de_a0 (fun post => wpY_isSign post u p0) := by
  obtain ⟨f_most, f_n, f_stored, f_nm, f_nEnv, f_base, f_ns, f_no, f_nc, f_pc, f_mode, f_err, f_errAt, f_ticks, f_calls, f_outs, f_resK, f_part, f_resV, f_cnt, f_full, f_flag, f_need, a_tk, a_tv, a_tp, a_mName, a_mKind, a_mCount, a_mPar, a_mAt, a_vName, a_vDecl, a_vKind, a_vVal, a_sk, a_sv, a_oKind, a_oAt, a_oArgs, a_cKind, a_cA, a_cB, a_outK, a_outV⟩ := u
  unfold wpY_isSign
  try dsimp only
  repeat' first
   | with_reducible exact de_p2
   | with_reducible exact de_p1
   | with_reducible exact de_p0
   | with_reducible exact de_no
   | with_reducible refine de_br (fun _ => ?_) (fun _ => ?_)
   | with_reducible refine de_nm ?_
   | with_reducible refine de_and (fun _ => ?_)
   | with_reducible refine de_ex (fun _ => ?_)
variable {A π : Type} {ap : A → π → Prop}
set_option maxHeartbeats 200000 in
theorem dc_wpY_isSign {K : π → Int32 → Prop} (g : ∀ r, de_D ap (fun P => K P r)) : de_D ap (fun P => wpY_isSign (fun r => K P r) u p0) := de_c0 (W := fun post => wpY_isSign post u p0) de_wpY_isSign g
end
section
variable {u : SY} {p0 : Int32}
set_option maxHeartbeats 200000 in
theorem de_wpY_isName : de_D de_a0 (fun post => wpY_isName post u p0) := by
  obtain ⟨f_most, f_n, f_stored, f_nm, f_nEnv, f_base, f_ns, f_no, f_nc, f_pc, f_mode, f_err, f_errAt, f_ticks, f_calls, f_outs, f_resK, f_part, f_resV, f_cnt, f_full, f_flag, f_need, a_tk, a_tv, a_tp, a_mName, a_mKind, a_mCount, a_mPar, a_mAt, a_vName, a_vDecl, a_vKind, a_vVal, a_sk, a_sv, a_oKind, a_oAt, a_oArgs, a_cKind, a_cA, a_cB, a_outK, a_outV⟩ := u
  unfold wpY_isName
  try dsimp only
  repeat' first
   | with_reducible exact de_p2
   | with_reducible exact de_p1
   | with_reducible exact de_p0
   | with_reducible exact de_no
   | with_reducible refine de_br (fun _ => ?_) (fun _ => ?_)
   | with_reducible refine de_nm ?_
   | with_reducible refine de_and (fun _ => ?_)
   | with_reducible refine de_ex (fun _ => ?_)
variable {A π : Type} {ap : A → π → Prop}
set_option maxHeartbeats 200000 in
theorem dc_wpY_isName {K : π → Int32 → Prop} (g : ∀ r, de_D ap (fun P => K P r)) : de_D ap (fun P => wpY_isName (fun r => K P r) u p0) := de_c0 (W := fun post => wpY_isName post u p0) de_wpY_isName g
end
section
variable {x1 : Int32} {f_most : Int32} {f_n : Int32} {f_stored : Int32} {f_nm : Int32} {f_nEnv : Int32} {f_base : Int32} {f_ns : Int32} {f_no : Int32} {f_nc : Int32} {f_pc : Int32} {f_mode : Int32} {f_err : Int32} {f_errAt : Int32} {f_ticks : Int32} {f_calls : Int32} {f_outs : Int32} {f_resK : Int32} {f_part : Int32} {f_resV : Int64} {f_cnt : Int32} {f_full : Int32} {f_flag : Int32} {f_need : Int32} {a_tk : Nat → Int32} {a_tv : Nat → Int64} {a_tp : Nat → Int32} {a_mName : Nat → Int32} {a_mKind : Nat → Int32} {a_mCount : Nat → Int32} {a_mPar : Nat → Int32} {a_mAt : Nat → Int32} {a_vName : Nat → Int32} {a_vDecl : Nat → Int32} {a_vKind : Nat → Int32} {a_vVal : Nat → Int64} {a_sk : Nat → Int32} {a_sv : Nat → Int64} {a_oKind : Nat → Int32} {a_oAt : Nat → Int32} {a_oArgs : Nat → Int32} {a_cKind : Nat → Int32} {a_cA : Nat → Int32} {a_cB : Nat → Int32} {a_outK : Nat → Int32} {a_outV : Nat → Int64}
set_option maxHeartbeats 200000 in
theorem de_wY_operand_64 : de_D de_a2 (fun post => wY_operand_64 post x1 f_most f_n f_stored f_nm f_nEnv f_base f_ns f_no f_nc f_pc f_mode f_err f_errAt f_ticks f_calls f_outs f_resK f_part f_resV f_cnt f_full f_flag f_need a_tk a_tv a_tp a_mName a_mKind a_mCount a_mPar a_mAt a_vName a_vDecl a_vKind a_vVal a_sk a_sv a_oKind a_oAt a_oArgs a_cKind a_cA a_cB a_outK a_outV) := by
  unfold wY_operand_64
  repeat' first
   | with_reducible exact de_p2
   | with_reducible exact de_p1
   | with_reducible exact de_p0
   | with_reducible exact de_no
   | with_reducible refine de_br (fun _ => ?_) (fun _ => ?_)
   | with_reducible refine de_nm ?_
   | with_reducible refine de_and (fun _ => ?_)
   | with_reducible refine de_ex (fun _ => ?_)
end
section
variable {u : SY} {p0 : Int32} {p1 : Int32}
set_option maxHeartbeats 200000 in
theorem de_wpY_operand : de_D de_a2 (fun post => wpY_operand post u p0 p1) := by
  obtain ⟨f_most, f_n, f_stored, f_nm, f_nEnv, f_base, f_ns, f_no, f_nc, f_pc, f_mode, f_err, f_errAt, f_ticks, f_calls, f_outs, f_resK, f_part, f_resV, f_cnt, f_full, f_flag, f_need, a_tk, a_tv, a_tp, a_mName, a_mKind, a_mCount, a_mPar, a_mAt, a_vName, a_vDecl, a_vKind, a_vVal, a_sk, a_sv, a_oKind, a_oAt, a_oArgs, a_cKind, a_cA, a_cB, a_outK, a_outV⟩ := u
  unfold wpY_operand
  try dsimp only
  repeat' first
   | with_reducible exact de_p2
   | with_reducible exact de_p1
   | with_reducible exact de_p0
   | with_reducible exact de_no
   | with_reducible exact de_wY_operand_64
   | with_reducible refine de_br (fun _ => ?_) (fun _ => ?_)
   | with_reducible refine de_nm ?_
   | with_reducible refine de_and (fun _ => ?_)
   | with_reducible refine de_ex (fun _ => ?_)
   | with_reducible refine dc_wpY_isName (fun _ => ?_)
   | with_reducible refine dc_wpY_isSign (fun _ => ?_)
variable {A π : Type} {ap : A → π → Prop}
set_option maxHeartbeats 200000 in
theorem dc_wpY_operand {K : π → Int32 → SY → Prop} (g : ∀ r w, de_D ap (fun P => K P r w)) : de_D ap (fun P => wpY_operand (fun r w => K P r w) u p0 p1) := de_c2 (W := fun post => wpY_operand post u p0 p1) de_wpY_operand g
end
section
variable {z0 : Int32} {z1 : Int32} {f_most : Int32} {f_n : Int32} {f_stored : Int32} {f_nm : Int32} {f_nEnv : Int32} {f_base : Int32} {f_ns : Int32} {f_no : Int32} {f_nc : Int32} {f_pc : Int32} {f_mode : Int32} {f_err : Int32} {f_errAt : Int32} {f_ticks : Int32} {f_calls : Int32} {f_outs : Int32} {f_resK : Int32} {f_part : Int32} {f_resV : Int64} {f_cnt : Int32} {f_full : Int32} {f_flag : Int32} {f_need : Int32} {a_tk : Nat → Int32} {a_tv : Nat → Int64} {a_tp : Nat → Int32} {a_mName : Nat → Int32} {a_mKind : Nat → Int32} {a_mCount : Nat → Int32} {a_mPar : Nat → Int32} {a_mAt : Nat → Int32} {a_vName : Nat → Int32} {a_vDecl : Nat → Int32} {a_vKind : Nat → Int32} {a_vVal : Nat → Int64} {a_sk : Nat → Int32} {a_sv : Nat → Int64} {a_oKind : Nat → Int32} {a_oAt : Nat → Int32} {a_oArgs : Nat → Int32} {a_cKind : Nat → Int32} {a_cA : Nat → Int32} {a_cB : Nat → Int32} {a_outK : Nat → Int32} {a_outV : Nat → Int64}
set_option maxHeartbeats 200000 in
theorem de_wY_within_238 : de_D de_a2 (fun post => wY_within_238 post z0 z1 f_most f_n f_stored f_nm f_nEnv f_base f_ns f_no f_nc f_pc f_mode f_err f_errAt f_ticks f_calls f_outs f_resK f_part f_resV f_cnt f_full f_flag f_need a_tk a_tv a_tp a_mName a_mKind a_mCount a_mPar a_mAt a_vName a_vDecl a_vKind a_vVal a_sk a_sv a_oKind a_oAt a_oArgs a_cKind a_cA a_cB a_outK a_outV) := by
  unfold wY_within_238
  repeat' first
   | with_reducible exact de_p2
   | with_reducible exact de_p1
   | with_reducible exact de_p0
   | with_reducible exact de_no
   | with_reducible exact de_wpY_operand
   | with_reducible refine de_br (fun _ => ?_) (fun _ => ?_)
   | with_reducible refine de_nm ?_
   | with_reducible refine de_and (fun _ => ?_)
   | with_reducible refine de_ex (fun _ => ?_)
   | ((with_reducible refine dc_wpY_operand (fun _ w => ?_)); obtain ⟨w0, w1, w2, w3, w4, w5, w6, w7, w8, w9, w10, w11, w12, w13, w14, w15, w16, w17, w18, w19, w20, w21, w22, w23, w24, w25, w26, w27, w28, w29, w30, w31, w32, w33, w34, w35, w36, w37, w38, w39, w40, w41, w42, w43, w44⟩ := w; try dsimp only)
end
section
variable {x1 : Int32} {x2 : Int32} {f_most : Int32} {f_n : Int32} {f_stored : Int32} {f_nm : Int32} {f_nEnv : Int32} {f_base : Int32} {f_ns : Int32} {f_no : Int32} {f_nc : Int32} {f_pc : Int32} {f_mode : Int32} {f_err : Int32} {f_errAt : Int32} {f_ticks : Int32} {f_calls : Int32} {f_outs : Int32} {f_resK : Int32} {f_part : Int32} {f_resV : Int64} {f_cnt : Int32} {f_full : Int32} {f_flag : Int32} {f_need : Int32} {a_tk : Nat → Int32} {a_tv : Nat → Int64} {a_tp : Nat → Int32} {a_mName : Nat → Int32} {a_mKind : Nat → Int32} {a_mCount : Nat → Int32} {a_mPar : Nat → Int32} {a_mAt : Nat → Int32} {a_vName : Nat → Int32} {a_vDecl : Nat → Int32} {a_vKind : Nat → Int32} {a_vVal : Nat → Int64} {a_sk : Nat → Int32} {a_sv : Nat → Int64} {a_oKind : Nat → Int32} {a_oAt : Nat → Int32} {a_oArgs : Nat → Int32} {a_cKind : Nat → Int32} {a_cA : Nat → Int32} {a_cB : Nat → Int32} {a_outK : Nat → Int32} {a_outV : Nat → Int64}
set_option maxHeartbeats 200000 in
theorem de_wY_within_226 : de_D de_a2 (fun post => wY_within_226 post x1 x2 f_most f_n f_stored f_nm f_nEnv f_base f_ns f_no f_nc f_pc f_mode f_err f_errAt f_ticks f_calls f_outs f_resK f_part f_resV f_cnt f_full f_flag f_need a_tk a_tv a_tp a_mName a_mKind a_mCount a_mPar a_mAt a_vName a_vDecl a_vKind a_vVal a_sk a_sv a_oKind a_oAt a_oArgs a_cKind a_cA a_cB a_outK a_outV) := by
  unfold wY_within_226
  repeat' first
   | with_reducible exact de_p2
   | with_reducible exact de_p1
   | with_reducible exact de_p0
   | with_reducible exact de_no
   | with_reducible exact de_wY_within_238
   | with_reducible refine de_br (fun _ => ?_) (fun _ => ?_)
   | with_reducible refine de_nm ?_
   | with_reducible refine de_and (fun _ => ?_)
   | with_reducible refine de_ex (fun _ => ?_)
end
section
variable {x1 : Int32} {x2 : Int32} {f_most : Int32} {f_n : Int32} {f_stored : Int32} {f_nm : Int32} {f_nEnv : Int32} {f_base : Int32} {f_ns : Int32} {f_no : Int32} {f_nc : Int32} {f_pc : Int32} {f_mode : Int32} {f_err : Int32} {f_errAt : Int32} {f_ticks : Int32} {f_calls : Int32} {f_outs : Int32} {f_resK : Int32} {f_part : Int32} {f_resV : Int64} {f_cnt : Int32} {f_full : Int32} {f_flag : Int32} {f_need : Int32} {a_tk : Nat → Int32} {a_tv : Nat → Int64} {a_tp : Nat → Int32} {a_mName : Nat → Int32} {a_mKind : Nat → Int32} {a_mCount : Nat → Int32} {a_mPar : Nat → Int32} {a_mAt : Nat → Int32} {a_vName : Nat → Int32} {a_vDecl : Nat → Int32} {a_vKind : Nat → Int32} {a_vVal : Nat → Int64} {a_sk : Nat → Int32} {a_sv : Nat → Int64} {a_oKind : Nat → Int32} {a_oAt : Nat → Int32} {a_oArgs : Nat → Int32} {a_cKind : Nat → Int32} {a_cA : Nat → Int32} {a_cB : Nat → Int32} {a_outK : Nat → Int32} {a_outV : Nat → Int64}
set_option maxHeartbeats 200000 in
theorem de_wY_within_197 : de_D de_a2 (fun post => wY_within_197 post x1 x2 f_most f_n f_stored f_nm f_nEnv f_base f_ns f_no f_nc f_pc f_mode f_err f_errAt f_ticks f_calls f_outs f_resK f_part f_resV f_cnt f_full f_flag f_need a_tk a_tv a_tp a_mName a_mKind a_mCount a_mPar a_mAt a_vName a_vDecl a_vKind a_vVal a_sk a_sv a_oKind a_oAt a_oArgs a_cKind a_cA a_cB a_outK a_outV) := by
  unfold wY_within_197
  repeat' first
   | with_reducible exact de_p2
   | with_reducible exact de_p1
   | with_reducible exact de_p0
   | with_reducible exact de_no
   | with_reducible exact de_wY_within_226
   | with_reducible refine de_br (fun _ => ?_) (fun _ => ?_)
   | with_reducible refine de_nm ?_
   | with_reducible refine de_and (fun _ => ?_)
   | with_reducible refine de_ex (fun _ => ?_)
end
section
variable {x1 : Int32} {x2 : Int32} {x3 : Int32} {f_most : Int32} {f_n : Int32} {f_stored : Int32} {f_nm : Int32} {f_nEnv : Int32} {f_base : Int32} {f_ns : Int32} {f_no : Int32} {f_nc : Int32} {f_pc : Int32} {f_mode : Int32} {f_err : Int32} {f_errAt : Int32} {f_ticks : Int32} {f_calls : Int32} {f_outs : Int32} {f_resK : Int32} {f_part : Int32} {f_resV : Int64} {f_cnt : Int32} {f_full : Int32} {f_flag : Int32} {f_need : Int32} {a_tk : Nat → Int32} {a_tv : Nat → Int64} {a_tp : Nat → Int32} {a_mName : Nat → Int32} {a_mKind : Nat → Int32} {a_mCount : Nat → Int32} {a_mPar : Nat → Int32} {a_mAt : Nat → Int32} {a_vName : Nat → Int32} {a_vDecl : Nat → Int32} {a_vKind : Nat → Int32} {a_vVal : Nat → Int64} {a_sk : Nat → Int32} {a_sv : Nat → Int64} {a_oKind : Nat → Int32} {a_oAt : Nat → Int32} {a_oArgs : Nat → Int32} {a_cKind : Nat → Int32} {a_cA : Nat → Int32} {a_cB : Nat → Int32} {a_outK : Nat → Int32} {a_outV : Nat → Int64}
set_option maxHeartbeats 200000 in
theorem de_wY_within_115 : de_D de_a2 (fun post => wY_within_115 post x1 x2 x3 f_most f_n f_stored f_nm f_nEnv f_base f_ns f_no f_nc f_pc f_mode f_err f_errAt f_ticks f_calls f_outs f_resK f_part f_resV f_cnt f_full f_flag f_need a_tk a_tv a_tp a_mName a_mKind a_mCount a_mPar a_mAt a_vName a_vDecl a_vKind a_vVal a_sk a_sv a_oKind a_oAt a_oArgs a_cKind a_cA a_cB a_outK a_outV) := by
  unfold wY_within_115
  repeat' first
   | with_reducible exact de_p2
   | with_reducible exact de_p1
   | with_reducible exact de_p0
   | with_reducible exact de_no
   | with_reducible exact de_wY_within_197
   | with_reducible exact de_wpY_afterOperand
   | with_reducible refine de_br (fun _ => ?_) (fun _ => ?_)
   | with_reducible refine de_nm ?_
   | with_reducible refine de_and (fun _ => ?_)
   | with_reducible refine de_ex (fun _ => ?_)
   | ((with_reducible refine dc_wpY_afterOperand (fun _ w => ?_)); obtain ⟨w0, w1, w2, w3, w4, w5, w6, w7, w8, w9, w10, w11, w12, w13, w14, w15, w16, w17, w18, w19, w20, w21, w22, w23, w24, w25, w26, w27, w28, w29, w30, w31, w32, w33, w34, w35, w36, w37, w38, w39, w40, w41, w42, w43, w44⟩ := w; try dsimp only)
end
section
variable {x1 : Int32} {f_most : Int32} {f_n : Int32} {f_stored : Int32} {f_nm : Int32} {f_nEnv : Int32} {f_base : Int32} {f_ns : Int32} {f_no : Int32} {f_nc : Int32} {f_pc : Int32} {f_mode : Int32} {f_err : Int32} {f_errAt : Int32} {f_ticks : Int32} {f_calls : Int32} {f_outs : Int32} {f_resK : Int32} {f_part : Int32} {f_resV : Int64} {f_cnt : Int32} {f_full : Int32} {f_flag : Int32} {f_need : Int32} {a_tk : Nat → Int32} {a_tv : Nat → Int64} {a_tp : Nat → Int32} {a_mName : Nat → Int32} {a_mKind : Nat → Int32} {a_mCount : Nat → Int32} {a_mPar : Nat → Int32} {a_mAt : Nat → Int32} {a_vName : Nat → Int32} {a_vDecl : Nat → Int32} {a_vKind : Nat → Int32} {a_vVal : Nat → Int64} {a_sk : Nat → Int32} {a_sv : Nat → Int64} {a_oKind : Nat → Int32} {a_oAt : Nat → Int32} {a_oArgs : Nat → Int32} {a_cKind : Nat → Int32} {a_cA : Nat → Int32} {a_cB : Nat → Int32} {a_outK : Nat → Int32} {a_outV : Nat → Int64}
set_option maxHeartbeats 200000 in
theorem de_wY_within_84 : de_D de_a2 (fun post => wY_within_84 post x1 f_most f_n f_stored f_nm f_nEnv f_base f_ns f_no f_nc f_pc f_mode f_err f_errAt f_ticks f_calls f_outs f_resK f_part f_resV f_cnt f_full f_flag f_need a_tk a_tv a_tp a_mName a_mKind a_mCount a_mPar a_mAt a_vName a_vDecl a_vKind a_vVal a_sk a_sv a_oKind a_oAt a_oArgs a_cKind a_cA a_cB a_outK a_outV) := by
  unfold wY_within_84
  repeat' first
   | with_reducible exact de_p2
   | with_reducible exact de_p1
   | with_reducible exact de_p0
   | with_reducible exact de_no
   | with_reducible refine de_br (fun _ => ?_) (fun _ => ?_)
   | with_reducible refine de_nm ?_
   | with_reducible refine de_and (fun _ => ?_)
   | with_reducible refine de_ex (fun _ => ?_)
end
section
variable {x1 : Int32} {x2 : Int32} {x3 : Int32} {f_most : Int32} {f_n : Int32} {f_stored : Int32} {f_nm : Int32} {f_nEnv : Int32} {f_base : Int32} {f_ns : Int32} {f_no : Int32} {f_nc : Int32} {f_pc : Int32} {f_mode : Int32} {f_err : Int32} {f_errAt : Int32} {f_ticks : Int32} {f_calls : Int32} {f_outs : Int32} {f_resK : Int32} {f_part : Int32} {f_resV : Int64} {f_cnt : Int32} {f_full : Int32} {f_flag : Int32} {f_need : Int32} {a_tk : Nat → Int32} {a_tv : Nat → Int64} {a_tp : Nat → Int32} {a_mName : Nat → Int32} {a_mKind : Nat → Int32} {a_mCount : Nat → Int32} {a_mPar : Nat → Int32} {a_mAt : Nat → Int32} {a_vName : Nat → Int32} {a_vDecl : Nat → Int32} {a_vKind : Nat → Int32} {a_vVal : Nat → Int64} {a_sk : Nat → Int32} {a_sv : Nat → Int64} {a_oKind : Nat → Int32} {a_oAt : Nat → Int32} {a_oArgs : Nat → Int32} {a_cKind : Nat → Int32} {a_cA : Nat → Int32} {a_cB : Nat → Int32} {a_outK : Nat → Int32} {a_outV : Nat → Int64}
set_option maxHeartbeats 200000 in
theorem de_wY_within_51 : de_D de_a2 (fun post => wY_within_51 post x1 x2 x3 f_most f_n f_stored f_nm f_nEnv f_base f_ns f_no f_nc f_pc f_mode f_err f_errAt f_ticks f_calls f_outs f_resK f_part f_resV f_cnt f_full f_flag f_need a_tk a_tv a_tp a_mName a_mKind a_mCount a_mPar a_mAt a_vName a_vDecl a_vKind a_vVal a_sk a_sv a_oKind a_oAt a_oArgs a_cKind a_cA a_cB a_outK a_outV) := by
  unfold wY_within_51
  repeat' first
   | with_reducible exact de_p2
   | with_reducible exact de_p1
   | with_reducible exact de_p0
   | with_reducible exact de_no
   | with_reducible exact de_wY_within_115
   | with_reducible exact de_wY_within_84
   | with_reducible refine de_br (fun _ => ?_) (fun _ => ?_)
   | with_reducible refine de_nm ?_
   | with_reducible refine de_and (fun _ => ?_)
   | with_reducible refine de_ex (fun _ => ?_)
end
section
variable {u : SY} {p0 : Int32}
set_option maxHeartbeats 200000 in
theorem de_wpY_within : de_D de_a2 (fun post => wpY_within post u p0) := by
  obtain ⟨f_most, f_n, f_stored, f_nm, f_nEnv, f_base, f_ns, f_no, f_nc, f_pc, f_mode, f_err, f_errAt, f_ticks, f_calls, f_outs, f_resK, f_part, f_resV, f_cnt, f_full, f_flag, f_need, a_tk, a_tv, a_tp, a_mName, a_mKind, a_mCount, a_mPar, a_mAt, a_vName, a_vDecl, a_vKind, a_vVal, a_sk, a_sv, a_oKind, a_oAt, a_oArgs, a_cKind, a_cA, a_cB, a_outK, a_outV⟩ := u
  unfold wpY_within
  try dsimp only
  repeat' first
   | with_reducible exact de_p2
   | with_reducible exact de_p1
   | with_reducible exact de_p0
   | with_reducible exact de_no
   | with_reducible exact de_wY_within_115
   | with_reducible exact de_wY_within_51
   | with_reducible exact de_wY_within_84
   | with_reducible refine de_br (fun _ => ?_) (fun _ => ?_)
   | with_reducible refine de_nm ?_
   | with_reducible refine de_and (fun _ => ?_)
   | with_reducible refine de_ex (fun _ => ?_)
variable {A π : Type} {ap : A → π → Prop}
set_option maxHeartbeats 200000 in
theorem dc_wpY_within {K : π → Int32 → SY → Prop} (g : ∀ r w, de_D ap (fun P => K P r w)) : de_D ap (fun P => wpY_within (fun r w => K P r w) u p0) := de_c2 (W := fun post => wpY_within post u p0) de_wpY_within g
end
section
variable {x1 : Int32} {f_most : Int32} {f_n : Int32} {f_stored : Int32} {f_nm : Int32} {f_nEnv : Int32} {f_base : Int32} {f_ns : Int32} {f_no : Int32} {f_nc : Int32} {f_pc : Int32} {f_mode : Int32} {f_err : Int32} {f_errAt : Int32} {f_ticks : Int32} {f_calls : Int32} {f_outs : Int32} {f_resK : Int32} {f_part : Int32} {f_resV : Int64} {f_cnt : Int32} {f_full : Int32} {f_flag : Int32} {f_need : Int32} {a_tk : Nat → Int32} {a_tv : Nat → Int64} {a_tp : Nat → Int32} {a_mName : Nat → Int32} {a_mKind : Nat → Int32} {a_mCount : Nat → Int32} {a_mPar : Nat → Int32} {a_mAt : Nat → Int32} {a_vName : Nat → Int32} {a_vDecl : Nat → Int32} {a_vKind : Nat → Int32} {a_vVal : Nat → Int64} {a_sk : Nat → Int32} {a_sv : Nat → Int64} {a_oKind : Nat → Int32} {a_oAt : Nat → Int32} {a_oArgs : Nat → Int32} {a_cKind : Nat → Int32} {a_cA : Nat → Int32} {a_cB : Nat → Int32} {a_outK : Nat → Int32} {a_outV : Nat → Int64}
set_option maxHeartbeats 200000 in
theorem de_wY_begins_187 : de_D de_a2 (fun post => wY_begins_187 post x1 f_most f_n f_stored f_nm f_nEnv f_base f_ns f_no f_nc f_pc f_mode f_err f_errAt f_ticks f_calls f_outs f_resK f_part f_resV f_cnt f_full f_flag f_need a_tk a_tv a_tp a_mName a_mKind a_mCount a_mPar a_mAt a_vName a_vDecl a_vKind a_vVal a_sk a_sv a_oKind a_oAt a_oArgs a_cKind a_cA a_cB a_outK a_outV) := by
  unfold wY_begins_187
  repeat' first
   | with_reducible exact de_p2
   | with_reducible exact de_p1
   | with_reducible exact de_p0
   | with_reducible exact de_no
   | with_reducible refine de_br (fun _ => ?_) (fun _ => ?_)
   | with_reducible refine de_nm ?_
   | with_reducible refine de_and (fun _ => ?_)
   | with_reducible refine de_ex (fun _ => ?_)
end
section
variable {x1 : Int32} {z0 : Int32} {f_most : Int32} {f_n : Int32} {f_stored : Int32} {f_nm : Int32} {f_nEnv : Int32} {f_base : Int32} {f_ns : Int32} {f_no : Int32} {f_nc : Int32} {f_pc : Int32} {f_mode : Int32} {f_err : Int32} {f_errAt : Int32} {f_ticks : Int32} {f_calls : Int32} {f_outs : Int32} {f_resK : Int32} {f_part : Int32} {f_resV : Int64} {f_cnt : Int32} {f_full : Int32} {f_flag : Int32} {f_need : Int32} {a_tk : Nat → Int32} {a_tv : Nat → Int64} {a_tp : Nat → Int32} {a_mName : Nat → Int32} {a_mKind : Nat → Int32} {a_mCount : Nat → Int32} {a_mPar : Nat → Int32} {a_mAt : Nat → Int32} {a_vName : Nat → Int32} {a_vDecl : Nat → Int32} {a_vKind : Nat → Int32} {a_vVal : Nat → Int64} {a_sk : Nat → Int32} {a_sv : Nat → Int64} {a_oKind : Nat → Int32} {a_oAt : Nat → Int32} {a_oArgs : Nat → Int32} {a_cKind : Nat → Int32} {a_cA : Nat → Int32} {a_cB : Nat → Int32} {a_outK : Nat → Int32} {a_outV : Nat → Int64}
set_option maxHeartbeats 200000 in
theorem de_wY_begins_184 : de_D de_a2 (fun post => wY_begins_184 post x1 z0 f_most f_n f_stored f_nm f_nEnv f_base f_ns f_no f_nc f_pc f_mode f_err f_errAt f_ticks f_calls f_outs f_resK f_part f_resV f_cnt f_full f_flag f_need a_tk a_tv a_tp a_mName a_mKind a_mCount a_mPar a_mAt a_vName a_vDecl a_vKind a_vVal a_sk a_sv a_oKind a_oAt a_oArgs a_cKind a_cA a_cB a_outK a_outV) := by
  unfold wY_begins_184
  repeat' first
   | with_reducible exact de_p2
   | with_reducible exact de_p1
   | with_reducible exact de_p0
   | with_reducible exact de_no
   | with_reducible exact de_wY_begins_187
   | with_reducible refine de_br (fun _ => ?_) (fun _ => ?_)
   | with_reducible refine de_nm ?_
   | with_reducible refine de_and (fun _ => ?_)
   | with_reducible refine de_ex (fun _ => ?_)
   | ((with_reducible refine dc_wpY_openStatement (fun w => ?_)); obtain ⟨w0, w1, w2, w3, w4, w5, w6, w7, w8, w9, w10, w11, w12, w13, w14, w15, w16, w17, w18, w19, w20, w21, w22, w23, w24, w25, w26, w27, w28, w29, w30, w31, w32, w33, w34, w35, w36, w37, w38, w39, w40, w41, w42, w43, w44⟩ := w; try dsimp only)
end
section
variable {x1 : Int32} {f_most : Int32} {f_n : Int32} {f_stored : Int32} {f_nm : Int32} {f_nEnv : Int32} {f_base : Int32} {f_ns : Int32} {f_no : Int32} {f_nc : Int32} {f_pc : Int32} {f_mode : Int32} {f_err : Int32} {f_errAt : Int32} {f_ticks : Int32} {f_calls : Int32} {f_outs : Int32} {f_resK : Int32} {f_part : Int32} {f_resV : Int64} {f_cnt : Int32} {f_full : Int32} {f_flag : Int32} {f_need : Int32} {a_tk : Nat → Int32} {a_tv : Nat → Int64} {a_tp : Nat → Int32} {a_mName : Nat → Int32} {a_mKind : Nat → Int32} {a_mCount : Nat → Int32} {a_mPar : Nat → Int32} {a_mAt : Nat → Int32} {a_vName : Nat → Int32} {a_vDecl : Nat → Int32} {a_vKind : Nat → Int32} {a_vVal : Nat → Int64} {a_sk : Nat → Int32} {a_sv : Nat → Int64} {a_oKind : Nat → Int32} {a_oAt : Nat → Int32} {a_oArgs : Nat → Int32} {a_cKind : Nat → Int32} {a_cA : Nat → Int32} {a_cB : Nat → Int32} {a_outK : Nat → Int32} {a_outV : Nat → Int64}
set_option maxHeartbeats 200000 in
theorem de_wY_begins_166 : de_D de_a2 (fun post => wY_begins_166 post x1 f_most f_n f_stored f_nm f_nEnv f_base f_ns f_no f_nc f_pc f_mode f_err f_errAt f_ticks f_calls f_outs f_resK f_part f_resV f_cnt f_full f_flag f_need a_tk a_tv a_tp a_mName a_mKind a_mCount a_mPar a_mAt a_vName a_vDecl a_vKind a_vVal a_sk a_sv a_oKind a_oAt a_oArgs a_cKind a_cA a_cB a_outK a_outV) := by
  unfold wY_begins_166
  repeat' first
   | with_reducible exact de_p2
   | with_reducible exact de_p1
   | with_reducible exact de_p0
   | with_reducible exact de_no
   | with_reducible exact de_wY_begins_184
   | with_reducible exact de_wY_begins_187
   | with_reducible refine de_br (fun _ => ?_) (fun _ => ?_)
   | with_reducible refine de_nm ?_
   | with_reducible refine de_and (fun _ => ?_)
   | with_reducible refine de_ex (fun _ => ?_)
end
section
variable {f_most : Int32} {f_n : Int32} {f_stored : Int32} {f_nm : Int32} {f_nEnv : Int32} {f_base : Int32} {f_ns : Int32} {f_no : Int32} {f_nc : Int32} {f_pc : Int32} {f_mode : Int32} {f_err : Int32} {f_errAt : Int32} {f_ticks : Int32} {f_calls : Int32} {f_outs : Int32} {f_resK : Int32} {f_part : Int32} {f_resV : Int64} {f_cnt : Int32} {f_full : Int32} {f_flag : Int32} {f_need : Int32} {a_tk : Nat → Int32} {a_tv : Nat → Int64} {a_tp : Nat → Int32} {a_mName : Nat → Int32} {a_mKind : Nat → Int32} {a_mCount : Nat → Int32} {a_mPar : Nat → Int32} {a_mAt : Nat → Int32} {a_vName : Nat → Int32} {a_vDecl : Nat → Int32} {a_vKind : Nat → Int32} {a_vVal : Nat → Int64} {a_sk : Nat → Int32} {a_sv : Nat → Int64} {a_oKind : Nat → Int32} {a_oAt : Nat → Int32} {a_oArgs : Nat → Int32} {a_cKind : Nat → Int32} {a_cA : Nat → Int32} {a_cB : Nat → Int32} {a_outK : Nat → Int32} {a_outV : Nat → Int64}
set_option maxHeartbeats 200000 in
theorem de_wY_begins_233 : de_D de_a2 (fun post => wY_begins_233 post f_most f_n f_stored f_nm f_nEnv f_base f_ns f_no f_nc f_pc f_mode f_err f_errAt f_ticks f_calls f_outs f_resK f_part f_resV f_cnt f_full f_flag f_need a_tk a_tv a_tp a_mName a_mKind a_mCount a_mPar a_mAt a_vName a_vDecl a_vKind a_vVal a_sk a_sv a_oKind a_oAt a_oArgs a_cKind a_cA a_cB a_outK a_outV) := by
  unfold wY_begins_233
  repeat' first
   | with_reducible exact de_p2
   | with_reducible exact de_p1
   | with_reducible exact de_p0
   | with_reducible exact de_no
   | with_reducible refine de_br (fun _ => ?_) (fun _ => ?_)
   | with_reducible refine de_nm ?_
   | with_reducible refine de_and (fun _ => ?_)
   | with_reducible refine de_ex (fun _ => ?_)
   | with_reducible refine dc_wpY_inside (fun _ => ?_)
end
section
variable {x1 : Int32} {z0 : Int32} {f_most : Int32} {f_n : Int32} {f_stored : Int32} {f_nm : Int32} {f_nEnv : Int32} {f_base : Int32} {f_ns : Int32} {f_no : Int32} {f_nc : Int32} {f_pc : Int32} {f_mode : Int32} {f_err : Int32} {f_errAt : Int32} {f_ticks : Int32} {f_calls : Int32} {f_outs : Int32} {f_resK : Int32} {f_part : Int32} {f_resV : Int64} {f_cnt : Int32} {f_full : Int32} {f_flag : Int32} {f_need : Int32} {a_tk : Nat → Int32} {a_tv : Nat → Int64} {a_tp : Nat → Int32} {a_mName : Nat → Int32} {a_mKind : Nat → Int32} {a_mCount : Nat → Int32} {a_mPar : Nat → Int32} {a_mAt : Nat → Int32} {a_vName : Nat → Int32} {a_vDecl : Nat → Int32} {a_vKind : Nat → Int32} {a_vVal : Nat → Int64} {a_sk : Nat → Int32} {a_sv : Nat → Int64} {a_oKind : Nat → Int32} {a_oAt : Nat → Int32} {a_oArgs : Nat → Int32} {a_cKind : Nat → Int32} {a_cA : Nat → Int32} {a_cB : Nat → Int32} {a_outK : Nat → Int32} {a_outV : Nat → Int64}
set_option maxHeartbeats 200000 in
theorem de_wY_begins_213 : de_D de_a2 (fun post => wY_begins_213 post x1 z0 f_most f_n f_stored f_nm f_nEnv f_base f_ns f_no f_nc f_pc f_mode f_err f_errAt f_ticks f_calls f_outs f_resK f_part f_resV f_cnt f_full f_flag f_need a_tk a_tv a_tp a_mName a_mKind a_mCount a_mPar a_mAt a_vName a_vDecl a_vKind a_vVal a_sk a_sv a_oKind a_oAt a_oArgs a_cKind a_cA a_cB a_outK a_outV) := by
  unfold wY_begins_213
  repeat' first
   | with_reducible exact de_p2
   | with_reducible exact de_p1
   | with_reducible exact de_p0
   | with_reducible exact de_no
   | with_reducible exact de_wY_begins_233
   | with_reducible exact de_wpY_within
   | with_reducible refine de_br (fun _ => ?_) (fun _ => ?_)
   | with_reducible refine de_nm ?_
   | with_reducible refine de_and (fun _ => ?_)
   | with_reducible refine de_ex (fun _ => ?_)
   | ((with_reducible refine dc_wpY_within (fun _ w => ?_)); obtain ⟨w0, w1, w2, w3, w4, w5, w6, w7, w8, w9, w10, w11, w12, w13, w14, w15, w16, w17, w18, w19, w20, w21, w22, w23, w24, w25, w26, w27, w28, w29, w30, w31, w32, w33, w34, w35, w36, w37, w38, w39, w40, w41, w42, w43, w44⟩ := w; try dsimp only)
end
section
variable {x1 : Int32} {x2 : Int32} {f_most : Int32} {f_n : Int32} {f_stored : Int32} {f_nm : Int32} {f_nEnv : Int32} {f_base : Int32} {f_ns : Int32} {f_no : Int32} {f_nc : Int32} {f_pc : Int32} {f_mode : Int32} {f_err : Int32} {f_errAt : Int32} {f_ticks : Int32} {f_calls : Int32} {f_outs : Int32} {f_resK : Int32} {f_part : Int32} {f_resV : Int64} {f_cnt : Int32} {f_full : Int32} {f_flag : Int32} {f_need : Int32} {a_tk : Nat → Int32} {a_tv : Nat → Int64} {a_tp : Nat → Int32} {a_mName : Nat → Int32} {a_mKind : Nat → Int32} {a_mCount : Nat → Int32} {a_mPar : Nat → Int32} {a_mAt : Nat → Int32} {a_vName : Nat → Int32} {a_vDecl : Nat → Int32} {a_vKind : Nat → Int32} {a_vVal : Nat → Int64} {a_sk : Nat → Int32} {a_sv : Nat → Int64} {a_oKind : Nat → Int32} {a_oAt : Nat → Int32} {a_oArgs : Nat → Int32} {a_cKind : Nat → Int32} {a_cA : Nat → Int32} {a_cB : Nat → Int32} {a_outK : Nat → Int32} {a_outV : Nat → Int64}
set_option maxHeartbeats 200000 in
theorem de_wY_begins_57 : de_D de_a2 (fun post => wY_begins_57 post x1 x2 f_most f_n f_stored f_nm f_nEnv f_base f_ns f_no f_nc f_pc f_mode f_err f_errAt f_ticks f_calls f_outs f_resK f_part f_resV f_cnt f_full f_flag f_need a_tk a_tv a_tp a_mName a_mKind a_mCount a_mPar a_mAt a_vName a_vDecl a_vKind a_vVal a_sk a_sv a_oKind a_oAt a_oArgs a_cKind a_cA a_cB a_outK a_outV) := by
  unfold wY_begins_57
  repeat' first
   | with_reducible exact de_p2
   | with_reducible exact de_p1
   | with_reducible exact de_p0
   | with_reducible exact de_no
   | with_reducible exact de_wY_begins_166
   | with_reducible exact de_wY_begins_213
   | with_reducible refine de_br (fun _ => ?_) (fun _ => ?_)
   | with_reducible refine de_nm ?_
   | with_reducible refine de_and (fun _ => ?_)
   | with_reducible refine de_ex (fun _ => ?_)
end
section
variable {x1 : Int32} {x2 : Int32} {f_most : Int32} {f_n : Int32} {f_stored : Int32} {f_nm : Int32} {f_nEnv : Int32} {f_base : Int32} {f_ns : Int32} {f_no : Int32} {f_nc : Int32} {f_pc : Int32} {f_mode : Int32} {f_err : Int32} {f_errAt : Int32} {f_ticks : Int32} {f_calls : Int32} {f_outs : Int32} {f_resK : Int32} {f_part : Int32} {f_resV : Int64} {f_cnt : Int32} {f_full : Int32} {f_flag : Int32} {f_need : Int32} {a_tk : Nat → Int32} {a_tv : Nat → Int64} {a_tp : Nat → Int32} {a_mName : Nat → Int32} {a_mKind : Nat → Int32} {a_mCount : Nat → Int32} {a_mPar : Nat → Int32} {a_mAt : Nat → Int32} {a_vName : Nat → Int32} {a_vDecl : Nat → Int32} {a_vKind : Nat → Int32} {a_vVal : Nat → Int64} {a_sk : Nat → Int32} {a_sv : Nat → Int64} {a_oKind : Nat → Int32} {a_oAt : Nat → Int32} {a_oArgs : Nat → Int32} {a_cKind : Nat → Int32} {a_cA : Nat → Int32} {a_cB : Nat → Int32} {a_outK : Nat → Int32} {a_outV : Nat → Int64}
set_option maxHeartbeats 200000 in
theorem de_wY_begins_38 : de_D de_a2 (fun post => wY_begins_38 post x1 x2 f_most f_n f_stored f_nm f_nEnv f_base f_ns f_no f_nc f_pc f_mode f_err f_errAt f_ticks f_calls f_outs f_resK f_part f_resV f_cnt f_full f_flag f_need a_tk a_tv a_tp a_mName a_mKind a_mCount a_mPar a_mAt a_vName a_vDecl a_vKind a_vVal a_sk a_sv a_oKind a_oAt a_oArgs a_cKind a_cA a_cB a_outK a_outV) := by
  unfold wY_begins_38
  repeat' first
   | with_reducible exact de_p2
   | with_reducible exact de_p1
   | with_reducible exact de_p0
   | with_reducible exact de_no
   | with_reducible exact de_wY_begins_57
   | with_reducible refine de_br (fun _ => ?_) (fun _ => ?_)
   | with_reducible refine de_nm ?_
   | with_reducible refine de_and (fun _ => ?_)
   | with_reducible refine de_ex (fun _ => ?_)
   | ((with_reducible refine dc_wpY_openStatement (fun w => ?_)); obtain ⟨w0, w1, w2, w3, w4, w5, w6, w7, w8, w9, w10, w11, w12, w13, w14, w15, w16, w17, w18, w19, w20, w21, w22, w23, w24, w25, w26, w27, w28, w29, w30, w31, w32, w33, w34, w35, w36, w37, w38, w39, w40, w41, w42, w43, w44⟩ := w; try dsimp only)
end
section
variable {x1 : Int32} {z0 : Int32} {f_most : Int32} {f_n : Int32} {f_stored : Int32} {f_nm : Int32} {f_nEnv : Int32} {f_base : Int32} {f_ns : Int32} {f_no : Int32} {f_nc : Int32} {f_pc : Int32} {f_mode : Int32} {f_err : Int32} {f_errAt : Int32} {f_ticks : Int32} {f_calls : Int32} {f_outs : Int32} {f_resK : Int32} {f_part : Int32} {f_resV : Int64} {f_cnt : Int32} {f_full : Int32} {f_flag : Int32} {f_need : Int32} {a_tk : Nat → Int32} {a_tv : Nat → Int64} {a_tp : Nat → Int32} {a_mName : Nat → Int32} {a_mKind : Nat → Int32} {a_mCount : Nat → Int32} {a_mPar : Nat → Int32} {a_mAt : Nat → Int32} {a_vName : Nat → Int32} {a_vDecl : Nat → Int32} {a_vKind : Nat → Int32} {a_vVal : Nat → Int64} {a_sk : Nat → Int32} {a_sv : Nat → Int64} {a_oKind : Nat → Int32} {a_oAt : Nat → Int32} {a_oArgs : Nat → Int32} {a_cKind : Nat → Int32} {a_cA : Nat → Int32} {a_cB : Nat → Int32} {a_outK : Nat → Int32} {a_outV : Nat → Int64}
set_option maxHeartbeats 200000 in
theorem de_wY_begins_12 : de_D de_a2 (fun post => wY_begins_12 post x1 z0 f_most f_n f_stored f_nm f_nEnv f_base f_ns f_no f_nc f_pc f_mode f_err f_errAt f_ticks f_calls f_outs f_resK f_part f_resV f_cnt f_full f_flag f_need a_tk a_tv a_tp a_mName a_mKind a_mCount a_mPar a_mAt a_vName a_vDecl a_vKind a_vVal a_sk a_sv a_oKind a_oAt a_oArgs a_cKind a_cA a_cB a_outK a_outV) := by
  unfold wY_begins_12
  repeat' first
   | with_reducible exact de_p2
   | with_reducible exact de_p1
   | with_reducible exact de_p0
   | with_reducible exact de_no
   | with_reducible exact de_wY_begins_38
   | with_reducible refine de_br (fun _ => ?_) (fun _ => ?_)
   | with_reducible refine de_nm ?_
   | with_reducible refine de_and (fun _ => ?_)
   | with_reducible refine de_ex (fun _ => ?_)
end
section
variable {u : SY} {p0 : Int32}
set_option maxHeartbeats 200000 in
theorem de_wpY_begins : de_D de_a2 (fun post => wpY_begins post u p0) := by
  obtain ⟨f_most, f_n, f_stored, f_nm, f_nEnv, f_base, f_ns, f_no, f_nc, f_pc, f_mode, f_err, f_errAt, f_ticks, f_calls, f_outs, f_resK, f_part, f_resV, f_cnt, f_full, f_flag, f_need, a_tk, a_tv, a_tp, a_mName, a_mKind, a_mCount, a_mPar, a_mAt, a_vName, a_vDecl, a_vKind, a_vVal, a_sk, a_sv, a_oKind, a_oAt, a_oArgs, a_cKind, a_cA, a_cB, a_outK, a_outV⟩ := u
  unfold wpY_begins
  try dsimp only
  repeat' first
   | with_reducible exact de_p2
   | with_reducible exact de_p1
   | with_reducible exact de_p0
   | with_reducible exact de_no
   | with_reducible exact de_wY_begins_12
   | with_reducible refine de_br (fun _ => ?_) (fun _ => ?_)
   | with_reducible refine de_nm ?_
   | with_reducible refine de_and (fun _ => ?_)
   | with_reducible refine de_ex (fun _ => ?_)
variable {A π : Type} {ap : A → π → Prop}
set_option maxHeartbeats 200000 in
theorem dc_wpY_begins {K : π → Int32 → SY → Prop} (g : ∀ r w, de_D ap (fun P => K P r w)) : de_D ap (fun P => wpY_begins (fun r w => K P r w) u p0) := de_c2 (W := fun post => wpY_begins post u p0) de_wpY_begins g
end
section
variable {x1 : Int32} {f_most : Int32} {f_n : Int32} {f_stored : Int32} {f_nm : Int32} {f_nEnv : Int32} {f_base : Int32} {f_ns : Int32} {f_no : Int32} {f_nc : Int32} {f_pc : Int32} {f_mode : Int32} {f_err : Int32} {f_errAt : Int32} {f_ticks : Int32} {f_calls : Int32} {f_outs : Int32} {f_resK : Int32} {f_part : Int32} {f_resV : Int64} {f_cnt : Int32} {f_full : Int32} {f_flag : Int32} {f_need : Int32} {a_tk : Nat → Int32} {a_tv : Nat → Int64} {a_tp : Nat → Int32} {a_mName : Nat → Int32} {a_mKind : Nat → Int32} {a_mCount : Nat → Int32} {a_mPar : Nat → Int32} {a_mAt : Nat → Int32} {a_vName : Nat → Int32} {a_vDecl : Nat → Int32} {a_vKind : Nat → Int32} {a_vVal : Nat → Int64} {a_sk : Nat → Int32} {a_sv : Nat → Int64} {a_oKind : Nat → Int32} {a_oAt : Nat → Int32} {a_oArgs : Nat → Int32} {a_cKind : Nat → Int32} {a_cA : Nat → Int32} {a_cB : Nat → Int32} {a_outK : Nat → Int32} {a_outV : Nat → Int64} {n : Nat} {x3 : Int32}
set_option maxHeartbeats 200000 in
theorem de_wY_declares_50 : ∀ {n : Nat} {x3 : Int32}, de_D de_a2 (fun post => wY_declares_50 post x1 f_most f_n f_stored f_nm f_nEnv f_base f_ns f_no f_nc f_pc f_mode f_err f_errAt f_ticks f_calls f_outs f_resK f_part f_resV f_cnt f_full f_flag f_need a_tk a_tv a_tp a_mName a_mKind a_mCount a_mPar a_mAt a_vName a_vDecl a_vKind a_vVal a_sk a_sv a_oKind a_oAt a_oArgs a_cKind a_cA a_cB a_outK a_outV n x3) := by
  intro n
  induction n with
  | zero => intros; exact de_no
  | succ n ih =>
    intros
    unfold wY_declares_50
    try dsimp only
    repeat' first
     | with_reducible exact de_p2
     | with_reducible exact de_p1
     | with_reducible exact de_p0
     | with_reducible exact de_no
     | with_reducible exact ih
     | with_reducible refine de_br (fun _ => ?_) (fun _ => ?_)
     | with_reducible refine de_nm ?_
     | with_reducible refine de_and (fun _ => ?_)
     | with_reducible refine de_ex (fun _ => ?_)
end
section
variable {x1 : Int32} {x2 : Int32} {f_most : Int32} {f_n : Int32} {f_stored : Int32} {f_nm : Int32} {f_nEnv : Int32} {f_base : Int32} {f_ns : Int32} {f_no : Int32} {f_nc : Int32} {f_pc : Int32} {f_mode : Int32} {f_err : Int32} {f_errAt : Int32} {f_ticks : Int32} {f_calls : Int32} {f_outs : Int32} {f_resK : Int32} {f_part : Int32} {f_resV : Int64} {f_cnt : Int32} {f_full : Int32} {f_flag : Int32} {f_need : Int32} {a_tk : Nat → Int32} {a_tv : Nat → Int64} {a_tp : Nat → Int32} {a_mName : Nat → Int32} {a_mKind : Nat → Int32} {a_mCount : Nat → Int32} {a_mPar : Nat → Int32} {a_mAt : Nat → Int32} {a_vName : Nat → Int32} {a_vDecl : Nat → Int32} {a_vKind : Nat → Int32} {a_vVal : Nat → Int64} {a_sk : Nat → Int32} {a_sv : Nat → Int64} {a_oKind : Nat → Int32} {a_oAt : Nat → Int32} {a_oArgs : Nat → Int32} {a_cKind : Nat → Int32} {a_cA : Nat → Int32} {a_cB : Nat → Int32} {a_outK : Nat → Int32} {a_outV : Nat → Int64}
set_option maxHeartbeats 200000 in
theorem de_wY_declares_37 : de_D de_a2 (fun post => wY_declares_37 post x1 x2 f_most f_n f_stored f_nm f_nEnv f_base f_ns f_no f_nc f_pc f_mode f_err f_errAt f_ticks f_calls f_outs f_resK f_part f_resV f_cnt f_full f_flag f_need a_tk a_tv a_tp a_mName a_mKind a_mCount a_mPar a_mAt a_vName a_vDecl a_vKind a_vVal a_sk a_sv a_oKind a_oAt a_oArgs a_cKind a_cA a_cB a_outK a_outV) := by
  unfold wY_declares_37
  repeat' first
   | with_reducible exact de_p2
   | with_reducible exact de_p1
   | with_reducible exact de_p0
   | with_reducible exact de_no
   | with_reducible exact de_wY_declares_50
   | with_reducible refine de_br (fun _ => ?_) (fun _ => ?_)
   | with_reducible refine de_nm ?_
   | with_reducible refine de_and (fun _ => ?_)
   | with_reducible refine de_ex (fun _ => ?_)
end
section
variable {x1 : Int32} {f_most : Int32} {f_n : Int32} {f_stored : Int32} {f_nm : Int32} {f_nEnv : Int32} {f_base : Int32} {f_ns : Int32} {f_no : Int32} {f_nc : Int32} {f_pc : Int32} {f_mode : Int32} {f_err : Int32} {f_errAt : Int32} {f_ticks : Int32} {f_calls : Int32} {f_outs : Int32} {f_resK : Int32} {f_part : Int32} {f_resV : Int64} {f_cnt : Int32} {f_full : Int32} {f_flag : Int32} {f_need : Int32} {a_tk : Nat → Int32} {a_tv : Nat → Int64} {a_tp : Nat → Int32} {a_mName : Nat → Int32} {a_mKind : Nat → Int32} {a_mCount : Nat → Int32} {a_mPar : Nat → Int32} {a_mAt : Nat → Int32} {a_vName : Nat → Int32} {a_vDecl : Nat → Int32} {a_vKind : Nat → Int32} {a_vVal : Nat → Int64} {a_sk : Nat → Int32} {a_sv : Nat → Int64} {a_oKind : Nat → Int32} {a_oAt : Nat → Int32} {a_oArgs : Nat → Int32} {a_cKind : Nat → Int32} {a_cA : Nat → Int32} {a_cB : Nat → Int32} {a_outK : Nat → Int32} {a_outV : Nat → Int64} {n : Nat} {x2 : Int32}
set_option maxHeartbeats 200000 in
theorem de_wY_declares_7 : ∀ {n : Nat} {x2 : Int32}, de_D de_a2 (fun post => wY_declares_7 post x1 f_most f_n f_stored f_nm f_nEnv f_base f_ns f_no f_nc f_pc f_mode f_err f_errAt f_ticks f_calls f_outs f_resK f_part f_resV f_cnt f_full f_flag f_need a_tk a_tv a_tp a_mName a_mKind a_mCount a_mPar a_mAt a_vName a_vDecl a_vKind a_vVal a_sk a_sv a_oKind a_oAt a_oArgs a_cKind a_cA a_cB a_outK a_outV n x2) := by
  intro n
  induction n with
  | zero => intros; exact de_no
  | succ n ih =>
    intros
    unfold wY_declares_7
    try dsimp only
    repeat' first
     | with_reducible exact de_p2
     | with_reducible exact de_p1
     | with_reducible exact de_p0
     | with_reducible exact de_no
     | with_reducible exact ih
     | with_reducible exact de_wY_declares_37
     | with_reducible refine de_br (fun _ => ?_) (fun _ => ?_)
     | with_reducible refine de_nm ?_
     | with_reducible refine de_and (fun _ => ?_)
     | with_reducible refine de_ex (fun _ => ?_)
end
section
variable {u : SY} {p0 : Int32}
set_option maxHeartbeats 200000 in
theorem de_wpY_declares : de_D de_a2 (fun post => wpY_declares post u p0) := by
  obtain ⟨f_most, f_n, f_stored, f_nm, f_nEnv, f_base, f_ns, f_no, f_nc, f_pc, f_mode, f_err, f_errAt, f_ticks, f_calls, f_outs, f_resK, f_part, f_resV, f_cnt, f_full, f_flag, f_need, a_tk, a_tv, a_tp, a_mName, a_mKind, a_mCount, a_mPar, a_mAt, a_vName, a_vDecl, a_vKind, a_vVal, a_sk, a_sv, a_oKind, a_oAt, a_oArgs, a_cKind, a_cA, a_cB, a_outK, a_outV⟩ := u
  unfold wpY_declares
  try dsimp only
  repeat' first
   | with_reducible exact de_p2
   | with_reducible exact de_p1
   | with_reducible exact de_p0
   | with_reducible exact de_no
   | with_reducible exact de_wY_declares_7
   | with_reducible refine de_br (fun _ => ?_) (fun _ => ?_)
   | with_reducible refine de_nm ?_
   | with_reducible refine de_and (fun _ => ?_)
   | with_reducible refine de_ex (fun _ => ?_)
variable {A π : Type} {ap : A → π → Prop}
set_option maxHeartbeats 200000 in
theorem dc_wpY_declares {K : π → Int32 → SY → Prop} (g : ∀ r w, de_D ap (fun P => K P r w)) : de_D ap (fun P => wpY_declares (fun r w => K P r w) u p0) := de_c2 (W := fun post => wpY_declares post u p0) de_wpY_declares g
end
section
variable {x1 : Int32} {f_most : Int32} {f_n : Int32} {f_stored : Int32} {f_nm : Int32} {f_nEnv : Int32} {f_base : Int32} {f_ns : Int32} {f_no : Int32} {f_nc : Int32} {f_pc : Int32} {f_mode : Int32} {f_err : Int32} {f_errAt : Int32} {f_ticks : Int32} {f_calls : Int32} {f_outs : Int32} {f_resK : Int32} {f_part : Int32} {f_resV : Int64} {f_cnt : Int32} {f_full : Int32} {f_flag : Int32} {f_need : Int32} {a_tk : Nat → Int32} {a_tv : Nat → Int64} {a_tp : Nat → Int32} {a_mName : Nat → Int32} {a_mKind : Nat → Int32} {a_mCount : Nat → Int32} {a_mPar : Nat → Int32} {a_mAt : Nat → Int32} {a_vName : Nat → Int32} {a_vDecl : Nat → Int32} {a_vKind : Nat → Int32} {a_vVal : Nat → Int64} {a_sk : Nat → Int32} {a_sv : Nat → Int64} {a_oKind : Nat → Int32} {a_oAt : Nat → Int32} {a_oArgs : Nat → Int32} {a_cKind : Nat → Int32} {a_cA : Nat → Int32} {a_cB : Nat → Int32} {a_outK : Nat → Int32} {a_outV : Nat → Int64}
set_option maxHeartbeats 200000 in
theorem de_wY_header_169 : de_D de_a2 (fun post => wY_header_169 post x1 f_most f_n f_stored f_nm f_nEnv f_base f_ns f_no f_nc f_pc f_mode f_err f_errAt f_ticks f_calls f_outs f_resK f_part f_resV f_cnt f_full f_flag f_need a_tk a_tv a_tp a_mName a_mKind a_mCount a_mPar a_mAt a_vName a_vDecl a_vKind a_vVal a_sk a_sv a_oKind a_oAt a_oArgs a_cKind a_cA a_cB a_outK a_outV) := by
  unfold wY_header_169
  repeat' first
   | with_reducible exact de_p2
   | with_reducible exact de_p1
   | with_reducible exact de_p0
   | with_reducible exact de_no
   | with_reducible refine de_br (fun _ => ?_) (fun _ => ?_)
   | with_reducible refine de_nm ?_
   | with_reducible refine de_and (fun _ => ?_)
   | with_reducible refine de_ex (fun _ => ?_)
end
section
variable {x1 : Int32} {x2 : Int32} {f_most : Int32} {f_n : Int32} {f_stored : Int32} {f_nm : Int32} {f_nEnv : Int32} {f_base : Int32} {f_ns : Int32} {f_no : Int32} {f_nc : Int32} {f_pc : Int32} {f_mode : Int32} {f_err : Int32} {f_errAt : Int32} {f_ticks : Int32} {f_calls : Int32} {f_outs : Int32} {f_resK : Int32} {f_part : Int32} {f_resV : Int64} {f_cnt : Int32} {f_full : Int32} {f_flag : Int32} {f_need : Int32} {a_tk : Nat → Int32} {a_tv : Nat → Int64} {a_tp : Nat → Int32} {a_mName : Nat → Int32} {a_mKind : Nat → Int32} {a_mCount : Nat → Int32} {a_mPar : Nat → Int32} {a_mAt : Nat → Int32} {a_vName : Nat → Int32} {a_vDecl : Nat → Int32} {a_vKind : Nat → Int32} {a_vVal : Nat → Int64} {a_sk : Nat → Int32} {a_sv : Nat → Int64} {a_oKind : Nat → Int32} {a_oAt : Nat → Int32} {a_oArgs : Nat → Int32} {a_cKind : Nat → Int32} {a_cA : Nat → Int32} {a_cB : Nat → Int32} {a_outK : Nat → Int32} {a_outV : Nat → Int64}
set_option maxHeartbeats 200000 in
theorem de_wY_header_157 : de_D de_a2 (fun post => wY_header_157 post x1 x2 f_most f_n f_stored f_nm f_nEnv f_base f_ns f_no f_nc f_pc f_mode f_err f_errAt f_ticks f_calls f_outs f_resK f_part f_resV f_cnt f_full f_flag f_need a_tk a_tv a_tp a_mName a_mKind a_mCount a_mPar a_mAt a_vName a_vDecl a_vKind a_vVal a_sk a_sv a_oKind a_oAt a_oArgs a_cKind a_cA a_cB a_outK a_outV) := by
  unfold wY_header_157
  repeat' first
   | with_reducible exact de_p2
   | with_reducible exact de_p1
   | with_reducible exact de_p0
   | with_reducible exact de_no
   | with_reducible exact de_wY_header_169
   | with_reducible exact de_wpY_declares
   | with_reducible refine de_br (fun _ => ?_) (fun _ => ?_)
   | with_reducible refine de_nm ?_
   | with_reducible refine de_and (fun _ => ?_)
   | with_reducible refine de_ex (fun _ => ?_)
   | ((with_reducible refine dc_wpY_declares (fun _ w => ?_)); obtain ⟨w0, w1, w2, w3, w4, w5, w6, w7, w8, w9, w10, w11, w12, w13, w14, w15, w16, w17, w18, w19, w20, w21, w22, w23, w24, w25, w26, w27, w28, w29, w30, w31, w32, w33, w34, w35, w36, w37, w38, w39, w40, w41, w42, w43, w44⟩ := w; try dsimp only)
   | with_reducible refine dc_wpY_isName (fun _ => ?_)
   | ((with_reducible refine dc_wpY_openStatement (fun w => ?_)); obtain ⟨w0, w1, w2, w3, w4, w5, w6, w7, w8, w9, w10, w11, w12, w13, w14, w15, w16, w17, w18, w19, w20, w21, w22, w23, w24, w25, w26, w27, w28, w29, w30, w31, w32, w33, w34, w35, w36, w37, w38, w39, w40, w41, w42, w43, w44⟩ := w; try dsimp only)
end
section
variable {x1 : Int32} {x2 : Int32} {f_most : Int32} {f_n : Int32} {f_stored : Int32} {f_nm : Int32} {f_nEnv : Int32} {f_base : Int32} {f_ns : Int32} {f_no : Int32} {f_nc : Int32} {f_pc : Int32} {f_mode : Int32} {f_err : Int32} {f_errAt : Int32} {f_ticks : Int32} {f_calls : Int32} {f_outs : Int32} {f_resK : Int32} {f_part : Int32} {f_resV : Int64} {f_cnt : Int32} {f_full : Int32} {f_flag : Int32} {f_need : Int32} {a_tk : Nat → Int32} {a_tv : Nat → Int64} {a_tp : Nat → Int32} {a_mName : Nat → Int32} {a_mKind : Nat → Int32} {a_mCount : Nat → Int32} {a_mPar : Nat → Int32} {a_mAt : Nat → Int32} {a_vName : Nat → Int32} {a_vDecl : Nat → Int32} {a_vKind : Nat → Int32} {a_vVal : Nat → Int64} {a_sk : Nat → Int32} {a_sv : Nat → Int64} {a_oKind : Nat → Int32} {a_oAt : Nat → Int32} {a_oArgs : Nat → Int32} {a_cKind : Nat → Int32} {a_cA : Nat → Int32} {a_cB : Nat → Int32} {a_outK : Nat → Int32} {a_outV : Nat → Int64}
set_option maxHeartbeats 200000 in
theorem de_wY_header_137 : de_D de_a2 (fun post => wY_header_137 post x1 x2 f_most f_n f_stored f_nm f_nEnv f_base f_ns f_no f_nc f_pc f_mode f_err f_errAt f_ticks f_calls f_outs f_resK f_part f_resV f_cnt f_full f_flag f_need a_tk a_tv a_tp a_mName a_mKind a_mCount a_mPar a_mAt a_vName a_vDecl a_vKind a_vVal a_sk a_sv a_oKind a_oAt a_oArgs a_cKind a_cA a_cB a_outK a_outV) := by
  unfold wY_header_137
  repeat' first
   | with_reducible exact de_p2
   | with_reducible exact de_p1
   | with_reducible exact de_p0
   | with_reducible exact de_no
   | with_reducible exact de_wY_header_157
   | with_reducible refine de_br (fun _ => ?_) (fun _ => ?_)
   | with_reducible refine de_nm ?_
   | with_reducible refine de_and (fun _ => ?_)
   | with_reducible refine de_ex (fun _ => ?_)
end
section
variable {x1 : Int32} {f_most : Int32} {f_n : Int32} {f_stored : Int32} {f_nm : Int32} {f_nEnv : Int32} {f_base : Int32} {f_ns : Int32} {f_no : Int32} {f_nc : Int32} {f_pc : Int32} {f_mode : Int32} {f_err : Int32} {f_errAt : Int32} {f_ticks : Int32} {f_calls : Int32} {f_outs : Int32} {f_resK : Int32} {f_part : Int32} {f_resV : Int64} {f_cnt : Int32} {f_full : Int32} {f_flag : Int32} {f_need : Int32} {a_tk : Nat → Int32} {a_tv : Nat → Int64} {a_tp : Nat → Int32} {a_mName : Nat → Int32} {a_mKind : Nat → Int32} {a_mCount : Nat → Int32} {a_mPar : Nat → Int32} {a_mAt : Nat → Int32} {a_vName : Nat → Int32} {a_vDecl : Nat → Int32} {a_vKind : Nat → Int32} {a_vVal : Nat → Int64} {a_sk : Nat → Int32} {a_sv : Nat → Int64} {a_oKind : Nat → Int32} {a_oAt : Nat → Int32} {a_oArgs : Nat → Int32} {a_cKind : Nat → Int32} {a_cA : Nat → Int32} {a_cB : Nat → Int32} {a_outK : Nat → Int32} {a_outV : Nat → Int64}
set_option maxHeartbeats 200000 in
theorem de_wY_header_107 : de_D de_a2 (fun post => wY_header_107 post x1 f_most f_n f_stored f_nm f_nEnv f_base f_ns f_no f_nc f_pc f_mode f_err f_errAt f_ticks f_calls f_outs f_resK f_part f_resV f_cnt f_full f_flag f_need a_tk a_tv a_tp a_mName a_mKind a_mCount a_mPar a_mAt a_vName a_vDecl a_vKind a_vVal a_sk a_sv a_oKind a_oAt a_oArgs a_cKind a_cA a_cB a_outK a_outV) := by
  unfold wY_header_107
  repeat' first
   | with_reducible exact de_p2
   | with_reducible exact de_p1
   | with_reducible exact de_p0
   | with_reducible exact de_no
   | with_reducible refine de_br (fun _ => ?_) (fun _ => ?_)
   | with_reducible refine de_nm ?_
   | with_reducible refine de_and (fun _ => ?_)
   | with_reducible refine de_ex (fun _ => ?_)
end
section
variable {x1 : Int32} {z0 : Int32} {f_most : Int32} {f_n : Int32} {f_stored : Int32} {f_nm : Int32} {f_nEnv : Int32} {f_base : Int32} {f_ns : Int32} {f_no : Int32} {f_nc : Int32} {f_pc : Int32} {f_mode : Int32} {f_err : Int32} {f_errAt : Int32} {f_ticks : Int32} {f_calls : Int32} {f_outs : Int32} {f_resK : Int32} {f_part : Int32} {f_resV : Int64} {f_cnt : Int32} {f_full : Int32} {f_flag : Int32} {f_need : Int32} {a_tk : Nat → Int32} {a_tv : Nat → Int64} {a_tp : Nat → Int32} {a_mName : Nat → Int32} {a_mKind : Nat → Int32} {a_mCount : Nat → Int32} {a_mPar : Nat → Int32} {a_mAt : Nat → Int32} {a_vName : Nat → Int32} {a_vDecl : Nat → Int32} {a_vKind : Nat → Int32} {a_vVal : Nat → Int64} {a_sk : Nat → Int32} {a_sv : Nat → Int64} {a_oKind : Nat → Int32} {a_oAt : Nat → Int32} {a_oArgs : Nat → Int32} {a_cKind : Nat → Int32} {a_cA : Nat → Int32} {a_cB : Nat → Int32} {a_outK : Nat → Int32} {a_outV : Nat → Int64}
set_option maxHeartbeats 200000 in
theorem de_wY_header_79 : de_D de_a2 (fun post => wY_header_79 post x1 z0 f_most f_n f_stored f_nm f_nEnv f_base f_ns f_no f_nc f_pc f_mode f_err f_errAt f_ticks f_calls f_outs f_resK f_part f_resV f_cnt f_full f_flag f_need a_tk a_tv a_tp a_mName a_mKind a_mCount a_mPar a_mAt a_vName a_vDecl a_vKind a_vVal a_sk a_sv a_oKind a_oAt a_oArgs a_cKind a_cA a_cB a_outK a_outV) := by
  unfold wY_header_79
  repeat' first
   | with_reducible exact de_p2
   | with_reducible exact de_p1
   | with_reducible exact de_p0
   | with_reducible exact de_no
   | with_reducible exact de_wY_header_107
   | with_reducible refine de_br (fun _ => ?_) (fun _ => ?_)
   | with_reducible refine de_nm ?_
   | with_reducible refine de_and (fun _ => ?_)
   | with_reducible refine de_ex (fun _ => ?_)
   | ((with_reducible refine dc_wpY_openStatement (fun w => ?_)); obtain ⟨w0, w1, w2, w3, w4, w5, w6, w7, w8, w9, w10, w11, w12, w13, w14, w15, w16, w17, w18, w19, w20, w21, w22, w23, w24, w25, w26, w27, w28, w29, w30, w31, w32, w33, w34, w35, w36, w37, w38, w39, w40, w41, w42, w43, w44⟩ := w; try dsimp only)
end
section
variable {u : SY} {p0 : Int32}
set_option maxHeartbeats 200000 in
theorem de_wpY_header : de_D de_a2 (fun post => wpY_header post u p0) := by
  obtain ⟨f_most, f_n, f_stored, f_nm, f_nEnv, f_base, f_ns, f_no, f_nc, f_pc, f_mode, f_err, f_errAt, f_ticks, f_calls, f_outs, f_resK, f_part, f_resV, f_cnt, f_full, f_flag, f_need, a_tk, a_tv, a_tp, a_mName, a_mKind, a_mCount, a_mPar, a_mAt, a_vName, a_vDecl, a_vKind, a_vVal, a_sk, a_sv, a_oKind, a_oAt, a_oArgs, a_cKind, a_cA, a_cB, a_outK, a_outV⟩ := u
  unfold wpY_header
  try dsimp only
  repeat' first
   | with_reducible exact de_p2
   | with_reducible exact de_p1
   | with_reducible exact de_p0
   | with_reducible exact de_no
   | with_reducible exact de_wY_header_137
   | with_reducible exact de_wY_header_79
   | with_reducible exact de_wpY_declares
   | with_reducible refine de_br (fun _ => ?_) (fun _ => ?_)
   | with_reducible refine de_nm ?_
   | with_reducible refine de_and (fun _ => ?_)
   | with_reducible refine de_ex (fun _ => ?_)
   | ((with_reducible refine dc_wpY_declares (fun _ w => ?_)); obtain ⟨w0, w1, w2, w3, w4, w5, w6, w7, w8, w9, w10, w11, w12, w13, w14, w15, w16, w17, w18, w19, w20, w21, w22, w23, w24, w25, w26, w27, w28, w29, w30, w31, w32, w33, w34, w35, w36, w37, w38, w39, w40, w41, w42, w43, w44⟩ := w; try dsimp only)
   | with_reducible refine dc_wpY_isName (fun _ => ?_)
variable {A π : Type} {ap : A → π → Prop}
set_option maxHeartbeats 200000 in
theorem dc_wpY_header {K : π → Int32 → SY → Prop} (g : ∀ r w, de_D ap (fun P => K P r w)) : de_D ap (fun P => wpY_header (fun r w => K P r w) u p0) := de_c2 (W := fun post => wpY_header post u p0) de_wpY_header g
end
section
variable {x1 : Int32} {f_most : Int32} {f_n : Int32} {f_stored : Int32} {f_nm : Int32} {f_nEnv : Int32} {f_base : Int32} {f_ns : Int32} {f_no : Int32} {f_nc : Int32} {f_pc : Int32} {f_mode : Int32} {f_err : Int32} {f_errAt : Int32} {f_ticks : Int32} {f_calls : Int32} {f_outs : Int32} {f_resK : Int32} {f_part : Int32} {f_resV : Int64} {f_cnt : Int32} {f_full : Int32} {f_flag : Int32} {f_need : Int32} {a_tk : Nat → Int32} {a_tv : Nat → Int64} {a_tp : Nat → Int32} {a_mName : Nat → Int32} {a_mKind : Nat → Int32} {a_mCount : Nat → Int32} {a_mPar : Nat → Int32} {a_mAt : Nat → Int32} {a_vName : Nat → Int32} {a_vDecl : Nat → Int32} {a_vKind : Nat → Int32} {a_vVal : Nat → Int64} {a_sk : Nat → Int32} {a_sv : Nat → Int64} {a_oKind : Nat → Int32} {a_oAt : Nat → Int32} {a_oArgs : Nat → Int32} {a_cKind : Nat → Int32} {a_cA : Nat → Int32} {a_cB : Nat → Int32} {a_outK : Nat → Int32} {a_outV : Nat → Int64}
set_option maxHeartbeats 200000 in
theorem de_wY_goesOn_49 : de_D de_a2 (fun post => wY_goesOn_49 post x1 f_most f_n f_stored f_nm f_nEnv f_base f_ns f_no f_nc f_pc f_mode f_err f_errAt f_ticks f_calls f_outs f_resK f_part f_resV f_cnt f_full f_flag f_need a_tk a_tv a_tp a_mName a_mKind a_mCount a_mPar a_mAt a_vName a_vDecl a_vKind a_vVal a_sk a_sv a_oKind a_oAt a_oArgs a_cKind a_cA a_cB a_outK a_outV) := by
  unfold wY_goesOn_49
  repeat' first
   | with_reducible exact de_p2
   | with_reducible exact de_p1
   | with_reducible exact de_p0
   | with_reducible exact de_no
   | with_reducible exact de_wpY_begins
   | with_reducible refine de_br (fun _ => ?_) (fun _ => ?_)
   | with_reducible refine de_nm ?_
   | with_reducible refine de_and (fun _ => ?_)
   | with_reducible refine de_ex (fun _ => ?_)
   | ((with_reducible refine dc_wpY_begins (fun _ w => ?_)); obtain ⟨w0, w1, w2, w3, w4, w5, w6, w7, w8, w9, w10, w11, w12, w13, w14, w15, w16, w17, w18, w19, w20, w21, w22, w23, w24, w25, w26, w27, w28, w29, w30, w31, w32, w33, w34, w35, w36, w37, w38, w39, w40, w41, w42, w43, w44⟩ := w; try dsimp only)
end
section
variable {x1 : Int32} {f_most : Int32} {f_n : Int32} {f_stored : Int32} {f_nm : Int32} {f_nEnv : Int32} {f_base : Int32} {f_ns : Int32} {f_no : Int32} {f_nc : Int32} {f_pc : Int32} {f_mode : Int32} {f_err : Int32} {f_errAt : Int32} {f_ticks : Int32} {f_calls : Int32} {f_outs : Int32} {f_resK : Int32} {f_part : Int32} {f_resV : Int64} {f_cnt : Int32} {f_full : Int32} {f_flag : Int32} {f_need : Int32} {a_tk : Nat → Int32} {a_tv : Nat → Int64} {a_tp : Nat → Int32} {a_mName : Nat → Int32} {a_mKind : Nat → Int32} {a_mCount : Nat → Int32} {a_mPar : Nat → Int32} {a_mAt : Nat → Int32} {a_vName : Nat → Int32} {a_vDecl : Nat → Int32} {a_vKind : Nat → Int32} {a_vVal : Nat → Int64} {a_sk : Nat → Int32} {a_sv : Nat → Int64} {a_oKind : Nat → Int32} {a_oAt : Nat → Int32} {a_oArgs : Nat → Int32} {a_cKind : Nat → Int32} {a_cA : Nat → Int32} {a_cB : Nat → Int32} {a_outK : Nat → Int32} {a_outV : Nat → Int64}
set_option maxHeartbeats 200000 in
theorem de_wY_goesOn_113 : de_D de_a2 (fun post => wY_goesOn_113 post x1 f_most f_n f_stored f_nm f_nEnv f_base f_ns f_no f_nc f_pc f_mode f_err f_errAt f_ticks f_calls f_outs f_resK f_part f_resV f_cnt f_full f_flag f_need a_tk a_tv a_tp a_mName a_mKind a_mCount a_mPar a_mAt a_vName a_vDecl a_vKind a_vVal a_sk a_sv a_oKind a_oAt a_oArgs a_cKind a_cA a_cB a_outK a_outV) := by
  unfold wY_goesOn_113
  repeat' first
   | with_reducible exact de_p2
   | with_reducible exact de_p1
   | with_reducible exact de_p0
   | with_reducible exact de_no
   | with_reducible exact de_wpY_within
   | with_reducible refine de_br (fun _ => ?_) (fun _ => ?_)
   | with_reducible refine de_nm ?_
   | with_reducible refine de_and (fun _ => ?_)
   | with_reducible refine de_ex (fun _ => ?_)
   | ((with_reducible refine dc_wpY_within (fun _ w => ?_)); obtain ⟨w0, w1, w2, w3, w4, w5, w6, w7, w8, w9, w10, w11, w12, w13, w14, w15, w16, w17, w18, w19, w20, w21, w22, w23, w24, w25, w26, w27, w28, w29, w30, w31, w32, w33, w34, w35, w36, w37, w38, w39, w40, w41, w42, w43, w44⟩ := w; try dsimp only)
end
section
variable {x1 : Int32} {f_most : Int32} {f_n : Int32} {f_stored : Int32} {f_nm : Int32} {f_nEnv : Int32} {f_base : Int32} {f_ns : Int32} {f_no : Int32} {f_nc : Int32} {f_pc : Int32} {f_mode : Int32} {f_err : Int32} {f_errAt : Int32} {f_ticks : Int32} {f_calls : Int32} {f_outs : Int32} {f_resK : Int32} {f_part : Int32} {f_resV : Int64} {f_cnt : Int32} {f_full : Int32} {f_flag : Int32} {f_need : Int32} {a_tk : Nat → Int32} {a_tv : Nat → Int64} {a_tp : Nat → Int32} {a_mName : Nat → Int32} {a_mKind : Nat → Int32} {a_mCount : Nat → Int32} {a_mPar : Nat → Int32} {a_mAt : Nat → Int32} {a_vName : Nat → Int32} {a_vDecl : Nat → Int32} {a_vKind : Nat → Int32} {a_vVal : Nat → Int64} {a_sk : Nat → Int32} {a_sv : Nat → Int64} {a_oKind : Nat → Int32} {a_oAt : Nat → Int32} {a_oArgs : Nat → Int32} {a_cKind : Nat → Int32} {a_cA : Nat → Int32} {a_cB : Nat → Int32} {a_outK : Nat → Int32} {a_outV : Nat → Int64}
set_option maxHeartbeats 200000 in
theorem de_wY_goesOn_167 : de_D de_a2 (fun post => wY_goesOn_167 post x1 f_most f_n f_stored f_nm f_nEnv f_base f_ns f_no f_nc f_pc f_mode f_err f_errAt f_ticks f_calls f_outs f_resK f_part f_resV f_cnt f_full f_flag f_need a_tk a_tv a_tp a_mName a_mKind a_mCount a_mPar a_mAt a_vName a_vDecl a_vKind a_vVal a_sk a_sv a_oKind a_oAt a_oArgs a_cKind a_cA a_cB a_outK a_outV) := by
  unfold wY_goesOn_167
  repeat' first
   | with_reducible exact de_p2
   | with_reducible exact de_p1
   | with_reducible exact de_p0
   | with_reducible exact de_no
   | with_reducible refine de_br (fun _ => ?_) (fun _ => ?_)
   | with_reducible refine de_nm ?_
   | with_reducible refine de_and (fun _ => ?_)
   | with_reducible refine de_ex (fun _ => ?_)
end
section
variable {x1 : Int32} {f_most : Int32} {f_n : Int32} {f_stored : Int32} {f_nm : Int32} {f_nEnv : Int32} {f_base : Int32} {f_ns : Int32} {f_no : Int32} {f_nc : Int32} {f_pc : Int32} {f_mode : Int32} {f_err : Int32} {f_errAt : Int32} {f_ticks : Int32} {f_calls : Int32} {f_outs : Int32} {f_resK : Int32} {f_part : Int32} {f_resV : Int64} {f_cnt : Int32} {f_full : Int32} {f_flag : Int32} {f_need : Int32} {a_tk : Nat → Int32} {a_tv : Nat → Int64} {a_tp : Nat → Int32} {a_mName : Nat → Int32} {a_mKind : Nat → Int32} {a_mCount : Nat → Int32} {a_mPar : Nat → Int32} {a_mAt : Nat → Int32} {a_vName : Nat → Int32} {a_vDecl : Nat → Int32} {a_vKind : Nat → Int32} {a_vVal : Nat → Int64} {a_sk : Nat → Int32} {a_sv : Nat → Int64} {a_oKind : Nat → Int32} {a_oAt : Nat → Int32} {a_oArgs : Nat → Int32} {a_cKind : Nat → Int32} {a_cA : Nat → Int32} {a_cB : Nat → Int32} {a_outK : Nat → Int32} {a_outV : Nat → Int64}
set_option maxHeartbeats 200000 in
theorem de_wY_goesOn_80 : de_D de_a2 (fun post => wY_goesOn_80 post x1 f_most f_n f_stored f_nm f_nEnv f_base f_ns f_no f_nc f_pc f_mode f_err f_errAt f_ticks f_calls f_outs f_resK f_part f_resV f_cnt f_full f_flag f_need a_tk a_tv a_tp a_mName a_mKind a_mCount a_mPar a_mAt a_vName a_vDecl a_vKind a_vVal a_sk a_sv a_oKind a_oAt a_oArgs a_cKind a_cA a_cB a_outK a_outV) := by
  unfold wY_goesOn_80
  repeat' first
   | with_reducible exact de_p2
   | with_reducible exact de_p1
   | with_reducible exact de_p0
   | with_reducible exact de_no
   | with_reducible exact de_wY_goesOn_113
   | with_reducible exact de_wY_goesOn_167
   | with_reducible exact de_wpY_header
   | with_reducible refine de_br (fun _ => ?_) (fun _ => ?_)
   | with_reducible refine de_nm ?_
   | with_reducible refine de_and (fun _ => ?_)
   | with_reducible refine de_ex (fun _ => ?_)
   | ((with_reducible refine dc_wpY_header (fun _ w => ?_)); obtain ⟨w0, w1, w2, w3, w4, w5, w6, w7, w8, w9, w10, w11, w12, w13, w14, w15, w16, w17, w18, w19, w20, w21, w22, w23, w24, w25, w26, w27, w28, w29, w30, w31, w32, w33, w34, w35, w36, w37, w38, w39, w40, w41, w42, w43, w44⟩ := w; try dsimp only)
end
section
variable {x1 : Int32} {f_most : Int32} {f_n : Int32} {f_stored : Int32} {f_nm : Int32} {f_nEnv : Int32} {f_base : Int32} {f_ns : Int32} {f_no : Int32} {f_nc : Int32} {f_pc : Int32} {f_mode : Int32} {f_err : Int32} {f_errAt : Int32} {f_ticks : Int32} {f_calls : Int32} {f_outs : Int32} {f_resK : Int32} {f_part : Int32} {f_resV : Int64} {f_cnt : Int32} {f_full : Int32} {f_flag : Int32} {f_need : Int32} {a_tk : Nat → Int32} {a_tv : Nat → Int64} {a_tp : Nat → Int32} {a_mName : Nat → Int32} {a_mKind : Nat → Int32} {a_mCount : Nat → Int32} {a_mPar : Nat → Int32} {a_mAt : Nat → Int32} {a_vName : Nat → Int32} {a_vDecl : Nat → Int32} {a_vKind : Nat → Int32} {a_vVal : Nat → Int64} {a_sk : Nat → Int32} {a_sv : Nat → Int64} {a_oKind : Nat → Int32} {a_oAt : Nat → Int32} {a_oArgs : Nat → Int32} {a_cKind : Nat → Int32} {a_cA : Nat → Int32} {a_cB : Nat → Int32} {a_outK : Nat → Int32} {a_outV : Nat → Int64}
set_option maxHeartbeats 200000 in
theorem de_wY_goesOn_34 : de_D de_a2 (fun post => wY_goesOn_34 post x1 f_most f_n f_stored f_nm f_nEnv f_base f_ns f_no f_nc f_pc f_mode f_err f_errAt f_ticks f_calls f_outs f_resK f_part f_resV f_cnt f_full f_flag f_need a_tk a_tv a_tp a_mName a_mKind a_mCount a_mPar a_mAt a_vName a_vDecl a_vKind a_vVal a_sk a_sv a_oKind a_oAt a_oArgs a_cKind a_cA a_cB a_outK a_outV) := by
  unfold wY_goesOn_34
  repeat' first
   | with_reducible exact de_p2
   | with_reducible exact de_p1
   | with_reducible exact de_p0
   | with_reducible exact de_no
   | with_reducible exact de_wY_goesOn_49
   | with_reducible exact de_wY_goesOn_80
   | with_reducible refine de_br (fun _ => ?_) (fun _ => ?_)
   | with_reducible refine de_nm ?_
   | with_reducible refine de_and (fun _ => ?_)
   | with_reducible refine de_ex (fun _ => ?_)
end
section
variable {u : SY} {p0 : Int32} {p1 : Int32}
set_option maxHeartbeats 200000 in
theorem de_wpY_goesOn : de_D de_a2 (fun post => wpY_goesOn post u p0 p1) := by
  obtain ⟨f_most, f_n, f_stored, f_nm, f_nEnv, f_base, f_ns, f_no, f_nc, f_pc, f_mode, f_err, f_errAt, f_ticks, f_calls, f_outs, f_resK, f_part, f_resV, f_cnt, f_full, f_flag, f_need, a_tk, a_tv, a_tp, a_mName, a_mKind, a_mCount, a_mPar, a_mAt, a_vName, a_vDecl, a_vKind, a_vVal, a_sk, a_sv, a_oKind, a_oAt, a_oArgs, a_cKind, a_cA, a_cB, a_outK, a_outV⟩ := u
  unfold wpY_goesOn
  try dsimp only
  repeat' first
   | with_reducible exact de_p2
   | with_reducible exact de_p1
   | with_reducible exact de_p0
   | with_reducible exact de_no
   | with_reducible exact de_wY_goesOn_34
   | with_reducible exact de_wpY_finished
   | with_reducible refine de_br (fun _ => ?_) (fun _ => ?_)
   | with_reducible refine de_nm ?_
   | with_reducible refine de_and (fun _ => ?_)
   | with_reducible refine de_ex (fun _ => ?_)
   | ((with_reducible refine dc_wpY_finished (fun _ w => ?_)); obtain ⟨w0, w1, w2, w3, w4, w5, w6, w7, w8, w9, w10, w11, w12, w13, w14, w15, w16, w17, w18, w19, w20, w21, w22, w23, w24, w25, w26, w27, w28, w29, w30, w31, w32, w33, w34, w35, w36, w37, w38, w39, w40, w41, w42, w43, w44⟩ := w; try dsimp only)
variable {A π : Type} {ap : A → π → Prop}
set_option maxHeartbeats 200000 in
theorem dc_wpY_goesOn {K : π → Int32 → SY → Prop} (g : ∀ r w, de_D ap (fun P => K P r w)) : de_D ap (fun P => wpY_goesOn (fun r w => K P r w) u p0 p1) := de_c2 (W := fun post => wpY_goesOn post u p0 p1) de_wpY_goesOn g
end
section
variable {f_most : Int32} {f_n : Int32} {f_stored : Int32} {f_nm : Int32} {f_nEnv : Int32} {f_base : Int32} {f_ns : Int32} {f_no : Int32} {f_nc : Int32} {f_pc : Int32} {f_mode : Int32} {f_err : Int32} {f_errAt : Int32} {f_ticks : Int32} {f_calls : Int32} {f_outs : Int32} {f_resK : Int32} {f_part : Int32} {f_resV : Int64} {f_cnt : Int32} {f_full : Int32} {f_flag : Int32} {f_need : Int32} {a_tk : Nat → Int32} {a_tv : Nat → Int64} {a_tp : Nat → Int32} {a_mName : Nat → Int32} {a_mKind : Nat → Int32} {a_mCount : Nat → Int32} {a_mPar : Nat → Int32} {a_mAt : Nat → Int32} {a_vName : Nat → Int32} {a_vDecl : Nat → Int32} {a_vKind : Nat → Int32} {a_vVal : Nat → Int64} {a_sk : Nat → Int32} {a_sv : Nat → Int64} {a_oKind : Nat → Int32} {a_oAt : Nat → Int32} {a_oArgs : Nat → Int32} {a_cKind : Nat → Int32} {a_cA : Nat → Int32} {a_cB : Nat → Int32} {a_outK : Nat → Int32} {a_outV : Nat → Int64}
set_option maxHeartbeats 200000 in
theorem de_wY_faulty_86 : de_D de_a2 (fun post => wY_faulty_86 post f_most f_n f_stored f_nm f_nEnv f_base f_ns f_no f_nc f_pc f_mode f_err f_errAt f_ticks f_calls f_outs f_resK f_part f_resV f_cnt f_full f_flag f_need a_tk a_tv a_tp a_mName a_mKind a_mCount a_mPar a_mAt a_vName a_vDecl a_vKind a_vVal a_sk a_sv a_oKind a_oAt a_oArgs a_cKind a_cA a_cB a_outK a_outV) := by
  unfold wY_faulty_86
  repeat' first
   | with_reducible exact de_p2
   | with_reducible exact de_p1
   | with_reducible exact de_p0
   | with_reducible exact de_no
   | with_reducible refine de_br (fun _ => ?_) (fun _ => ?_)
   | with_reducible refine de_nm ?_
   | with_reducible refine de_and (fun _ => ?_)
   | with_reducible refine de_ex (fun _ => ?_)
end
section
variable {n : Nat} {x1 : Int32} {f_most : Int32} {f_n : Int32} {f_stored : Int32} {f_nm : Int32} {f_nEnv : Int32} {f_base : Int32} {f_ns : Int32} {f_no : Int32} {f_nc : Int32} {f_pc : Int32} {f_mode : Int32} {f_err : Int32} {f_errAt : Int32} {f_ticks : Int32} {f_calls : Int32} {f_outs : Int32} {f_resK : Int32} {f_part : Int32} {f_resV : Int64} {f_cnt : Int32} {f_full : Int32} {f_flag : Int32} {f_need : Int32} {a_tk : (Nat → Int32)} {a_tv : (Nat → Int64)} {a_tp : (Nat → Int32)} {a_mName : (Nat → Int32)} {a_mKind : (Nat → Int32)} {a_mCount : (Nat → Int32)} {a_mPar : (Nat → Int32)} {a_mAt : (Nat → Int32)} {a_vName : (Nat → Int32)} {a_vDecl : (Nat → Int32)} {a_vKind : (Nat → Int32)} {a_vVal : (Nat → Int64)} {a_sk : (Nat → Int32)} {a_sv : (Nat → Int64)} {a_oKind : (Nat → Int32)} {a_oAt : (Nat → Int32)} {a_oArgs : (Nat → Int32)} {a_cKind : (Nat → Int32)} {a_cA : (Nat → Int32)} {a_cB : (Nat → Int32)} {a_outK : (Nat → Int32)} {a_outV : (Nat → Int64)}
set_option maxHeartbeats 200000 in
theorem de_wY_faulty_22 : ∀ {n : Nat} {x1 : Int32} {f_most : Int32} {f_n : Int32} {f_stored : Int32} {f_nm : Int32} {f_nEnv : Int32} {f_base : Int32} {f_ns : Int32} {f_no : Int32} {f_nc : Int32} {f_pc : Int32} {f_mode : Int32} {f_err : Int32} {f_errAt : Int32} {f_ticks : Int32} {f_calls : Int32} {f_outs : Int32} {f_resK : Int32} {f_part : Int32} {f_resV : Int64} {f_cnt : Int32} {f_full : Int32} {f_flag : Int32} {f_need : Int32} {a_tk : (Nat → Int32)} {a_tv : (Nat → Int64)} {a_tp : (Nat → Int32)} {a_mName : (Nat → Int32)} {a_mKind : (Nat → Int32)} {a_mCount : (Nat → Int32)} {a_mPar : (Nat → Int32)} {a_mAt : (Nat → Int32)} {a_vName : (Nat → Int32)} {a_vDecl : (Nat → Int32)} {a_vKind : (Nat → Int32)} {a_vVal : (Nat → Int64)} {a_sk : (Nat → Int32)} {a_sv : (Nat → Int64)} {a_oKind : (Nat → Int32)} {a_oAt : (Nat → Int32)} {a_oArgs : (Nat → Int32)} {a_cKind : (Nat → Int32)} {a_cA : (Nat → Int32)} {a_cB : (Nat → Int32)} {a_outK : (Nat → Int32)} {a_outV : (Nat → Int64)}, de_D de_a2 (fun post => wY_faulty_22 post n x1 f_most f_n f_stored f_nm f_nEnv f_base f_ns f_no f_nc f_pc f_mode f_err f_errAt f_ticks f_calls f_outs f_resK f_part f_resV f_cnt f_full f_flag f_need a_tk a_tv a_tp a_mName a_mKind a_mCount a_mPar a_mAt a_vName a_vDecl a_vKind a_vVal a_sk a_sv a_oKind a_oAt a_oArgs a_cKind a_cA a_cB a_outK a_outV) := by
  intro n
  induction n with
  | zero => intros; exact de_no
  | succ n ih =>
    intros
    unfold wY_faulty_22 wY_faulty_59
    try dsimp only
    repeat' first
     | with_reducible exact de_p2
     | with_reducible exact de_p1
     | with_reducible exact de_p0
     | with_reducible exact de_no
     | with_reducible exact ih
     | with_reducible exact de_wY_faulty_86
     | with_reducible exact de_wpY_finished
     | with_reducible exact de_wpY_goesOn
     | with_reducible refine de_br (fun _ => ?_) (fun _ => ?_)
     | with_reducible refine de_nm ?_
     | with_reducible refine de_and (fun _ => ?_)
     | with_reducible refine de_ex (fun _ => ?_)
     | ((with_reducible refine dc_wpY_finished (fun _ w => ?_)); obtain ⟨w0, w1, w2, w3, w4, w5, w6, w7, w8, w9, w10, w11, w12, w13, w14, w15, w16, w17, w18, w19, w20, w21, w22, w23, w24, w25, w26, w27, w28, w29, w30, w31, w32, w33, w34, w35, w36, w37, w38, w39, w40, w41, w42, w43, w44⟩ := w; try dsimp only)
     | ((with_reducible refine dc_wpY_goesOn (fun _ w => ?_)); obtain ⟨w0, w1, w2, w3, w4, w5, w6, w7, w8, w9, w10, w11, w12, w13, w14, w15, w16, w17, w18, w19, w20, w21, w22, w23, w24, w25, w26, w27, w28, w29, w30, w31, w32, w33, w34, w35, w36, w37, w38, w39, w40, w41, w42, w43, w44⟩ := w; try dsimp only)
end
section
variable {u : SY}
set_option maxHeartbeats 200000 in
theorem de_wpY_faulty : de_D de_a2 (fun post => wpY_faulty post u) := by
  obtain ⟨f_most, f_n, f_stored, f_nm, f_nEnv, f_base, f_ns, f_no, f_nc, f_pc, f_mode, f_err, f_errAt, f_ticks, f_calls, f_outs, f_resK, f_part, f_resV, f_cnt, f_full, f_flag, f_need, a_tk, a_tv, a_tp, a_mName, a_mKind, a_mCount, a_mPar, a_mAt, a_vName, a_vDecl, a_vKind, a_vVal, a_sk, a_sv, a_oKind, a_oAt, a_oArgs, a_cKind, a_cA, a_cB, a_outK, a_outV⟩ := u
  unfold wpY_faulty
  try dsimp only
  repeat' first
   | with_reducible exact de_p2
   | with_reducible exact de_p1
   | with_reducible exact de_p0
   | with_reducible exact de_no
   | with_reducible exact de_wY_faulty_22
   | with_reducible refine de_br (fun _ => ?_) (fun _ => ?_)
   | with_reducible refine de_nm ?_
   | with_reducible refine de_and (fun _ => ?_)
   | with_reducible refine de_ex (fun _ => ?_)
variable {A π : Type} {ap : A → π → Prop}
set_option maxHeartbeats 200000 in
theorem dc_wpY_faulty {K : π → Int32 → SY → Prop} (g : ∀ r w, de_D ap (fun P => K P r w)) : de_D ap (fun P => wpY_faulty (fun r w => K P r w) u) := de_c2 (W := fun post => wpY_faulty post u) de_wpY_faulty g
end
