/-! ===== pack and unpack: what the loops need; the reference's unpack laid out ===== -/
theorem zk_SR2 (so : Nat → Int32) (mi : Nat → Bool) (co : Nat → Int64) (ex : Nat → Int32) (i : Nat) (b : Bool) (x : Int64) : S_X2_read so mi co ex i b x := by
  unfold S_X2_read
  intro z103 _ n105 _
  refine ite_P (fun _ => trivial) (fun _ => ite_P (fun _ => trivial) (fun _ => ite_P (fun _ => ?_) (fun _ => trivial)))
  unfold S_X2_readDigits
  intro z104 _ z107 _ n109 _ z112 _
  rw [zk_rd]
  rfl
theorem zk_SR4 {kd : Int32} {ng : Bool} {cc : Int64} {qq : Int32} {ks : Nat → Int32} {ms : Nat → Bool} {cs : Nat → Int64} {es : Nat → Int32} {p0 p1 : Int32} {x : Int64} (hp : ¬ F_X4_noRegister p0 = true → vp_in p0 8) : S_X4_unpack kd ng cc qq ks ms cs es p0 p1 x := by
  unfold S_X4_unpack
  intro z106 hz
  refine ite_P (fun h => ?_) (fun _ => trivial)
  have hr : ¬ F_X4_noRegister p0 = true := by
    intro h9
    have : Z_X4_unpack_J_107 p0 p1 = 1 := by unfold Z_X4_unpack_J_107; rw [if_pos h9]
    rw [hz, this] at h
    exact absurd h (by decide)
  intro z112 _ n114 _ z117 _
  refine ⟨ite_P (fun _ => trivial) (fun _ => ite_P (fun _ => trivial) (fun _ => ite_P (fun _ => trivial) (fun _ => ?_))), fun z162 _ => hp hr⟩
  intro z124 _ z128 _ n130 _
  rw [zk_md]
  rfl
theorem zk_unpack {kd : Int32} {ng : Bool} {cc : Int64} {qq : Int32} {ks : Nat → Int32} {ms : Nat → Bool} {cs : Nat → Int64} {es : Nat → Int32} {p0 p1 : Int32} {x : Int64} (h0 : ¬ F_X4_noRegister p0 = true) (hw : p1 = 0 ∨ p1 = 1) :
    F_X4_unpack kd ng cc qq ks ms cs es p0 p1 x = (0, (zU p1 x).1, (zU p1 x).2.1, (zU p1 x).2.2.1, (zU p1 x).2.2.2, zP ks ms cs es p0.toNatClampNeg (zU p1 x)) := by
  have hz : Z_X4_unpack_J_107 p0 p1 = 0 := by
    unfold Z_X4_unpack_J_107
    rw [if_neg h0]
    rcases hw with h | h <;> subst h <;> decide
  have hu : zU p1 x = Z_X4_unpack_J_163 p1 x (Z_X4_unpack_J_113 x) ((jshrL x 58 &&& 31).toInt32) (Z_X4_unpack_J_118 ((jshrL x 58 &&& 31).toInt32)) := by rw [zk_zw]; rfl
  rw [hu]
  unfold F_X4_unpack bnd
  dsimp only
  rw [hz, if_pos (show (0 : Int32) = 0 from rfl)]
  rfl
theorem zk_unbad {kd : Int32} {ng : Bool} {cc : Int64} {qq : Int32} {ks : Nat → Int32} {ms : Nat → Bool} {cs : Nat → Int64} {es : Nat → Int32} {p0 p1 : Int32} {x : Int64} (h : ¬ Z_X4_unpack_J_107 p0 p1 = 0) :
    F_X4_unpack kd ng cc qq ks ms cs es p0 p1 x = (Z_X4_unpack_J_107 p0 p1, kd, ng, cc, qq, ks, ms, cs, es) := by
  unfold F_X4_unpack bnd
  dsimp only
  rw [if_neg h]
theorem zk_pabad {ks : Nat → Int32} {ms : Nat → Bool} {cs : Nat → Int64} {es : Nat → Int32} {p0 p1 : Int32} (h : ¬ Z_X4_pack_J_107 p0 p1 = 0) : F_X4_pack ks ms cs es p0 p1 = (0, Z_X4_pack_J_107 p0 p1) := by
  unfold F_X4_pack bnd
  dsimp only
  rw [if_neg h]
/-- the class' way and the reference's -/
theorem zk_way {p1 : Int32} (hw : p1 = 0 ∨ p1 = 1) : Z_X3_pack_ok_J_108 p1 = (if p1 = 0 then false else true) ∧ Z_X3_unpack_ok_J_108 p1 = (if p1 = 0 then false else true) := by
  rcases hw with h | h <;> subst h <;> decide
theorem zk_reg {p0 : Int32} : (¬ F_X4_noRegister p0 = true) ↔ vp_in p0 8 := by
  have h7 : (7 : Int32).toInt = 7 := by decide
  have h00 : (0 : Int32).toInt = 0 := by decide
  have h8 : p0.toNatClampNeg = p0.toInt.toNat := rfl
  unfold F_X4_noRegister vp_in
  by_cases h1 : p0 < 0
  · rw [if_pos h1]
    exact ⟨fun h => absurd rfl h, fun h => absurd (Or.inl h1) h⟩
  · rw [if_neg h1]
    have h1b := h1
    rw [ti_lt, h00] at h1b
    by_cases h2 : p0 ≤ 7
    · rw [if_pos h2]
      rw [ti_le, h7] at h2
      exact ⟨fun _ h => h.elim h1 (fun h9 => by rw [h8] at h9; omega), fun _ => by decide⟩
    · rw [if_neg h2]
      rw [ti_le, h7] at h2
      exact ⟨fun h => absurd rfl h, fun h => absurd (Or.inr (by rw [h8]; omega)) h⟩
theorem zk_in2 {p1 : Int32} : vp_in p1 2 ↔ (p1 = 0 ∨ p1 = 1) := by
  have h00 : (0 : Int32).toInt = 0 := by decide
  have h01 : (1 : Int32).toInt = 1 := by decide
  have h8 : p1.toNatClampNeg = p1.toInt.toNat := rfl
  unfold vp_in
  rw [ti_lt, h8, ti_eq (a := p1), ti_eq (a := p1), h00, h01]
  omega
