/-! ===== the relation: the start, more ways ===== -/
theorem rs_zero : RS (fun _ => 0) (fun _ => false) (fun _ => 0) (fun _ => 0) (fun _ => 0) (fun _ => false) (fun _ => 0) (fun _ => 0) := fun _ _ =>
  ⟨rfl, rfl, rfl, rfl, 0, false, 0, 0, rfl, rfl, rfl, rfl, Or.inl ⟨rfl, by decide, by decide, by decide⟩⟩
theorem rs_Sput {kd : Int32} {ng : Bool} {cc : Int64} {qq : Int32} {ks : Nat → Int32} {ms : Nat → Bool} {cs : Nat → Int64} {es : Nat → Int32} (p0 : Int32) (b : Bool) (x : Int64) (e : Int32) : S_X4_put kd ng cc qq ks ms cs es p0 b x e := by
  unfold S_X4_put
  intro z hz
  refine ite_P (fun h => ?_) (fun _ => trivial)
  intro u _
  show vp_in p0 8
  refine Classical.byContradiction fun h9 => ?_
  have : Z_X4_put_J_109 p0 x e = 1 := by unfold Z_X4_put_J_109; rw [if_pos (cs_no h9)]
  rw [hz, this] at h
  exact absurd h (by decide)
theorem rs_Skind {ks : Nat → Int32} {ms : Nat → Bool} (p0 : Int32) : S_X4_kind ks ms p0 := by
  unfold S_X4_kind
  intro z hz
  refine ite_P (fun h => ?_) (fun _ => trivial)
  refine Classical.byContradiction fun h9 => ?_
  have : Z_X4_kind_J_105 p0 = true := by unfold Z_X4_kind_J_105; rw [if_pos (cs_no h9)]
  rw [hz, this] at h
  exact absurd h (by decide)
theorem cs_unpack (p0 p1 : Int32) (x : Int64) : ((vp_in p0 8 ∧ vp_in p1 2) ∧ Z_X4_unpack_J_107 p0 p1 = 0) ∨ (S_X3_unpack_b0 p0 p1 x ∧ Z_X4_unpack_J_107 p0 p1 = 1) ∨ (S_X3_unpack_b1 p0 p1 x ∧ Z_X4_unpack_J_107 p0 p1 = 2) := cs_pack p0 p1
theorem cs_sum (p0 p1 p2 : Int32) : ((vp_in p0 8 ∧ vp_in p1 8 ∧ vp_in p2 8) ∧ Z_X4_sum_J_109 p0 p1 p2 = false) ∨ (S_X3_sum_b0 p0 p1 p2 ∧ Z_X4_sum_J_109 p0 p1 p2 = true) ∨ (S_X3_sum_b1 p0 p1 p2 ∧ Z_X4_sum_J_109 p0 p1 p2 = true) ∨ (S_X3_sum_b2 p0 p1 p2 ∧ Z_X4_sum_J_109 p0 p1 p2 = true) := by
  unfold S_X3_sum_b0 S_X3_sum_b1 S_X3_sum_b2 Z_X4_sum_J_109
  by_cases h0 : vp_in p0 8
  · rw [if_neg (zk_reg.mpr h0)]
    by_cases h1 : vp_in p1 8
    · rw [if_neg (zk_reg.mpr h1)]
      by_cases h2 : vp_in p2 8
      · rw [if_neg (zk_reg.mpr h2)]
        exact Or.inl ⟨⟨h0, h1, h2⟩, rfl⟩
      · rw [if_pos (cs_no h2)]
        exact Or.inr (Or.inr (Or.inr ⟨⟨h0, h1, h2⟩, rfl⟩))
    · rw [if_pos (cs_no h1)]
      exact Or.inr (Or.inr (Or.inl ⟨⟨h0, h1⟩, rfl⟩))
  · rw [if_pos (cs_no h0)]
    exact Or.inr (Or.inl ⟨h0, rfl⟩)
