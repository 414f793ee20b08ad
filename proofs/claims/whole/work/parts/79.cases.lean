/-! ===== which way a call goes, on both sides ===== -/
theorem cs_put (so : Nat → Int32) (mi : Nat → Bool) (co : Nat → Int64) (ex : Nat → Int32) (p0 : Int32) (b : Bool) (x : Int64) (e : Int32) : (S_X3_put_ok so mi co ex p0 b x e ∧ Z_X4_put_J_109 p0 x e = 0) ∨ (S_X3_put_b0 p0 b x e ∧ Z_X4_put_J_109 p0 x e = 1) ∨ (S_X3_put_b1 p0 b x e ∧ Z_X4_put_J_109 p0 x e = 2) ∨ (S_X3_put_b2 p0 b x e ∧ Z_X4_put_J_109 p0 x e = 2) ∨ (S_X3_put_b3 p0 b x e ∧ Z_X4_put_J_109 p0 x e = 2) ∨ (S_X3_put_b4 p0 b x e ∧ Z_X4_put_J_109 p0 x e = 2) := by
  unfold S_X3_put_ok S_X3_put_b0 S_X3_put_b1 S_X3_put_b2 S_X3_put_b3 S_X3_put_b4 Z_X4_put_J_109
  by_cases h0 : vp_in p0 8
  · rw [if_neg (zk_reg.mpr h0)]
    by_cases h1 : x < 0
    · rw [if_pos h1]
      exact Or.inr (Or.inr (Or.inl ⟨⟨h0, h1⟩, rfl⟩))
    · rw [if_neg h1]
      by_cases h2 : x < 10000000000000000
      · rw [if_neg (fun h9 => by rw [tl_le] at h9; rw [tl_lt] at h2; omega)]
        by_cases h3 : e < (-398)
        · rw [if_pos h3]
          exact Or.inr (Or.inr (Or.inr (Or.inr (Or.inl ⟨⟨h0, h1, h2, h3⟩, rfl⟩))))
        · rw [if_neg h3]
          by_cases h4 : e ≤ 369
          · rw [if_pos h4]
            exact Or.inl ⟨⟨h0, h1, h2, h3, h4⟩, rfl⟩
          · rw [if_neg h4]
            exact Or.inr (Or.inr (Or.inr (Or.inr (Or.inr ⟨⟨h0, h1, h2, h3, h4⟩, rfl⟩))))
      · rw [if_pos (show (10000000000000000 : Int64) ≤ x by rw [tl_le]; rw [tl_lt] at h2; omega)]
        exact Or.inr (Or.inr (Or.inr (Or.inl ⟨⟨h0, h1, h2⟩, rfl⟩)))
  · have h9 : F_X4_noRegister p0 = true := by
      cases hc : F_X4_noRegister p0 with
      | true => rfl
      | false => exact absurd (zk_reg.mp (by rw [hc]; decide)) h0
    rw [if_pos h9]
    exact Or.inr (Or.inl ⟨h0, rfl⟩)
theorem cs_no {p0 : Int32} (h : ¬ vp_in p0 8) : F_X4_noRegister p0 = true := by
  cases hc : F_X4_noRegister p0 with
  | true => rfl
  | false => exact absurd (zk_reg.mp (by rw [hc]; decide)) h
theorem cs_apply (p0 p1 p2 p3 : Int32) : ((vp_in p1 8 ∧ vp_in p2 8 ∧ vp_in p3 8 ∧ ¬ p0 < 0 ∧ p0 ≤ 6) ∧ Z_X4_apply_J_111 p0 p1 p2 p3 = 0) ∨ (S_X3_apply_b0 p0 p1 p2 p3 ∧ Z_X4_apply_J_111 p0 p1 p2 p3 = 1) ∨ (S_X3_apply_b1 p0 p1 p2 p3 ∧ Z_X4_apply_J_111 p0 p1 p2 p3 = 1) ∨ (S_X3_apply_b2 p0 p1 p2 p3 ∧ Z_X4_apply_J_111 p0 p1 p2 p3 = 1) ∨ (S_X3_apply_b3 p0 p1 p2 p3 ∧ Z_X4_apply_J_111 p0 p1 p2 p3 = 2) ∨ (S_X3_apply_b4 p0 p1 p2 p3 ∧ Z_X4_apply_J_111 p0 p1 p2 p3 = 2) := by
  unfold S_X3_apply_b0 S_X3_apply_b1 S_X3_apply_b2 S_X3_apply_b3 S_X3_apply_b4 Z_X4_apply_J_111
  by_cases h1 : vp_in p1 8
  · rw [if_neg (zk_reg.mpr h1)]
    by_cases h2 : vp_in p2 8
    · rw [if_neg (zk_reg.mpr h2)]
      by_cases h3 : vp_in p3 8
      · rw [if_neg (zk_reg.mpr h3)]
        by_cases h4 : p0 < 0
        · rw [if_pos h4]
          exact Or.inr (Or.inr (Or.inr (Or.inr (Or.inl ⟨⟨h1, h2, h3, h4⟩, rfl⟩))))
        · rw [if_neg h4]
          by_cases h5 : p0 ≤ 6
          · rw [if_pos h5]
            exact Or.inl ⟨⟨h1, h2, h3, h4, h5⟩, rfl⟩
          · rw [if_neg h5]
            exact Or.inr (Or.inr (Or.inr (Or.inr (Or.inr ⟨⟨h1, h2, h3, h4, h5⟩, rfl⟩))))
      · rw [if_pos (cs_no h3)]
        exact Or.inr (Or.inr (Or.inr (Or.inl ⟨⟨h1, h2, h3⟩, rfl⟩)))
    · rw [if_pos (cs_no h2)]
      exact Or.inr (Or.inr (Or.inl ⟨⟨h1, h2⟩, rfl⟩))
  · rw [if_pos (cs_no h1)]
    exact Or.inr (Or.inl ⟨h1, rfl⟩)
theorem cs_pack (p0 p1 : Int32) : ((vp_in p0 8 ∧ vp_in p1 2) ∧ Z_X4_pack_J_107 p0 p1 = 0) ∨ (S_X3_pack_b0 p0 p1 ∧ Z_X4_pack_J_107 p0 p1 = 1) ∨ (S_X3_pack_b1 p0 p1 ∧ Z_X4_pack_J_107 p0 p1 = 2) := by
  unfold S_X3_pack_b0 S_X3_pack_b1 Z_X4_pack_J_107
  by_cases h1 : vp_in p0 8
  · rw [if_neg (zk_reg.mpr h1)]
    by_cases h2 : vp_in p1 2
    · refine Or.inl ⟨⟨h1, h2⟩, ?_⟩
      rcases zk_in2.mp h2 with h | h <;> subst h <;> decide
    · refine Or.inr (Or.inr ⟨⟨h1, h2⟩, ?_⟩)
      have h00 : (0 : Int32).toInt = 0 := by decide
      have h01 : (1 : Int32).toInt = 1 := by decide
      by_cases h3 : p1 < 0
      · rw [if_pos h3]
      · rw [if_neg h3, if_neg (fun h4 => h2 (zk_in2.mpr (by rw [ti_eq (a := p1), ti_eq (a := p1), h00, h01]; rw [ti_lt, h00] at h3; rw [ti_le, h01] at h4; omega)))]
  · rw [if_pos (cs_no h1)]
    exact Or.inr (Or.inl ⟨h1, rfl⟩)
theorem cs_mode (p0 : Int32) : (S_X3_mode_ok p0 ∧ Z_X4_mode_J_105 p0 = false) ∨ (S_X3_mode_b1 p0 ∧ Z_X4_mode_J_105 p0 = true) ∨ (S_X3_mode_b2 p0 ∧ Z_X4_mode_J_105 p0 = true) := by
  unfold S_X3_mode_ok S_X3_mode_b1 S_X3_mode_b2 Z_X4_mode_J_105
  by_cases h1 : p0 < 0
  · rw [if_pos h1]
    exact Or.inr (Or.inl ⟨h1, rfl⟩)
  · rw [if_neg h1]
    by_cases h2 : p0 ≤ 4
    · rw [if_pos h2]
      exact Or.inl ⟨⟨h1, h2⟩, rfl⟩
    · rw [if_neg h2]
      exact Or.inr (Or.inr ⟨⟨h1, h2⟩, rfl⟩)
theorem cs_trap (p0 : Int32) : (S_X3_trap_ok p0 ∧ Z_X4_trap_J_105 p0 = false) ∨ (S_X3_trap_b1 p0 ∧ Z_X4_trap_J_105 p0 = true) ∨ (S_X3_trap_b2 p0 ∧ Z_X4_trap_J_105 p0 = true) := by
  unfold S_X3_trap_ok S_X3_trap_b1 S_X3_trap_b2 Z_X4_trap_J_105
  by_cases h1 : p0 < 0
  · rw [if_pos h1]
    exact Or.inr (Or.inl ⟨h1, rfl⟩)
  · rw [if_neg h1]
    by_cases h2 : p0 ≤ 31
    · rw [if_pos h2]
      exact Or.inl ⟨⟨h1, h2⟩, rfl⟩
    · rw [if_neg h2]
      exact Or.inr (Or.inr ⟨⟨h1, h2⟩, rfl⟩)
