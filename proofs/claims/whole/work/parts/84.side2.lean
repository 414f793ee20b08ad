/-! ===== both objects side by side: the calls that answer ===== -/
theorem st_01 : vp_in (0 : Int32) 1 := by unfold vp_in; decide
theorem st_up0 {vou : Nat → Int64} {x : Int64} : va_up vou (0 : Int32).toNatClampNeg x 0 = x := by
  rw [show (0 : Int32).toNatClampNeg = 0 by decide]
  exact if_pos rfl
section ST2
variable {l : Launch} {D : va_G} {cR cI cJ cZ : ClassId} {ax ar ao : Nat} {ad : Nat → Nat} {am ak an ac ae ag aq : Nat} {t0 : Nat} {sv : Nat → Nat} {aw : Nat} {vou : Nat → Int64} {th : Int32} {w wm : va_W}
theorem st_kind (hl0 : l.stackTraces = false) (h : LR cR cI cJ cZ ax ar ao ad am ak an ac ae ag aq th w wm) (p1 : Int32) : ST1 l D cR cI cJ cZ ax ar ao ad am ak an ac ae ag aq aw vou t0 sv yL_kind cL_kind 4 [(0, 9, 12, 13)] rm_L_kind 1 yX4_kind cX4_kind 2 rm_X4_kind [.int p1] w wm := by
  obtain ⟨rd, tr, sd, so, mi, co, ex, ks, ms, cs, es, hR, ⟨rn, om, oh, ol, op, oe, ow, ok, os, rfl⟩, ⟨kd, ng, cc, qq, rs, ct, un, re, dg, og, rfl⟩⟩ := h
  by_cases h1 : vp_in p1 8
  · exact ⟨0, F_X3_kind_ok so mi p1, va_up vou (0 : Int32).toNatClampNeg (F_X3_kind_ok so mi p1).toInt64, _, _, c_L_kind_ok l hl0 D cR cI cJ cZ t0 sv ax ar ao ad aw rd tr sd rn om oh ol op oe ow ok os so mi co ex vou p1 (0, va_up vou (0 : Int32).toNatClampNeg (F_X3_kind_ok so mi p1).toInt64) rfl ⟨h1, fun _ _ _ _ => st_01⟩, c_X4_kind l D cR cI cJ cZ t0 am ak an ac ae ag aq th rd sd tr kd ng cc qq rs ct un re ks ms cs es dg og p1 (F_X3_kind_ok so mi p1, 0) (rs_kind hR h1).symm (rs_Skind p1), ⟨_, _, _, _, _, _, _, _, _, _, _, hR, ⟨_, _, _, _, _, _, _, _, _, rfl⟩, ⟨_, _, _, _, _, _, _, _, _, _, rfl⟩⟩, fun _ => st_up0⟩
  · have e : Z_X4_kind_J_105 p1 = true := by unfold Z_X4_kind_J_105; exact if_pos (cs_no h1)
    have hF : F_X4_kind ks ms p1 = (0, 1) := by
      unfold F_X4_kind bnd
      dsimp only
      rw [e]
      rfl
    have hS : S_X4_kind ks ms p1 := by
      unfold S_X4_kind
      intro z hz
      refine ite_P (fun h9 => ?_) (fun _ => trivial)
      rw [hz, e] at h9
      exact absurd h9 (by decide)
    exact ⟨1, 0, vou, _, _, c_L_kind_b0 l hl0 D cR cI cJ cZ t0 sv ax ar ao ad aw rd tr sd rn om oh ol op oe ow ok os so mi co ex vou p1 1 rfl h1, c_X4_kind l D cR cI cJ cZ t0 am ak an ac ae ag aq th rd sd tr kd ng cc qq rs ct un re ks ms cs es dg og p1 _ hF.symm hS, ⟨_, _, _, _, _, _, _, _, _, _, _, hR, ⟨_, _, _, _, _, _, _, _, _, rfl⟩, ⟨_, _, _, _, _, _, _, _, _, _, rfl⟩⟩, fun h9 => absurd h9 (by decide)⟩
theorem st_coefficient (hl0 : l.stackTraces = false) (h : LR cR cI cJ cZ ax ar ao ad am ak an ac ae ag aq th w wm) (p1 : Int32) : ST2 l D cR cI cJ cZ ax ar ao ad am ak an ac ae ag aq aw vou t0 sv yL_coefficient cL_coefficient 4 [(0, 8, 11, 13)] rm_L_coefficient 1 yX4_coefficient cX4_coefficient 2 rm_X4_coefficient [.int p1] w wm := by
  obtain ⟨rd, tr, sd, so, mi, co, ex, ks, ms, cs, es, hR, ⟨rn, om, oh, ol, op, oe, ow, ok, os, rfl⟩, ⟨kd, ng, cc, qq, rs, ct, un, re, dg, og, rfl⟩⟩ := h
  by_cases h1 : vp_in p1 8
  · exact ⟨0, F_X3_coefficient_ok co p1, va_up vou (0 : Int32).toNatClampNeg (F_X3_coefficient_ok co p1), _, _, c_L_coefficient_ok l hl0 D cR cI cJ cZ t0 sv ax ar ao ad aw rd tr sd rn om oh ol op oe ow ok os so mi co ex vou p1 (0, va_up vou (0 : Int32).toNatClampNeg (F_X3_coefficient_ok co p1)) rfl ⟨h1, fun _ _ => st_01⟩, c_X4_coefficient l D cR cI cJ cZ t0 am ak an ac ae ag aq th rd sd tr kd ng cc qq rs ct un re ks ms cs es dg og p1 (F_X3_coefficient_ok co p1, 0) (rs_coef hR h1).1.symm (rs_coef hR h1).2, ⟨_, _, _, _, _, _, _, _, _, _, _, hR, ⟨_, _, _, _, _, _, _, _, _, rfl⟩, ⟨_, _, _, _, _, _, _, _, _, _, rfl⟩⟩, fun _ => st_up0⟩
  · have e : Z_X4_coefficient_J_105 p1 = true := by unfold Z_X4_coefficient_J_105; exact if_pos (cs_no h1)
    have hF : F_X4_coefficient ks cs p1 = (0, 1) := by
      unfold F_X4_coefficient bnd
      dsimp only
      rw [e]
      rfl
    have hS : S_X4_coefficient ks cs p1 := by
      unfold S_X4_coefficient
      intro z hz
      refine ite_P (fun h9 => ?_) (fun _ => trivial)
      rw [hz, e] at h9
      exact absurd h9 (by decide)
    exact ⟨1, 0, vou, _, _, c_L_coefficient_b0 l hl0 D cR cI cJ cZ t0 sv ax ar ao ad aw rd tr sd rn om oh ol op oe ow ok os so mi co ex vou p1 1 rfl h1, c_X4_coefficient l D cR cI cJ cZ t0 am ak an ac ae ag aq th rd sd tr kd ng cc qq rs ct un re ks ms cs es dg og p1 _ hF.symm hS, ⟨_, _, _, _, _, _, _, _, _, _, _, hR, ⟨_, _, _, _, _, _, _, _, _, rfl⟩, ⟨_, _, _, _, _, _, _, _, _, _, rfl⟩⟩, fun h9 => absurd h9 (by decide)⟩
theorem st_exponent (hl0 : l.stackTraces = false) (h : LR cR cI cJ cZ ax ar ao ad am ak an ac ae ag aq th w wm) (p1 : Int32) : ST1 l D cR cI cJ cZ ax ar ao ad am ak an ac ae ag aq aw vou t0 sv yL_exponent cL_exponent 4 [(0, 9, 12, 13)] rm_L_exponent 1 yX4_exponent cX4_exponent 2 rm_X4_exponent [.int p1] w wm := by
  obtain ⟨rd, tr, sd, so, mi, co, ex, ks, ms, cs, es, hR, ⟨rn, om, oh, ol, op, oe, ow, ok, os, rfl⟩, ⟨kd, ng, cc, qq, rs, ct, un, re, dg, og, rfl⟩⟩ := h
  by_cases h1 : vp_in p1 8
  · exact ⟨0, F_X3_exponent_ok ex p1, va_up vou (0 : Int32).toNatClampNeg (F_X3_exponent_ok ex p1).toInt64, _, _, c_L_exponent_ok l hl0 D cR cI cJ cZ t0 sv ax ar ao ad aw rd tr sd rn om oh ol op oe ow ok os so mi co ex vou p1 (0, va_up vou (0 : Int32).toNatClampNeg (F_X3_exponent_ok ex p1).toInt64) rfl ⟨h1, fun _ _ _ _ => st_01⟩, c_X4_exponent l D cR cI cJ cZ t0 am ak an ac ae ag aq th rd sd tr kd ng cc qq rs ct un re ks ms cs es dg og p1 (F_X3_exponent_ok ex p1, 0) (rs_expo hR h1).1.symm (rs_expo hR h1).2, ⟨_, _, _, _, _, _, _, _, _, _, _, hR, ⟨_, _, _, _, _, _, _, _, _, rfl⟩, ⟨_, _, _, _, _, _, _, _, _, _, rfl⟩⟩, fun _ => st_up0⟩
  · have e : Z_X4_exponent_J_105 p1 = true := by unfold Z_X4_exponent_J_105; exact if_pos (cs_no h1)
    have hF : F_X4_exponent ks es p1 = (0, 1) := by
      unfold F_X4_exponent bnd
      dsimp only
      rw [e]
      rfl
    have hS : S_X4_exponent ks es p1 := by
      unfold S_X4_exponent
      intro z hz
      refine ite_P (fun h9 => ?_) (fun _ => trivial)
      rw [hz, e] at h9
      exact absurd h9 (by decide)
    exact ⟨1, 0, vou, _, _, c_L_exponent_b0 l hl0 D cR cI cJ cZ t0 sv ax ar ao ad aw rd tr sd rn om oh ol op oe ow ok os so mi co ex vou p1 1 rfl h1, c_X4_exponent l D cR cI cJ cZ t0 am ak an ac ae ag aq th rd sd tr kd ng cc qq rs ct un re ks ms cs es dg og p1 _ hF.symm hS, ⟨_, _, _, _, _, _, _, _, _, _, _, hR, ⟨_, _, _, _, _, _, _, _, _, rfl⟩, ⟨_, _, _, _, _, _, _, _, _, _, rfl⟩⟩, fun h9 => absurd h9 (by decide)⟩
theorem st_compare (hl0 : l.stackTraces = false) (h : LR cR cI cJ cZ ax ar ao ad am ak an ac ae ag aq th w wm) (p1 p2 : Int32) : ST1 l D cR cI cJ cZ ax ar ao ad am ak an ac ae ag aq aw vou t0 sv yL_compare cL_compare 5 [(0, 10, 13, 13)] rm_L_compare 2 yX4_compare cX4_compare 3 rm_X4_compare [.int p1, .int p2] w wm := by
  obtain ⟨rd, tr, sd, so, mi, co, ex, ks, ms, cs, es, hR, ⟨rn, om, oh, ol, op, oe, ow, ok, os, rfl⟩, ⟨kd, ng, cc, qq, rs, ct, un, re, dg, og, rfl⟩⟩ := h
  have hbad : Z_X4_compare_J_107 p1 p2 = true → F_X4_compare ks ms cs es p1 p2 = (0, 1) ∧ S_X4_compare ks ms cs es p1 p2 := by
    intro e
    refine ⟨?_, ?_⟩
    · unfold F_X4_compare bnd
      dsimp only
      rw [e]
      rfl
    · unfold S_X4_compare
      intro z hz
      refine ite_P (fun h9 => ?_) (fun _ => trivial)
      rw [hz, e] at h9
      exact absurd h9 (by decide)
  by_cases h1 : vp_in p1 8
  · by_cases h2 : vp_in p2 8
    · obtain ⟨e1, e2, e3⟩ := rs_cmp hR h1 h2
      exact ⟨0, F_X3_compare_ok so mi co ex p1 p2, va_up vou (0 : Int32).toNatClampNeg (F_X3_compare_ok so mi co ex p1 p2).toInt64, _, _, c_L_compare_ok l hl0 D cR cI cJ cZ t0 sv ax ar ao ad aw rd tr sd rn om oh ol op oe ow ok os so mi co ex vou p1 p2 (0, va_up vou (0 : Int32).toNatClampNeg (F_X3_compare_ok so mi co ex p1 p2).toInt64) rfl ⟨e3, fun _ _ _ _ => st_01⟩, c_X4_compare l D cR cI cJ cZ t0 am ak an ac ae ag aq th rd sd tr kd ng cc qq rs ct un re ks ms cs es dg og p1 p2 _ e1.symm e2, ⟨_, _, _, _, _, _, _, _, _, _, _, hR, ⟨_, _, _, _, _, _, _, _, _, rfl⟩, ⟨_, _, _, _, _, _, _, _, _, _, rfl⟩⟩, fun _ => st_up0⟩
    · obtain ⟨hF, hS⟩ := hbad (by unfold Z_X4_compare_J_107; rw [if_neg (zk_reg.mpr h1)]; exact if_pos (cs_no h2))
      exact ⟨1, 0, vou, _, _, c_L_compare_b1 l hl0 D cR cI cJ cZ t0 sv ax ar ao ad aw rd tr sd rn om oh ol op oe ow ok os so mi co ex vou p1 p2 1 rfl ⟨h1, h2⟩, c_X4_compare l D cR cI cJ cZ t0 am ak an ac ae ag aq th rd sd tr kd ng cc qq rs ct un re ks ms cs es dg og p1 p2 _ hF.symm hS, ⟨_, _, _, _, _, _, _, _, _, _, _, hR, ⟨_, _, _, _, _, _, _, _, _, rfl⟩, ⟨_, _, _, _, _, _, _, _, _, _, rfl⟩⟩, fun h9 => absurd h9 (by decide)⟩
  · obtain ⟨hF, hS⟩ := hbad (by unfold Z_X4_compare_J_107; exact if_pos (cs_no h1))
    exact ⟨1, 0, vou, _, _, c_L_compare_b0 l hl0 D cR cI cJ cZ t0 sv ax ar ao ad aw rd tr sd rn om oh ol op oe ow ok os so mi co ex vou p1 p2 1 rfl h1, c_X4_compare l D cR cI cJ cZ t0 am ak an ac ae ag aq th rd sd tr kd ng cc qq rs ct un re ks ms cs es dg og p1 p2 _ hF.symm hS, ⟨_, _, _, _, _, _, _, _, _, _, _, hR, ⟨_, _, _, _, _, _, _, _, _, rfl⟩, ⟨_, _, _, _, _, _, _, _, _, _, rfl⟩⟩, fun h9 => absurd h9 (by decide)⟩
theorem st_pack (hl0 : l.stackTraces = false) (h : LR cR cI cJ cZ ax ar ao ad am ak an ac ae ag aq th w wm) (p1 p2 : Int32) : ST2 l D cR cI cJ cZ ax ar ao ad am ak an ac ae ag aq aw vou t0 sv yL_pack cL_pack 5 [(0, 9, 12, 13), (0, 9, 16, 15)] rm_L_pack 2 yX4_pack cX4_pack 9 rm_X4_pack [.int p1, .int p2] w wm := by
  obtain ⟨rd, tr, sd, so, mi, co, ex, ks, ms, cs, es, hR, ⟨rn, om, oh, ol, op, oe, ow, ok, os, rfl⟩, ⟨kd, ng, cc, qq, rs, ct, un, re, dg, og, rfl⟩⟩ := h
  have hS : S_X4_pack ks ms cs es p1 p2 := zk_SX4 (fun h => zk_reg.mp h)
  rcases cs_pack p1 p2 with ⟨⟨h1, h2⟩, hz⟩ | ⟨hs, hz⟩ | ⟨hs, hz⟩
  · exact ⟨0, F_X3_pack_ok so mi co ex p1 p2, va_up vou (0 : Int32).toNatClampNeg (F_X3_pack_ok so mi co ex p1 p2), _, _, c_L_pack_ok l hl0 D cR cI cJ cZ t0 sv ax ar ao ad aw rd tr sd rn om oh ol op oe ow ok os so mi co ex vou p1 p2 (0, va_up vou (0 : Int32).toNatClampNeg (F_X3_pack_ok so mi co ex p1 p2)) rfl ⟨⟨h1, h2, fun _ _ => zk_SX2 _⟩, fun _ _ => st_01⟩, c_X4_pack l D cR cI cJ cZ t0 am ak an ac ae ag aq th rd sd tr kd ng cc qq rs ct un re ks ms cs es dg og p1 p2 _ (rs_pack hR h1 h2).symm hS, ⟨_, _, _, _, _, _, _, _, _, _, _, hR, ⟨_, _, _, _, _, _, _, _, _, rfl⟩, ⟨_, _, _, _, _, _, _, _, _, _, rfl⟩⟩, fun _ => st_up0⟩
  · exact ⟨1, 0, vou, _, _, c_L_pack_b0 l hl0 D cR cI cJ cZ t0 sv ax ar ao ad aw rd tr sd rn om oh ol op oe ow ok os so mi co ex vou p1 p2 1 rfl hs, c_X4_pack l D cR cI cJ cZ t0 am ak an ac ae ag aq th rd sd tr kd ng cc qq rs ct un re ks ms cs es dg og p1 p2 _ ((zk_pabad (by rw [hz]; decide)).trans (by rw [hz])).symm hS, ⟨_, _, _, _, _, _, _, _, _, _, _, hR, ⟨_, _, _, _, _, _, _, _, _, rfl⟩, ⟨_, _, _, _, _, _, _, _, _, _, rfl⟩⟩, fun h9 => absurd h9 (by decide)⟩
  · exact ⟨2, 0, vou, _, _, c_L_pack_b1 l hl0 D cR cI cJ cZ t0 sv ax ar ao ad aw rd tr sd rn om oh ol op oe ow ok os so mi co ex vou p1 p2 2 rfl hs, c_X4_pack l D cR cI cJ cZ t0 am ak an ac ae ag aq th rd sd tr kd ng cc qq rs ct un re ks ms cs es dg og p1 p2 _ ((zk_pabad (by rw [hz]; decide)).trans (by rw [hz])).symm hS, ⟨_, _, _, _, _, _, _, _, _, _, _, hR, ⟨_, _, _, _, _, _, _, _, _, rfl⟩, ⟨_, _, _, _, _, _, _, _, _, _, rfl⟩⟩, fun h9 => absurd h9 (by decide)⟩
end ST2
