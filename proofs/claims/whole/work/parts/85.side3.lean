/-! ===== both objects side by side: apply ===== -/
section ST3
variable {l : Launch} {D : va_G} {cR cI cJ cZ : ClassId} {ax ar ao : Nat} {ad : Nat → Nat} {am ak an ac ae ag aq : Nat} {t0 : Nat} {sv : Nat → Nat} {aw : Nat} {vou : Nat → Int64} {th : Int32} {w wm : va_W}
set_option maxHeartbeats 4000000 in
theorem st_apply (hl0 : l.stackTraces = false) (h : LR cR cI cJ cZ ax ar ao ad am ak an ac ae ag aq th w wm) (p1 p2 p3 p4 : Int32) : ST0 l D cR cI cJ cZ ax ar ao ad am ak an ac ae ag aq t0 sv yL_apply cL_apply 6 [(0, 9, 12, 13), (0, 9, 16, 15), (0, 9, 20, 21)] rm_L_apply 4 yX4_apply cX4_apply 5 rm_X4_apply [.int p1, .int p2, .int p3, .int p4] w wm := by
  obtain ⟨rd, tr, sd, so, mi, co, ex, ks, ms, cs, es, hR, ⟨rn, om, oh, ol, op, oe, ow, ok, os, rfl⟩, ⟨kd, ng, cc, qq, rs, ct, un, re, dg, og, rfl⟩⟩ := h
  have hbad : ∀ z9 : Int32, ¬ z9 = 0 → Z_X4_apply_J_111 p1 p2 p3 p4 = z9 → F_X4_apply rd sd tr kd ng cc qq rs ct un re ks ms cs es dg og p1 p2 p3 p4 = (z9, sd, kd, ng, cc, qq, rs, ct, un, re, ks, ms, cs, es, dg, og) ∧ S_X4_apply rd sd tr kd ng cc qq rs ct un re ks ms cs es dg og p1 p2 p3 p4 := by
    intro z9 h0 hz
    refine ⟨?_, ?_⟩
    · unfold F_X4_apply bnd
      dsimp only
      rw [hz]
      exact if_neg h0
    · unfold S_X4_apply
      intro z8 h8
      exact ite_P (fun h9 => absurd ((hz.symm.trans h8.symm).trans h9) h0) (fun _ => trivial)
  rcases cs_apply p1 p2 p3 p4 with ⟨⟨h1, h2, h3, h4, h5⟩, hz⟩ | ⟨hs, hz⟩ | ⟨hs, hz⟩ | ⟨hs, hz⟩ | ⟨hs, hz⟩ | ⟨hs, hz⟩
  · have h6 : 0 ≤ p1.toInt ∧ p1.toInt ≤ 6 := by
      rw [ti_lt, show (0 : Int32).toInt = 0 by decide] at h4
      rw [ti_le, show (6 : Int32).toInt = 6 by decide] at h5
      omega
    obtain ⟨u, hu⟩ : ∃ u, u = F_X3_operate rd tr sd om oh ol op oe ow ok os so mi co ex p1 p2 p3 p4 := ⟨_, rfl⟩
    obtain ⟨z, hz2⟩ : ∃ z, z = F_X4_operate rd ct un re ks ms cs es dg og p1 p3 p4 := ⟨_, rfl⟩
    obtain ⟨s1, s2, q1, q2, q3, q4⟩ := rs_op hR h6 h1 h2 h3 hu hz2
    have hm : S_X4_apply rd sd tr kd ng cc qq rs ct un re ks ms cs es dg og p1 p2 p3 p4 := by
      unfold S_X4_apply
      intro z8 h8
      exact ite_P (fun _ => ⟨s2, fun _ _ _ _ => ite_P (fun _ => h1) (fun _ => trivial)⟩) (fun _ => trivial)
    by_cases hf : z.2.2.2.2.1 &&& tr = 0
    · have hq := q3 hf
      have e1 : u.1 = true := by rw [q1]; exact decide_eq_true hf
      have hs : S_L_apply_ok rd tr sd om oh ol op oe ow ok os so mi co ex p1 p2 p3 p4 := ⟨h1, h2, h3, h4, h5, s1, fun u9 hu9 => by rw [hu9, ← hu]; exact e1⟩
      have eu : ((0 : Int32), u.2) = F_L_apply_ok rd tr sd om oh ol op oe ow ok os so mi co ex p1 p2 p3 p4 := by
        unfold F_L_apply_ok F_X3_apply_ok bnd
        dsimp only
        rw [← hu]
      have em : (0, u.2.1, z.1, z.2.1, z.2.2.1, z.2.2.2.1, z.2.2.2.2.1, z.2.2.2.2.2.1, z.2.2.2.2.2.2.1, z.2.2.2.2.2.2.2.1, va_up ks p2.toNatClampNeg z.1, va_up ms p2.toNatClampNeg z.2.1, va_up cs p2.toNatClampNeg z.2.2.1, va_up es p2.toNatClampNeg z.2.2.2.1, z.2.2.2.2.2.2.2.2.1, z.2.2.2.2.2.2.2.2.2) = F_X4_apply rd sd tr kd ng cc qq rs ct un re ks ms cs es dg og p1 p2 p3 p4 := by
        unfold F_X4_apply bnd
        dsimp only
        rw [hz, if_pos rfl, ← hz2, if_pos hf, q2]
        unfold F_X4_store bnd
        rfl
      exact ⟨0, _, _, c_L_apply_ok l hl0 D cR cI cJ cZ t0 sv ax ar ao ad rd tr sd rn om oh ol op oe ow ok os so mi co ex p1 p2 p3 p4 _ eu hs, c_X4_apply l D cR cI cJ cZ t0 am ak an ac ae ag aq th rd sd tr kd ng cc qq rs ct un re ks ms cs es dg og p1 p2 p3 p4 _ em hm, ⟨_, _, _, _, _, _, _, _, _, _, _, hq, ⟨_, _, _, _, _, _, _, _, _, rfl⟩, ⟨_, _, _, _, _, _, _, _, _, _, rfl⟩⟩⟩
    · have hq := q4 hf
      have e1 : ¬ u.1 = true := by rw [q1]; exact fun h9 => hf (of_decide_eq_true h9)
      have hs : S_L_apply_b5 rd tr sd om oh ol op oe ow ok os so mi co ex p1 p2 p3 p4 := ⟨h1, h2, h3, h4, h5, s1, fun u9 hu9 => by rw [hu9, ← hu]; exact e1⟩
      have eu : ((3 : Int32), u.2) = F_L_apply_b5 rd tr sd om oh ol op oe ow ok os so mi co ex p1 p2 p3 p4 := by
        unfold F_L_apply_b5 F_X3_apply_b5 bnd
        dsimp only
        rw [← hu]
      have em : (3, u.2.1, z.1, z.2.1, z.2.2.1, z.2.2.2.1, z.2.2.2.2.1, z.2.2.2.2.2.1, z.2.2.2.2.2.2.1, z.2.2.2.2.2.2.2.1, ks, ms, cs, es, z.2.2.2.2.2.2.2.2.1, z.2.2.2.2.2.2.2.2.2) = F_X4_apply rd sd tr kd ng cc qq rs ct un re ks ms cs es dg og p1 p2 p3 p4 := by
        unfold F_X4_apply bnd
        dsimp only
        rw [hz, if_pos rfl, ← hz2, if_neg hf, q2]
      exact ⟨3, _, _, c_L_apply_b5 l hl0 D cR cI cJ cZ t0 sv ax ar ao ad rd tr sd rn om oh ol op oe ow ok os so mi co ex p1 p2 p3 p4 _ eu hs, c_X4_apply l D cR cI cJ cZ t0 am ak an ac ae ag aq th rd sd tr kd ng cc qq rs ct un re ks ms cs es dg og p1 p2 p3 p4 _ em hm, ⟨_, _, _, _, _, _, _, _, _, _, _, hq, ⟨_, _, _, _, _, _, _, _, _, rfl⟩, ⟨_, _, _, _, _, _, _, _, _, _, rfl⟩⟩⟩
  · obtain ⟨hF, hS⟩ := hbad _ (by decide) hz
    exact ⟨1, _, _, c_L_apply_b0 l hl0 D cR cI cJ cZ t0 sv ax ar ao ad rd tr sd rn om oh ol op oe ow ok os so mi co ex p1 p2 p3 p4 1 rfl hs, c_X4_apply l D cR cI cJ cZ t0 am ak an ac ae ag aq th rd sd tr kd ng cc qq rs ct un re ks ms cs es dg og p1 p2 p3 p4 _ hF.symm hS, ⟨_, _, _, _, _, _, _, _, _, _, _, hR, ⟨_, _, _, _, _, _, _, _, _, rfl⟩, ⟨_, _, _, _, _, _, _, _, _, _, rfl⟩⟩⟩
  · obtain ⟨hF, hS⟩ := hbad _ (by decide) hz
    exact ⟨1, _, _, c_L_apply_b1 l hl0 D cR cI cJ cZ t0 sv ax ar ao ad rd tr sd rn om oh ol op oe ow ok os so mi co ex p1 p2 p3 p4 1 rfl hs, c_X4_apply l D cR cI cJ cZ t0 am ak an ac ae ag aq th rd sd tr kd ng cc qq rs ct un re ks ms cs es dg og p1 p2 p3 p4 _ hF.symm hS, ⟨_, _, _, _, _, _, _, _, _, _, _, hR, ⟨_, _, _, _, _, _, _, _, _, rfl⟩, ⟨_, _, _, _, _, _, _, _, _, _, rfl⟩⟩⟩
  · obtain ⟨hF, hS⟩ := hbad _ (by decide) hz
    exact ⟨1, _, _, c_L_apply_b2 l hl0 D cR cI cJ cZ t0 sv ax ar ao ad rd tr sd rn om oh ol op oe ow ok os so mi co ex p1 p2 p3 p4 1 rfl hs, c_X4_apply l D cR cI cJ cZ t0 am ak an ac ae ag aq th rd sd tr kd ng cc qq rs ct un re ks ms cs es dg og p1 p2 p3 p4 _ hF.symm hS, ⟨_, _, _, _, _, _, _, _, _, _, _, hR, ⟨_, _, _, _, _, _, _, _, _, rfl⟩, ⟨_, _, _, _, _, _, _, _, _, _, rfl⟩⟩⟩
  · obtain ⟨hF, hS⟩ := hbad _ (by decide) hz
    exact ⟨2, _, _, c_L_apply_b3 l hl0 D cR cI cJ cZ t0 sv ax ar ao ad rd tr sd rn om oh ol op oe ow ok os so mi co ex p1 p2 p3 p4 2 rfl hs, c_X4_apply l D cR cI cJ cZ t0 am ak an ac ae ag aq th rd sd tr kd ng cc qq rs ct un re ks ms cs es dg og p1 p2 p3 p4 _ hF.symm hS, ⟨_, _, _, _, _, _, _, _, _, _, _, hR, ⟨_, _, _, _, _, _, _, _, _, rfl⟩, ⟨_, _, _, _, _, _, _, _, _, _, rfl⟩⟩⟩
  · obtain ⟨hF, hS⟩ := hbad _ (by decide) hz
    exact ⟨2, _, _, c_L_apply_b4 l hl0 D cR cI cJ cZ t0 sv ax ar ao ad rd tr sd rn om oh ol op oe ow ok os so mi co ex p1 p2 p3 p4 2 rfl hs, c_X4_apply l D cR cI cJ cZ t0 am ak an ac ae ag aq th rd sd tr kd ng cc qq rs ct un re ks ms cs es dg og p1 p2 p3 p4 _ hF.symm hS, ⟨_, _, _, _, _, _, _, _, _, _, _, hR, ⟨_, _, _, _, _, _, _, _, _, rfl⟩, ⟨_, _, _, _, _, _, _, _, _, _, rfl⟩⟩⟩
end ST3
