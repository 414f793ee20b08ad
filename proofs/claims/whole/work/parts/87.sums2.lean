/-! ===== both objects side by side: sum ===== -/
section ST4
variable {l : Launch} {D : va_G} {cR cI cJ cZ : ClassId} {ax ar ao : Nat} {ad : Nat → Nat} {am ak an ac ae ag aq : Nat} {t0 : Nat} {sv : Nat → Nat} {aw : Nat} {vou : Nat → Int64} {th : Int32} {w wm : va_W}
set_option maxHeartbeats 4000000 in
theorem st_sum (hl0 : l.stackTraces = false) (h : LR cR cI cJ cZ ax ar ao ad am ak an ac ae ag aq th w wm) (p1 p2 p3 : Int32) : ST1 l D cR cI cJ cZ ax ar ao ad am ak an ac ae ag aq aw vou t0 sv yL_sum cL_sum 6 [(0, 12, 15, 13)] rm_L_sum 3 yX4_sum cX4_sum 6 rm_X4_sum [.int p1, .int p2, .int p3] w wm := by
  obtain ⟨rd, tr, sd, so, mi, co, ex, ks, ms, cs, es, hR, ⟨rn, om, oh, ol, op, oe, ow, ok, os, rfl⟩, ⟨kd, ng, cc, qq, rs, ct, un, re, dg, og, rfl⟩⟩ := h
  have hbad : Z_X4_sum_J_109 p1 p2 p3 = true → F_X4_sum rd sd tr kd ng cc qq rs ct un re ks ms cs es dg og p1 p2 p3 = (0, 1, sd, kd, ng, cc, qq, rs, ct, un, re, ks, ms, cs, es, dg, og) ∧ S_X4_sum rd sd tr kd ng cc qq rs ct un re ks ms cs es dg og p1 p2 p3 := by
    intro hz
    have hG : ∀ u : Int32 × Int32 × Int32 × Int32 × Bool × Int64 × Int32 × Int32 × Int32 × Int32 × Bool × (Nat → Int32) × (Nat → Bool) × (Nat → Int64) × (Nat → Int32) × (Nat → Int32) × (Nat → Int32), ¬ G_X4_sum_39 rd tr p1 p3 true u = true := by
      intro u
      unfold G_X4_sum_39 bnd
      by_cases h9 : p3 < u.2.1
      · rw [if_pos h9]
        decide
      · rw [if_neg h9, if_neg (show ¬ bI true = 0 by decide)]
        decide
    refine ⟨?_, ?_⟩
    · unfold F_X4_sum bnd
      dsimp only
      rw [hz, wl_f _ _ _ _ (hG _)]
      rfl
    · unfold S_X4_sum
      intro z8 h8
      rw [h8, hz]
      exact ⟨fun j hj => absurd (nW_lt _ _ _ _ j hj) (hG _), Bool.eq_false_iff.mpr (hG _)⟩
  rcases cs_sum p1 p2 p3 with ⟨⟨h1, h2, h3⟩, hz⟩ | ⟨hs, hz⟩ | ⟨hs, hz⟩ | ⟨hs, hz⟩
  · have hx := st_in.mp h2
    have hj : sJ (0, p2, sd, rn, om, oh, ol, op, oe, ow, ok, os, so, mi, co, ex) (0, p2, sd, kd, ng, cc, qq, rs, ct, un, re, ks, ms, cs, es, dg, og) := ⟨rfl, rfl, rfl, ⟨hx.1, by show p2.toInt ≤ 8; omega⟩, hR⟩
    obtain ⟨hE, g1, g2, i1, i2⟩ := sj_run (rd := rd) (tr := tr) h1 h3 hj
    have hm : S_X4_sum rd sd tr kd ng cc qq rs ct un re ks ms cs es dg og p1 p2 p3 := by
      unfold S_X4_sum
      intro z8 h8
      rw [h8, hz]
      exact ⟨i2, g2⟩
    have hs : S_L_sum_ok rd tr sd rn om oh ol op oe ow ok os so mi co ex vou p1 p2 p3 := ⟨⟨h1, h2, h3, i1, g1⟩, fun _ _ _ _ => st_01⟩
    obtain ⟨t, ht⟩ : ∃ t, t = wl (G_X3_sum_ok_18 rd tr p1 p3) (B_X3_sum_ok_18 rd tr p1 p3) 901 (0, p2, sd, rn, om, oh, ol, op, oe, ow, ok, os, so, mi, co, ex) := ⟨_, rfl⟩
    obtain ⟨u, hu⟩ : ∃ u, u = wl (G_X4_sum_39 rd tr p1 p3 false) (B_X4_sum_39 rd tr p1 p3 false) 901 (0, p2, sd, kd, ng, cc, qq, rs, ct, un, re, ks, ms, cs, es, dg, og) := ⟨_, rfl⟩
    rw [← ht, ← hu] at hE
    clear i1 i2 g1 g2
    have eu : ((0 : Int32), t.2.2.1, t.2.2.2.1, t.2.2.2.2.1, t.2.2.2.2.2.1, t.2.2.2.2.2.2.1, t.2.2.2.2.2.2.2.1, t.2.2.2.2.2.2.2.2.1, t.2.2.2.2.2.2.2.2.2.1, t.2.2.2.2.2.2.2.2.2.2.1, t.2.2.2.2.2.2.2.2.2.2.2.1, t.2.2.2.2.2.2.2.2.2.2.2.2.1, t.2.2.2.2.2.2.2.2.2.2.2.2.2.1, t.2.2.2.2.2.2.2.2.2.2.2.2.2.2.1, t.2.2.2.2.2.2.2.2.2.2.2.2.2.2.2, va_up vou (0 : Int32).toNatClampNeg t.1.toInt64) = F_L_sum_ok rd tr sd rn om oh ol op oe ow ok os so mi co ex vou p1 p2 p3 := by
      unfold F_L_sum_ok F_X3_sum_ok bnd
      dsimp only
      rw [← ht]
    obtain ⟨f1, f2, f3, -, f5⟩ := hE
    have em : (t.1, 0, t.2.2.1, u.2.2.2.1, u.2.2.2.2.1, u.2.2.2.2.2.1, u.2.2.2.2.2.2.1, u.2.2.2.2.2.2.2.1, u.2.2.2.2.2.2.2.2.1, u.2.2.2.2.2.2.2.2.2.1, u.2.2.2.2.2.2.2.2.2.2.1, u.2.2.2.2.2.2.2.2.2.2.2.1, u.2.2.2.2.2.2.2.2.2.2.2.2.1, u.2.2.2.2.2.2.2.2.2.2.2.2.2.1, u.2.2.2.2.2.2.2.2.2.2.2.2.2.2.1, u.2.2.2.2.2.2.2.2.2.2.2.2.2.2.2.1, u.2.2.2.2.2.2.2.2.2.2.2.2.2.2.2.2) = F_X4_sum rd sd tr kd ng cc qq rs ct un re ks ms cs es dg og p1 p2 p3 := by
      unfold F_X4_sum bnd
      dsimp only
      rw [hz, ← hu, f1, f3]
      rfl
    exact ⟨0, t.1, va_up vou (0 : Int32).toNatClampNeg t.1.toInt64, _, _, c_L_sum_ok l hl0 D cR cI cJ cZ t0 sv ax ar ao ad aw rd tr sd rn om oh ol op oe ow ok os so mi co ex vou p1 p2 p3 _ eu hs, c_X4_sum l D cR cI cJ cZ t0 am ak an ac ae ag aq th rd sd tr kd ng cc qq rs ct un re ks ms cs es dg og p1 p2 p3 _ em hm, ⟨_, _, _, _, _, _, _, _, _, _, _, f5, ⟨_, _, _, _, _, _, _, _, _, rfl⟩, ⟨_, _, _, _, _, _, _, _, _, _, rfl⟩⟩, fun _ => st_up0 (vou := vou)⟩
  · obtain ⟨hF, hS⟩ := hbad hz
    exact ⟨1, 0, vou, _, _, c_L_sum_b0 l hl0 D cR cI cJ cZ t0 sv ax ar ao ad aw rd tr sd rn om oh ol op oe ow ok os so mi co ex vou p1 p2 p3 1 rfl hs, c_X4_sum l D cR cI cJ cZ t0 am ak an ac ae ag aq th rd sd tr kd ng cc qq rs ct un re ks ms cs es dg og p1 p2 p3 _ hF.symm hS, ⟨_, _, _, _, _, _, _, _, _, _, _, hR, ⟨_, _, _, _, _, _, _, _, _, rfl⟩, ⟨_, _, _, _, _, _, _, _, _, _, rfl⟩⟩, fun h9 => absurd h9 (by decide)⟩
  · obtain ⟨hF, hS⟩ := hbad hz
    exact ⟨1, 0, vou, _, _, c_L_sum_b1 l hl0 D cR cI cJ cZ t0 sv ax ar ao ad aw rd tr sd rn om oh ol op oe ow ok os so mi co ex vou p1 p2 p3 1 rfl hs, c_X4_sum l D cR cI cJ cZ t0 am ak an ac ae ag aq th rd sd tr kd ng cc qq rs ct un re ks ms cs es dg og p1 p2 p3 _ hF.symm hS, ⟨_, _, _, _, _, _, _, _, _, _, _, hR, ⟨_, _, _, _, _, _, _, _, _, rfl⟩, ⟨_, _, _, _, _, _, _, _, _, _, rfl⟩⟩, fun h9 => absurd h9 (by decide)⟩
  · obtain ⟨hF, hS⟩ := hbad hz
    exact ⟨1, 0, vou, _, _, c_L_sum_b2 l hl0 D cR cI cJ cZ t0 sv ax ar ao ad aw rd tr sd rn om oh ol op oe ow ok os so mi co ex vou p1 p2 p3 1 rfl hs, c_X4_sum l D cR cI cJ cZ t0 am ak an ac ae ag aq th rd sd tr kd ng cc qq rs ct un re ks ms cs es dg og p1 p2 p3 _ hF.symm hS, ⟨_, _, _, _, _, _, _, _, _, _, _, hR, ⟨_, _, _, _, _, _, _, _, _, rfl⟩, ⟨_, _, _, _, _, _, _, _, _, _, rfl⟩⟩, fun h9 => absurd h9 (by decide)⟩
end ST4
