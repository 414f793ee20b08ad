/-! ===== the relation: calls that read or write one register ===== -/
section REL2
variable {so ks : Nat → Int32} {mi ms : Nat → Bool} {co cs : Nat → Int64} {ex es : Nat → Int32}
theorem rs_coef (hR : RS so mi co ex ks ms cs es) {p0 : Int32} (h : vp_in p0 8) : F_X4_coefficient ks cs p0 = (F_X3_coefficient_ok co p0, 0) ∧ S_X4_coefficient ks cs p0 := by
  obtain ⟨a1, a2, a3, a4, k, n, c, q, v1, v2, v3, v4, v5⟩ := hR _ (rs_lt h)
  have hz : Z_X4_coefficient_J_105 p0 = false := by
    unfold Z_X4_coefficient_J_105
    exact if_neg (zk_reg.mpr h)
  refine ⟨?_, ?_⟩
  · unfold F_X4_coefficient F_X3_coefficient_ok bnd
    dsimp only
    rw [hz, if_pos (show bI false = 0 from rfl), ← a3]
    unfold F_X4_is
    rw [← a1]
    rcases v5 with ⟨rfl, -⟩ | ⟨rfl, rfl, rfl⟩ | ⟨rfl, rfl, rfl, rfl⟩
    · rw [show so p0.toNatClampNeg = 0 from ti_eq.mpr v1]
      rfl
    · rw [show so p0.toNatClampNeg = 1 from ti_eq.mpr v1, show co p0.toNatClampNeg = 0 from tl_eq.mpr v3]
      rfl
    · rw [show so p0.toNatClampNeg = 2 from ti_eq.mpr v1, show co p0.toNatClampNeg = 0 from tl_eq.mpr v3]
      rfl
  · unfold S_X4_coefficient
    intro z104 _
    refine ite_P (fun _ => ?_) (fun _ => trivial)
    exact ⟨h, ite_P (fun _ => h) (fun _ => trivial)⟩
theorem rs_expo (hR : RS so mi co ex ks ms cs es) {p0 : Int32} (h : vp_in p0 8) : F_X4_exponent ks es p0 = (F_X3_exponent_ok ex p0, 0) ∧ S_X4_exponent ks es p0 := by
  obtain ⟨a1, a2, a3, a4, k, n, c, q, v1, v2, v3, v4, v5⟩ := hR _ (rs_lt h)
  have hz : Z_X4_exponent_J_105 p0 = false := by
    unfold Z_X4_exponent_J_105
    exact if_neg (zk_reg.mpr h)
  refine ⟨?_, ?_⟩
  · unfold F_X4_exponent F_X3_exponent_ok bnd
    dsimp only
    rw [hz, if_pos (show bI false = 0 from rfl), ← a4]
    unfold F_X4_is
    rw [← a1]
    rcases v5 with ⟨rfl, -⟩ | ⟨rfl, rfl, rfl⟩ | ⟨rfl, rfl, rfl, rfl⟩
    · rw [show so p0.toNatClampNeg = 0 from ti_eq.mpr v1]
      rfl
    · rw [show so p0.toNatClampNeg = 1 from ti_eq.mpr v1, show ex p0.toNatClampNeg = 0 from ti_eq.mpr v4]
      rfl
    · rw [show so p0.toNatClampNeg = 2 from ti_eq.mpr v1, show ex p0.toNatClampNeg = 0 from ti_eq.mpr v4]
      rfl
  · unfold S_X4_exponent
    intro z104 _
    refine ite_P (fun _ => ?_) (fun _ => trivial)
    exact ⟨h, ite_P (fun _ => h) (fun _ => trivial)⟩
theorem rs_pack (hR : RS so mi co ex ks ms cs es) {p0 p1 : Int32} (h : vp_in p0 8) (hw : vp_in p1 2) : F_X4_pack ks ms cs es p0 p1 = (F_X3_pack_ok so mi co ex p0 p1, 0) := by
  obtain ⟨a1, a2, a3, a4, k, n, c, q, hv⟩ := hR _ (rs_lt h)
  have hw := zk_in2.mp hw
  have hv2 := rs_VD a1 a2 a3 a4 hv
  rw [zk_pack hv2 (zk_reg.mpr h) hw]
  unfold F_X3_pack_ok bnd
  dsimp only
  rw [(zk_way hw).1]
  unfold F_X2_wordOf Z_X2_wordOf_J_104 Z_X2_wordOf_J_114
  rw [a1, a2, a3, a4]
theorem rs_unpack {kd : Int32} {ng : Bool} {cc : Int64} {qq : Int32} {p0 p1 : Int32} {x : Int64} (h : vp_in p0 8) (hw : vp_in p1 2) : F_X3_unpack_ok so mi co ex p0 p1 x = zP so mi co ex p0.toNatClampNeg (zU p1 x) ∧ F_X4_unpack kd ng cc qq ks ms cs es p0 p1 x = (0, (zU p1 x).1, (zU p1 x).2.1, (zU p1 x).2.2.1, (zU p1 x).2.2.2, zP ks ms cs es p0.toNatClampNeg (zU p1 x)) := by
  have hw := zk_in2.mp hw
  refine ⟨?_, zk_unpack (zk_reg.mpr h) hw⟩
  unfold F_X3_unpack_ok bnd
  dsimp only
  rw [(zk_way hw).2, zk_read so mi co ex p0.toNatClampNeg hw x]
end REL2
