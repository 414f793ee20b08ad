/-! ===== the relation: operate ===== -/
section REL3
variable {so ks : Nat → Int32} {mi ms : Nat → Bool} {co cs : Nat → Int64} {ex es : Nat → Int32}
theorem rs_op (hR : RS so mi co ex ks ms cs es) {rd tr sd : Int32} {om : Bool} {oh ol : Int64} {op : Int32} {oe : Bool} {ow : Int32} {ok : Int64} {os : Int32} {ct un : Int32} {re : Bool} {dg og : Nat → Int32} {p0 p1 p2 p3 : Int32} (h0 : 0 ≤ p0.toInt ∧ p0.toInt ≤ 6) (h1 : vp_in p1 8) (h2 : vp_in p2 8) (h3 : vp_in p3 8)
    {u : Bool × Int32 × Int32 × Bool × Int64 × Int64 × Int32 × Bool × Int32 × Int64 × Int32 × (Nat → Int32) × (Nat → Bool) × (Nat → Int64) × (Nat → Int32)} (hu : u = F_X3_operate rd tr sd om oh ol op oe ow ok os so mi co ex p0 p1 p2 p3)
    {z : Int32 × Bool × Int64 × Int32 × Int32 × Int32 × Int32 × Bool × (Nat → Int32) × (Nat → Int32)} (hz : z = F_X4_operate rd ct un re ks ms cs es dg og p0 p2 p3) :
    S_X3_operate rd tr sd om oh ol op oe ow ok os so mi co ex p0 p1 p2 p3 ∧ S_X4_operate rd ct un re ks ms cs es dg og p0 p2 p3 ∧ u.1 = decide (z.2.2.2.2.1 &&& tr = 0) ∧ u.2.1 = sd ||| z.2.2.2.2.1 ∧
    (z.2.2.2.2.1 &&& tr = 0 → RS u.2.2.2.2.2.2.2.2.2.2.2.1 u.2.2.2.2.2.2.2.2.2.2.2.2.1 u.2.2.2.2.2.2.2.2.2.2.2.2.2.1 u.2.2.2.2.2.2.2.2.2.2.2.2.2.2 (va_up ks p1.toNatClampNeg z.1) (va_up ms p1.toNatClampNeg z.2.1) (va_up cs p1.toNatClampNeg z.2.2.1) (va_up es p1.toNatClampNeg z.2.2.2.1)) ∧
    (¬ z.2.2.2.2.1 &&& tr = 0 → RS u.2.2.2.2.2.2.2.2.2.2.2.1 u.2.2.2.2.2.2.2.2.2.2.2.2.1 u.2.2.2.2.2.2.2.2.2.2.2.2.2.1 u.2.2.2.2.2.2.2.2.2.2.2.2.2.2 ks ms cs es) := by
  obtain ⟨a1, a2, a3, a4, ka, na, ca, qa, ha⟩ := hR _ (rs_lt h2)
  obtain ⟨b1, b2, b3, b4, kb, nb, cb, qb, hb⟩ := hR _ (rs_lt h3)
  have ha2 := rs_VD a1 a2 a3 a4 ha
  have hb2 := rs_VD b1 b2 b3 b4 hb
  obtain ⟨t, ht⟩ : ∃ t, t = opS rd.toInt p0.toInt ka na ca qa kb nb cb qb 0 := ⟨_, rfl⟩
  obtain ⟨s1, s2, s3, s4, s5⟩ := sp_operate h1 h2 h3 ha hb hu ht
  obtain ⟨⟨m1, m2, m3, m4, m5⟩, m6⟩ := sp_moperate h0 h2 h3 ha2 hb2 hz ht
  clear ht hu hz
  rw [m5]
  refine ⟨s1, m6, s2, s3, fun hf => ?_, fun hf => ?_⟩
  · obtain ⟨v, w⟩ := s4 hf
    intro j hj
    by_cases h : j = p1.toNatClampNeg
    · subst h
      unfold RR
      simp only [va_up, if_pos]
      refine ⟨ti_eq.mpr (v.1.trans m1.symm), v.2.1.trans m2.symm, tl_eq.mpr (v.2.2.1.trans m3.symm), ti_eq.mpr (v.2.2.2.1.trans m4.symm), _, _, _, _, v⟩
    · obtain ⟨c1, c2, c3, c4, k, n, c, q, c5⟩ := hR j hj
      obtain ⟨w1, w2, w3, w4⟩ := w j h (by omega)
      unfold RR VD
      simp only [va_up, if_neg h]
      rw [w1, w2, w3, w4]
      exact ⟨c1, c2, c3, c4, k, n, c, q, c5⟩
  · have w := s5 hf
    intro j hj
    obtain ⟨c1, c2, c3, c4, k, n, c, q, c5⟩ := hR j hj
    obtain ⟨w1, w2, w3, w4⟩ := w j (by omega)
    unfold RR VD
    rw [w1, w2, w3, w4]
    exact ⟨c1, c2, c3, c4, k, n, c, q, c5⟩
theorem rs_cmp (hR : RS so mi co ex ks ms cs es) {p0 p1 : Int32} (h0 : vp_in p0 8) (h1 : vp_in p1 8) : F_X4_compare ks ms cs es p0 p1 = (F_X3_compare_ok so mi co ex p0 p1, 0) ∧ S_X4_compare ks ms cs es p0 p1 ∧ S_X3_compare_ok so mi co ex p0 p1 := by
  obtain ⟨a1, a2, a3, a4, ka, na, ca, qa, ha⟩ := hR _ (rs_lt h0)
  obtain ⟨b1, b2, b3, b4, kb, nb, cb, qb, hb⟩ := hR _ (rs_lt h1)
  have ha2 := rs_VD a1 a2 a3 a4 ha
  have hb2 := rs_VD b1 b2 b3 b4 hb
  have hz : Z_X4_compare_J_107 p0 p1 = false := by
    unfold Z_X4_compare_J_107
    rw [if_neg (zk_reg.mpr h0)]
    exact if_neg (zk_reg.mpr h1)
  have c2 : (2 : Int32).toInt = 2 := by decide
  have hF : F_X4_compare ks ms cs es p0 p1 = (if so p0.toNatClampNeg = 2 then (2, 0) else if so p1.toNatClampNeg = 2 then (2, 0) else (F_X4_order ks ms cs es p0 p1, 0)) := by
    unfold F_X4_compare bnd
    dsimp only
    rw [hz, if_pos (show bI false = 0 from rfl)]
    unfold F_X4_is
    rw [← a1, ← b1]
    by_cases e1 : so p0.toNatClampNeg = 2
    · rw [e1]; rfl
    · rw [if_neg e1, if_neg e1, if_neg (show ¬ false = true by decide)]
      by_cases e2 : so p1.toNatClampNeg = 2
      · rw [e2]; rfl
      · rw [if_neg e2, if_neg e2, if_neg (show ¬ false = true by decide)]
        rfl
  have hO : so p0.toNatClampNeg ≠ 2 → so p1.toNatClampNeg ≠ 2 → F_X4_order ks ms cs es p0 p1 = F_X3_order so mi co ex p0.toNatClampNeg p1.toNatClampNeg ∧ S_X3_order so mi co ex p0.toNatClampNeg p1.toNatClampNeg ∧ S_X4_order ks ms cs es p0 p1 := by
    intro e1 e2
    have n1 : ka ≠ 2 := fun h => e1 (ti_eq.mpr (by rw [ha.1, c2, h]))
    have n2 : kb ≠ 2 := fun h => e2 (ti_eq.mpr (by rw [hb.1, c2, h]))
    obtain ⟨x1, x2⟩ := sp_order ha hb n1 n2
    obtain ⟨y1, y2⟩ := sp_morder h0 h1 ha2 hb2 n1 n2
    exact ⟨ti_eq.mpr (y1.trans x1.symm), x2, y2⟩
  refine ⟨?_, ?_, ?_⟩
  · rw [hF]
    unfold F_X3_compare_ok
    by_cases e1 : so p0.toNatClampNeg = 2
    · rw [if_pos e1, if_pos e1]
    · rw [if_neg e1, if_neg e1]
      by_cases e2 : so p1.toNatClampNeg = 2
      · rw [if_pos e2, if_pos e2]
      · rw [if_neg e2, if_neg e2, (hO e1 e2).1]
  · unfold S_X4_compare
    intro z106 _
    refine ite_P (fun _ => ⟨h0, ite_P (fun _ => trivial) (fun g1 => ⟨h1, ite_P (fun _ => trivial) (fun g2 => ?_)⟩)⟩) (fun _ => trivial)
    refine (hO (fun h => g1 ?_) (fun h => g2 ?_)).2.2
    · unfold F_X4_is; rw [if_pos (a1.symm.trans h)]
    · unfold F_X4_is; rw [if_pos (b1.symm.trans h)]
  · exact ⟨h0, h1, ite_P (fun _ => trivial) (fun g1 => ite_P (fun _ => trivial) (fun g2 => (hO g1 g2).2.1))⟩
end REL3
