section OPS
variable {so : Nat → Int32} {mi : Nat → Bool} {co : Nat → Int64} {ex : Nat → Int32}
/-- an operation of the class as a whole -/
theorem sp_operate {rd tr sd : Int32} {om : Bool} {oh ol : Int64} {op : Int32} {oe : Bool} {ow : Int32} {ok : Int64} {os : Int32} {p0 p1 p2 p3 : Int32} {ka : Int} {sa : Bool} {A : Nat} {ea : Int} {kb : Int} {sb : Bool} {B : Nat} {eb : Int} (h1 : vp_in p1 8) (h2 : vp_in p2 8) (h3 : vp_in p3 8) (ha : VD so mi co ex p2.toNatClampNeg ka sa A ea) (hb : VD so mi co ex p3.toNatClampNeg kb sb B eb)
    {u : Bool × Int32 × Int32 × Bool × Int64 × Int64 × Int32 × Bool × Int32 × Int64 × Int32 × (Nat → Int32) × (Nat → Bool) × (Nat → Int64) × (Nat → Int32)} (hu : u = F_X3_operate rd tr sd om oh ol op oe ow ok os so mi co ex p0 p1 p2 p3) {t : Int × Bool × Nat × Int × Int32} (ht : t = opS rd.toInt p0.toInt ka sa A ea kb sb B eb 0) :
    S_X3_operate rd tr sd om oh ol op oe ow ok os so mi co ex p0 p1 p2 p3 ∧ u.1 = decide (t.2.2.2.2 &&& tr = 0) ∧ u.2.1 = sd ||| t.2.2.2.2 ∧
    (t.2.2.2.2 &&& tr = 0 → VD u.2.2.2.2.2.2.2.2.2.2.2.1 u.2.2.2.2.2.2.2.2.2.2.2.2.1 u.2.2.2.2.2.2.2.2.2.2.2.2.2.1 u.2.2.2.2.2.2.2.2.2.2.2.2.2.2 p1.toNatClampNeg t.1 t.2.1 t.2.2.1 t.2.2.2.1 ∧ ∀ m, m ≠ p1.toNatClampNeg → m ≠ 8 → u.2.2.2.2.2.2.2.2.2.2.2.1 m = so m ∧ u.2.2.2.2.2.2.2.2.2.2.2.2.1 m = mi m ∧ u.2.2.2.2.2.2.2.2.2.2.2.2.2.1 m = co m ∧ u.2.2.2.2.2.2.2.2.2.2.2.2.2.2 m = ex m) ∧
    (¬ t.2.2.2.2 &&& tr = 0 → ∀ m, m ≠ 8 → u.2.2.2.2.2.2.2.2.2.2.2.1 m = so m ∧ u.2.2.2.2.2.2.2.2.2.2.2.2.1 m = mi m ∧ u.2.2.2.2.2.2.2.2.2.2.2.2.2.1 m = co m ∧ u.2.2.2.2.2.2.2.2.2.2.2.2.2.2 m = ex m) := by
  have hv := opS_v (mode := rd.toInt) (op := p0.toInt) (r := 0) ha.2.2.2.2 hb.2.2.2.2
  rw [← ht] at hv
  have hd8 : p1.toNatClampNeg ≠ 8 := by
    have := vp_in_iff.mp h1
    rw [ti_nat]; omega
  unfold F_X3_operate at hu
  unfold S_X3_operate
  obtain ⟨y, ey, hu⟩ := bnd_x hu
  obtain ⟨r1, r2, r3⟩ := sp_setResult ha hb ey ht
  obtain ⟨f, ef, hu⟩ := bnd_x hu
  rw [r2] at ef hu
  have hS : ∀ (u105 : Int32 × Bool × Int64 × Int64 × Int32 × Bool × Int32 × Int64 × Int32 × (Nat → Int32) × (Nat → Bool) × (Nat → Int64) × (Nat → Int32)), u105 = F_X3_setResult rd 0 om oh ol op oe ow ok os so mi co ex p0 p2.toNatClampNeg p3.toNatClampNeg → ∀ (f107 : Int32), f107 = sd ||| u105.1 → if u105.1 &&& tr = 0 then vp_in p1 8 else True :=
    all_n ey (fun _ _ => ite_P (fun _ => h1) (fun _ => trivial))
  refine ⟨⟨h2, h3, r1, hS⟩, ?_⟩
  by_cases g : t.2.2.2.2 &&& tr = 0
  · rw [if_pos g] at hu
    obtain ⟨w, ew, hu⟩ := bnd_x hu
    obtain ⟨d1, d2, d3, d4, d5⟩ := r3
    unfold F_X0_take at ew
    dsimp only [bnd] at ew
    subst hu
    refine ⟨(decide_eq_true g).symm, ef, fun _ => ?_, fun q => absurd g q⟩
    subst ew
    refine ⟨⟨?_, ?_, ?_, ?_, hv⟩, fun m hm hm8 => ?_⟩
    · show Int32.toInt (va_up _ _ _ _) = _
      rw [up_s]; exact d1
    · show va_up _ _ _ _ = _
      rw [up_s]; exact d2
    · show Int64.toInt (va_up _ _ _ _) = _
      rw [up_s]; exact d3
    · show Int32.toInt (va_up _ _ _ _) = _
      rw [up_s]; exact d4
    · obtain ⟨e1, e2, e3, e4⟩ := d5 m hm8
      refine ⟨?_, ?_, ?_, ?_⟩
      · show va_up _ _ _ _ = _
        rw [up_n hm]; exact e1
      · show va_up _ _ _ _ = _
        rw [up_n hm]; exact e2
      · show va_up _ _ _ _ = _
        rw [up_n hm]; exact e3
      · show va_up _ _ _ _ = _
        rw [up_n hm]; exact e4
  · rw [if_neg g] at hu
    subst hu
    refine ⟨(decide_eq_false g).symm, ef, fun q => absurd q g, fun _ m hm8 => ?_⟩
    exact r3.2.2.2.2 m hm8
end OPS
