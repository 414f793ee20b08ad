/-! ===== the relation of the two states ===== -/
section REL
variable {so ks : Nat → Int32} {mi ms : Nat → Bool} {co cs : Nat → Int64} {ex es : Nat → Int32}
def RR (so : Nat → Int32) (mi : Nat → Bool) (co : Nat → Int64) (ex : Nat → Int32) (ks : Nat → Int32) (ms : Nat → Bool) (cs : Nat → Int64) (es : Nat → Int32) (i : Nat) : Prop :=
  so i = ks i ∧ mi i = ms i ∧ co i = cs i ∧ ex i = es i ∧ ∃ (k : Int) (n : Bool) (c : Nat) (q : Int), VD so mi co ex i k n c q
/-- the eight registers are the same, and data -/
def RS (so : Nat → Int32) (mi : Nat → Bool) (co : Nat → Int64) (ex : Nat → Int32) (ks : Nat → Int32) (ms : Nat → Bool) (cs : Nat → Int64) (es : Nat → Int32) : Prop := ∀ i, i < 8 → RR so mi co ex ks ms cs es i
theorem rs_VD {i : Nat} {k : Int} {n : Bool} {c : Nat} {q : Int} (h1 : so i = ks i) (h2 : mi i = ms i) (h3 : co i = cs i) (h4 : ex i = es i) (hv : VD so mi co ex i k n c q) : VD ks ms cs es i k n c q := by
  unfold VD at hv ⊢
  rw [← h1, ← h2, ← h3, ← h4]
  exact hv
theorem rs_lt {p0 : Int32} (h : vp_in p0 8) : p0.toNatClampNeg < 8 := Nat.not_le.mp fun q => h (Or.inr q)
/-- one register written on both sides with the same datum -/
theorem rs_put {i : Nat} (hR : RS so mi co ex ks ms cs es) {u : Int32 × Bool × Int64 × Int32} (hu : ∃ c : Nat, u.2.2.1.toInt = (c : Int) ∧ VS u.1.toInt u.2.1 c u.2.2.2.toInt) :
    RS (zP so mi co ex i u).1 (zP so mi co ex i u).2.1 (zP so mi co ex i u).2.2.1 (zP so mi co ex i u).2.2.2 (zP ks ms cs es i u).1 (zP ks ms cs es i u).2.1 (zP ks ms cs es i u).2.2.1 (zP ks ms cs es i u).2.2.2 := by
  intro j hj
  obtain ⟨c, hc, hv⟩ := hu
  obtain ⟨a1, a2, a3, a4, k, n, c9, q, a5⟩ := hR j hj
  unfold zP RR VD
  dsimp only
  by_cases h : j = i
  · subst h
    simp only [va_up, if_pos]
    exact ⟨trivial, trivial, trivial, trivial, _, _, _, _, rfl, rfl, hc, rfl, hv⟩
  · simp only [va_up, if_neg h]
    exact ⟨a1, a2, a3, a4, k, n, c9, q, a5⟩
/-- kind, coefficient, exponent, pack -/
theorem rs_kind (hR : RS so mi co ex ks ms cs es) {p0 : Int32} (h : vp_in p0 8) : F_X4_kind ks ms p0 = (F_X3_kind_ok so mi p0, 0) := by
  obtain ⟨a1, a2, -⟩ := hR _ (rs_lt h)
  have hz : Z_X4_kind_J_105 p0 = false := by
    unfold Z_X4_kind_J_105
    exact if_neg (zk_reg.mpr h)
  unfold F_X4_kind F_X3_kind_ok bnd
  dsimp only
  rw [hz, if_pos (show bI false = 0 from rfl), a1]
  unfold Z_X4_kind_J_112 Z_X3_kind_ok_J_106
  rw [a2]
  rfl
end REL
