/-! ===== the class' small methods, in whole numbers ===== -/
theorem all_n {T : Type} {e n : T} {P : T → Prop} (en : n = e) (h : P n) : ∀ x : T, x = e → P x := fun x hx => by rw [hx, ← en]; exact h
theorem tlN {n : Nat} (h : n < 9223372036854775808) : (Int64.ofNat n).toInt = (n : Int) := pk_lT (n := n) (by omega)
theorem p16 : (10 : Nat) ^ 16 = 10000000000000000 := by decide +kernel
theorem p15 : (10 : Nat) ^ 15 = 1000000000000000 := by decide +kernel
theorem p32 : (10 : Nat) ^ 32 = 10000000000000000 * 10000000000000000 := by decide +kernel
theorem p33 : (10 : Nat) ^ 33 = 10 * (10000000000000000 * 10000000000000000) := by decide +kernel
theorem p10_16 {k : Nat} (h : k ≤ 16) : 10 ^ k ≤ 10000000000000000 := by rw [← p16]; exact p10le h
theorem tensL_t {k : Nat} (h : k ≤ 16) : (tensL k).toInt = ((10 ^ k : Nat) : Int) := by
  have := p10_16 h
  exact tlN (by omega)
theorem z_tenTo (p : Int32) : (Z_X3_tenTo_J_105 p).toInt = if 16 ≤ p.toInt then 16 else p.toInt := by
  have h2 : (16 : Int32).toInt = 16 := rfl
  unfold Z_X3_tenTo_J_105
  by_cases g : (16 : Int32) ≤ p
  · have g1 := g
    rw [ti_le, h2] at g1
    rw [if_pos g, if_pos g1, h2]
  · have g1 := g
    rw [ti_le, h2] at g1
    rw [if_neg g, if_neg g1]
theorem S_tenTo (p : Int32) : S_X3_tenTo p := by
  unfold S_X3_tenTo
  have h1 : (0 : Int32).toInt = 0 := rfl
  refine ite_P (fun g => all_n rfl ?_) (fun _ => trivial)
  rw [ti_le, h1] at g
  rw [vp_in_iff, z_tenTo]
  split <;> omega
theorem sp_tenTo {p : Int32} {k : Nat} (h : p.toInt = k) (hk : k ≤ 16) : (F_X3_tenTo p).toInt = ((10 ^ k : Nat) : Int) := by
  have h1 : (0 : Int32).toInt = 0 := rfl
  have g : (0 : Int32) ≤ p := by rw [ti_le, h1, h]; omega
  have e : (Z_X3_tenTo_J_105 p).toNatClampNeg = k := by
    rw [ti_nat, z_tenTo, h]
    split <;> omega
  have f : F_X3_tenTo p = tensL (Z_X3_tenTo_J_105 p).toNatClampNeg := by
    unfold F_X3_tenTo
    rw [if_pos g]; rfl
  rw [f, e, tensL_t hk]
/-- division and remainder of numbers that aren't negative -/
theorem tn_div {a b : Int64} {m n : Nat} (ha : a.toInt = m) (hb : b.toInt = n) (hn : 0 < n) : (a / b).toInt = ((m / n : Nat) : Int) := by
  rw [tl_div (by omega) (by omega), ha, hb]; exact (Int.natCast_ediv m n).symm
theorem tn_rem {a b : Int64} {m n : Nat} (ha : a.toInt = m) (hb : b.toInt = n) (hn : 0 < n) : (jremL a b).toInt = ((m % n : Nat) : Int) := by
  rw [tl_rem (by omega) (by omega), ha, hb]; exact (Int.natCast_emod m n).symm
theorem tn_mul {a b : Int64} {m n : Nat} (ha : a.toInt = m) (hb : b.toInt = n) (h : m * n < 9223372036854775808) : (a * b).toInt = ((m * n : Nat) : Int) := by
  have e : a.toInt * b.toInt = ((m * n : Nat) : Int) := by rw [ha, hb]; exact (Int.natCast_mul m n).symm
  rw [tl_mul (by omega) (by omega), e]
theorem tn_add {a b : Int64} {m n : Nat} (ha : a.toInt = m) (hb : b.toInt = n) (h : m + n < 9223372036854775808) : (a + b).toInt = ((m + n : Nat) : Int) := by
  rw [tl_add (by omega) (by omega)]; omega
theorem G_digitsOf {c : Int64} {t : Int32} : G_X3_digitsOf_2 c t = true ↔ ¬ (16 : Int32) ≤ t ∧ tensL t.toNatClampNeg ≤ c := by
  unfold G_X3_digitsOf_2 bnd
  by_cases h1 : (16 : Int32) ≤ t
  · simp [h1]
  · by_cases h2 : tensL t.toNatClampNeg ≤ c
    · simp [h1, h2]
    · simp [h2]
theorem F_digitsOf {c : Int64} {z : Int32} (e : wl (G_X3_digitsOf_2 c) (B_X3_digitsOf_2 c) 17 0 = z) (h : ¬ G_X3_digitsOf_2 c z = true) (h2 : z.toInt ≤ 16) : F_X3_digitsOf c = z := by
  have h16 : (16 : Int32).toInt = 16 := rfl
  have f : F_X3_digitsOf c = if (16 : Int32) ≤ z then 16 else if tensL z.toNatClampNeg ≤ c then default else z := by subst e; rfl
  rw [f]
  by_cases g1 : (16 : Int32) ≤ z
  · have g := g1
    rw [ti_le, h16] at g
    rw [if_pos g1, ti_eq, h16]; omega
  · rw [if_neg g1]
    by_cases g2 : tensL z.toNatClampNeg ≤ c
    · exact absurd (G_digitsOf.mpr ⟨g1, g2⟩) h
    · rw [if_neg g2]
theorem sp_digitsOf {c : Int64} {n : Nat} (h : c.toInt = n) (hn : n < 10000000000000000) : (F_X3_digitsOf c).toInt = nd n ∧ S_X3_digitsOf c := by
  have h16 : (16 : Int32).toInt = 16 := rfl
  have R := wl_run (G := G_X3_digitsOf_2 c) (B := B_X3_digitsOf_2 c) (N := 17) (t := (0 : Int32)) (fun j t => t.toInt = j ∧ j ≤ 16 ∧ (j = 0 ∨ 10 ^ (j - 1) ≤ n))
    ⟨rfl, by omega, Or.inl rfl⟩
    (by
      rintro j t _ ⟨h1, h2, h3⟩ hg
      obtain ⟨g1, g2⟩ := G_digitsOf.mp hg
      have e : B_X3_digitsOf_2 c t = t + 1 := by unfold B_X3_digitsOf_2 bnd; rw [if_neg g1, if_pos g2]
      rw [ti_le, h16, h1] at g1
      have hk : t.toNatClampNeg = j := by rw [ti_nat, h1]; omega
      rw [hk, tl_le, tensL_t h2, h] at g2
      have h1' : (1 : Int32).toInt = 1 := rfl
      rw [e, ti_add (by omega) (by omega), h1, h1']
      refine ⟨by omega, by omega, Or.inr ?_⟩
      rw [Nat.add_sub_cancel]; omega)
    (by rintro t ⟨_, h2, _⟩; omega)
  obtain ⟨⟨k, hk, h1, h2, h3⟩, hg, hb⟩ := R
  have hng : ¬ (G_X3_digitsOf_2 c (wl (G_X3_digitsOf_2 c) (B_X3_digitsOf_2 c) 17 0) = true) := by rw [hg]; simp
  have hu : F_X3_digitsOf c = wl (G_X3_digitsOf_2 c) (B_X3_digitsOf_2 c) 17 0 := F_digitsOf rfl hng (by omega)
  refine ⟨?_, ?_, hg, ?_⟩
  · rw [hu, h1]
    have hd : nd n = k := by
      refine nd_eq ?_ h3
      by_cases hk2 : k = 16
      · subst hk2; rw [p16]; exact hn
      · rw [G_digitsOf] at hng
        have hk3 : (wl (G_X3_digitsOf_2 c) (B_X3_digitsOf_2 c) 17 0).toNatClampNeg = k := by rw [ti_nat, h1]; omega
        rw [hk3, ti_le, tl_le, h16, h1, tensL_t h2, h] at hng
        omega
    rw [hd]
  · intro j hj
    obtain ⟨⟨q1, q2, q3⟩, q4, q5⟩ := hb j hj
    unfold SB_X3_digitsOf_2
    refine ite_P (fun _ => trivial) (fun _ => ?_)
    rw [vp_in_iff, q1]; omega
  · refine all_n rfl ?_
    refine ite_P (fun _ => trivial) (fun _ => ?_)
    rw [vp_in_iff, h1]; omega
/-- the order of two numbers -/
def ordS (a b : Int) : Int := if a = b then 0 else if a < b then -1 else 1
theorem sp_orderOf {a b : Int64} {m n : Int} (ha : a.toInt = m) (hb : b.toInt = n) : (F_X3_orderOf a b).toInt = ordS m n := by
  unfold F_X3_orderOf ordS
  by_cases h1 : a = b
  · rw [if_pos h1, if_pos (by rw [← ha, ← hb, h1])]; rfl
  · have h1' : ¬ m = n := by rw [tl_eq, ha, hb] at h1; exact h1
    rw [if_neg h1, if_neg h1']
    by_cases h2 : b ≤ a
    · rw [if_pos h2]; rw [tl_le, ha, hb] at h2; rw [if_neg (by omega)]; rfl
    · rw [if_neg h2]; rw [tl_le, ha, hb] at h2; rw [if_pos (by omega)]; rfl
theorem rcl_scale' {r U K : Nat} (hK : 0 < K) (s : Bool) : rcl (r * K) (U * K) s = rcl r U s := by
  unfold rcl
  have e1 : r * K = 0 ↔ r = 0 := by
    constructor
    · intro h; rcases Nat.mul_eq_zero.mp h with h | h
      · exact h
      · omega
    · intro h; rw [h, Nat.zero_mul]
  have e2 : 2 * (r * K) < U * K ↔ 2 * r < U := by rw [← Nat.mul_assoc]; exact Nat.mul_lt_mul_right hK
  have e3 : 2 * (r * K) = U * K ↔ 2 * r = U := by rw [← Nat.mul_assoc]; exact ⟨fun h => Nat.mul_right_cancel hK h, fun h => by rw [h]⟩
  simp only [e1, e2, e3]
theorem sp_restOf {a U : Int64} {r k : Nat} {s : Bool} (ha : a.toInt = r) (hU : U.toInt = k) (h2 : k % 2 = 0) (hk : 0 < k) : (F_X1_restOf a U s).toInt = rcl r k s := by
  have c2 : (2 : Int64).toInt = ((2 : Nat) : Int) := rfl
  have c0 : (0 : Int64).toInt = 0 := rfl
  have e := tn_div hU c2 (by decide)
  unfold F_X1_restOf rcl
  dsimp only [bnd]
  by_cases h1 : U / 2 < a
  · rw [if_pos h1]; rw [tl_lt, e, ha] at h1
    rw [if_neg (by omega), if_neg (by omega), if_neg (by omega)]; rfl
  · rw [if_neg h1]; rw [tl_lt, e, ha] at h1
    by_cases h3 : a = U / 2
    · rw [if_pos h3]; rw [tl_eq, e, ha] at h3
      rw [if_neg (show ¬ (r = 0 ∧ s = false) from by omega), if_neg (show ¬ 2 * r < k from by omega)]
      have h5 : 2 * r = k := by omega
      cases s with
      | true => rw [if_pos rfl, if_neg (by simp)]; rfl
      | false => rw [if_neg (by simp), if_pos ⟨h5, rfl⟩]; rfl
    · rw [if_neg h3]; rw [tl_eq, e, ha] at h3
      by_cases h4 : a = 0
      · rw [if_pos h4]; rw [tl_eq, ha, c0] at h4
        have h5 : r = 0 := by omega
        subst h5
        cases s with
        | true => simp; rw [if_pos hk]; rfl
        | false => simp
      · rw [if_neg h4]; rw [tl_eq, ha, c0] at h4
        rw [if_neg (by omega), if_pos (by omega)]; rfl
/-- what the outcome's fields stand for -/
def OC (h l : Int64) (p : Int32) (mo : Bool) (N : Nat) (u : Int) : Prop := h.toInt = ((N / 10000000000000000 : Nat) : Int) ∧ l.toInt = ((N % 10000000000000000 : Nat) : Int) ∧ p.toInt = u ∧ N < 10000000000000000 * 10000000000000000 ∧ (mo = true → 10000000000000000 ≤ N)
theorem sp_oZero {h l : Int64} {p : Int32} {mo : Bool} {N : Nat} {u : Int} (o : OC h l p mo N u) : F_X1_isZero h l mo = true ↔ N = 0 ∧ mo = false := by
  obtain ⟨h1, h2, h3, h4, h5⟩ := o
  unfold F_X1_isZero
  have c0 : (0 : Int64).toInt = 0 := rfl
  by_cases a1 : h = 0
  · rw [if_pos a1]; rw [tl_eq, h1, c0] at a1
    by_cases a2 : l = 0
    · rw [if_pos a2]; rw [tl_eq, h2, c0] at a2
      cases mo with
      | true => have := h5 rfl; simp
      | false => simp; omega
    · rw [if_neg a2]; rw [tl_eq, h2, c0] at a2
      simp; omega
  · rw [if_neg a1]; rw [tl_eq, h1, c0] at a1
    simp; omega
theorem sp_digits {h l : Int64} {p : Int32} {mo : Bool} {N : Nat} {u : Int} (o : OC h l p mo N u) : (F_X1_digits h l).toInt = nd N ∧ S_X1_digits h l := by
  obtain ⟨h1, h2, h3, h4, h5⟩ := o
  unfold F_X1_digits S_X1_digits
  have c0 : (0 : Int64).toInt = 0 := rfl
  have c16 : (16 : Int32).toInt = 16 := rfl
  by_cases a1 : h = 0
  · rw [if_pos a1, if_pos a1]; rw [tl_eq, h1, c0] at a1
    have e : N % 10000000000000000 = N := by omega
    rw [e] at h2
    exact sp_digitsOf h2 (by omega)
  · rw [if_neg a1, if_neg a1]; rw [tl_eq, h1, c0] at a1
    have q := sp_digitsOf h1 (by omega)
    refine ⟨?_, q.2⟩
    have e := nd_div N 16
    rw [p16] at e
    have e2 : 0 < nd (N / 10000000000000000) := nd_pos (by omega)
    have e3 : nd N ≤ 32 := by rw [nd_le, p32]; omega
    rw [ti_add (by rw [c16, q.1]; omega) (by rw [c16, q.1]; omega), c16, q.1]
    omega
