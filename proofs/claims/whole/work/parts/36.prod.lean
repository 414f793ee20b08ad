/-! ===== products, quotients of the class ===== -/
theorem al_1 {V a : Nat} {n : Int} (h : (V : Int) = (a : Int) * 10000000000000000 + n) (h1 : 0 ≤ n) (h2 : n < 10000000000000000) : (a : Int) = ((V / 10000000000000000 : Nat) : Int) ∧ n = ((V % 10000000000000000 : Nat) : Int) := by omega
theorem al_2 {V a : Nat} {n : Int} (h : (V : Int) = (a : Int) * 10000000000000000 + n) (h1 : n < 0) (h2 : -10000000000000000 ≤ n) : (a : Int) - 1 = ((V / 10000000000000000 : Nat) : Int) ∧ n + 10000000000000000 = ((V % 10000000000000000 : Nat) : Int) := by omega
theorem al_3 {V a : Nat} {n : Int} (h : (V : Int) = (a : Int) * 10000000000000000 + n) (h1 : 10000000000000000 ≤ n) (h2 : n < 20000000000000000) : (a : Int) + 1 = ((V / 10000000000000000 : Nat) : Int) ∧ n - 10000000000000000 = ((V % 10000000000000000 : Nat) : Int) := by omega
theorem sp_addToLow {h l c : Int64} {a : Nat} {b cc : Int} {V : Nat} (h1 : h.toInt = a) (h2 : l.toInt = b) (h3 : c.toInt = cc) (hV : (V : Int) = (a : Int) * 10000000000000000 + (b + cc)) (hb1 : -10000000000000000 ≤ b + cc) (hb2 : b + cc < 20000000000000000) (ha : a ≤ 20000000000000000) :
    (F_X1_addToLow h l c).1.toInt = ((V / 10000000000000000 : Nat) : Int) ∧ (F_X1_addToLow h l c).2.toInt = ((V % 10000000000000000 : Nat) : Int) := by
  have lE : (10000000000000000 : Int64).toInt = 10000000000000000 := rfl
  have l0 : (0 : Int64).toInt = 0 := rfl
  have l1 : (1 : Int64).toInt = 1 := rfl
  have hn : (l + c).toInt = b + cc := by rw [tl_add (by omega) (by omega), h2, h3]
  unfold F_X1_addToLow
  dsimp only [bnd]
  by_cases a1 : l + c < 10000000000000000
  · simp only [if_pos a1]
    rw [tl_lt, hn, lE] at a1
    by_cases a2 : 0 ≤ l + c
    · simp only [if_pos a2]
      rw [tl_le, hn, l0] at a2
      obtain ⟨q1, q2⟩ := al_1 hV a2 a1
      rw [h1, hn]; exact ⟨q1, q2⟩
    · simp only [if_neg a2]
      rw [tl_le, hn, l0] at a2
      obtain ⟨q1, q2⟩ := al_2 hV (by omega) hb1
      rw [tl_sub (by omega) (by omega), tl_add (by omega) (by omega), h1, hn, l1, lE]; exact ⟨q1, q2⟩
  · simp only [if_neg a1]
    rw [tl_lt, hn, lE] at a1
    obtain ⟨q1, q2⟩ := al_3 hV (by omega) hb2
    rw [tl_sub (by omega) (by omega), tl_add (by omega) (by omega), h1, hn, l1, lE]; exact ⟨q1, q2⟩
theorem pr_1 {a b c d : Nat} : (a * 100000000 + b) * (c * 100000000 + d) = a * c * 10000000000000000 + (a * d + b * c) * 100000000 + b * d := by
  have e1 : a * 100000000 * (c * 100000000) = a * c * 10000000000000000 := Nat.mul_mul_mul_comm a 100000000 c 100000000
  have e2 : a * 100000000 * d = a * d * 100000000 := Nat.mul_right_comm _ _ _
  have e3 : b * (c * 100000000) = b * c * 100000000 := (Nat.mul_assoc _ _ _).symm
  rw [Nat.add_mul, Nat.mul_add, Nat.mul_add, e1, e2, e3, Nat.add_mul]
  omega
theorem pr_b {a b : Nat} (h1 : a < 100000000) (h2 : b < 100000000) : a * b ≤ 9999999800000001 := Nat.mul_le_mul (Nat.le_of_lt_succ h1 : a ≤ 99999999) (Nat.le_of_lt_succ h2 : b ≤ 99999999)
theorem pr_2 {X Y W : Nat} : ((X * 10000000000000000 + Y * 100000000 + W : Nat) : Int) = ((X + Y / 100000000 : Nat) : Int) * 10000000000000000 + (((Y % 100000000 * 100000000 : Nat) : Int) + (W : Int)) := by omega
theorem pr_3 {A : Nat} (h : A < 10000000000000000) : A / 100000000 < 100000000 ∧ A % 100000000 < 100000000 ∧ A = A / 100000000 * 100000000 + A % 100000000 := by omega
section PRD
variable {so : Nat → Int32} {mi : Nat → Bool} {co : Nat → Int64} {ex : Nat → Int32} {i j : Nat}
theorem neB (a b : Bool) : (if a = b then false else true) = (a != b) := by cases a <;> cases b <;> rfl
theorem sp_product {A B : Nat} {ea eb : Int} (hA : (co i).toInt = A) (hB : (co j).toInt = B) (hA2 : A < 10000000000000000) (hB2 : B < 10000000000000000) (he1 : (ex i).toInt = ea) (he2 : (ex j).toInt = eb) (b1 : -1000 ≤ ea ∧ ea ≤ 1000) (b2 : -1000 ≤ eb ∧ eb ≤ 1000)
    {z : Bool × Int64 × Int64 × Int32 × Bool × Int32} (hz : z = F_X1_setProduct mi co ex i j) : z.1 = (mi i != mi j) ∧ OC z.2.1 z.2.2.1 z.2.2.2.1 false (A * B) (ea + eb) ∧ z.2.2.2.2.1 = false ∧ z.2.2.2.2.2.toInt = ea + eb := by
  have l8 : (100000000 : Int64).toInt = ((100000000 : Nat) : Int) := rfl
  unfold F_X1_setProduct at hz
  obtain ⟨x1, e1, hz⟩ := bnd_x hz
  obtain ⟨x2, e2, hz⟩ := bnd_x hz
  obtain ⟨x3, e3, hz⟩ := bnd_x hz
  obtain ⟨x4, e4, hz⟩ := bnd_x hz
  obtain ⟨x5, e5, hz⟩ := bnd_x hz
  obtain ⟨x6, e6, hz⟩ := bnd_x hz
  obtain ⟨x7, e7, hz⟩ := bnd_x hz
  obtain ⟨x8, e8, hz⟩ := bnd_x hz
  obtain ⟨x9, e9, hz⟩ := bnd_x hz
  obtain ⟨x10, e10, hz⟩ := bnd_x hz
  obtain ⟨ha1, ha2, ha3⟩ := pr_3 hA2
  obtain ⟨hb1, hb2, hb3⟩ := pr_3 hB2
  have f1 : x1.toInt = ((A / 100000000 : Nat) : Int) := by rw [e1]; exact tn_div hA l8 (by decide)
  have f2 : x2.toInt = ((A % 100000000 : Nat) : Int) := by rw [e2]; exact tn_rem hA l8 (by decide)
  have f3 : x3.toInt = ((B / 100000000 : Nat) : Int) := by rw [e3]; exact tn_div hB l8 (by decide)
  have f4 : x4.toInt = ((B % 100000000 : Nat) : Int) := by rw [e4]; exact tn_rem hB l8 (by decide)
  have hV : A * B = (A / 100000000 * 100000000 + A % 100000000) * (B / 100000000 * 100000000 + B % 100000000) := by rw [← ha3, ← hb3]
  have hlt : A * B < 10000000000000000 * 10000000000000000 := Nat.mul_lt_mul'' hA2 hB2
  generalize A * B = V at hV hlt ⊢
  generalize A / 100000000 = aH at *
  generalize A % 100000000 = aL at *
  generalize B / 100000000 = bH at *
  generalize B % 100000000 = bL at *
  rw [pr_1] at hV
  have g1 := pr_b ha1 hb1
  have g2 := pr_b ha1 hb2
  have g3 := pr_b ha2 hb1
  have g4 := pr_b ha2 hb2
  have f5 : x5.toInt = ((aH * bL + aL * bH : Nat) : Int) := by rw [e5]; exact tn_add (tn_mul f1 f4 (by omega)) (tn_mul f2 f3 (by omega)) (by omega)
  have m1 := tn_mul f1 f3 (by omega)
  have m4 := tn_mul f2 f4 (by omega)
  generalize aH * bH = X at *
  generalize aL * bL = W at *
  generalize aH * bL + aL * bH = Y at *
  have f7 : x7.toInt = ((X + Y / 100000000 : Nat) : Int) := by rw [e7]; exact tn_add m1 (tn_div f5 l8 (by decide)) (by omega)
  have f8 : x8.toInt = ((Y % 100000000 * 100000000 : Nat) : Int) := by rw [e8]; exact tn_mul (tn_rem f5 l8 (by decide)) l8 (by omega)
  have hV2 : (V : Int) = ((X + Y / 100000000 : Nat) : Int) * 10000000000000000 + (((Y % 100000000 * 100000000 : Nat) : Int) + (W : Int)) := by rw [hV]; exact pr_2
  obtain ⟨r1, r2⟩ := sp_addToLow f7 f8 m4 hV2 (by omega) (by omega) (by omega)
  rw [← e9] at r1 r2
  have f10 : x10.toInt = ea + eb := by rw [e10, ti_add (by omega) (by omega), he1, he2]
  subst hz
  refine ⟨?_, ⟨r1, r2, f10, hlt, fun q => absurd q (by simp)⟩, rfl, f10⟩
  show x6 = _
  rw [e6]; exact neB _ _
/-! quotients -/
theorem q_step (X B : Nat) : X * 10 / B = X / B * 10 + X % B * 10 / B ∧ X * 10 % B = X % B * 10 % B := by
  by_cases hB : B = 0
  · subst hB; simp
  have h := Nat.div_add_mod X B
  generalize X / B = q at h ⊢
  generalize X % B = r at h ⊢
  have e : X * 10 = B * (q * 10) + r * 10 := by rw [← h, Nat.add_mul, Nat.mul_assoc]
  rw [e]
  exact ⟨Nat.mul_add_div (Nat.pos_of_ne_zero hB) _ _, Nat.mul_add_mod _ _ _⟩
theorem G_q1 {n : Int64} {t : Int64 × Int32 × Int32} : G_X1_setQuotient_59 n t = true ↔ ¬ (16 : Int32) ≤ t.2.1 ∧ ¬ n ≤ t.1 := by
  unfold G_X1_setQuotient_59
  dsimp only [bnd]
  by_cases h1 : (16 : Int32) ≤ t.2.1
  · simp [h1]
  · by_cases h2 : n ≤ t.1
    · simp [h2]
    · simp [h1, h2]
theorem G_q2 {n : Int64} {t : Int64 × Int32 × Int64 × Int32} : G_X1_setQuotient_119 n t = true ↔ ¬ (16 : Int32) ≤ t.2.1 := by
  unfold G_X1_setQuotient_119
  dsimp only [bnd]
  by_cases h1 : (16 : Int32) ≤ t.2.1
  · simp [h1]
  · simp [h1]
theorem sp_q1 {n a : Int64} {p : Int32} {A B : Nat} {u : Int} (hn : n.toInt = B) (ha : a.toInt = A) (hp : p.toInt = u) (hA2 : A < 10000000000000000) (hB0 : 0 < B) (hB2 : B < 10000000000000000) (b1 : -5000 ≤ u ∧ u ≤ 5000)
    {z : Int64 × Int32 × Int32} (hz : z = wl (G_X1_setQuotient_59 n) (B_X1_setQuotient_59 n) 17 (a, 0, p)) :
    (∃ k : Nat, k ≤ 16 ∧ z.1.toInt = ((A * 10 ^ k : Nat) : Int) ∧ z.2.2.toInt = u - k ∧ A * 10 ^ k < 100000000000000000 ∧ A * 10 ^ k / B < 10000000000000000 ∧ (A ≠ 0 → B ≤ A * 10 ^ k)) ∧ G_X1_setQuotient_59 n (wl (G_X1_setQuotient_59 n) (B_X1_setQuotient_59 n) 17 (a, 0, p)) = false := by
  have c16 : (16 : Int32).toInt = 16 := rfl
  have c1 : (1 : Int32).toInt = 1 := rfl
  have l10 : (10 : Int64).toInt = ((10 : Nat) : Int) := rfl
  have R := wl_run (G := G_X1_setQuotient_59 n) (B := B_X1_setQuotient_59 n) (N := 17) (t := (a, 0, p)) (fun j t => t.2.1.toInt = j ∧ j ≤ 16 ∧ t.1.toInt = ((A * 10 ^ j : Nat) : Int) ∧ t.2.2.toInt = u - j ∧ (j = 0 ∨ A * 10 ^ j < 10 * B))
    ⟨rfl, by omega, by rw [Nat.pow_zero, Nat.mul_one]; exact ha, by simpa using hp, Or.inl rfl⟩
    (by
      rintro j t _ ⟨h1, h2, h3, h4, h5⟩ hg
      obtain ⟨g1, g2⟩ := G_q1.mp hg
      have e : B_X1_setQuotient_59 n t = (t.1 * 10, t.2.1 + 1, t.2.2 - 1) := by unfold B_X1_setQuotient_59; dsimp only [bnd]; rw [if_neg g1, if_neg g2]
      rw [ti_le, c16, h1] at g1
      rw [tl_le, hn, h3] at g2
      have e10 : A * 10 ^ (j + 1) = A * 10 ^ j * 10 := by rw [Nat.pow_succ, Nat.mul_assoc]
      generalize A * 10 ^ j = L at *
      rw [e, e10]
      refine ⟨?_, by omega, tn_mul h3 l10 (by omega), ?_, Or.inr (by omega)⟩
      · rw [ti_add (by omega) (by omega)]; omega
      · rw [ti_sub (by omega) (by omega)]; omega)
    (by rintro t ⟨_, h2, _⟩; omega)
  obtain ⟨⟨k, hk, h1, h2, h3, h4, h5⟩, hg, -⟩ := R
  have hng : ¬ (G_X1_setQuotient_59 n (wl (G_X1_setQuotient_59 n) (B_X1_setQuotient_59 n) 17 (a, 0, p)) = true) := by rw [hg]; simp
  refine ⟨⟨k, h2, by rw [hz]; exact h3, by rw [hz]; exact h4, ?_, ?_, ?_⟩, hg⟩
  · rcases h5 with h5 | h5
    · subst h5; rw [Nat.pow_zero, Nat.mul_one]; omega
    · omega
  · rcases h5 with h5 | h5
    · subst h5; rw [Nat.pow_zero, Nat.mul_one]; exact Nat.lt_of_le_of_lt (Nat.div_le_self _ _) hA2
    · rw [Nat.div_lt_iff_lt_mul hB0]; generalize A * 10 ^ k = L at *; omega
  · intro hA0
    rw [G_q1] at hng
    by_cases q : B ≤ A * 10 ^ k
    · exact q
    · exfalso
      apply hng
      have hk16 : k ≠ 16 := by
        intro q2; subst q2
        rw [p16] at q
        have := Nat.mul_le_mul_right 10000000000000000 (Nat.pos_of_ne_zero hA0)
        omega
      refine ⟨?_, ?_⟩
      · rw [ti_le, c16, h1]; omega
      · rw [tl_le, hn, h3]; generalize A * 10 ^ k = L at *; omega
theorem sp_q2 {n a : Int64} {p : Int32} {L B : Nat} {u : Int} (hn : n.toInt = B) (ha : a.toInt = L) (hp : p.toInt = u) (hL : L < B) (hB2 : B < 10000000000000000) (b1 : -5000 ≤ u ∧ u ≤ 5000)
    {z : Int64 × Int32 × Int64 × Int32} (hz : z = wl (G_X1_setQuotient_119 n) (B_X1_setQuotient_119 n) 17 (a, 0, 0, p)) :
    (z.1.toInt = ((L * 10000000000000000 % B : Nat) : Int) ∧ z.2.2.1.toInt = ((L * 10000000000000000 / B : Nat) : Int) ∧ z.2.2.2.toInt = u - 16) ∧
    (∀ j : Nat, j < nW (G_X1_setQuotient_119 n) (B_X1_setQuotient_119 n) 17 (a, 0, 0, p) → SB_X1_setQuotient_119 n (itn (B_X1_setQuotient_119 n) j (a, 0, 0, p))) ∧ G_X1_setQuotient_119 n (wl (G_X1_setQuotient_119 n) (B_X1_setQuotient_119 n) 17 (a, 0, 0, p)) = false := by
  have c16 : (16 : Int32).toInt = 16 := rfl
  have c1 : (1 : Int32).toInt = 1 := rfl
  have l10 : (10 : Int64).toInt = ((10 : Nat) : Int) := rfl
  have l0 : (0 : Int64).toInt = 0 := rfl
  have hB0 : 0 < B := by omega
  have hlt : ∀ j, j ≤ 16 → L * 10 ^ j / B < 10000000000000000 := by
    intro j hj
    rw [Nat.div_lt_iff_lt_mul hB0, Nat.mul_comm _ B]
    exact Nat.lt_of_le_of_lt (Nat.mul_le_mul_left L (p10_16 hj)) (Nat.mul_lt_mul_of_pos_right hL (by decide))
  have R := wl_run (G := G_X1_setQuotient_119 n) (B := B_X1_setQuotient_119 n) (N := 17) (t := (a, 0, 0, p)) (fun j t => t.2.1.toInt = j ∧ j ≤ 16 ∧ t.1.toInt = ((L * 10 ^ j % B : Nat) : Int) ∧ t.2.2.1.toInt = ((L * 10 ^ j / B : Nat) : Int) ∧ t.2.2.2.toInt = u - j)
    ⟨rfl, by omega, by rw [Nat.pow_zero, Nat.mul_one, Nat.mod_eq_of_lt hL]; exact ha, by rw [Nat.pow_zero, Nat.mul_one, Nat.div_eq_of_lt hL]; rfl, by simpa using hp⟩
    (by
      rintro j t _ ⟨h1, h2, h3, h4, h5⟩ hg
      have g1 := G_q2.mp hg
      have e : B_X1_setQuotient_119 n t = (jremL (t.1 * 10) n, t.2.1 + 1, t.2.2.1 * 10 + t.1 * 10 / n, t.2.2.2 - 1) := by unfold B_X1_setQuotient_119; dsimp only [bnd]; rw [if_neg g1]
      rw [ti_le, c16, h1] at g1
      have e10 : L * 10 ^ (j + 1) = L * 10 ^ j * 10 := by rw [Nat.pow_succ, Nat.mul_assoc]
      have hq := hlt j h2
      have hq2 := hlt (j + 1) (by omega)
      have hr : L * 10 ^ j % B < B := Nat.mod_lt _ hB0
      rw [e10] at hq2
      obtain ⟨s1, s2⟩ := q_step (L * 10 ^ j) B
      rw [e, e10]
      rw [s1] at hq2
      rw [s1, s2]
      clear s1 s2 e10
      generalize L * 10 ^ j % B = r at *
      generalize L * 10 ^ j / B = q at *
      have m1 := tn_mul h3 l10 (by omega)
      refine ⟨?_, by omega, tn_rem m1 hn hB0, ?_, ?_⟩
      · rw [ti_add (by omega) (by omega)]; omega
      · exact tn_add (tn_mul h4 l10 (by omega)) (tn_div m1 hn hB0) (by omega)
      · rw [ti_sub (by omega) (by omega)]; omega)
    (by rintro t ⟨_, h2, _⟩; omega)
  obtain ⟨⟨k, hk, h1, h2, h3, h4, h5⟩, hg, hb⟩ := R
  have hng : ¬ (G_X1_setQuotient_119 n (wl (G_X1_setQuotient_119 n) (B_X1_setQuotient_119 n) 17 (a, 0, 0, p)) = true) := by rw [hg]; simp
  have ek : k = 16 := by
    rw [G_q2, ti_le, c16, h1] at hng
    omega
  subst ek
  rw [p16] at h3 h4
  refine ⟨by rw [hz]; exact ⟨h3, h4, h5⟩, fun j hj => ?_, hg⟩
  unfold SB_X1_setQuotient_119
  refine ite_P (fun _ => trivial) (fun _ _ _ => ?_)
  rw [tl_eq, hn, l0]; omega
theorem q_fin (L B E : Nat) (hB : 0 < B) : L * E / B = L / B * E + L % B * E / B ∧ L * E % B = L % B * E % B := by
  have h := Nat.div_add_mod L B
  generalize L / B = q at h ⊢
  generalize L % B = r at h ⊢
  have e : L * E = B * (q * E) + r * E := by rw [← h, Nat.add_mul, Nat.mul_assoc]
  rw [e]
  exact ⟨Nat.mul_add_div hB _ _, Nat.mul_add_mod _ _ _⟩
theorem qf_1 {Q T : Nat} (h : 1 ≤ Q) : 10000000000000000 ≤ Q * 10000000000000000 + T := by omega
theorem qf_2 {Q T : Nat} (h1 : Q < 10000000000000000) (h2 : T < 10000000000000000) : (Q * 10000000000000000 + T) / 10000000000000000 = Q ∧ (Q * 10000000000000000 + T) % 10000000000000000 = T ∧ Q * 10000000000000000 + T < 10000000000000000 * 10000000000000000 := by omega
theorem sp_quotient {A B : Nat} {ea eb : Int} (hA : (co i).toInt = A) (hB : (co j).toInt = B) (hA2 : A < 10000000000000000) (hB0 : 0 < B) (hB2 : B < 10000000000000000) (he1 : (ex i).toInt = ea) (he2 : (ex j).toInt = eb) (b1 : -1000 ≤ ea ∧ ea ≤ 1000) (b2 : -1000 ≤ eb ∧ eb ≤ 1000)
    {z : Bool × Int64 × Int64 × Int32 × Bool × Int32} (hz : z = F_X1_setQuotient mi co ex i j) :
    S_X1_setQuotient mi co ex i j ∧ z.1 = (mi i != mi j) ∧ (∃ k : Nat, k ≤ 16 ∧ OC z.2.1 z.2.2.1 z.2.2.2.1 (decide (A * 10 ^ (k + 16) % B ≠ 0)) (A * 10 ^ (k + 16) / B) (ea - eb - (k + 16)) ∧ z.2.2.2.2.1 = decide (A * 10 ^ (k + 16) % B ≠ 0)) ∧ z.2.2.2.2.2.toInt = ea - eb := by
  have l1 : (1 : Int64).toInt = 1 := rfl
  have l0 : (0 : Int64).toInt = ((0 : Nat) : Int) := rfl
  unfold F_X1_setQuotient at hz
  unfold S_X1_setQuotient
  obtain ⟨x1, e1, hz⟩ := bnd_x hz
  obtain ⟨x2, e2, hz⟩ := bnd_x hz
  obtain ⟨x3, e3, hz⟩ := bnd_x hz
  obtain ⟨x4, e4, hz⟩ := bnd_x hz
  obtain ⟨x5, e5, hz⟩ := bnd_x hz
  obtain ⟨x6, e6, hz⟩ := bnd_x hz
  obtain ⟨x7, e7, hz⟩ := bnd_x hz
  obtain ⟨x8, e8, hz⟩ := bnd_x hz
  obtain ⟨x9, e9, hz⟩ := bnd_x hz
  have f1 : x1.toInt = B := by rw [e1, tl_max, l1, hB]; omega
  have f2 : x2.toInt = A := by rw [e2]; exact hA
  have f4 : x4.toInt = ea - eb := by rw [e4, ti_sub (by omega) (by omega), he1, he2]
  obtain ⟨⟨k, hk, g1, g2, g3, g4, g5⟩, s1⟩ := sp_q1 f1 f2 f4 hA2 hB0 hB2 (by omega) e5
  have f6 : x6.toInt = ((A * 10 ^ k / B : Nat) : Int) := by rw [e6]; exact tn_div g1 f1 hB0
  have f7 : x7.toInt = ((A * 10 ^ k % B : Nat) : Int) := by rw [e7]; exact tn_rem g1 f1 hB0
  have hr : A * 10 ^ k % B < B := Nat.mod_lt _ hB0
  obtain ⟨⟨k1, k2, k3⟩, s2, s3⟩ := sp_q2 f1 f7 g2 hr hB2 (by omega) e8
  have hn0 : ¬ x1 = 0 := by rw [tl_eq, f1, l0]; omega
  refine ⟨all_n e1 (all_n e2 (all_n e3 (all_n e4 ⟨s1, all_n e5 ⟨hn0, all_n e6 (all_n e7 ⟨s2, s3⟩)⟩⟩))), ?_⟩
  have eE : A * 10 ^ (k + 16) = A * 10 ^ k * 10000000000000000 := by rw [p10a, p16, Nat.mul_assoc]
  obtain ⟨y1, y2⟩ := q_fin (A * 10 ^ k) B 10000000000000000 hB0
  have hlow : A * 10 ^ k % B * 10000000000000000 / B < 10000000000000000 := by
    rw [Nat.div_lt_iff_lt_mul hB0, Nat.mul_comm _ B]
    exact Nat.mul_lt_mul_of_pos_right hr (by decide)
  have f9 : x9 = decide (A * 10 ^ (k + 16) % B ≠ 0) := by
    rw [e9, eE, y2]
    unfold Z_X1_setQuotient_J_145
    by_cases q : x8.1 = 0
    · rw [if_pos q]; rw [tl_eq, k1, l0] at q
      have q' : A * 10 ^ k % B * 10000000000000000 % B = 0 := Int.ofNat.inj q
      exact (decide_eq_false (fun h => h q')).symm
    · rw [if_neg q]; rw [tl_eq, k1, l0] at q
      have q' : A * 10 ^ k % B * 10000000000000000 % B ≠ 0 := fun h => q (by rw [h])
      exact (decide_eq_true q').symm
  have hge : x9 = true → 10000000000000000 ≤ A * 10 ^ (k + 16) / B := by
    intro q
    rw [f9, eE] at q
    rw [eE, y1]
    have hA0 : A ≠ 0 := by
      intro h; subst h; simp at q
    have h1 : 1 ≤ A * 10 ^ k / B := (Nat.le_div_iff_mul_le hB0).mpr (by rw [Nat.one_mul]; exact g5 hA0)
    exact qf_1 h1
  subst hz
  refine ⟨?_, ⟨k, hk, ?_, f9⟩, f4⟩
  · show x3 = _
    rw [e3]; exact neB _ _
  · rw [← f9]
    have eN : A * 10 ^ (k + 16) / B = A * 10 ^ k / B * 10000000000000000 + A * 10 ^ k % B * 10000000000000000 / B := by rw [eE, y1]
    rw [eN] at hge ⊢
    obtain ⟨y3, y4, y5⟩ := qf_2 g4 hlow
    refine ⟨?_, ?_, ?_, y5, hge⟩
    · show x6.toInt = _
      rw [f6, y3]
    · show x8.2.2.1.toInt = _
      rw [k2, y4]
    · show x8.2.2.2.toInt = _
      rw [k3]; omega
end PRD
