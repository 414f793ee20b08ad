/-! ===== the reference: sums and differences of rows of digits ===== -/
theorem add_div3 (A B K : Nat) (hK : 0 < K) : (A + B) / K = A / K + B / K + (A % K + B % K) / K := by
  have h1 := Nat.div_add_mod A K
  have h2 := Nat.div_add_mod B K
  have e : A + B = K * (A / K + B / K) + (A % K + B % K) := by rw [Nat.mul_add]; omega
  rw [e, Nat.mul_add_div hK]
theorem carry_step (A B j : Nat) : (A % 10 ^ (j + 1) + B % 10 ^ (j + 1)) / 10 ^ (j + 1) = (A / 10 ^ j % 10 + B / 10 ^ j % 10 + (A % 10 ^ j + B % 10 ^ j) / 10 ^ j) / 10 := by
  rw [mod_step, mod_step]
  have e : A % 10 ^ j + 10 ^ j * (A / 10 ^ j % 10) + (B % 10 ^ j + 10 ^ j * (B / 10 ^ j % 10)) = 10 ^ j * (A / 10 ^ j % 10 + B / 10 ^ j % 10) + (A % 10 ^ j + B % 10 ^ j) := by rw [Nat.mul_add]; omega
  rw [e, Nat.pow_succ, ← Nat.div_div_eq_div_mul, Nat.mul_add_div (p10 j)]
theorem carry_b (A B j : Nat) : (A % 10 ^ j + B % 10 ^ j) / 10 ^ j ≤ 1 := by
  have h1 : A % 10 ^ j < 10 ^ j := Nat.mod_lt _ (p10 j)
  have h2 : B % 10 ^ j < 10 ^ j := Nat.mod_lt _ (p10 j)
  rw [← Nat.lt_succ_iff, Nat.div_lt_iff_lt_mul (p10 j)]
  omega
theorem tin_add {a b : Int32} {m n : Nat} (ha : a.toInt = m) (hb : b.toInt = n) (h : m + n < 2147483648) : (a + b).toInt = ((m + n : Nat) : Int) := by
  rw [ti_add (by omega) (by omega)]; omega
theorem tin_div {a b : Int32} {m n : Nat} (ha : a.toInt = m) (hb : b.toInt = n) (hn : 0 < n) : (a / b).toInt = ((m / n : Nat) : Int) := by
  rw [ti_div (by omega) (by omega), ha, hb]; exact (Int.natCast_ediv m n).symm
theorem tin_rem {a b : Int32} {m n : Nat} (ha : a.toInt = m) (hb : b.toInt = n) (hn : 0 < n) : (jrem a b).toInt = ((m % n : Nat) : Int) := by
  rw [ti_rem (by omega) (by omega), ha, hb]; exact (Int.natCast_emod m n).symm
theorem sp_addDigits {f g : Nat → Int32} {A B : Nat} (hf : DP f A) (hg0 : DP g B) (hAB : nd (A + B) ≤ 900) : DP (F_X4_addDigits f g) (A + B) ∧ S_X4_addDigits f g := by
  have c900 : (900 : Int32).toInt = 900 := rfl
  have c1 : (1 : Int32).toInt = 1 := rfl
  have c10 : (10 : Int32).toInt = ((10 : Nat) : Int) := rfl
  have hG : ∀ t, G_X4_addDigits_4 g t = true ↔ ¬ (900 : Int32) ≤ t.2.1 := by
    intro t; unfold G_X4_addDigits_4; dsimp only [bnd]
    by_cases h : (900 : Int32) ≤ t.2.1
    · simp [h]
    · simp [h]
  have R := wl_run (G := G_X4_addDigits_4 g) (B := B_X4_addDigits_4 g) (N := 901) (t := (0, 0, f)) (fun j t => t.2.1.toInt = j ∧ j ≤ 900 ∧ t.1.toInt = (((A % 10 ^ j + B % 10 ^ j) / 10 ^ j : Nat) : Int) ∧ ∀ m, m < 900 → (t.2.2 m).toInt = if m < j then (((A + B) / 10 ^ m % 10 : Nat) : Int) else ((A / 10 ^ m % 10 : Nat) : Int))
    ⟨rfl, by omega, by rw [Nat.pow_zero, Nat.mod_one, Nat.mod_one]; rfl, fun m hm => by rw [if_neg (by omega)]; exact hf.2 m hm⟩
    (by
      rintro j t _ ⟨h1, h2, h3, h4⟩ hg
      have gg := (hG t).mp hg
      have e : B_X4_addDigits_4 g t = ((t.2.2 t.2.1.toNatClampNeg + g t.2.1.toNatClampNeg + t.1) / 10, t.2.1 + 1, va_up t.2.2 t.2.1.toNatClampNeg (jrem (t.2.2 t.2.1.toNatClampNeg + g t.2.1.toNatClampNeg + t.1) 10)) := by unfold B_X4_addDigits_4; dsimp only [bnd]; rw [if_neg gg]
      rw [ti_le, c900, h1] at gg
      have k1 := h4 j (by omega)
      rw [if_neg (by omega)] at k1
      have k2 := hg0.2 j (by omega)
      have hc := carry_b A B j
      have d1 : A / 10 ^ j % 10 < 10 := Nat.mod_lt _ (by decide)
      have d2 : B / 10 ^ j % 10 < 10 := Nat.mod_lt _ (by decide)
      have hcs := carry_step A B j
      have had : (A + B) / 10 ^ j % 10 = (A / 10 ^ j % 10 + B / 10 ^ j % 10 + (A % 10 ^ j + B % 10 ^ j) / 10 ^ j) % 10 := by
        rw [add_div3 A B _ (p10 j)]
        generalize A / 10 ^ j = x
        generalize B / 10 ^ j = y
        omega
      rw [e, ti_idx h1]
      have s1 : (t.2.2 j + g j + t.1).toInt = ((A / 10 ^ j % 10 + B / 10 ^ j % 10 + (A % 10 ^ j + B % 10 ^ j) / 10 ^ j : Nat) : Int) := by
        refine tin_add (tin_add k1 k2 (by omega)) h3 ?_
        have : A / 10 ^ j % 10 + B / 10 ^ j % 10 ≤ 18 := by omega
        exact Nat.lt_of_le_of_lt (Nat.add_le_add this hc) (by decide)
      refine ⟨by rw [ti_add (by omega) (by omega), h1, c1]; omega, by omega, ?_, fun m hm => ?_⟩
      · rw [hcs]; exact tin_div s1 c10 (by decide)
      · by_cases y : m = j
        · subst y
          show Int32.toInt (va_up _ _ _ _) = _
          rw [up_s, if_pos (by omega), had]
          exact tin_rem s1 c10 (by decide)
        · show Int32.toInt (va_up _ _ _ _) = _
          rw [up_n y, h4 m hm]
          by_cases y2 : m < j
          · rw [if_pos y2, if_pos (by omega)]
          · rw [if_neg y2, if_neg (by omega)])
    (by rintro t ⟨_, h2, _⟩; omega)
  obtain ⟨⟨k, hk, h1, h2, h3, h4⟩, hg, hb⟩ := R
  have hng := ng_of hg
  rw [hG, ti_le, c900, h1] at hng
  have ek : k = 900 := by omega
  subst ek
  refine ⟨⟨hAB, fun m hm => ?_⟩, fun j hj => ?_, hg⟩
  · unfold F_X4_addDigits
    dsimp only [bnd]
    rw [if_pos (by rw [ti_le, c900, h1]; omega), h4 m hm, if_pos hm]
  · obtain ⟨⟨q1, q2, q3, q4⟩, q5, q6⟩ := hb j hj
    unfold SB_X4_addDigits_4
    refine ite_P (fun _ => trivial) (fun gg => ?_)
    rw [ti_le, c900, q1] at gg
    rw [vp_in_iff, q1]; omega
theorem sp_less {f g : Nat → Int32} {A B : Nat} (hf : DP f A) (hg0 : DP g B) : F_X4_less f g = decide (A < B) ∧ S_X4_less f g := by
  have z0 : (0 : Int32).toInt = 0 := rfl
  have cm1 : (-1 : Int32).toInt = -1 := rfl
  have hG : ∀ t, G_X4_less_4 f g t = true ↔ ¬ t < 0 ∧ f t.toNatClampNeg = g t.toNatClampNeg := by
    intro t; unfold G_X4_less_4; dsimp only [bnd]
    by_cases h : t < 0
    · simp [h]
    · by_cases h2 : f t.toNatClampNeg = g t.toNatClampNeg
      · simp [h, h2]
      · simp [h2]
  have R := wl_run (G := G_X4_less_4 f g) (B := B_X4_less_4 f g) (N := 901) (t := (899 : Int32)) (fun j t => t.toInt = 899 - (j : Int) ∧ j ≤ 900 ∧ A / 10 ^ (900 - j) = B / 10 ^ (900 - j))
    ⟨rfl, by omega, by rw [Nat.sub_zero, nd_small hf.1, nd_small hg0.1]⟩
    (by
      rintro j t _ ⟨h1, h2, h3⟩ hg
      obtain ⟨g1, g2⟩ := (hG t).mp hg
      have e : B_X4_less_4 f g t = t + -1 := by unfold B_X4_less_4; dsimp only [bnd]; rw [if_neg g1, if_pos g2]
      rw [ti_lt, z0, h1] at g1
      have hi : t.toInt = ((899 - j : Nat) : Int) := by omega
      have k1 := hf.2 (899 - j) (by omega)
      have k2 := hg0.2 (899 - j) (by omega)
      rw [ti_idx hi, ti_eq, k1, k2] at g2
      have a1 := dig_step A (899 - j)
      have a2 := dig_step B (899 - j)
      have ej : 899 - j + 1 = 900 - j := by omega
      rw [ej] at a1 a2
      rw [e]
      refine ⟨by rw [ti_add (by omega) (by omega), cm1]; omega, by omega, ?_⟩
      have ej2 : 900 - (j + 1) = 899 - j := by omega
      rw [ej2, a1, a2, h3, Int.ofNat.inj g2])
    (by rintro t ⟨_, h2, _⟩; omega)
  obtain ⟨⟨k, hk, h1, h2, h3⟩, hg, hb⟩ := R
  have hng := ng_of hg
  rw [hG] at hng
  refine ⟨?_, fun j hj => ?_, hg, all_n rfl ?_⟩
  · unfold F_X4_less
    dsimp only [bnd]
    generalize wl (G_X4_less_4 f g) (B_X4_less_4 f g) 901 899 = t at h1 hng ⊢
    by_cases g1 : t < 0
    · rw [if_pos g1]
      rw [ti_lt, z0, h1] at g1
      have ek : k = 900 := by omega
      subst ek
      rw [Nat.sub_self, Nat.pow_zero, Nat.div_one, Nat.div_one] at h3
      exact (decide_eq_false (by omega)).symm
    · rw [if_neg g1]
      have g2 : ¬ f t.toNatClampNeg = g t.toNatClampNeg := fun q => hng ⟨g1, q⟩
      rw [if_neg g2]
      rw [ti_lt, z0, h1] at g1
      have hi : t.toInt = ((899 - k : Nat) : Int) := by omega
      have k1 := hf.2 (899 - k) (by omega)
      have k2 := hg0.2 (899 - k) (by omega)
      have a1 := dig_step A (899 - k)
      have a2 := dig_step B (899 - k)
      have ej : 899 - k + 1 = 900 - k := by omega
      rw [ej] at a1 a2
      rw [ti_idx hi, ti_eq, k1, k2] at g2
      rw [ti_idx hi]
      have hne : A / 10 ^ (899 - k) % 10 ≠ B / 10 ^ (899 - k) % 10 := fun q => g2 (by rw [q])
      by_cases y : g (899 - k) ≤ f (899 - k)
      · rw [if_pos y]
        rw [ti_le, k1, k2] at y
        refine (decide_eq_false (fun q => ?_)).symm
        have := Nat.div_le_div_right (c := 10 ^ (899 - k)) (Nat.le_of_lt q)
        have y' : B / 10 ^ (899 - k) % 10 ≤ A / 10 ^ (899 - k) % 10 := Int.ofNat_le.mp y
        omega
      · rw [if_neg y]
        rw [ti_le, k1, k2] at y
        refine (decide_eq_true ?_).symm
        apply Nat.lt_of_not_le
        intro q
        have := Nat.div_le_div_right (c := 10 ^ (899 - k)) q
        have y' : ¬ B / 10 ^ (899 - k) % 10 ≤ A / 10 ^ (899 - k) % 10 := fun q => y (Int.ofNat_le.mpr q)
        omega
  · obtain ⟨⟨q1, q2, q3⟩, q5, q6⟩ := hb j hj
    unfold SB_X4_less_4
    refine ite_P (fun _ => trivial) (fun gg => ?_)
    rw [ti_lt, z0, q1] at gg
    rw [vp_in_iff, q1]; omega
  · refine ite_P (fun _ => trivial) (fun gg => ?_)
    rw [ti_lt, z0, h1] at gg
    rw [vp_in_iff, h1]; omega
/-- a difference' digits -/
theorem sub_dig {P Q K : Nat} (hK : 0 < K) (h : Q ≤ P) : (((P - Q) / K : Nat) : Int) = (P / K : Nat) - ((Q / K : Nat) : Int) - (if P % K < Q % K then 1 else 0) := by
  have h1 := Nat.div_add_mod P K
  have h2 := Nat.div_add_mod Q K
  have h3 : P % K < K := Nat.mod_lt _ hK
  have h4 : Q % K < K := Nat.mod_lt _ hK
  have hpq : Q / K ≤ P / K := Nat.div_le_div_right h
  generalize P / K = p at *
  generalize Q / K = q at *
  generalize P % K = p' at *
  generalize Q % K = q' at *
  obtain ⟨x, rfl⟩ : ∃ x, p = q + x := ⟨p - q, by omega⟩
  rw [Nat.mul_add] at h1
  by_cases y : p' < q'
  · rw [if_pos y]
    have hx : 0 < x := by
      apply Nat.pos_of_ne_zero
      intro z; subst z
      omega
    obtain ⟨w, rfl⟩ : ∃ w, x = w + 1 := ⟨x - 1, by omega⟩
    rw [Nat.mul_add, Nat.mul_one] at h1
    have e : P - Q = K * w + (K + p' - q') := by omega
    rw [e, Nat.mul_add_div hK, Nat.div_eq_of_lt (by omega)]
    omega
  · rw [if_neg y]
    have e : P - Q = K * x + (p' - q') := by omega
    rw [e, Nat.mul_add_div hK, Nat.div_eq_of_lt (by omega)]
    omega
theorem bor_step {a b p q K : Nat} (h1 : a < K) (h2 : b < K) : a + K * p < b + K * q ↔ p < q ∨ p = q ∧ a < b := by
  constructor
  · intro h
    by_cases y : p < q
    · exact Or.inl y
    · by_cases y2 : p = q
      · subst y2; exact Or.inr ⟨rfl, by omega⟩
      · have := Nat.mul_le_mul_left K (show q + 1 ≤ p by omega)
        rw [Nat.mul_add] at this
        omega
  · rintro (h | ⟨h, h3⟩)
    · have := Nat.mul_le_mul_left K (show p + 1 ≤ q by omega)
      rw [Nat.mul_add] at this
      omega
    · subst h; omega
theorem sub_fin {d p q : Nat} {b : Nat} {s : Int} (h : (d : Int) = p - (q : Int) - b) (hs : s = ((p % 10 : Nat) : Int) - ((q % 10 : Nat) : Int) - b) (hb : b ≤ 1) : ((d % 10 : Nat) : Int) = if 0 ≤ s then s else s + 10 := by
  split <;> omega
theorem sp_subDigits {f g : Nat → Int32} {A B : Nat} (hf : DP f A) (hg0 : DP g B) : (F_X4_subtractDigits f g).1 = decide (A < B) ∧ DP (F_X4_subtractDigits f g).2 (dif A B) ∧ S_X4_subtractDigits f g := by
  have c900 : (900 : Int32).toInt = 900 := rfl
  have c1 : (1 : Int32).toInt = 1 := rfl
  have z0 : (0 : Int32).toInt = 0 := rfl
  have c10 : (10 : Int32).toInt = 10 := rfl
  obtain ⟨l1, l2⟩ := sp_less hf hg0
  obtain ⟨n, en⟩ : ∃ n, n = F_X4_less f g := ⟨_, rfl⟩
  rw [← en] at l1
  obtain ⟨P, eP⟩ : ∃ P, P = if n = true then B else A := ⟨_, rfl⟩
  obtain ⟨Q, eQ⟩ : ∃ Q, Q = if n = true then A else B := ⟨_, rfl⟩
  have hPQ : Q ≤ P ∧ dif A B = P - Q := by
    rw [eP, eQ, l1]
    unfold dif
    by_cases y : A < B
    · rw [if_pos y, if_pos (decide_eq_true y), if_pos (decide_eq_true y)]; omega
    · rw [if_neg y, if_neg (by rw [decide_eq_false y]; simp), if_neg (by rw [decide_eq_false y]; simp)]; omega
  obtain ⟨hle, hdif⟩ := hPQ
  have hG : ∀ t, G_X4_subtractDigits_9 g n t = true ↔ ¬ (900 : Int32) ≤ t.2.1 := by
    intro t; unfold G_X4_subtractDigits_9; dsimp only [bnd]
    by_cases h : (900 : Int32) ≤ t.2.1
    · simp [h]
    · simp [h]
  have R := wl_run (G := G_X4_subtractDigits_9 g n) (B := B_X4_subtractDigits_9 g n) (N := 901) (t := (false, 0, f)) (fun j t => t.2.1.toInt = j ∧ j ≤ 900 ∧ t.1 = decide (P % 10 ^ j < Q % 10 ^ j) ∧ ∀ m, m < 900 → (t.2.2 m).toInt = if m < j then (((P - Q) / 10 ^ m % 10 : Nat) : Int) else ((A / 10 ^ m % 10 : Nat) : Int))
    ⟨rfl, by omega, by rw [Nat.pow_zero, Nat.mod_one, Nat.mod_one]; rfl, fun m hm => by rw [if_neg (by omega)]; exact hf.2 m hm⟩
    (by
      rintro j t _ ⟨h1, h2, h3, h4⟩ hg
      have gg := (hG t).mp hg
      have e : B_X4_subtractDigits_9 g n t = (Z_X4_subtractDigits_J_115 (Z_X4_subtractDigits_J_110 g n t - bI t.1), t.2.1 + 1, va_up t.2.2 t.2.1.toNatClampNeg (Z_X4_subtractDigits_J_119 (Z_X4_subtractDigits_J_110 g n t - bI t.1))) := by unfold B_X4_subtractDigits_9; dsimp only [bnd]; rw [if_neg gg]
      rw [ti_le, c900, h1] at gg
      have k1 := h4 j (by omega)
      rw [if_neg (by omega)] at k1
      have k2 := hg0.2 j (by omega)
      have dP : P / 10 ^ j % 10 < 10 := Nat.mod_lt _ (by decide)
      have dQ : Q / 10 ^ j % 10 < 10 := Nat.mod_lt _ (by decide)
      have fz : (Z_X4_subtractDigits_J_110 g n t).toInt = ((P / 10 ^ j % 10 : Nat) : Int) - ((Q / 10 ^ j % 10 : Nat) : Int) := by
        have dA : A / 10 ^ j % 10 < 10 := Nat.mod_lt _ (by decide)
        have dB : B / 10 ^ j % 10 < 10 := Nat.mod_lt _ (by decide)
        unfold Z_X4_subtractDigits_J_110
        rw [ti_idx h1, eP, eQ]
        by_cases y : n = true
        · rw [if_pos y, if_pos y, if_pos y, ti_sub (by rw [k1, k2]; omega) (by rw [k1, k2]; omega), k1, k2]
        · rw [if_neg y, if_neg y, if_neg y, ti_sub (by rw [k1, k2]; omega) (by rw [k1, k2]; omega), k1, k2]
      obtain ⟨b, eb⟩ : ∃ b : Nat, b = if P % 10 ^ j < Q % 10 ^ j then 1 else 0 := ⟨_, rfl⟩
      have hb1 : b ≤ 1 := by rw [eb]; split <;> omega
      have fb : (bI t.1).toInt = (b : Int) := by
        rw [h3, eb]
        by_cases y : P % 10 ^ j < Q % 10 ^ j
        · rw [decide_eq_true y, if_pos y]; rfl
        · rw [decide_eq_false y, if_neg y]; rfl
      have sd := sub_dig (K := 10 ^ j) (p10 j) hle
      have sd' : (((P - Q) / 10 ^ j : Nat) : Int) = (P / 10 ^ j : Nat) - ((Q / 10 ^ j : Nat) : Int) - b := by
        rw [sd, eb]; split <;> rfl
      have hbs := bor_step (a := P % 10 ^ j) (b := Q % 10 ^ j) (p := P / 10 ^ j % 10) (q := Q / 10 ^ j % 10) (K := 10 ^ j) (Nat.mod_lt _ (p10 j)) (Nat.mod_lt _ (p10 j))
      rw [← mod_step, ← mod_step] at hbs
      generalize P / 10 ^ j = x at *
      generalize Q / 10 ^ j = y at *
      have fs : (Z_X4_subtractDigits_J_110 g n t - bI t.1).toInt = ((x % 10 : Nat) : Int) - ((y % 10 : Nat) : Int) - b := by
        rw [ti_sub (by rw [fz, fb]; omega) (by rw [fz, fb]; omega), fz, fb]
      generalize Z_X4_subtractDigits_J_110 g n t - bI t.1 = s at fs e
      rw [e, ti_idx h1]
      refine ⟨by rw [ti_add (by omega) (by omega), h1, c1]; omega, by omega, ?_, fun m hm => ?_⟩
      · show Z_X4_subtractDigits_J_115 s = _
        unfold Z_X4_subtractDigits_J_115
        have hb0 : b = 1 ↔ P % 10 ^ j < Q % 10 ^ j := by rw [eb]; split <;> simp_all
        by_cases w : 0 ≤ s
        · rw [if_pos w]
          rw [ti_le, z0, fs] at w
          refine (decide_eq_false (fun q => ?_)).symm
          rcases hbs.mp q with q | ⟨q, q2⟩
          · omega
          · have := hb0.mpr q2; omega
        · rw [if_neg w]
          rw [ti_le, z0, fs] at w
          refine (decide_eq_true (hbs.mpr ?_)).symm
          by_cases q : x % 10 < y % 10
          · exact Or.inl q
          · exact Or.inr ⟨by omega, hb0.mp (by omega)⟩
      · by_cases w : m = j
        · subst w
          show Int32.toInt (va_up _ _ _ _) = _
          rw [up_s, if_pos (by omega), sub_fin sd' fs hb1]
          unfold Z_X4_subtractDigits_J_119
          by_cases w : 0 ≤ s
          · rw [if_pos w]; rw [ti_le, z0] at w; rw [if_pos w]
          · rw [if_neg w]; rw [ti_le, z0] at w; rw [if_neg w, ti_add (by omega) (by omega), c10]
        · show Int32.toInt (va_up _ _ _ _) = _
          rw [up_n w, h4 m hm]
          by_cases y2 : m < j
          · rw [if_pos y2, if_pos (by omega)]
          · rw [if_neg y2, if_neg (by omega)])
    (by rintro t ⟨_, h2, _⟩; omega)
  obtain ⟨⟨k, hk, h1, h2, h3, h4⟩, hg, hb⟩ := R
  have hng := ng_of hg
  rw [hG, ti_le, c900, h1] at hng
  have ek : k = 900 := by omega
  subst ek
  refine ⟨?_, ⟨?_, fun m hm => ?_⟩, l2, all_n en ⟨fun j hj => ?_, hg⟩⟩
  · rw [← l1]; unfold F_X4_subtractDigits; dsimp only [bnd]; exact en.symm
  · rw [hdif]
    have hP9 : nd P ≤ 900 := by rw [eP]; split; exact hg0.1; exact hf.1
    exact Nat.le_trans (nd_mono (Nat.sub_le _ _)) hP9
  · have : (F_X4_subtractDigits f g).2 = (wl (G_X4_subtractDigits_9 g n) (B_X4_subtractDigits_9 g n) 901 (false, 0, f)).2.2 := by unfold F_X4_subtractDigits; dsimp only [bnd]; rw [← en]
    rw [this, h4 m hm, if_pos hm, hdif]
  · obtain ⟨⟨q1, q2, q3, q4⟩, q5, q6⟩ := hb j hj
    unfold SB_X4_subtractDigits_9
    refine ite_P (fun _ => trivial) (fun gg => ?_)
    rw [ti_le, c900, q1] at gg
    have hv : vp_in (itn (B_X4_subtractDigits_9 g n) j (false, 0, f)).2.1 900 := by rw [vp_in_iff, q1]; omega
    exact ⟨ite_P (fun _ => hv) (fun _ => hv), fun _ _ _ _ _ _ _ _ => hv⟩
