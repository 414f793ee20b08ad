theorem dz_low (M : Nat) : M % 10000000000000000 / 10 + M / 10000000000000000 % 10 * 1000000000000000 = M / 10 % 10000000000000000 := by
  have h0 := Nat.div_add_mod M 10000000000000000
  have h1 : M % 10000000000000000 < 10000000000000000 := Nat.mod_lt _ (by decide)
  generalize M / 10000000000000000 = q at h0 ⊢
  generalize M % 10000000000000000 = r at h0 h1 ⊢
  have h2 := Nat.div_add_mod q 10
  have h3 : q % 10 < 10 := Nat.mod_lt _ (by decide)
  generalize q / 10 = a at h2 ⊢
  generalize q % 10 = b at h2 h3 ⊢
  subst h2
  have h4 : M = 10 * (10000000000000000 * a + 1000000000000000 * b) + r := by omega
  clear h0
  subst h4
  have h6 : r / 10 < 1000000000000000 := by omega
  rw [Nat.mul_add_div (by decide), Nat.add_assoc, Nat.mul_add_mod, Nat.mod_eq_of_lt (by omega), Nat.mul_comm b, Nat.add_comm]
theorem dz_high (M : Nat) : M / 10000000000000000 / 10 = M / 10 / 10000000000000000 := by
  rw [Nat.div_div_eq_div_mul, Nat.div_div_eq_div_mul]
theorem dz_lt {M B : Nat} (h : M < B) : M / 10 < B := Nat.lt_of_le_of_lt (Nat.div_le_self _ _) h
theorem dz_b1 (M : Nat) : M / 10000000000000000 % 10 * 1000000000000000 < 9223372036854775808 := by
  have : M / 10000000000000000 % 10 < 10 := Nat.mod_lt _ (by decide)
  generalize M / 10000000000000000 % 10 = a at this ⊢
  omega
theorem dz_b2 (M : Nat) : M % 10000000000000000 / 10 + M / 10000000000000000 % 10 * 1000000000000000 < 9223372036854775808 := by
  rw [dz_low]
  exact Nat.lt_trans (Nat.mod_lt _ (by decide)) (by decide)
theorem dz_m10 {M : Nat} (h : M % 10000000000000000 % 10 = 0) : M % 10 = 0 := by rwa [Nat.mod_mod_of_dvd _ (by decide)] at h
theorem dz_n10 {M : Nat} (h : M % 10 = 0) : M % 10000000000000000 % 10 = 0 := by rwa [Nat.mod_mod_of_dvd _ (by decide)]
theorem dz_mul {M j N : Nat} (h : M * 10 ^ j = N) (h2 : M % 10 = 0) : M / 10 * 10 ^ (j + 1) = N := by
  rw [← h, p10s, Nat.mul_left_comm, ← Nat.mul_assoc]
  congr 1
  omega
theorem G_drop {t : Int32 × Int64 × Int64 × Int32} : G_X1_dropZeros_35 t = true ↔ ¬ (16 : Int32) ≤ t.1 ∧ ¬ t.2.2.1 = 0 ∧ jremL t.2.2.1 10 = 0 := by
  unfold G_X1_dropZeros_35
  dsimp only [bnd]
  by_cases h1 : (16 : Int32) ≤ t.1
  · simp [h1]
  · by_cases h2 : t.2.2.1 = 0
    · simp [h1, h2]
    · by_cases h3 : jremL t.2.2.1 10 = 0
      · simp [h1, h2, h3]
      · simp [h1, h2, h3]
theorem mod_of_mul {M j k : Nat} (h : k ≤ j) : M * 10 ^ j % 10 ^ k = 0 := by
  obtain ⟨i, rfl⟩ : ∃ i, j = k + i := ⟨j - k, by omega⟩
  rw [p10a, Nat.mul_left_comm]
  exact Nat.mul_mod_right _ _
theorem sp_drop1 {h l : Int64} {p : Int32} {N : Nat} {u : Int} (o : OC h l p false N u) (hN : N % 10000000000000000 ≠ 0) (hu1 : -3000 ≤ u) (hu2 : u ≤ 3000) :
    (∃ j : Nat, ∃ M : Nat, M % 10 ≠ 0 ∧ M * 10 ^ j = N ∧ j < 16 ∧ (wl (G_X1_dropZeros_35) (B_X1_dropZeros_35) 17 (0, h, l, p)).1.toInt = j ∧ OC (wl (G_X1_dropZeros_35) (B_X1_dropZeros_35) 17 (0, h, l, p)).2.1 (wl (G_X1_dropZeros_35) (B_X1_dropZeros_35) 17 (0, h, l, p)).2.2.1 (wl (G_X1_dropZeros_35) (B_X1_dropZeros_35) 17 (0, h, l, p)).2.2.2 false M (u + j)) ∧ G_X1_dropZeros_35 (wl (G_X1_dropZeros_35) (B_X1_dropZeros_35) 17 (0, h, l, p)) = false := by
  have c16 : (16 : Int32).toInt = 16 := rfl
  have c1 : (1 : Int32).toInt = 1 := rfl
  have l0 : (0 : Int64).toInt = ((0 : Nat) : Int) := rfl
  have l10 : (10 : Int64).toInt = ((10 : Nat) : Int) := rfl
  have l15 : (1000000000000000 : Int64).toInt = ((1000000000000000 : Nat) : Int) := rfl
  have R := wl_run (G := G_X1_dropZeros_35) (B := B_X1_dropZeros_35) (N := 17) (t := (0, h, l, p)) (fun j t => t.1.toInt = j ∧ j < 16 ∧ ∃ M, M * 10 ^ j = N ∧ OC t.2.1 t.2.2.1 t.2.2.2 false M (u + j))
    ⟨rfl, by omega, N, by rw [Nat.pow_zero, Nat.mul_one], by simpa using o⟩
    (by
      rintro j t _ ⟨h1, h2, M, h3, o1, o2, o3, o4, o5⟩ hg
      obtain ⟨g1, g2, g3⟩ := G_drop.mp hg
      have e : B_X1_dropZeros_35 t = (t.1 + 1, t.2.1 / 10, t.2.2.1 / 10 + jremL t.2.1 10 * 1000000000000000, t.2.2.2 + 1) := by unfold B_X1_dropZeros_35; dsimp only [bnd]; rw [if_neg g1, if_neg g2, if_pos g3]
      have r1 := tn_rem o2 l10 (by decide)
      rw [tl_eq, r1, l0] at g3
      have hM10 : M % 10 = 0 := dz_m10 (Int.ofNat.inj g3)
      have hMj := dz_mul h3 hM10
      have hj : j + 1 < 16 := by
        apply Nat.lt_of_not_le
        intro q
        have := mod_of_mul (M := M / 10) q
        rw [hMj, p16] at this
        exact hN this
      have d1 := tn_div o1 l10 (by decide)
      have d2 := tn_div o2 l10 (by decide)
      have r2 := tn_rem o1 l10 (by decide)
      have m2 := tn_mul r2 l15 (dz_b1 M)
      have a2 := tn_add d2 m2 (dz_b2 M)
      rw [e]
      refine ⟨?_, hj, M / 10, hMj, ?_, ?_, ?_, dz_lt o4, fun q => absurd q (by simp)⟩
      · clear o1 o2 o4 d1 d2 r2 m2 a2 r1 g3 hMj h3 hN
        rw [ti_add (by omega) (by omega)]; omega
      · rw [d1, dz_high]
      · rw [a2, dz_low]
      · clear o1 o2 o4 d1 d2 r2 m2 a2 r1 g3 hMj h3 hN
        rw [ti_add (by omega) (by omega)]; omega)
    (by rintro t ⟨_, h2, _⟩; omega)
  obtain ⟨⟨k, hk, h1, h2, M, h3, h4⟩, hg, -⟩ := R
  refine ⟨⟨k, M, ?_, h3, h2, h1, h4⟩, hg⟩
  intro hM
  have hng : ¬ (G_X1_dropZeros_35 (wl (G_X1_dropZeros_35) (B_X1_dropZeros_35) 17 (0, h, l, p)) = true) := by rw [hg]; simp
  apply hng
  rw [G_drop]
  obtain ⟨o1, o2, o3, o4, o5⟩ := h4
  have r1 := tn_rem o2 l10 (by decide)
  refine ⟨?_, ?_, ?_⟩
  · rw [ti_le, c16]; omega
  · rw [tl_eq, o2, l0]
    intro q
    have q2 : M % 10000000000000000 = 0 := by omega
    apply hN
    rw [← h3, Nat.mul_mod, q2, Nat.zero_mul, Nat.zero_mod]
  · rw [tl_eq, r1, l0, dz_n10 hM]
theorem sp_dropZeros {h l : Int64} {p : Int32} {N : Nat} {u : Int} (o : OC h l p false N u) (hN : N ≠ 0) (hu1 : -2500 ≤ u) (hu2 : u ≤ 2500) :
    OC (F_X1_dropZeros h l p).1 (F_X1_dropZeros h l p).2.1 (F_X1_dropZeros h l p).2.2 false (N / 10 ^ tz N) (u + tz N) ∧ S_X1_dropZeros h l p := by
  have c16 : (16 : Int32).toInt = 16 := rfl
  have l0 : (0 : Int64).toInt = ((0 : Nat) : Int) := rfl
  have l10 : (10 : Int64).toInt = ((10 : Nat) : Int) := rfl
  have hZ : ∃ N0 k : Nat, N0 * 10 ^ k = N ∧ k ≤ 16 ∧ N0 % 10000000000000000 ≠ 0 ∧ OC (Z_X1_dropZeros_J_108 h l p).1 (Z_X1_dropZeros_J_108 h l p).2.1 (Z_X1_dropZeros_J_108 h l p).2.2 false N0 (u + k) := by
    obtain ⟨o1, o2, o3, o4, o5⟩ := o
    unfold Z_X1_dropZeros_J_108
    dsimp only [bnd]
    by_cases z : l = 0
    · simp only [if_pos z]
      rw [tl_eq, o2, l0] at z
      refine ⟨N / 10000000000000000, 16, by rw [p16]; omega, by omega, by omega, ?_, ?_, ?_, by omega, fun q => absurd q (by simp)⟩
      · rw [l0]; omega
      · rw [o1]; omega
      · rw [ti_add (by omega) (by omega)]; omega
    · simp only [if_neg z]
      rw [tl_eq, o2, l0] at z
      exact ⟨N, 0, by rw [Nat.pow_zero, Nat.mul_one], by omega, by omega, o1, o2, by omega, o4, o5⟩
  obtain ⟨N0, k, e0, hk, hN0, oz⟩ := hZ
  unfold F_X1_dropZeros S_X1_dropZeros
  dsimp only [bnd]
  obtain ⟨⟨j, M, hM, hMj, hj, hi, oM⟩, hg⟩ := sp_drop1 oz hN0 (by omega) (by omega)
  have hng : ¬ (G_X1_dropZeros_35 (wl (G_X1_dropZeros_35) (B_X1_dropZeros_35) 17 (0, (Z_X1_dropZeros_J_108 h l p).1, (Z_X1_dropZeros_J_108 h l p).2.1, (Z_X1_dropZeros_J_108 h l p).2.2)) = true) := by rw [hg]; simp
  refine ⟨?_, all_n rfl hg⟩
  generalize wl (G_X1_dropZeros_35) (B_X1_dropZeros_35) 17 (0, (Z_X1_dropZeros_J_108 h l p).1, (Z_X1_dropZeros_J_108 h l p).2.1, (Z_X1_dropZeros_J_108 h l p).2.2) = z at hi oM hng ⊢
  rw [G_drop] at hng
  have f1 : ¬ (16 : Int32) ≤ z.1 := by rw [ti_le, c16]; omega
  have eN : N = M * 10 ^ (j + k) := by rw [← e0, ← hMj, p10a, Nat.mul_assoc]
  have et : tz N = j + k := by rw [eN, tz_eq hM]
  have eM : N / 10 ^ tz N = M := by rw [et, eN]; exact Nat.mul_div_cancel _ (p10 _)
  have eu : u + ((tz N : Nat) : Int) = u + k + j := by rw [et]; omega
  rw [eM, eu]
  by_cases f2 : z.2.2.1 = 0
  · simp only [if_neg f1, if_pos f2]; exact oM
  · have f3 : ¬ jremL z.2.2.1 10 = 0 := fun q => hng ⟨f1, f2, q⟩
    simp only [if_neg f1, if_neg f2, if_neg f3]; exact oM
section FIT
variable {so : Nat → Int32} {mi : Nat → Bool} {co : Nat → Int64} {ex : Nat → Int32}
/-- to fit what has no rest and no 0 at its end -/
theorem sp_fwr {om : Bool} {h l : Int64} {p : Int32} {w : Int32} {N : Nat} {u : Int} (o : OC h l p false N u) (hN : N ≠ 0) (hu1 : -2500 ≤ u) (hu2 : u ≤ 2500) {M : Nat} {hh : Int} (eM : M = N / 10 ^ tz N) (eh : hh = u + tz N) {z : Bool × Int64 × Int64 × Int32 × (Nat → Int32) × (Nat → Bool) × (Nat → Int64) × (Nat → Int32)} (hz : z = F_X3_fitWithoutRest om h l p false w so mi co ex) :
    S_X3_fitWithoutRest om h l p false w so mi co ex ∧
    ((nd M ≤ 16 ∧ -398 ≤ hh ∧ hh - (16 - nd M) ≤ 369) → z.1 = true ∧ RD so mi co ex z.2.2.2.2.1 z.2.2.2.2.2.1 z.2.2.2.2.2.2.1 z.2.2.2.2.2.2.2 0 om (M * 10 ^ (hh - max (max (-398) (hh - (16 - nd M))) (min w.toInt (min 369 hh))).toNat) (max (max (-398) (hh - (16 - nd M))) (min w.toInt (min 369 hh)))) ∧
    (¬ (nd M ≤ 16 ∧ -398 ≤ hh ∧ hh - (16 - nd M) ≤ 369) → z.1 = false ∧ OC z.2.1 z.2.2.1 z.2.2.2.1 false M hh ∧ z.2.2.2.2.1 = so ∧ z.2.2.2.2.2.1 = mi ∧ z.2.2.2.2.2.2.1 = co ∧ z.2.2.2.2.2.2.2 = ex) := by
  have c16 : (16 : Int32).toInt = 16 := rfl
  have c398 : (-398 : Int32).toInt = -398 := rfl
  have c369 : (369 : Int32).toInt = 369 := rfl
  have l0 : (0 : Int64).toInt = ((0 : Nat) : Int) := rfl
  have hD := sp_dropZeros o hN hu1 hu2
  rw [← eM, ← eh] at hD
  obtain ⟨oD, sD⟩ := hD
  have htz : tz N < 33 := by
    have h1 := tz_ndvd hN
    have h2 : nd N ≤ 32 := by rw [nd_le, p32]; exact o.2.2.2.1
    omega
  unfold F_X3_fitWithoutRest at hz
  unfold S_X3_fitWithoutRest
  rw [if_neg (by simp)] at hz ⊢
  obtain ⟨y, ey, hz⟩ := bnd_x hz
  rw [← ey] at oD
  have oD' := oD
  obtain ⟨o1, o2, o3, o4, o5⟩ := oD'
  by_cases f1 : y.1 = 0
  · rw [if_pos f1] at hz
    rw [tl_eq, o1, l0] at f1
    have e2 : M % 10000000000000000 = M := by omega
    have hM16 : M < 10000000000000000 := by omega
    rw [e2] at o2
    have hnd : nd M ≤ 16 := by rw [nd_le, p16]; exact hM16
    obtain ⟨q1, q2⟩ := sp_digitsOf o2 hM16
    obtain ⟨a, ea, hz⟩ := bnd_x hz
    obtain ⟨b, eb, hz⟩ := bnd_x hz
    have fa : a.toInt = max (-398) (hh - (16 - nd M)) := by
      rw [ea, ti_max, ti_sub (by rw [ti_sub (by omega) (by omega)]; omega) (by rw [ti_sub (by omega) (by omega)]; omega), ti_sub (by omega) (by omega), c398, c16, q1, o3]
    have fb : b.toInt = min 369 hh := by rw [eb, ti_min, c369, o3]
    have S1 : ∀ (n108 : Int32), n108 = jmax (-398) (y.2.2 - (16 - F_X3_digitsOf y.2.1)) → ∀ (n109 : Int32), n109 = jmin 369 y.2.2 → if n108 ≤ n109 then ∀ (n111 : Int32), n111 = jmax n108 (jmin w n109) → S_X3_tenTo (y.2.2 - n111) else True :=
      all_n ea (all_n eb (ite_P (fun _ => fun _ _ => S_tenTo _) (fun _ => trivial)))
    have f1' : y.1 = 0 := by rw [tl_eq, o1, l0]; omega
    refine ⟨⟨sD, all_n ey (by rw [if_pos f1']; exact ⟨q2, S1⟩)⟩, ?_⟩
    by_cases f2 : a ≤ b
    · rw [if_pos f2] at hz
      rw [ti_le, fa, fb] at f2
      obtain ⟨g, eg, hz⟩ := bnd_x hz
      obtain ⟨x, exx, hz⟩ := bnd_x hz
      have fg : g.toInt = max (max (-398) (hh - (16 - nd M))) (min w.toInt (min 369 hh)) := by rw [eg, ti_max, ti_min, fa, fb]
      have hexact : nd M ≤ 16 ∧ -398 ≤ hh ∧ hh - (16 - nd M) ≤ 369 := by omega
      refine ⟨fun _ => ?_, fun q => absurd hexact q⟩
      rw [← fg]
      have fs : (y.2.2 - g).toInt = (((hh - g.toInt).toNat : Nat) : Int) := by rw [ti_sub (by omega) (by omega)]; omega
      have t1 := sp_tenTo fs (by omega)
      have hb : M * 10 ^ (hh - g.toInt).toNat < 10000000000000000 := by
        have h1 := Nat.mul_lt_mul_of_pos_right (nd_lt M) (p10 (hh - g.toInt).toNat)
        rw [← p10a] at h1
        have h2 := p10_16 (k := nd M + (hh - g.toInt).toNat) (by omega)
        omega
      have m1 := tn_mul o2 t1 (by omega)
      subst hz
      exact ⟨rfl, sp_setFinite m1 rfl exx⟩
    · rw [if_neg f2] at hz
      rw [ti_le, fa, fb] at f2
      have hexact : ¬ (nd M ≤ 16 ∧ -398 ≤ hh ∧ hh - (16 - nd M) ≤ 369) := by omega
      refine ⟨fun q => absurd q hexact, fun _ => ?_⟩
      subst hz
      exact ⟨rfl, oD, rfl, rfl, rfl, rfl⟩
  · rw [if_neg f1] at hz
    refine ⟨⟨sD, all_n ey (by rw [if_neg f1]; trivial)⟩, ?_⟩
    rw [tl_eq, o1, l0] at f1
    have hnd : ¬ nd M ≤ 16 := by rw [nd_le, p16]; omega
    refine ⟨fun q => absurd q.1 hnd, fun _ => ?_⟩
    subst hz
    exact ⟨rfl, oD, rfl, rfl, rfl, rfl⟩
theorem sp_tooGreat {rd r : Int32} {om : Bool} {z : Int32 × (Nat → Int32) × (Nat → Bool) × (Nat → Int64) × (Nat → Int32)} (hz : z = F_X3_setTooGreat rd r om so mi co ex) {t : Int × Bool × Nat × Int × Int32} (ht : t = greatS rd.toInt om r) :
    z.1 = t.2.2.2.2 ∧ RD so mi co ex z.2.1 z.2.2.1 z.2.2.2.1 z.2.2.2.2 t.1 t.2.1 t.2.2.1 t.2.2.2.1 := by
  have c2 : (2 : Int32).toInt = 2 := rfl
  have c3 : (3 : Int32).toInt = 3 := rfl
  have c4 : (4 : Int32).toInt = 4 := rfl
  have key : Z_X3_setTooGreat_J_111 rd om = decide (rd.toInt = 2 ∨ rd.toInt = 3 ∧ om = true ∨ rd.toInt = 4 ∧ om = false) := by
    unfold Z_X3_setTooGreat_J_111
    simp only [ti_eq, c2, c3, c4]
    by_cases a2 : rd.toInt = 2
    · simp [a2]
    · by_cases a3 : rd.toInt = 3
      · cases om <;> simp [a3]
      · by_cases a4 : rd.toInt = 4
        · cases om <;> simp [a4]
        · simp [a2, a3, a4]
  unfold F_X3_setTooGreat F_X3_raise at hz
  unfold greatS at ht
  obtain ⟨x, e1, hz⟩ := bnd_x hz
  obtain ⟨x1, e1', e1⟩ := bnd_x e1
  obtain ⟨y, e2, hz⟩ := bnd_x hz
  rw [key] at e2
  have ex1 : x = r ||| 4 := by rw [e1, e1']
  by_cases f : rd.toInt = 2 ∨ rd.toInt = 3 ∧ om = true ∨ rd.toInt = 4 ∧ om = false
  · rw [if_pos f] at ht
    rw [if_pos (by rw [e2]; exact decide_eq_true f)] at hz
    obtain ⟨w, e3, hz⟩ := bnd_x hz
    subst hz; subst ht
    exact ⟨ex1, sp_setFinite rfl rfl e3⟩
  · rw [if_neg f] at ht
    rw [if_neg (by rw [e2]; simpa using f)] at hz
    obtain ⟨w, e3, hz⟩ := bnd_x hz
    subst hz; subst ht
    exact ⟨ex1, sp_setInfinity e3⟩
end FIT
