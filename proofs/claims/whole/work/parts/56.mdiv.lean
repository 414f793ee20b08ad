/-! ===== the reference: multiply, divide ===== -/
section MOP
variable {ks : Nat → Int32} {ms : Nat → Bool} {cs : Nat → Int64} {es : Nat → Int32}
theorem bool_of {b : Bool} {P : Prop} (d : Decidable P) (h : b = true ↔ P) : b = decide P := by
  by_cases q : P
  · rw [decide_eq_true q]; exact h.mpr q
  · rw [decide_eq_false q]; cases b with
    | true => exact absurd (h.mp rfl) q
    | false => rfl
theorem sp_czero {p : Int32} {c : Nat} (h : (cs p.toNatClampNeg).toInt = (c : Int)) : cs p.toNatClampNeg = 0 ↔ c = 0 := by
  have l0 : (0 : Int64).toInt = ((0 : Nat) : Int) := rfl
  rw [tl_eq, h, l0]
  exact ⟨fun q => Int.ofNat.inj q, fun q => by rw [q]⟩
theorem sp_mmul {mo r ct un : Int32} {re : Bool} {dg og : Nat → Int32} {p0 p1 : Int32} {ka : Int} {sa : Bool} {A : Nat} {ea : Int} {kb : Int} {sb : Bool} {B : Nat} {eb : Int} (h0 : vp_in p0 8) (h1 : vp_in p1 8) (ha : VD ks ms cs es p0.toNatClampNeg ka sa A ea) (hb : VD ks ms cs es p1.toNatClampNeg kb sb B eb) (na : ka ≠ 2) (nb : kb ≠ 2)
    {z : Int32 × Bool × Int64 × Int32 × Int32 × Int32 × Int32 × Bool × (Nat → Int32) × (Nat → Int32)} (hz : z = F_X4_multiply mo r ct un re ks ms cs es dg og p0 p1) {t : Int × Bool × Nat × Int × Int32} (ht : t = if ka = 1 ∨ kb = 1 then infS 2 ka sa A kb sb B r else finS mo.toInt 2 sa A ea sb B eb r) :
    MRc z.1 z.2.1 z.2.2.1 z.2.2.2.1 z.2.2.2.2.1 t ∧ S_X4_multiply mo r ct un re ks ms cs es dg og p0 p1 := by
  obtain ⟨a1, a2, a3, a4, a5⟩ := ha
  obtain ⟨b1, b2, b3, b4, b5⟩ := hb
  have c1 : (1 : Int32).toInt = 1 := rfl
  have z0 : (0 : Int32).toInt = 0 := rfl
  have iA := sp_is (v := 1) a1
  have iB := sp_is (v := 1) b1
  have fA := sp_is (v := 0) a1
  have fB := sp_is (v := 0) b1
  rw [c1] at iA iB
  rw [z0] at fA fB
  have cA := sp_czero a3
  have cB := sp_czero b3
  have ht2 : t = if ka = 1 ∨ kb = 1 then (if ka = 0 ∧ A = 0 ∨ kb = 0 ∧ B = 0 then (2, false, 0, 0, r ||| 1) else (1, sa != sb, 0, 0, r)) else fitS mo.toInt (sa != sb) (A * B) (ea + eb) false (ea + eb) r := ht
  clear ht
  unfold F_X4_multiply at hz
  unfold S_X4_multiply
  obtain ⟨s, es', hz⟩ := bnd_x hz
  obtain ⟨so, eso, hz⟩ := bnd_x hz
  obtain ⟨zr, ezr, hz⟩ := bnd_x hz
  have fs : s = (sa != sb) := by rw [es']; unfold Z_X4_multiply_J_106; rw [a2, b2]; exact neB _ _
  have fso : so = true ↔ (ka = 1 ∨ kb = 1) := by
    rw [eso]; unfold Z_X4_multiply_J_115
    by_cases q : ka = 1
    · rw [if_pos (iA.mpr q)]; exact ⟨fun _ => Or.inl q, fun _ => rfl⟩
    · rw [if_neg (fun y => q (iA.mp y))]
      by_cases q2 : kb = 1
      · rw [if_pos (iB.mpr q2)]; exact ⟨fun _ => Or.inr q2, fun _ => rfl⟩
      · rw [if_neg (fun y => q2 (iB.mp y))]; exact ⟨fun h => absurd h (by simp), fun h => absurd h (by omega)⟩
  have fzr : zr = true ↔ (ka = 0 ∧ A = 0 ∨ kb = 0 ∧ B = 0) := by
    rw [ezr]; unfold Z_X4_multiply_J_130
    by_cases q : ka = 0
    · rw [if_pos (fA.mpr q)]
      by_cases q2 : A = 0
      · rw [if_pos (cA.mpr q2)]; exact ⟨fun _ => Or.inl ⟨q, q2⟩, fun _ => rfl⟩
      · rw [if_neg (fun y => q2 (cA.mp y))]
        by_cases q3 : kb = 0
        · rw [if_pos (fB.mpr q3)]
          by_cases q4 : B = 0
          · rw [if_pos (cB.mpr q4)]; exact ⟨fun _ => Or.inr ⟨q3, q4⟩, fun _ => rfl⟩
          · rw [if_neg (fun y => q4 (cB.mp y))]; exact ⟨fun h => absurd h (by simp), fun h => absurd h (by omega)⟩
        · rw [if_neg (fun y => q3 (fB.mp y))]; exact ⟨fun h => absurd h (by simp), fun h => absurd h (by omega)⟩
    · rw [if_neg (fun y => q (fA.mp y))]
      by_cases q3 : kb = 0
      · rw [if_pos (fB.mpr q3)]
        by_cases q4 : B = 0
        · rw [if_pos (cB.mpr q4)]; exact ⟨fun _ => Or.inr ⟨q3, q4⟩, fun _ => rfl⟩
        · rw [if_neg (fun y => q4 (cB.mp y))]; exact ⟨fun h => absurd h (by simp), fun h => absurd h (by omega)⟩
      · rw [if_neg (fun y => q3 (fB.mp y))]; exact ⟨fun h => absurd h (by simp), fun h => absurd h (by omega)⟩
  have hS1 : (if F_X4_is ks p0 1 = true then True else S_X4_is ks p1 1) := ite_P (fun _ => trivial) (fun _ => h1)
  have hS2 : (if F_X4_is ks p0 0 = true then (if cs p0.toNatClampNeg = 0 then True else S_X4_is ks p1 0) else S_X4_is ks p1 0) := ite_P (fun _ => ite_P (fun _ => trivial) (fun _ => h1)) (fun _ => h1)
  by_cases iy : ka = 1 ∨ kb = 1
  · rw [if_pos (fso.mpr iy)] at hz
    rw [if_pos iy] at ht2
    refine ⟨?_, h0, h1, all_n es' ⟨h0, hS1, all_n eso ⟨h0, hS2, all_n ezr (by rw [if_pos (fso.mpr iy)]; trivial)⟩⟩⟩
    by_cases zy : ka = 0 ∧ A = 0 ∨ kb = 0 ∧ B = 0
    · rw [if_pos (fzr.mpr zy)] at hz
      rw [if_pos zy] at ht2
      obtain ⟨y, ey, hz⟩ := bnd_x hz
      have := sp_minvalid ey
      subst hz; subst ht2
      exact this
    · rw [if_neg (fun y => zy (fzr.mp y))] at hz
      rw [if_neg zy] at ht2
      subst hz; subst ht2
      exact ⟨rfl, fs, rfl, rfl, rfl⟩
  · rw [if_neg (fun y => iy (fso.mp y))] at hz
    rw [if_neg iy] at ht2
    obtain ⟨ka0, hA, be1, be2, hnA⟩ := fin_b a5 (fun q => iy (Or.inl q)) na
    obtain ⟨kb0, hB, bf1, bf2, hnB⟩ := fin_b b5 (fun q => iy (Or.inr q)) nb
    obtain ⟨dB, sB⟩ := sp_layOther (f := og) b3 (p := 0) (q := 0) rfl (by omega)
    rw [Nat.pow_zero, Nat.mul_one] at dB
    obtain ⟨-, sC, hC⟩ := sp_clear (f := dg)
    obtain ⟨g, eg, hz⟩ := bnd_x hz
    obtain ⟨n, en, hz⟩ := bnd_x hz
    obtain ⟨f, ef, hz⟩ := bnd_x hz
    obtain ⟨w1, ew1, hz⟩ := bnd_x hz
    obtain ⟨w2, ew2, hz⟩ := bnd_x hz
    obtain ⟨u, eu, hz⟩ := bnd_x hz
    obtain ⟨y, ey, hz⟩ := bnd_x hz
    rw [← eg] at dB
    rw [← ef] at hC
    have hn : n.toInt = (A : Int) := by rw [en]; exact a3
    obtain ⟨⟨r1, r2, r3⟩, r4, r5⟩ := sp_mulOut (w := 40) rfl dB hB hn hA hC ew1
    have hlt : A * B < 10000000000000000 * 10000000000000000 := Nat.mul_lt_mul'' hA hB
    obtain ⟨d1, d2, d3⟩ := sp_mulCarry (w := 40) rfl r1 r2 r3 hlt ew2
    have fu : u.toInt = ea + eb := by rw [eu, ti_add (by omega) (by omega), a4, b4]
    have hnV : nd (A * B) ≤ 32 := by rw [nd_le, p32]; exact hlt
    obtain ⟨q1, q2⟩ := sp_mfit d1 (by omega) fu (by omega) (fun q => absurd q (by simp)) ey (t := t) (by rw [ht2, fs, fu])
    refine ⟨?_, h0, h1, all_n es' ⟨h0, hS1, all_n eso ⟨h0, hS2, all_n ezr ?_⟩⟩⟩
    · subst hz; exact q1
    · rw [if_neg (fun y => iy (fso.mp y))]
      exact ⟨sB, all_n eg (all_n en ⟨sC, all_n ef ⟨r4, r5, all_n ew1 ⟨d2, d3, all_n ew2 ⟨h0, h1, all_n eu q2⟩⟩⟩⟩)⟩
/-! division -/
theorem dv_step (M B k : Nat) (hB : 0 < B) : M / 10 ^ k / B = 10 * (M / 10 ^ (k + 1) / B) + (10 * (M / 10 ^ (k + 1) % B) + M / 10 ^ k % 10) / B ∧ M / 10 ^ k % B = (10 * (M / 10 ^ (k + 1) % B) + M / 10 ^ k % 10) % B ∧ (10 * (M / 10 ^ (k + 1) % B) + M / 10 ^ k % 10) / B < 10 := by
  have h1 := dig_step M k
  have h2 := Nat.div_add_mod (M / 10 ^ (k + 1)) B
  have h3 : M / 10 ^ (k + 1) % B < B := Nat.mod_lt _ hB
  have h4 : M / 10 ^ k % 10 < 10 := Nat.mod_lt _ (by decide)
  generalize M / 10 ^ k % 10 = d at *
  generalize M / 10 ^ (k + 1) = Q at *
  generalize Q % B = r at *
  generalize Q / B = q at *
  have e : M / 10 ^ k = B * (10 * q) + (10 * r + d) := by
    rw [h1, ← h2, Nat.mul_add, Nat.mul_left_comm]; omega
  rw [e]
  refine ⟨Nat.mul_add_div hB _ _, Nat.mul_add_mod _ _ _, ?_⟩
  rw [Nat.div_lt_iff_lt_mul hB]
  have := Nat.mul_le_mul_left 10 (show r + 1 ≤ B from h3)
  omega
def divP (M B : Nat) (j : Nat) (t : Int64 × Int32 × (Nat → Int32)) : Prop := t.1.toInt = ((M / 10 ^ (50 - j) % B : Nat) : Int) ∧ t.2.1.toInt = 49 - (j : Int) ∧ j ≤ 50 ∧ ∀ m, m < 900 → (t.2.2 m).toInt = if 50 - j ≤ m then ((M / B / 10 ^ m % 10 : Nat) : Int) else 0
theorem sp_mdivLoop {p1 : Int32} {g f : Nat → Int32} {M B : Nat} (hg0 : DP g M) (hM : nd M ≤ 50) (hc : (cs p1.toNatClampNeg).toInt = (B : Int)) (hB0 : 0 < B) (hB : B < 10000000000000000) (h1 : vp_in p1 8) (hf : ∀ m, m < 900 → f m = 0) {z : Int64 × Int32 × (Nat → Int32)} (hz : z = wl (G_X4_divide_201 cs p1 g) (B_X4_divide_201 cs p1 g) 901 (0, 49, f)) :
    (z.1.toInt = ((M % B : Nat) : Int) ∧ DP z.2.2 (M / B)) ∧ (∀ j : Nat, j < nW (G_X4_divide_201 cs p1 g) (B_X4_divide_201 cs p1 g) 901 (0, 49, f) → SB_X4_divide_201 cs p1 g (itn (B_X4_divide_201 cs p1 g) j (0, 49, f))) ∧ G_X4_divide_201 cs p1 g (wl (G_X4_divide_201 cs p1 g) (B_X4_divide_201 cs p1 g) 901 (0, 49, f)) = false := by
  have cm1 : (-1 : Int32).toInt = -1 := rfl
  have z0 : (0 : Int32).toInt = 0 := rfl
  have l0 : (0 : Int64).toInt = ((0 : Nat) : Int) := rfl
  have l10 : (10 : Int64).toInt = ((10 : Nat) : Int) := rfl
  have hnMB : nd (M / B) ≤ 50 := Nat.le_trans (nd_mono (Nat.div_le_self _ _)) hM
  have hG : ∀ t, G_X4_divide_201 cs p1 g t = true ↔ ¬ t.2.1 < 0 := by
    intro t; unfold G_X4_divide_201; dsimp only [bnd]
    by_cases h : t.2.1 < 0
    · simp [h]
    · simp [h]
  have R := wl_run (G := G_X4_divide_201 cs p1 g) (B := B_X4_divide_201 cs p1 g) (N := 901) (t := (0, 49, f)) (divP M B)
    ⟨by rw [Nat.sub_zero, nd_small hM, Nat.zero_mod]; exact l0, rfl, by omega, fun m hm => by
      show (f m).toInt = _
      rw [hf m hm, z0, Nat.sub_zero]
      by_cases y : 50 ≤ m
      · rw [if_pos y, nd_small (by omega)]; rfl
      · rw [if_neg y]⟩
    (by
      rintro j t _ ⟨q1, q2, q3, q4⟩ hg
      have gg := (hG t).mp hg
      have e : B_X4_divide_201 cs p1 g t = (jremL (10 * t.1 + (g t.2.1.toNatClampNeg).toInt64) (cs p1.toNatClampNeg), t.2.1 + -1, va_up t.2.2 t.2.1.toNatClampNeg ((10 * t.1 + (g t.2.1.toNatClampNeg).toInt64) / cs p1.toNatClampNeg).toInt32) := by unfold B_X4_divide_201; dsimp only [bnd]; rw [if_neg gg]
      rw [ti_lt, z0, q2] at gg
      have hi : t.2.1.toInt = ((49 - j : Nat) : Int) := by omega
      have hd := hg0.2 (49 - j) (by omega)
      obtain ⟨s1, s2, s3⟩ := dv_step M B (49 - j) hB0
      have ej : 49 - j + 1 = 50 - j := by omega
      rw [ej] at s1 s2 s3
      have hr : M / 10 ^ (50 - j) % B < B := Nat.mod_lt _ hB0
      have hd10 : M / 10 ^ (49 - j) % 10 < 10 := Nat.mod_lt _ (by decide)
      have dl : ((g (49 - j)).toInt64).toInt = ((M / 10 ^ (49 - j) % 10 : Nat) : Int) := by rw [ti_long]; exact hd
      have nl : (10 * t.1 + (g (49 - j)).toInt64).toInt = ((10 * (M / 10 ^ (50 - j) % B) + M / 10 ^ (49 - j) % 10 : Nat) : Int) := tn_add (tn_mul l10 q1 (by omega)) dl (by omega)
      have hdig : M / B / 10 ^ (49 - j) % 10 = (10 * (M / 10 ^ (50 - j) % B) + M / 10 ^ (49 - j) % 10) / B := by
        rw [Nat.div_div_eq_div_mul, Nat.mul_comm B, ← Nat.div_div_eq_div_mul, s1]
        generalize M / 10 ^ (50 - j) / B = a
        generalize (10 * (M / 10 ^ (50 - j) % B) + M / 10 ^ (49 - j) % 10) / B = b at s3 ⊢
        omega
      rw [e, ti_idx hi]
      refine ⟨?_, ?_, by omega, fun m hm => ?_⟩
      · have ej2 : 50 - (j + 1) = 49 - j := by omega
        rw [ej2, s2]
        exact tn_rem nl hc hB0
      · show (t.2.1 + -1).toInt = _
        rw [ti_add (by omega) (by omega), q2, cm1]; omega
      · show Int32.toInt (va_up _ _ _ _) = _
        by_cases y : m = 49 - j
        · subst y
          have dv := tn_div nl hc hB0
          rw [up_s, if_pos (by omega), tl_int (by rw [dv]; omega) (by rw [dv]; omega), dv, hdig]
        · rw [up_n y, q4 m hm]
          by_cases y2 : 50 - j ≤ m
          · rw [if_pos y2, if_pos (by omega)]
          · rw [if_neg y2, if_neg (by omega)])
    (by
      intro t hP
      have h2 := hP.2.2.1
      clear hP
      omega)
  obtain ⟨⟨k, hk, hP⟩, hg, hb⟩ := R
  have hng := ng_of hg
  obtain ⟨q1, q2, q3, q4⟩ := hP
  rw [hG, ti_lt, z0, q2] at hng
  have ek : k = 50 := by omega
  subst ek
  rw [Nat.sub_self] at q1 q4
  rw [Nat.pow_zero, Nat.div_one] at q1
  rw [hz]
  refine ⟨⟨q1, by omega, fun m hm => ?_⟩, fun j hj => ?_, hg⟩
  · rw [q4 m hm, if_pos (Nat.zero_le _)]
  · obtain ⟨w1, w2, w3⟩ := hb j hj
    unfold SB_X4_divide_201
    refine ite_P (fun _ => trivial) (fun gg => ⟨?_, fun _ _ => ⟨h1, ?_⟩⟩)
    · have w12 := w1.2.1
      rw [ti_lt, z0, w12] at gg
      rw [vp_in_iff, w12]; omega
    · rw [tl_eq, hc, l0]; omega
theorem big34 {A B : Nat} (hA : A ≠ 0) (hB : B < 10000000000000000) : 10000000000000000 * B ≤ A * 10 ^ 34 := by
  have h1 : 10000000000000000 * B ≤ 10000000000000000 * 10000000000000000 := Nat.mul_le_mul_left _ (Nat.le_of_lt hB)
  have h2 : 10 ^ 32 ≤ 10 ^ 34 := p10le (by decide)
  rw [p32] at h2
  exact Nat.le_trans h1 (Nat.le_trans h2 (Nat.le_mul_of_pos_left _ (Nat.pos_of_ne_zero hA)))
theorem sp_mdiv {mo r ct un : Int32} {re : Bool} {dg og : Nat → Int32} {p0 p1 : Int32} {ka : Int} {sa : Bool} {A : Nat} {ea : Int} {kb : Int} {sb : Bool} {B : Nat} {eb : Int} (h0 : vp_in p0 8) (h1 : vp_in p1 8) (ha : VD ks ms cs es p0.toNatClampNeg ka sa A ea) (hb : VD ks ms cs es p1.toNatClampNeg kb sb B eb) (na : ka ≠ 2) (nb : kb ≠ 2)
    {z : Int32 × Bool × Int64 × Int32 × Int32 × Int32 × Int32 × Bool × (Nat → Int32) × (Nat → Int32)} (hz : z = F_X4_divide mo r ct un re ks ms cs es dg og p0 p1) {t : Int × Bool × Nat × Int × Int32} (ht : t = if ka = 1 ∨ kb = 1 then infS 3 ka sa A kb sb B r else finS mo.toInt 3 sa A ea sb B eb r) :
    MRc z.1 z.2.1 z.2.2.1 z.2.2.2.1 z.2.2.2.2.1 t ∧ S_X4_divide mo r ct un re ks ms cs es dg og p0 p1 := by
  obtain ⟨a1, a2, a3, a4, a5⟩ := ha
  obtain ⟨b1, b2, b3, b4, b5⟩ := hb
  have c1 : (1 : Int32).toInt = 1 := rfl
  have c34 : (34 : Int32).toInt = 34 := rfl
  have z0 : (0 : Int32).toInt = 0 := rfl
  have l0 : (0 : Int64).toInt = 0 := rfl
  have iA := sp_is (v := 1) a1
  have iB := sp_is (v := 1) b1
  have fA := sp_is (v := 0) a1
  have fB := sp_is (v := 0) b1
  rw [c1] at iA iB
  rw [z0] at fA fB
  have cA := sp_czero a3
  have cB := sp_czero b3
  have ht2 : t = if ka = 1 ∨ kb = 1 then (if ka = kb then (2, false, 0, 0, r ||| 1) else if ka = 1 then (1, sa != sb, 0, 0, r) else (0, sa != sb, 0, -398, r)) else (if B = 0 then (if A = 0 then (2, false, 0, 0, r ||| 1) else (1, sa != sb, 0, 0, r ||| 2)) else divS mo.toInt (sa != sb) A ea B eb r) := by
    rw [ht]
    unfold infS finS
    rw [if_neg (show ¬ ((3 : Int) = 0 ∨ (3 : Int) = 1) by decide), if_neg (show ¬ (3 : Int) = 2 by decide), if_pos (show (3 : Int) = 3 from rfl), if_neg (show ¬ (3 : Int) = 0 by decide), if_neg (show ¬ (3 : Int) = 1 by decide), if_neg (show ¬ (3 : Int) = 2 by decide), if_pos (show (3 : Int) = 3 from rfl)]
  clear ht
  unfold F_X4_divide at hz
  unfold S_X4_divide
  obtain ⟨s, es', hz⟩ := bnd_x hz
  obtain ⟨za, eza, hz⟩ := bnd_x hz
  obtain ⟨zb, ezb, hz⟩ := bnd_x hz
  have fs : s = (sa != sb) := by rw [es']; unfold Z_X4_divide_J_106; rw [a2, b2]; exact neB _ _
  have fza : za = true ↔ (ka = 0 ∧ A = 0) := by
    rw [eza]; unfold Z_X4_divide_J_113
    by_cases q : ka = 0
    · rw [if_pos (fA.mpr q)]
      by_cases q2 : A = 0
      · rw [if_pos (cA.mpr q2)]; exact ⟨fun _ => ⟨q, q2⟩, fun _ => rfl⟩
      · rw [if_neg (fun y => q2 (cA.mp y))]; exact ⟨fun h => absurd h (by simp), fun h => absurd h.2 q2⟩
    · rw [if_neg (fun y => q (fA.mp y))]; exact ⟨fun h => absurd h (by simp), fun h => absurd h.1 q⟩
  have fzb : zb = true ↔ (kb = 0 ∧ B = 0) := by
    rw [ezb]; unfold Z_X4_divide_J_120
    by_cases q : kb = 0
    · rw [if_pos (fB.mpr q)]
      by_cases q2 : B = 0
      · rw [if_pos (cB.mpr q2)]; exact ⟨fun _ => ⟨q, q2⟩, fun _ => rfl⟩
      · rw [if_neg (fun y => q2 (cB.mp y))]; exact ⟨fun h => absurd h (by simp), fun h => absurd h.2 q2⟩
    · rw [if_neg (fun y => q (fB.mp y))]; exact ⟨fun h => absurd h (by simp), fun h => absurd h.1 q⟩
  -- the division itself
  have DV : ka ≠ 1 → kb ≠ 1 → B ≠ 0 → (∀ {y : Int32 × Bool × Int64 × Int32 × Int32 × Int32 × Int32 × Bool × (Nat → Int32) × (Nat → Int32)}, y = (bnd (F_X4_layOther og (cs p0.toNatClampNeg) (34 : Int32)) (fun u175 : (Nat → Int32) => (bnd (F_X4_clear dg) (fun u178 : (Nat → Int32) => (bnd (wl (G_X4_divide_201 cs p1 u175) (B_X4_divide_201 cs p1 u175) 901 (0, 49, u178)) (fun z190 : Int64 × Int32 × (Nat → Int32) => (bnd (Z_X4_divide_J_198 z190) (fun z197 : Bool => (bnd (((es p0.toNatClampNeg) - (es p1.toNatClampNeg)) - 34) (fun f202 : Int32 => (bnd (F_X4_fit mo r f202 z197 z190.2.2 s ((es p0.toNatClampNeg) - (es p1.toNatClampNeg))) (fun u205 : Int32 × Bool × Int64 × Int32 × Int32 × Int32 => (u205.1, u205.2.1, u205.2.2.1, u205.2.2.2.1, u205.2.2.2.2.1, u205.2.2.2.2.2, f202, z197, z190.2.2, u175))))))))))))) → MRc y.1 y.2.1 y.2.2.1 y.2.2.2.1 y.2.2.2.2.1 (divS mo.toInt s A ea B eb r)) ∧
      ((S_X4_layOther og (cs p0.toNatClampNeg) (34 : Int32)) ∧ (∀ u175 : (Nat → Int32), u175 = F_X4_layOther og (cs p0.toNatClampNeg) (34 : Int32) → (S_X4_clear dg) ∧ (∀ u178 : (Nat → Int32), u178 = F_X4_clear dg → (∀ j : Nat, j < nW (G_X4_divide_201 cs p1 u175) (B_X4_divide_201 cs p1 u175) 901 (0, 49, u178) → SB_X4_divide_201 cs p1 u175 (itn (B_X4_divide_201 cs p1 u175) j (0, 49, u178))) ∧ G_X4_divide_201 cs p1 u175 (wl (G_X4_divide_201 cs p1 u175) (B_X4_divide_201 cs p1 u175) 901 (0, 49, u178)) = false ∧ (∀ z190 : Int64 × Int32 × (Nat → Int32), z190 = wl (G_X4_divide_201 cs p1 u175) (B_X4_divide_201 cs p1 u175) 901 (0, 49, u178) → (∀ z197 : Bool, z197 = Z_X4_divide_J_198 z190 → (vp_in p0 8) ∧ (vp_in p1 8) ∧ (∀ f202 : Int32, f202 = ((es p0.toNatClampNeg) - (es p1.toNatClampNeg)) - 34 → S_X4_fit mo r f202 z197 z190.2.2 s ((es p0.toNatClampNeg) - (es p1.toNatClampNeg)))))))) := by
    intro ia ib hB0
    obtain ⟨ka0, hA, be1, be2, hnA⟩ := fin_b a5 ia na
    obtain ⟨kb0, hB, bf1, bf2, hnB⟩ := fin_b b5 ib nb
    have hBp := Nat.pos_of_ne_zero hB0
    obtain ⟨dM, sM⟩ := sp_layOther (f := og) a3 (p := 34) (q := 34) rfl (by omega)
    obtain ⟨-, sC, hC⟩ := sp_clear (f := dg)
    obtain ⟨M, eM⟩ : ∃ M : Nat, M = A * 10 ^ 34 := ⟨_, rfl⟩
    rw [← eM] at dM
    have hnM : nd M ≤ 50 := by rw [eM]; exact Nat.le_trans nd_mulle (Nat.add_le_add_right hnA 34)
    have hbig : A ≠ 0 → 10000000000000000 * B ≤ M := fun h => by rw [eM]; exact big34 h hB
    have hM00 : A = 0 → M = 0 := fun h => by rw [eM, h, Nat.zero_mul]
    have hdv : divS mo.toInt s A ea B eb r = fitS mo.toInt s (M / B) (ea - eb - 34) (decide (M % B ≠ 0)) (ea - eb) r := by unfold divS; rw [← eM]
    clear eM
    obtain ⟨g, eg⟩ : ∃ g, g = F_X4_layOther og (cs p0.toNatClampNeg) (34 : Int32) := ⟨_, rfl⟩
    obtain ⟨f, ef⟩ : ∃ f, f = F_X4_clear dg := ⟨_, rfl⟩
    rw [← eg] at dM
    rw [← ef] at hC
    obtain ⟨w, ew⟩ : ∃ w, w = wl (G_X4_divide_201 cs p1 g) (B_X4_divide_201 cs p1 g) 901 (0, 49, f) := ⟨_, rfl⟩
    obtain ⟨⟨w1, w2⟩, w3, w4⟩ := sp_mdivLoop dM hnM b3 hBp hB h1 hC ew
    obtain ⟨v, ev⟩ : ∃ v, v = Z_X4_divide_J_198 w := ⟨_, rfl⟩
    have fv : v = decide (M % B ≠ 0) := by
      rw [ev]; unfold Z_X4_divide_J_198
      by_cases q : w.1 ≤ 0
      · rw [if_pos q]; rw [tl_le, w1, l0] at q; exact dnz_f (nat_le0 q)
      · rw [if_neg q]; rw [tl_le, w1, l0] at q; exact dnz_t (fun h => q (by rw [h]; exact Int.le_refl 0))
    obtain ⟨u, eu⟩ : ∃ u, u = ((es p0.toNatClampNeg) - (es p1.toNatClampNeg)) - 34 := ⟨_, rfl⟩
    have fw : (es p0.toNatClampNeg - es p1.toNatClampNeg).toInt = ea - eb := by rw [ti_sub (by omega) (by omega), a4, b4]
    have fu : u.toInt = ea - eb - 34 := by rw [eu, ti_sub (by omega) (by omega), fw, c34]
    have hre : v = true → 10000000000000000 ≤ M / B := by
      intro q
      rw [fv] at q
      have hM0 : A ≠ 0 := by
        intro h
        rw [hM00 h, Nat.zero_mod] at q
        exact absurd q (by decide)
      rw [Nat.le_div_iff_mul_le hBp]
      exact hbig hM0
    have hnN : nd (M / B) ≤ 50 := Nat.le_trans (nd_mono (Nat.div_le_self _ _)) hnM
    obtain ⟨y, ey⟩ : ∃ y, y = F_X4_fit mo r u v w.2.2 s ((es p0.toNatClampNeg) - (es p1.toNatClampNeg)) := ⟨_, rfl⟩
    obtain ⟨q1, q2⟩ := sp_mfit w2 (by omega) fu (by omega) hre ey (t := divS mo.toInt s A ea B eb r) (by rw [hdv, fv, fw])
    refine ⟨fun hy => ?_, sM, all_n eg ⟨sC, all_n ef ⟨w3, w4, all_n ew (all_n ev ⟨h0, h1, all_n eu q2⟩)⟩⟩⟩
    dsimp only [bnd] at hy
    rw [← eg, ← ef, ← ew, ← ev, ← eu, ← ey] at hy
    subst hy
    exact q1
  by_cases ia : ka = 1
  · have hza : ¬ za = true := fun q => by have := (fza.mp q).1; omega
    rw [if_pos (iA.mpr ia)] at hz
    rw [if_pos (Or.inl ia)] at ht2
    refine ⟨?_, h0, h1, all_n es' ⟨h0, all_n eza ⟨h1, all_n ezb ⟨h0, by rw [if_pos (iA.mpr ia)]; exact h1⟩⟩⟩⟩
    by_cases ib : kb = 1
    · rw [if_pos (iB.mpr ib)] at hz
      rw [if_pos (by omega)] at ht2
      obtain ⟨y, ey, hz⟩ := bnd_x hz
      have := sp_minvalid ey
      subst hz; subst ht2
      exact this
    · rw [if_neg (fun y => ib (iB.mp y)), if_neg hza] at hz
      rw [if_neg (by omega), if_pos ia] at ht2
      subst hz; subst ht2
      exact ⟨rfl, fs, rfl, rfl, rfl⟩
  · rw [if_neg (fun y => ia (iA.mp y))] at hz
    by_cases a0 : za = true
    · rw [if_pos a0] at hz
      obtain ⟨ka0, A0⟩ := fza.mp a0
      by_cases b0 : zb = true
      · rw [if_pos b0] at hz
        obtain ⟨kb0, B0⟩ := fzb.mp b0
        rw [if_neg (by omega), if_pos B0, if_pos A0] at ht2
        refine ⟨?_, h0, h1, all_n es' ⟨h0, all_n eza ⟨h1, all_n ezb ⟨h0, by rw [if_neg (fun y => ia (iA.mp y)), if_pos a0, if_pos b0]; trivial⟩⟩⟩⟩
        obtain ⟨y, ey, hz⟩ := bnd_x hz
        have := sp_minvalid ey
        subst hz; subst ht2
        exact this
      · rw [if_neg b0] at hz
        by_cases ib : kb = 1
        · rw [if_pos (iB.mpr ib)] at hz
          rw [if_pos (Or.inr ib), if_neg (by omega), if_neg ia] at ht2
          refine ⟨?_, h0, h1, all_n es' ⟨h0, all_n eza ⟨h1, all_n ezb ⟨h0, by rw [if_neg (fun y => ia (iA.mp y)), if_pos a0, if_neg b0]; exact ⟨h1, by rw [if_pos (iB.mpr ib)]; trivial⟩⟩⟩⟩⟩
          subst hz; subst ht2
          exact ⟨rfl, fs, rfl, rfl, rfl⟩
        · rw [if_neg (fun y => ib (iB.mp y))] at hz
          have hB0 : B ≠ 0 := fun q => b0 (fzb.mpr ⟨(fin_b b5 ib nb).1, q⟩)
          rw [if_neg (by omega), if_neg hB0] at ht2
          obtain ⟨d1, d2⟩ := DV ia ib hB0
          refine ⟨?_, h0, h1, all_n es' ⟨h0, all_n eza ⟨h1, all_n ezb ⟨h0, by rw [if_neg (fun y => ia (iA.mp y)), if_pos a0, if_neg b0]; exact ⟨h1, by rw [if_neg (fun y => ib (iB.mp y))]; exact d2⟩⟩⟩⟩⟩
          rw [ht2, ← fs]
          exact d1 hz
    · rw [if_neg a0] at hz
      by_cases ib : kb = 1
      · rw [if_pos (iB.mpr ib)] at hz
        rw [if_pos (Or.inr ib), if_neg (by omega), if_neg ia] at ht2
        refine ⟨?_, h0, h1, all_n es' ⟨h0, all_n eza ⟨h1, all_n ezb ⟨h0, by rw [if_neg (fun y => ia (iA.mp y)), if_neg a0]; exact ⟨h1, by rw [if_pos (iB.mpr ib)]; trivial⟩⟩⟩⟩⟩
        subst hz; subst ht2
        exact ⟨rfl, fs, rfl, rfl, rfl⟩
      · rw [if_neg (fun y => ib (iB.mp y))] at hz
        have hA0 : A ≠ 0 := fun q => a0 (fza.mpr ⟨(fin_b a5 ia na).1, q⟩)
        rw [if_neg (by omega)] at ht2
        by_cases b0 : zb = true
        · rw [if_pos b0] at hz
          obtain ⟨kb0, B0⟩ := fzb.mp b0
          rw [if_pos B0, if_neg hA0] at ht2
          refine ⟨?_, h0, h1, all_n es' ⟨h0, all_n eza ⟨h1, all_n ezb ⟨h0, by rw [if_neg (fun y => ia (iA.mp y)), if_neg a0]; exact ⟨h1, by rw [if_neg (fun y => ib (iB.mp y)), if_pos b0]; trivial⟩⟩⟩⟩⟩
          subst hz; subst ht2
          exact ⟨rfl, fs, rfl, rfl, rfl⟩
        · rw [if_neg b0] at hz
          have hB0 : B ≠ 0 := fun q => b0 (fzb.mpr ⟨(fin_b b5 ib nb).1, q⟩)
          rw [if_neg hB0] at ht2
          obtain ⟨d1, d2⟩ := DV ia ib hB0
          refine ⟨?_, h0, h1, all_n es' ⟨h0, all_n eza ⟨h1, all_n ezb ⟨h0, by rw [if_neg (fun y => ia (iA.mp y)), if_neg a0]; exact ⟨h1, by rw [if_neg (fun y => ib (iB.mp y)), if_neg b0]; exact d2⟩⟩⟩⟩⟩
          rw [ht2, ← fs]
          exact d1 hz
end MOP
