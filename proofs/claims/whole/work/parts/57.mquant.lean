/-! ===== the reference: quantize, order, next ===== -/
theorem rup_0 (mode : Int) (neg : Bool) (k : Nat) : rup mode neg k 0 = false := by
  unfold rup
  by_cases m0 : mode = 0 <;> by_cases m1 : mode = 1 <;> by_cases m3 : mode = 3 <;> by_cases m4 : mode = 4 <;> simp [m0, m1, m3, m4]
theorem rnd_0 (mode : Int) (neg : Bool) (d : Nat) : rnd mode neg 0 d false = 0 := by
  unfold rnd
  rw [Nat.zero_div, Nat.zero_mod, rcl_0.mpr rfl, rup_0]; rfl
section MOP
variable {ks : Nat → Int32} {ms : Nat → Bool} {cs : Nat → Int64} {es : Nat → Int32}
theorem sp_mexact {g : Nat → Int32} {A : Nat} {fr ct : Int32} {q : Int} (hd : DP g A) (hf : fr.toInt = q) (hc : ct.toInt = nd A) (hA : nd A ≤ 16) {z : Bool × Int32} (hz : z = wl (G_X4_quantize_151 fr g ct) (B_X4_quantize_151 fr g ct) 901 (true, 0)) :
    (z.1 = true ↔ A % 10 ^ q.toNat = 0) ∧ (∀ j : Nat, j < nW (G_X4_quantize_151 fr g ct) (B_X4_quantize_151 fr g ct) 901 (true, 0) → SB_X4_quantize_151 fr g ct (itn (B_X4_quantize_151 fr g ct) j (true, 0))) ∧ G_X4_quantize_151 fr g ct (wl (G_X4_quantize_151 fr g ct) (B_X4_quantize_151 fr g ct) 901 (true, 0)) = false := by
  have c1 : (1 : Int32).toInt = 1 := rfl
  have z0 : (0 : Int32).toInt = 0 := rfl
  have hG : ∀ t, G_X4_quantize_151 fr g ct t = true ↔ ¬ fr ≤ t.2 ∧ ¬ ct ≤ t.2 := by
    intro t; unfold G_X4_quantize_151; dsimp only [bnd]
    by_cases h : fr ≤ t.2
    · simp [h]
    · by_cases h2 : ct ≤ t.2
      · simp [h2]
      · simp [h, h2]
  have R := wl_run (G := G_X4_quantize_151 fr g ct) (B := B_X4_quantize_151 fr g ct) (N := 901) (t := (true, 0)) (fun j t => (t.1 = true ↔ A % 10 ^ j = 0) ∧ t.2.toInt = (j : Int) ∧ j ≤ nd A ∧ (j : Int) ≤ max 0 q)
    ⟨by rw [Nat.pow_zero, Nat.mod_one]; simp, rfl, by omega, by omega⟩
    (by
      rintro j t _ ⟨h1, h2, h3, h4⟩ hg
      obtain ⟨g1, g2⟩ := (hG t).mp hg
      have e : B_X4_quantize_151 fr g ct t = (Z_X4_quantize_J_133 g t, t.2 + 1) := by unfold B_X4_quantize_151; dsimp only [bnd]; rw [if_neg g1, if_neg g2]
      rw [ti_le, hf, h2] at g1
      rw [ti_le, hc, h2] at g2
      have hdd := hd.2 j (by omega)
      rw [e]
      refine ⟨?_, by rw [ti_add (by omega) (by omega), h2, c1]; omega, by omega, by omega⟩
      show Z_X4_quantize_J_133 g t = true ↔ _
      unfold Z_X4_quantize_J_133
      rw [mod_step, ti_idx h2]
      by_cases y : A % 10 ^ j = 0
      · rw [if_pos (h1.mpr y), y, Nat.zero_add]
        by_cases y2 : A / 10 ^ j % 10 = 0
        · rw [if_pos (by rw [ti_eq, hdd, y2, z0]; rfl), y2, Nat.mul_zero]; simp
        · rw [if_neg (by rw [ti_eq, hdd, z0]; omega)]
          have : 10 ^ j * (A / 10 ^ j % 10) ≠ 0 := Nat.mul_ne_zero (Nat.ne_of_gt (p10 j)) y2
          exact ⟨fun h => absurd h (by simp), fun h => absurd h this⟩
      · rw [if_neg (fun h => y (h1.mp h))]
        exact ⟨fun h => absurd h (by simp), fun h => absurd (by omega) y⟩)
    (by
      intro t hP
      have h2 := hP.2.2.1
      clear hP
      omega)
  obtain ⟨⟨k, hk, h1, h2, h3, h4⟩, hg, hb⟩ := R
  have hng := ng_of hg
  rw [hG, ti_le, ti_le, hf, hc, h2] at hng
  refine ⟨?_, fun j hj => ?_, hg⟩
  · rw [hz, h1]
    by_cases y : q ≤ k
    · have e : k = q.toNat ∨ k = 0 ∧ q.toNat = 0 := by omega
      rcases e with e | ⟨e1, e2⟩
      · rw [e]
      · rw [e1, e2]
    · have ek : k = nd A := by omega
      have e1 : A % 10 ^ k = A := Nat.mod_eq_of_lt (nd_lt' (by omega))
      have e2 : A % 10 ^ q.toNat = A := Nat.mod_eq_of_lt (nd_lt' (by omega))
      rw [e1, e2]
  · obtain ⟨⟨q1, q2, q3⟩, q5, q6⟩ := hb j hj
    unfold SB_X4_quantize_151
    refine ite_P (fun _ => trivial) (fun _ => ite_P (fun _ => trivial) (fun gg => ite_P (fun _ => ?_) (fun _ => trivial)))
    rw [ti_le, hc, q2] at gg
    rw [vp_in_iff, q2]; omega
theorem sp_mquant {mo r ct : Int32} {re : Bool} {dg : Nat → Int32} {p0 p1 : Int32} {ka : Int} {sa : Bool} {A : Nat} {ea : Int} {kb : Int} {sb : Bool} {B : Nat} {eb : Int} (h0 : vp_in p0 8) (h1 : vp_in p1 8) (ha : VD ks ms cs es p0.toNatClampNeg ka sa A ea) (hb : VD ks ms cs es p1.toNatClampNeg kb sb B eb) (na : ka ≠ 2) (nb : kb ≠ 2)
    {z : Int32 × Bool × Int64 × Int32 × Int32 × Int32 × Bool × (Nat → Int32)} (hz : z = F_X4_quantize mo r ct re ks ms cs es dg p0 p1) {t : Int × Bool × Nat × Int × Int32} (ht : t = if ka = 1 ∨ kb = 1 then (if ka = kb then (1, sa, 0, 0, r) else (2, false, 0, 0, r ||| 1)) else quantS mo.toInt sa A ea eb r) :
    MRc z.1 z.2.1 z.2.2.1 z.2.2.2.1 z.2.2.2.2.1 t ∧ S_X4_quantize mo r ct re ks ms cs es dg p0 p1 := by
  obtain ⟨a1, a2, a3, a4, a5⟩ := ha
  obtain ⟨b1, b2, b3, b4, b5⟩ := hb
  have c1 : (1 : Int32).toInt = 1 := rfl
  have z0 : (0 : Int32).toInt = 0 := rfl
  have c16 : (16 : Int32).toInt = 16 := rfl
  have iA := sp_is (v := 1) a1
  have iB := sp_is (v := 1) b1
  rw [c1] at iA iB
  unfold F_X4_quantize at hz
  unfold S_X4_quantize
  by_cases ia : ka = 1
  · rw [if_pos (iA.mpr ia)] at hz
    rw [if_pos (Or.inl ia)] at ht
    by_cases ib : kb = 1
    · rw [if_pos (iB.mpr ib)] at hz
      rw [if_pos (by omega)] at ht
      refine ⟨?_, h0, by rw [if_pos (iA.mpr ia)]; exact ⟨h1, by rw [if_pos (iB.mpr ib)]; exact h0⟩⟩
      subst hz; subst ht
      exact ⟨rfl, a2, rfl, rfl, rfl⟩
    · rw [if_neg (fun y => ib (iB.mp y))] at hz
      rw [if_neg (by omega)] at ht
      refine ⟨?_, h0, by rw [if_pos (iA.mpr ia)]; exact ⟨h1, by rw [if_neg (fun y => ib (iB.mp y))]; trivial⟩⟩
      obtain ⟨y, ey, hz⟩ := bnd_x hz
      have := sp_minvalid ey
      subst hz; subst ht
      exact this
  · rw [if_neg (fun y => ia (iA.mp y))] at hz
    by_cases ib : kb = 1
    · rw [if_pos (iB.mpr ib)] at hz
      rw [if_pos (Or.inr ib), if_neg (by omega)] at ht
      refine ⟨?_, h0, by rw [if_neg (fun y => ia (iA.mp y))]; exact ⟨h1, by rw [if_pos (iB.mpr ib)]; trivial⟩⟩
      obtain ⟨y, ey, hz⟩ := bnd_x hz
      have := sp_minvalid ey
      subst hz; subst ht
      exact this
    · rw [if_neg (fun y => ib (iB.mp y))] at hz
      rw [if_neg (by omega)] at ht
      obtain ⟨ka0, hA, be1, be2, hnA⟩ := fin_b a5 ia na
      obtain ⟨kb0, hB, bf1, bf2, hnB⟩ := fin_b b5 ib nb
      obtain ⟨e, ee, hz⟩ := bnd_x hz
      obtain ⟨fr, efr, hz⟩ := bnd_x hz
      have fe : e.toInt = eb := by rw [ee]; exact b4
      have ffr : fr.toInt = eb - ea := by rw [efr, ti_sub (by omega) (by omega), fe, a4]
      obtain ⟨dA, sA⟩ := sp_lay (f := dg) a3 (p := 0) (q := 0) rfl (by omega)
      rw [Nat.pow_zero, Nat.mul_one] at dA
      obtain ⟨g, eg, hz⟩ := bnd_x hz
      rw [← eg] at dA
      obtain ⟨tA, sT⟩ := sp_trim dA
      obtain ⟨c, ec, hz⟩ := bnd_x hz
      rw [← ec] at tA
      obtain ⟨x, exx⟩ : ∃ x, x = wl (G_X4_quantize_151 fr g c) (B_X4_quantize_151 fr g c) 901 (true, 0) := ⟨_, rfl⟩
      obtain ⟨x1, x2, x3⟩ := sp_mexact dA ffr tA hnA exx
      have fr2 : Z_X4_quantize_J_144 r x = if A % 10 ^ (eb - ea).toNat = 0 then r else r ||| 16 := by
        unfold Z_X4_quantize_J_144
        by_cases q : A % 10 ^ (eb - ea).toNat = 0
        · rw [if_pos q, if_pos (x1.mpr q)]
        · rw [if_neg q, if_neg (fun y => q (x1.mp y))]
      -- the rounded number
      have hm : c ≤ 0 ∨ c - fr ≤ 16 → (Z_X4_quantize_J_125 mo ms p0 fr g c).toInt = ((if ea < eb then rnd mo.toInt sa A (eb - ea).toNat false else A * 10 ^ (ea - eb).toNat : Nat) : Int) ∧ (if c = 0 then True else S_X4_rounded mo c false g fr (ms p0.toNatClampNeg)) := by
        intro hcc
        unfold Z_X4_quantize_J_125
        rw [a2]
        by_cases c0 : c = 0
        · rw [if_pos c0, if_pos c0]
          rw [ti_eq, tA, z0] at c0
          have A0 : A = 0 := nd_eq0.mp (by omega)
          refine ⟨?_, trivial⟩
          rw [A0, rnd_0, Nat.zero_mul]
          split <;> rfl
        · rw [if_neg c0, if_neg c0]
          rw [ti_eq, tA, z0] at c0
          by_cases lt : ea < eb
          · rw [if_pos lt]
            exact sp_mrounded dA sa tA (q := (eb - ea).toNat) (by rw [ffr]; omega) (by omega) (Nat.le_refl _) (by omega) (by omega) (Nat.lt_of_le_of_lt (Nat.div_le_self _ _) hA)
          · rw [if_neg lt]
            have hp0 : ¬ (0 : Int32) < fr := by rw [ti_lt, z0, ffr]; omega
            have hnn : nd A + (ea - eb).toNat ≤ 16 := by
              rcases hcc with h | h
              · rw [ti_le, tA, z0] at h; omega
              · rw [ti_le, ti_sub (by omega) (by omega), tA, ffr, c16] at h; omega
            obtain ⟨w1, w2⟩ := sp_whole dA tA (p := 0) (q := 0) rfl (by omega) (Nat.le_refl _) (by rw [Nat.pow_zero, Nat.div_one]; omega)
            rw [Nat.pow_zero, Nat.div_one] at w1
            have fn : (-fr).toInt = (((ea - eb).toNat : Nat) : Int) := by rw [ti_neg (by omega), ffr]; omega
            obtain ⟨w3, w4⟩ := sp_times w1 fn (by omega) (Nat.lt_trans (mul_lt16 hnn) (by decide))
            unfold F_X4_rounded S_X4_rounded
            rw [if_neg hp0, if_neg hp0]
            exact ⟨w3, w2, w4⟩
      have fin : ∀ {y : Int32 × Bool × Int64 × Int32 × Int32 × Int32 × Bool × (Nat → Int32)}, (c ≤ 0 ∨ c - fr ≤ 16) → y = (bnd (Z_X4_quantize_J_125 mo ms p0 fr g c) (fun z124 : Int64 => (bnd (wl (G_X4_quantize_151 fr g c) (B_X4_quantize_151 fr g c) 901 (true, 0)) (fun z135 : Bool × Int32 => (bnd (Z_X4_quantize_J_144 r z135) (fun z143 : Int32 => (bnd (F_X4_be (0 : Int32) (ms p0.toNatClampNeg) z124 e) (fun u147 : Int32 × Bool × Int64 × Int32 => (u147.1, u147.2.1, u147.2.2.1, u147.2.2.2, z143, c, false, g))))))))) →
          MRc y.1 y.2.1 y.2.2.1 y.2.2.2.1 y.2.2.2.2.1 t ∧ ((if c = 0 then True else S_X4_rounded mo c false g fr (ms p0.toNatClampNeg))) ∧ (∀ z124 : Int64, z124 = Z_X4_quantize_J_125 mo ms p0 fr g c → (∀ j : Nat, j < nW (G_X4_quantize_151 fr g c) (B_X4_quantize_151 fr g c) 901 (true, 0) → SB_X4_quantize_151 fr g c (itn (B_X4_quantize_151 fr g c) j (true, 0))) ∧ G_X4_quantize_151 fr g c (wl (G_X4_quantize_151 fr g c) (B_X4_quantize_151 fr g c) 901 (true, 0)) = false ∧ (∀ z135 : Bool × Int32, z135 = wl (G_X4_quantize_151 fr g c) (B_X4_quantize_151 fr g c) 901 (true, 0) → (∀ z143 : Int32, z143 = Z_X4_quantize_J_144 r z135 → vp_in p0 8))) := by
        intro y hcc hy
        obtain ⟨m1, m2⟩ := hm hcc
        refine ⟨?_, m2, fun _ _ => ⟨x2, x3, fun _ _ _ _ => h0⟩⟩
        obtain ⟨m, em, hy⟩ := bnd_x hy
        obtain ⟨x', ex', hy⟩ := bnd_x hy
        obtain ⟨v, ev, hy⟩ := bnd_x hy
        obtain ⟨w, ew, hy⟩ := bnd_x hy
        unfold F_X4_be at ew
        rw [← em] at m1
        rw [ex', ← exx, fr2] at ev
        have ht3 : t = (0, sa, (if ea < eb then rnd mo.toInt sa A (eb - ea).toNat false else A * 10 ^ (ea - eb).toNat : Nat), eb, v) := by
          rw [ht, ev]
          unfold quantS
          by_cases lt : ea < eb
          · rw [if_pos lt, if_pos lt]
          · have e0 : (eb - ea).toNat = 0 := by omega
            have e1 : A % 10 ^ (eb - ea).toNat = 0 := by rw [e0, Nat.pow_zero, Nat.mod_one]
            rw [if_neg lt, if_neg lt, if_pos e1]
            by_cases A0 : A = 0
            · rw [if_pos A0, A0, Nat.zero_mul]
            · rw [if_neg A0, if_neg]
              rcases hcc with h | h
              · rw [ti_le, tA, z0] at h
                have := nd_pos A0; omega
              · rw [ti_le, ti_sub (by omega) (by omega), tA, ffr, c16] at h; omega
        rw [ht3]
        subst ew; subst hy
        exact ⟨rfl, a2, m1, fe, rfl⟩
      by_cases cc0 : c ≤ 0
      · rw [if_pos cc0] at hz
        obtain ⟨q1, q2⟩ := fin (Or.inl cc0) hz
        refine ⟨q1, h0, ?_⟩
        rw [if_neg (fun y => ia (iA.mp y))]
        refine ⟨h1, ?_⟩
        rw [if_neg (fun y => ib (iB.mp y))]
        refine ⟨h1, all_n ee ⟨h0, all_n efr ⟨sA, all_n eg ⟨sT, all_n ec ?_⟩⟩⟩⟩
        rw [if_pos cc0]
        exact q2
      · rw [if_neg cc0] at hz
        by_cases c16' : c - fr ≤ 16
        · rw [if_pos c16'] at hz
          obtain ⟨q1, q2⟩ := fin (Or.inr c16') hz
          refine ⟨q1, h0, ?_⟩
          rw [if_neg (fun y => ia (iA.mp y))]
          refine ⟨h1, ?_⟩
          rw [if_neg (fun y => ib (iB.mp y))]
          refine ⟨h1, all_n ee ⟨h0, all_n efr ⟨sA, all_n eg ⟨sT, all_n ec ?_⟩⟩⟩⟩
          rw [if_neg cc0, if_pos c16']
          exact q2
        · rw [if_neg c16'] at hz
          refine ⟨?_, h0, ?_⟩
          · rw [ti_le, ti_sub (by omega) (by omega), tA, ffr, c16] at c16'
            rw [ti_le, tA, z0] at cc0
            have A0 : A ≠ 0 := by intro q; rw [q, nd_0] at cc0; omega
            unfold quantS at ht
            rw [if_neg (by omega), if_neg A0, if_pos (by omega)] at ht
            obtain ⟨y, ey, hz⟩ := bnd_x hz
            have := sp_minvalid ey
            subst hz; subst ht
            exact this
          · rw [if_neg (fun y => ia (iA.mp y))]
            refine ⟨h1, ?_⟩
            rw [if_neg (fun y => ib (iB.mp y))]
            refine ⟨h1, all_n ee ⟨h0, all_n efr ⟨sA, all_n eg ⟨sT, all_n ec ?_⟩⟩⟩⟩
            rw [if_neg cc0, if_neg c16']; trivial
end MOP
