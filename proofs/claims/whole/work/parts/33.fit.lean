/-! ===== the class' fitting, in whole numbers ===== -/
theorem bnd_x {α β : Type} {e : α} {f : α → β} {u : β} (hu : u = bnd e f) : ∃ n, n = e ∧ u = f n := ⟨e, rfl, hu⟩
theorem up_s {α : Type} (f : Nat → α) (k : Nat) (v : α) : va_up f k v k = v := by simp [va_up]
theorem up_n {α : Type} {f : Nat → α} {k j : Nat} {v : α} (h : j ≠ k) : va_up f k v j = f j := by simp [va_up, h]
/-- what the result's cell has become, all others unchanged -/
def RD (so : Nat → Int32) (mi : Nat → Bool) (co : Nat → Int64) (ex : Nat → Int32) (so' : Nat → Int32) (mi' : Nat → Bool) (co' : Nat → Int64) (ex' : Nat → Int32) (k : Int) (n : Bool) (c : Nat) (q : Int) : Prop :=
  (so' 8).toInt = k ∧ mi' 8 = n ∧ (co' 8).toInt = (c : Int) ∧ (ex' 8).toInt = q ∧ ∀ i, i ≠ 8 → so' i = so i ∧ mi' i = mi i ∧ co' i = co i ∧ ex' i = ex i
section RDS
variable {so : Nat → Int32} {mi : Nat → Bool} {co : Nat → Int64} {ex : Nat → Int32}
theorem sp_setFinite {b : Bool} {c : Int64} {q : Int32} {cn : Nat} {qi : Int} (hc : c.toInt = cn) (hq : q.toInt = qi) {u : (Nat → Int32) × (Nat → Bool) × (Nat → Int64) × (Nat → Int32)} (hu : u = F_X0_setFinite so mi co ex 8 b c q) : RD so mi co ex u.1 u.2.1 u.2.2.1 u.2.2.2 0 b cn qi := by
  subst hu
  unfold F_X0_setFinite RD
  dsimp only [bnd]
  simp only [up_s]
  exact ⟨rfl, trivial, hc, hq, fun i hi => ⟨up_n hi, up_n hi, up_n hi, up_n hi⟩⟩
theorem sp_setInfinity {b : Bool} {u : (Nat → Int32) × (Nat → Bool) × (Nat → Int64) × (Nat → Int32)} (hu : u = F_X0_setInfinity so mi co ex 8 b) : RD so mi co ex u.1 u.2.1 u.2.2.1 u.2.2.2 1 b 0 0 := by
  subst hu
  unfold F_X0_setInfinity RD
  dsimp only [bnd]
  simp only [up_s]
  exact ⟨rfl, trivial, rfl, rfl, fun i hi => ⟨up_n hi, up_n hi, up_n hi, up_n hi⟩⟩
theorem sp_setNothing {u : (Nat → Int32) × (Nat → Bool) × (Nat → Int64) × (Nat → Int32)} (hu : u = F_X0_setNothing so mi co ex 8) : RD so mi co ex u.1 u.2.1 u.2.2.1 u.2.2.2 2 false 0 0 := by
  subst hu
  unfold F_X0_setNothing RD
  dsimp only [bnd]
  simp only [up_s]
  exact ⟨rfl, trivial, rfl, rfl, fun i hi => ⟨up_n hi, up_n hi, up_n hi, up_n hi⟩⟩
end RDS
/-! cutting digits off -/
theorem pE {d : Nat} (h : d ≤ 16) : 10000000000000000 = 10 ^ (16 - d) * 10 ^ d := by rw [← Nat.pow_add, Nat.sub_add_cancel h, p16]
theorem split_div {N d : Nat} (hd : d ≤ 16) : N / 10 ^ d = N / 10000000000000000 * 10 ^ (16 - d) + N % 10000000000000000 / 10 ^ d := by
  have e := pE hd
  have h := Nat.div_add_mod N 10000000000000000
  generalize N / 10000000000000000 = q at h ⊢
  generalize N % 10000000000000000 = r at h ⊢
  have e2 : 10000000000000000 * q = 10 ^ d * (q * 10 ^ (16 - d)) := by rw [e]; ac_rfl
  rw [← h, e2, Nat.mul_add_div (p10 d)]
theorem split_mod {N d : Nat} (hd : d ≤ 16) : N % 10 ^ d = N % 10000000000000000 % 10 ^ d := by
  rw [Nat.mod_mod_of_dvd]
  exact ⟨10 ^ (16 - d), by rw [Nat.mul_comm]; exact pE hd⟩
theorem split_mod2 (N k : Nat) : N % 10 ^ (16 + k) = N / 10000000000000000 % 10 ^ k * 10000000000000000 + N % 10000000000000000 := by
  rw [p10a, p16, Nat.mod_mul]; omega
theorem split_div2 (N k : Nat) : N / 10 ^ (16 + k) = N / 10000000000000000 / 10 ^ k := by
  rw [p10a, p16, Nat.div_div_eq_div_mul]
theorem nd_lt' {N k : Nat} (h : nd N ≤ k) : N < 10 ^ k := (nd_le k N).mp h
theorem sp_cut {h l : Int64} {p : Int32} {mo : Bool} {N : Nat} {u : Int} (o : OC h l p mo N u) {d : Nat} {p0 : Int32} (hp : p0.toInt = d) (hd : 0 < d) (hf : nd N ≤ 16 + d) :
    (F_X1_cut h l mo p0).1.toInt = ((N / 10 ^ d : Nat) : Int) ∧ (F_X1_cut h l mo p0).2.toInt = ((rcl (N % 10 ^ d) (10 ^ d) mo : Nat) : Int) ∧ S_X1_cut h l mo p0 := by
  have oz := sp_oZero o
  obtain ⟨h1, h2, h3, h4, h5⟩ := o
  have c32 : (32 : Int32).toInt = 32 := rfl
  have c16 : (16 : Int32).toInt = 16 := rfl
  have c0 : (0 : Int64).toInt = ((0 : Nat) : Int) := rfl
  have hkept : N / 10 ^ d < 10000000000000000 := by
    rw [Nat.div_lt_iff_lt_mul (p10 d), ← p16, ← p10a]
    exact nd_lt' hf
  unfold F_X1_cut S_X1_cut
  dsimp only [bnd]
  by_cases a1 : p0 ≤ 32
  · have b1 : d ≤ 32 := by rw [ti_le, hp, c32] at a1; omega
    simp only [if_pos a1]
    by_cases a2 : p0 ≤ 16
    · have b2 : d ≤ 16 := by rw [ti_le, hp, c16] at a2; omega
      simp only [if_pos a2]
      have t1 := sp_tenTo hp b2
      have e16 : (16 - p0).toInt = ((16 - d : Nat) : Int) := by rw [ti_sub (by omega) (by omega)]; omega
      have t2 := sp_tenTo e16 (by omega)
      have hE := split_div (N := N) b2
      have hle := Nat.le_add_right (N / 10000000000000000 * 10 ^ (16 - d)) (N % 10000000000000000 / 10 ^ d)
      have hle2 : N / 10000000000000000 * 10 ^ (16 - d) + N % 10000000000000000 / 10 ^ d < 10000000000000000 := by rw [← hE]; exact hkept
      have m1 := tn_mul h1 t2 (Nat.lt_trans (Nat.lt_of_le_of_lt hle hle2) (by decide))
      have m2 := tn_div h2 t1 (p10 d)
      have m3 := tn_rem h2 t1 (p10 d)
      refine ⟨?_, ?_, S_tenTo _, ?_⟩
      · rw [tn_add m1 m2 (Nat.lt_trans hle2 (by decide)), hE]
      · rw [sp_restOf m3 t1 (p10even hd) (p10 d), ← split_mod b2]
      · refine all_n rfl ⟨S_tenTo _, ?_⟩
        rw [tl_eq, t1]
        have := p10 d
        have z : (0 : Int64).toInt = 0 := rfl
        omega
    · have b2 : 16 < d := by rw [ti_le, hp, c16] at a2; omega
      simp only [if_neg a2]
      obtain ⟨k, rfl⟩ : ∃ k, d = 16 + k := ⟨d - 16, by omega⟩
      have e16 : (p0 - 16).toInt = ((k : Nat) : Int) := by rw [ti_sub (by omega) (by omega)]; omega
      have t1 := sp_tenTo e16 (by omega)
      have m2 := tn_div h1 t1 (p10 k)
      have m3 := tn_rem h1 t1 (p10 k)
      refine ⟨?_, ?_, S_tenTo _, ?_⟩
      · rw [m2, split_div2]
      · rw [sp_restOf m3 t1 (p10even (by omega)) (p10 k), split_mod2, p10a, p16, Nat.mul_comm 10000000000000000 (10 ^ k)]
        congr 1
        by_cases z : mo = true ∨ N % 10000000000000000 ≠ 0
        · rw [rcl_sticky (Nat.mod_lt _ (by decide)) (p10even (by omega)) z]
          congr 1
          unfold Z_X1_cut_J_124
          by_cases q : l = 0
          · rw [if_pos q]; rw [tl_eq, h2, c0] at q
            have : mo = true := z.resolve_right (by omega)
            rw [this]; rfl
          · rw [if_neg q]
        · have z1 : mo = false := by cases mo with
            | true => exact absurd (Or.inl rfl) z
            | false => rfl
          have z2 : N % 10000000000000000 = 0 := by
            apply Classical.byContradiction; intro q; exact z (Or.inr q)
          rw [z2, Nat.add_zero, rcl_scale' (by decide), z1]
          congr 1
          unfold Z_X1_cut_J_124
          rw [if_pos (by rw [tl_eq, h2, z2]; rfl)]; rfl
      · refine all_n rfl ?_
        rw [tl_eq, t1]
        have := p10 k
        have z : (0 : Int64).toInt = 0 := rfl
        omega
  · have b1 : 32 < d := by rw [ti_le, hp, c32] at a1; omega
    simp only [if_neg a1]
    have hbig : 10 * (10000000000000000 * 10000000000000000) ≤ 10 ^ d := by rw [← p33]; exact p10le (by omega)
    have e1 : N / 10 ^ d = 0 := Nat.div_eq_of_lt (by omega)
    have e2 : N % 10 ^ d = N := Nat.mod_eq_of_lt (by omega)
    refine ⟨by rw [e1]; rfl, ?_, trivial⟩
    rw [e2]
    unfold rcl Z_X1_cut_J_133
    by_cases z : N = 0 ∧ mo = false
    · rw [if_pos z, if_pos (oz.mpr z)]; rfl
    · rw [if_neg z, if_neg (fun q => z (oz.mp q)), if_pos (by omega)]; rfl
/-! rounding -/
theorem sp_rounded {rd : Int32} {k : Int64} {r : Int32} {n : Bool} {kn rn : Nat} (hk : k.toInt = kn) (hr : r.toInt = rn) (hb : kn < 10000000000000000) (hrn : rn ≤ 3) :
    (F_X3_roundedKept rd k r n).toInt = ((kn + (if rup rd.toInt n kn rn = true then 1 else 0) : Nat) : Int) := by
  have c0 : (0 : Int32).toInt = 0 := rfl
  have c1 : (1 : Int32).toInt = 1 := rfl
  have c2 : (2 : Int32).toInt = 2 := rfl
  have c3 : (3 : Int32).toInt = 3 := rfl
  have c4 : (4 : Int32).toInt = 4 := rfl
  have l2 : (2 : Int64).toInt = ((2 : Nat) : Int) := rfl
  have l0 : (0 : Int64).toInt = 0 := rfl
  have l1 : (1 : Int64).toInt = ((1 : Nat) : Int) := rfl
  have hrem := tn_rem hk l2 (by decide)
  have key : Z_X3_roundedKept_J_129 rd k r n = rup rd.toInt n kn rn := by
    unfold Z_X3_roundedKept_J_129 Z_X3_roundedKept_J_111 Z_X3_roundedKept_J_116 Z_X3_roundedKept_J_121 Z_X3_roundedKept_J_126 rup
    dsimp only [bnd]
    simp only [ti_eq, tl_eq, c0, c1, c2, c3, c4, hr, hrem, l0]
    by_cases a0 : rd.toInt = 0
    · simp only [if_pos a0]
      by_cases q3 : rn = 3
      · subst q3; rfl
      · by_cases q2 : rn = 2
        · subst q2
          by_cases q : kn % 2 = 1
          · simp [q]
          · have q' : kn % 2 = 0 := by omega
            simp [q']
        · rw [if_neg (by omega), if_neg (by omega)]; simp [q3, q2]
    · simp only [if_neg a0]
      by_cases a1 : rd.toInt = 1
      · simp only [if_pos a1]
        by_cases q2 : rn = 2
        · subst q2; rfl
        · by_cases q3 : rn = 3
          · subst q3; rfl
          · rw [if_neg (by omega), if_neg (by omega)]
            have : ¬ 2 ≤ rn := by omega
            simp [this]
      · simp only [if_neg a1]
        by_cases a2 : rd.toInt = 2
        · simp only [if_pos a2]
          rw [if_neg (by omega), if_neg (by omega)]
        · simp only [if_neg a2]
          by_cases a3 : rd.toInt = 3
          · simp only [if_pos a3]
            by_cases q0 : rn = 0
            · subst q0; simp
            · rw [if_neg (by omega)]
              cases n <;> simp [q0]
          · simp only [if_neg a3]
            by_cases a4 : rd.toInt = 4
            · simp only [if_pos a4]
              by_cases q0 : rn = 0
              · subst q0; simp
              · rw [if_neg (by omega)]
                cases n <;> simp [q0]
            · simp only [if_neg a4]
  unfold F_X3_roundedKept
  dsimp only [bnd]
  rw [key]
  by_cases z : rup rd.toInt n kn rn = true
  · rw [if_pos z, if_pos z, tn_add hk l1 (by omega)]
  · rw [if_neg z, if_neg z, hk, Nat.add_zero]
theorem rcl_le (r U : Nat) (s : Bool) : rcl r U s ≤ 3 := by
  unfold rcl
  split
  · omega
  · split
    · omega
    · split <;> omega
/-! zeros at the end -/
