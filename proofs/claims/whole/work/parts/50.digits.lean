/-! ===== the reference: rows of digits ===== -/
/-- the row holds the digits of N -/
def DP (f : Nat → Int32) (N : Nat) : Prop := nd N ≤ 900 ∧ ∀ k, k < 900 → (f k).toInt = ((N / 10 ^ k % 10 : Nat) : Int)
theorem ti_idx {a : Int32} {j : Nat} (h : a.toInt = j) : a.toNatClampNeg = j := by rw [ti_nat, h]; omega
theorem nd_small {N k : Nat} (h : nd N ≤ k) : N / 10 ^ k = 0 := Nat.div_eq_of_lt (nd_lt' h)
theorem ng_of {b : Bool} (h : b = false) : ¬ b = true := by rw [h]; simp
theorem nat_le0 {n : Nat} (h : (n : Int) ≤ 0) : n = 0 := by omega
/-! clear -/
theorem sp_clearLoop {f : Nat → Int32} {z : Int32 × (Nat → Int32)} (hz : z = wl (G_X4_clear_2) (B_X4_clear_2) 901 (0, f)) :
    (z.1.toInt = 900 ∧ ∀ m, m < 900 → z.2 m = 0) ∧ (∀ j : Nat, j < nW (G_X4_clear_2) (B_X4_clear_2) 901 (0, f) → SB_X4_clear_2 (itn (B_X4_clear_2) j (0, f))) ∧ G_X4_clear_2 (wl (G_X4_clear_2) (B_X4_clear_2) 901 (0, f)) = false := by
  have c900 : (900 : Int32).toInt = 900 := rfl
  have c1 : (1 : Int32).toInt = 1 := rfl
  have hG : ∀ t, G_X4_clear_2 t = true ↔ ¬ (900 : Int32) ≤ t.1 := by
    intro t; unfold G_X4_clear_2; dsimp only [bnd]
    by_cases h : (900 : Int32) ≤ t.1
    · simp [h]
    · simp [h]
  have R := wl_run (G := G_X4_clear_2) (B := B_X4_clear_2) (N := 901) (t := (0, f)) (fun j t => t.1.toInt = j ∧ j ≤ 900 ∧ ∀ m, m < j → t.2 m = 0)
    ⟨rfl, by omega, fun m hm => by omega⟩
    (by
      rintro j t _ ⟨h1, h2, h3⟩ hg
      have g := (hG t).mp hg
      have e : B_X4_clear_2 t = (t.1 + 1, va_up t.2 t.1.toNatClampNeg 0) := by unfold B_X4_clear_2; dsimp only [bnd]; rw [if_neg g]
      rw [ti_le, c900, h1] at g
      rw [e, ti_idx h1]
      refine ⟨by rw [ti_add (by omega) (by omega)]; omega, by omega, fun m hm => ?_⟩
      by_cases q : m = j
      · subst q; exact up_s _ _ _
      · show va_up _ _ _ m = 0
        rw [up_n q]; exact h3 m (by omega))
    (by rintro t ⟨_, h2, _⟩; omega)
  obtain ⟨⟨k, hk, h1, h2, h3⟩, hg, hb⟩ := R
  have hng := ng_of hg
  rw [hG, ti_le, c900, h1] at hng
  have ek : k = 900 := by omega
  subst ek
  refine ⟨by rw [hz]; exact ⟨h1, h3⟩, fun j hj => ?_, hg⟩
  obtain ⟨⟨q1, q2, q3⟩, q4, q5⟩ := hb j hj
  unfold SB_X4_clear_2
  refine ite_P (fun _ => trivial) (fun g => ?_)
  rw [ti_le, c900, q1] at g
  rw [vp_in_iff, q1]; omega
theorem sp_clear {f : Nat → Int32} : DP (F_X4_clear f) 0 ∧ S_X4_clear f ∧ ∀ m, m < 900 → F_X4_clear f m = 0 := by
  have c900 : (900 : Int32).toInt = 900 := rfl
  obtain ⟨⟨h1, h2⟩, h3, h4⟩ := sp_clearLoop (f := f) rfl
  have key : ∀ m, m < 900 → F_X4_clear f m = 0 := by
    intro m hm
    unfold F_X4_clear
    dsimp only [bnd]
    rw [if_pos (by rw [ti_le, h1, c900]; omega)]
    exact h2 m hm
  refine ⟨⟨by rw [nd_0]; omega, fun k hk => ?_⟩, ⟨h3, h4⟩, key⟩
  rw [key k hk, Nat.zero_div]; rfl
/-! the digits of a coefficient from a place on -/
theorem sp_layLoop {f : Nat → Int32} (hf : ∀ m, m < 900 → f m = 0) {x : Int64} {p : Int32} {X q : Nat} (hx : x.toInt = X) (hp : p.toInt = q) (hq : q + nd X ≤ 900) {z : Int64 × Int32 × (Nat → Int32)} (hz : z = wl (G_X4_lay_10) (B_X4_lay_10) 901 (x, p, f)) :
    (z.1 ≤ 0 ∧ DP z.2.2 (X * 10 ^ q)) ∧ (∀ j : Nat, j < nW (G_X4_lay_10) (B_X4_lay_10) 901 (x, p, f) → SB_X4_lay_10 (itn (B_X4_lay_10) j (x, p, f))) ∧ G_X4_lay_10 (wl (G_X4_lay_10) (B_X4_lay_10) 901 (x, p, f)) = false := by
  have c1 : (1 : Int32).toInt = 1 := rfl
  have l0 : (0 : Int64).toInt = 0 := rfl
  have l10 : (10 : Int64).toInt = ((10 : Nat) : Int) := rfl
  have z0 : (0 : Int32).toInt = 0 := rfl
  have hG : ∀ t, G_X4_lay_10 t = true ↔ ¬ t.1 ≤ 0 := by
    intro t; unfold G_X4_lay_10; dsimp only [bnd]
    by_cases h : t.1 ≤ 0
    · simp [h]
    · simp [h]
  have R := wl_run (G := G_X4_lay_10) (B := B_X4_lay_10) (N := 901) (t := (x, p, f)) (fun j t => t.1.toInt = ((X / 10 ^ j : Nat) : Int) ∧ t.2.1.toInt = ((q + j : Nat) : Int) ∧ j ≤ nd X ∧ ∀ m, m < 900 → (t.2.2 m).toInt = if m < q ∨ q + j ≤ m then 0 else ((X / 10 ^ (m - q) % 10 : Nat) : Int))
    ⟨by rw [Nat.pow_zero, Nat.div_one]; exact hx, by simpa using hp, by omega, fun m hm => by
      show (f m).toInt = _
      rw [if_pos (by omega), hf m hm]; exact z0⟩
    (by
      rintro j t _ ⟨h1, h2, h3, h4⟩ hg
      have g := (hG t).mp hg
      have e : B_X4_lay_10 t = (t.1 / 10, t.2.1 + 1, va_up t.2.2 t.2.1.toNatClampNeg (jremL t.1 10).toInt32) := by unfold B_X4_lay_10; dsimp only [bnd]; rw [if_neg g]
      rw [tl_le, l0, h1] at g
      have hj : j < nd X := by
        apply Nat.lt_of_not_le
        intro h
        rw [nd_small h] at g; omega
      have r1 := tn_rem h1 l10 (by decide)
      have d1 := tn_div h1 l10 (by decide)
      have e10 : X / 10 ^ (j + 1) = X / 10 ^ j / 10 := by rw [Nat.pow_succ, Nat.div_div_eq_div_mul]
      have hd : X / 10 ^ j % 10 < 10 := Nat.mod_lt _ (by decide)
      rw [e, ti_idx h2, e10]
      refine ⟨d1, by rw [ti_add (by omega) (by omega)]; omega, hj, fun m hm => ?_⟩
      by_cases y : m = q + j
      · subst y
        show Int32.toInt (va_up _ _ _ _) = _
        rw [up_s, if_neg (by omega), tl_int (by omega) (by omega), r1, Nat.add_sub_cancel_left]
      · show Int32.toInt (va_up _ _ _ _) = _
        rw [up_n y, h4 m hm]
        by_cases y2 : m < q ∨ q + j ≤ m
        · rw [if_pos y2, if_pos (by omega)]
        · rw [if_neg y2, if_neg (by omega)])
    (by rintro t ⟨_, _, h2, _⟩; omega)
  obtain ⟨⟨k, hk, h1, h2, h3, h4⟩, hg, hb⟩ := R
  have hng := ng_of hg
  rw [hG] at hng
  have hle : (wl (G_X4_lay_10) (B_X4_lay_10) 901 (x, p, f)).1 ≤ 0 := Classical.byContradiction hng
  have hle' := hle
  rw [tl_le, h1, l0] at hle'
  have hX0 : X / 10 ^ k = 0 := nat_le0 hle'
  rw [hz]
  refine ⟨⟨hle, ?_, fun m hm => ?_⟩, fun j hj => ?_, hg⟩
  · by_cases h : X = 0
    · subst h; rw [Nat.zero_mul, nd_0]; omega
    · rw [nd_mul q h]; omega
  · rw [h4 m hm]
    by_cases y : m < q
    · rw [if_pos (Or.inl y)]
      obtain ⟨r, rfl⟩ : ∃ r, q = m + (r + 1) := ⟨q - m - 1, by omega⟩
      have e : X * 10 ^ (m + (r + 1)) = X * 10 ^ r * 10 * 10 ^ m := by
        rw [p10a, Nat.pow_succ]; ac_rfl
      rw [e, Nat.mul_div_cancel _ (p10 m), Nat.mul_mod_left]; rfl
    · have e : X * 10 ^ q / 10 ^ m = X / 10 ^ (m - q) := by
        have h5 : 10 ^ m = 10 ^ (m - q) * 10 ^ q := by rw [← p10a]; congr 1; omega
        rw [h5]; exact Nat.mul_div_mul_right _ _ (p10 q)
      rw [e]
      by_cases y2 : q + k ≤ m
      · rw [if_pos (Or.inr y2)]
        have h6 : 10 ^ (m - q) = 10 ^ k * 10 ^ (m - q - k) := by rw [← p10a]; congr 1; omega
        rw [h6, ← Nat.div_div_eq_div_mul, hX0, Nat.zero_div]; rfl
      · rw [if_neg (by omega)]
  · obtain ⟨⟨q1, q2, q3, q4⟩, q5, q6⟩ := hb j hj
    unfold SB_X4_lay_10
    refine ite_P (fun _ => trivial) (fun g _ _ => ?_)
    rw [tl_le, q1, l0] at g
    have hj2 : j < nd X := by
      apply Nat.lt_of_not_le
      intro h
      rw [nd_small h] at g; omega
    rw [vp_in_iff, q2]; omega
theorem sp_lay {f : Nat → Int32} {x : Int64} {p : Int32} {X q : Nat} (hx : x.toInt = X) (hp : p.toInt = q) (hq : q + nd X ≤ 900) : DP (F_X4_lay f x p) (X * 10 ^ q) ∧ S_X4_lay f x p := by
  obtain ⟨h1, h2, h3⟩ := sp_clear (f := f)
  obtain ⟨⟨g1, g2⟩, g3, g4⟩ := sp_layLoop h3 hx hp hq rfl
  refine ⟨?_, h2, all_n rfl ⟨g3, g4⟩⟩
  unfold F_X4_lay
  dsimp only [bnd]
  rw [if_pos g1]
  exact g2
theorem sp_layOther {f : Nat → Int32} {x : Int64} {p : Int32} {X q : Nat} (hx : x.toInt = X) (hp : p.toInt = q) (hq : q + nd X ≤ 900) : DP (F_X4_layOther f x p) (X * 10 ^ q) ∧ S_X4_layOther f x p := by
  obtain ⟨⟨h0, h1⟩, h2, h3⟩ := sp_clearLoop (f := f) rfl
  obtain ⟨⟨g1, g2⟩, g3, g4⟩ := sp_layLoop h1 hx hp hq rfl
  have hF : F_X4_layOther f x p = (bnd (wl (G_X4_clear_2) (B_X4_clear_2) 901 (0, f)) (fun z106 : Int32 × (Nat → Int32) => (bnd (wl (G_X4_lay_10) (B_X4_lay_10) 901 (x, p, z106.2)) (fun z118 : Int64 × Int32 × (Nat → Int32) => (if z118.1 ≤ 0 then z118.2.2 else default))))) := rfl
  refine ⟨?_, h2, h3, all_n rfl ⟨g3, g4⟩⟩
  rw [hF]
  dsimp only [bnd]
  rw [if_pos g1]
  exact g2
/-! how many digits -/
theorem nd_of_digits {N t : Nat} (hN : nd N ≤ 900) (h1 : ∀ m, t ≤ m → m < 900 → N / 10 ^ m % 10 = 0) (h2 : t = 0 ∨ N / 10 ^ (t - 1) % 10 ≠ 0) : nd N = t := by
  apply Nat.le_antisymm
  · apply Nat.le_of_not_lt
    intro h
    have h3 := h1 (nd N - 1) (by omega) (by omega)
    have hN0 : N ≠ 0 := by intro q; rw [q, nd_0] at h; omega
    have h4 := nd_ge hN0
    have h5 : N / 10 ^ (nd N - 1) < 10 := by
      rw [Nat.div_lt_iff_lt_mul (p10 _), ← p10s]
      have := nd_lt N
      rwa [Nat.sub_add_cancel (by omega)]
    have h6 : 0 < N / 10 ^ (nd N - 1) := Nat.div_pos h4 (p10 _)
    omega
  · rcases h2 with h2 | h2
    · omega
    · by_cases ht : t = 0
      · omega
      · have h3 : 10 ^ (t - 1) ≤ N := by
          apply Nat.le_of_not_lt
          intro h
          rw [Nat.div_eq_of_lt h] at h2
          exact h2 rfl
        have := nd_gt.mpr h3
        omega
theorem sp_trim {f : Nat → Int32} {N : Nat} (h : DP f N) : (F_X4_trim f).toInt = nd N ∧ S_X4_trim f := by
  obtain ⟨hN, hd⟩ := h
  have c1 : (1 : Int32).toInt = 1 := rfl
  have z0 : (0 : Int32).toInt = 0 := rfl
  have hG : ∀ t, G_X4_trim_7 f t = true ↔ ¬ t ≤ 0 ∧ f (t - 1).toNatClampNeg = 0 := by
    intro t; unfold G_X4_trim_7; dsimp only [bnd]
    by_cases h : t ≤ 0
    · simp [h]
    · by_cases h2 : f (t - 1).toNatClampNeg = 0
      · simp [h, h2]
      · simp [h2]
  have R := wl_run (G := G_X4_trim_7 f) (B := B_X4_trim_7 f) (N := 901) (t := (900 : Int32)) (fun j t => t.toInt = 900 - (j : Int) ∧ j ≤ 900 ∧ ∀ m, 900 - j ≤ m → m < 900 → N / 10 ^ m % 10 = 0)
    ⟨rfl, by omega, fun m h1 h2 => by omega⟩
    (by
      rintro j t _ ⟨h1, h2, h3⟩ hg
      obtain ⟨g1, g2⟩ := (hG t).mp hg
      have e : B_X4_trim_7 f t = t - 1 := by unfold B_X4_trim_7; dsimp only [bnd]; rw [if_neg g1, if_pos g2]
      rw [ti_le, z0, h1] at g1
      have hs : (t - 1).toInt = ((900 - j - 1 : Nat) : Int) := by rw [ti_sub (by omega) (by omega)]; omega
      rw [ti_eq, ti_idx hs, hd _ (by omega), z0] at g2
      rw [e]
      refine ⟨by rw [hs]; omega, by omega, fun m k1 k2 => ?_⟩
      by_cases y : m = 900 - j - 1
      · subst y; omega
      · exact h3 m (by omega) k2)
    (by rintro t ⟨_, h2, _⟩; omega)
  obtain ⟨⟨k, hk, h1, h2, h3⟩, hg, hb⟩ := R
  have hng := ng_of hg
  rw [hG] at hng
  have hs : ∀ t : Int32, ∀ j : Nat, t.toInt = 900 - (j : Int) → j ≤ 900 → ¬ t ≤ 0 → j < 900 ∧ (t - 1).toInt = ((900 - j - 1 : Nat) : Int) := by
    intro t j q1 q2 q3
    rw [ti_le, z0, q1] at q3
    exact ⟨by omega, by rw [ti_sub (by omega) (by omega)]; omega⟩
  refine ⟨?_, fun j hj => ?_, hg, all_n rfl ?_⟩
  · unfold F_X4_trim
    dsimp only [bnd]
    generalize wl (G_X4_trim_7 f) (B_X4_trim_7 f) 901 900 = t at h1 hng ⊢
    by_cases g1 : t ≤ 0
    · rw [if_pos g1]
      rw [ti_le, z0, h1] at g1
      have ek : k = 900 := by omega
      subst ek
      rw [nd_of_digits hN (t := 0) (fun m _ k2 => h3 m (by omega) k2) (Or.inl rfl), h1]; rfl
    · rw [if_neg g1]
      have g2 : ¬ f (t - 1).toNatClampNeg = 0 := fun q => hng ⟨g1, q⟩
      rw [if_neg g2]
      obtain ⟨k1, k2⟩ := hs t k h1 h2 g1
      rw [ti_eq, ti_idx k2, hd _ (by omega), z0] at g2
      rw [nd_of_digits hN (t := 900 - k) (fun m a1 a2 => h3 m a1 a2) (Or.inr (by omega)), h1]; omega
  · obtain ⟨⟨q1, q2, q3⟩, q4, q5⟩ := hb j hj
    unfold SB_X4_trim_7
    refine ite_P (fun _ => trivial) (fun g => ?_)
    obtain ⟨k1, k2⟩ := hs _ j q1 q2 g
    rw [vp_in_iff, k2]; omega
  · refine ite_P (fun _ => trivial) (fun g => ?_)
    obtain ⟨k1, k2⟩ := hs _ k h1 h2 g
    rw [vp_in_iff, k2]; omega
/-! the number from a place on -/
theorem dig_step (N k : Nat) : N / 10 ^ k = 10 * (N / 10 ^ (k + 1)) + N / 10 ^ k % 10 := by
  rw [Nat.pow_succ, ← Nat.div_div_eq_div_mul]; omega
theorem sp_whole {f : Nat → Int32} {N : Nat} (h : DP f N) {ct p : Int32} {c q : Nat} (hc : ct.toInt = c) (hp : p.toInt = q) (hc9 : c ≤ 900) (hNc : nd N ≤ c) (hb : N / 10 ^ q < 1000000000000000000) : (F_X4_whole ct f p).toInt = ((N / 10 ^ q : Nat) : Int) ∧ S_X4_whole ct f p := by
  obtain ⟨hN, hd⟩ := h
  have c1 : (1 : Int32).toInt = 1 := rfl
  have cm1 : (-1 : Int32).toInt = -1 := rfl
  have l10 : (10 : Int64).toInt = ((10 : Nat) : Int) := rfl
  have hG : ∀ t, G_X4_whole_10 f p t = true ↔ ¬ t.2 < p := by
    intro t; unfold G_X4_whole_10; dsimp only [bnd]
    by_cases h : t.2 < p
    · simp [h]
    · simp [h]
  have hn : (ct - 1).toInt = (c : Int) - 1 := by rw [ti_sub (by omega) (by omega)]; omega
  have R := wl_run (G := G_X4_whole_10 f p) (B := B_X4_whole_10 f p) (N := 901) (t := (0, ct - 1)) (fun j t => t.1.toInt = ((N / 10 ^ (c - j) : Nat) : Int) ∧ t.2.toInt = (c : Int) - 1 - j ∧ j ≤ c - q)
    ⟨by rw [Nat.sub_zero, nd_small hNc]; rfl, by rw [hn]; omega, by omega⟩
    (by
      rintro j t _ ⟨h1, h2, h3⟩ hg
      have g := (hG t).mp hg
      have e : B_X4_whole_10 f p t = (10 * t.1 + (f t.2.toNatClampNeg).toInt64, t.2 + -1) := by unfold B_X4_whole_10; dsimp only [bnd]; rw [if_neg g]
      rw [ti_lt, h2, hp] at g
      have hi : t.2.toInt = ((c - (j + 1) : Nat) : Int) := by omega
      have hdd := hd (c - (j + 1)) (by omega)
      have est := dig_step N (c - (j + 1))
      have ecj : c - (j + 1) + 1 = c - j := by omega
      rw [ecj] at est
      have hle : N / 10 ^ (c - (j + 1)) ≤ N / 10 ^ q := Nat.div_le_div_left (p10le (by omega)) (p10 _)
      have m1 : (10 * t.1).toInt = ((10 * (N / 10 ^ (c - j)) : Nat) : Int) := tn_mul l10 h1 (by omega)
      have i1 : ((f t.2.toNatClampNeg).toInt64).toInt = ((N / 10 ^ (c - (j + 1)) % 10 : Nat) : Int) := by rw [ti_long, ti_idx hi]; exact hdd
      rw [e]
      refine ⟨?_, by rw [ti_add (by omega) (by omega), h2, cm1]; omega, by omega⟩
      show (10 * t.1 + (f t.2.toNatClampNeg).toInt64).toInt = _
      rw [tn_add m1 i1 (by omega), ← est])
    (by rintro t ⟨_, _, h2⟩; omega)
  obtain ⟨⟨k, hk, h1, h2, h3⟩, hg, hb'⟩ := R
  have hng := ng_of hg
  rw [hG, ti_lt, h2, hp] at hng
  refine ⟨?_, all_n rfl ⟨fun j hj => ?_, hg⟩⟩
  · unfold F_X4_whole
    dsimp only [bnd]
    rw [h1]
    by_cases y : q ≤ c
    · have : c - k = q := by omega
      rw [this]
    · have : c - k = c := by omega
      rw [this, nd_small hNc, nd_small (by omega)]
  · obtain ⟨⟨q1, q2, q3⟩, q4, q5⟩ := hb' j hj
    unfold SB_X4_whole_10
    refine ite_P (fun _ => trivial) (fun g => ?_)
    rw [ti_lt, q2, hp] at g
    rw [vp_in_iff, q2]; omega
theorem sp_times {x : Int64} {p : Int32} {X q : Nat} (hx : x.toInt = X) (hp : p.toInt = q) (hq : q ≤ 900) (hb : X * 10 ^ q < 1000000000000000000) : (F_X4_times x p).toInt = ((X * 10 ^ q : Nat) : Int) ∧ S_X4_times x p := by
  have c1 : (1 : Int32).toInt = 1 := rfl
  have z0 : (0 : Int32).toInt = 0 := rfl
  have l10 : (10 : Int64).toInt = ((10 : Nat) : Int) := rfl
  have hG : ∀ t, G_X4_times_6 p t = true ↔ ¬ p ≤ t.2 := by
    intro t; unfold G_X4_times_6; dsimp only [bnd]
    by_cases h : p ≤ t.2
    · simp [h]
    · simp [h]
  have R := wl_run (G := G_X4_times_6 p) (B := B_X4_times_6 p) (N := 901) (t := (x, 0)) (fun j t => t.1.toInt = ((X * 10 ^ j : Nat) : Int) ∧ t.2.toInt = (j : Int) ∧ j ≤ q)
    ⟨by rw [Nat.pow_zero, Nat.mul_one]; exact hx, rfl, by omega⟩
    (by
      rintro j t _ ⟨h1, h2, h3⟩ hg
      have g := (hG t).mp hg
      have e : B_X4_times_6 p t = (10 * t.1, t.2 + 1) := by unfold B_X4_times_6; dsimp only [bnd]; rw [if_neg g]
      rw [ti_le, h2, hp] at g
      have e10 : X * 10 ^ (j + 1) = 10 * (X * 10 ^ j) := by rw [p10s, Nat.mul_left_comm]
      have hle : X * 10 ^ (j + 1) ≤ X * 10 ^ q := Nat.mul_le_mul_left _ (p10le (by omega))
      rw [e, e10]
      refine ⟨tn_mul l10 h1 (by omega), by rw [ti_add (by omega) (by omega), h2, c1]; omega, by omega⟩)
    (by rintro t ⟨_, _, h2⟩; omega)
  obtain ⟨⟨k, hk, h1, h2, h3⟩, hg, -⟩ := R
  have hng := ng_of hg
  rw [hG, ti_le, h2, hp] at hng
  have ek : k = q := by omega
  subst ek
  exact ⟨h1, hg⟩
/-! zeros at the end -/
theorem dig_low {N j : Nat} (h : j < tz N) : N / 10 ^ j % 10 = 0 := by
  have h1 := (tz_dvd N).1
  obtain ⟨r, hr⟩ : ∃ r, tz N = j + (r + 1) := ⟨tz N - j - 1, by omega⟩
  rw [hr] at h1
  have e : N / 10 ^ (j + (r + 1)) * 10 ^ (j + (r + 1)) = N / 10 ^ (j + (r + 1)) * 10 ^ r * 10 * 10 ^ j := by
    rw [p10a j, Nat.pow_succ]; ac_rfl
  rw [e] at h1
  rw [← h1, Nat.mul_div_cancel _ (p10 j), Nat.mul_mod_left]
theorem sp_zeros {f : Nat → Int32} {N : Nat} (h : DP f N) (hN0 : N ≠ 0) {z : Int32} (hz : z = wl (G_X4_fit_32 f) (B_X4_fit_32 f) 901 0) :
    z.toInt = tz N ∧ (∀ j : Nat, j < nW (G_X4_fit_32 f) (B_X4_fit_32 f) 901 0 → SB_X4_fit_32 f (itn (B_X4_fit_32 f) j 0)) ∧ G_X4_fit_32 f (wl (G_X4_fit_32 f) (B_X4_fit_32 f) 901 0) = false := by
  obtain ⟨hN, hd⟩ := h
  have c1 : (1 : Int32).toInt = 1 := rfl
  have z0 : (0 : Int32).toInt = 0 := rfl
  have htz := tz_ndvd hN0
  have hG : ∀ t, G_X4_fit_32 f t = true ↔ f t.toNatClampNeg = 0 := by
    intro t; unfold G_X4_fit_32; dsimp only [bnd]
    by_cases h : f t.toNatClampNeg = 0
    · simp [h]
    · simp [h]
  have R := wl_run (G := G_X4_fit_32 f) (B := B_X4_fit_32 f) (N := 901) (t := (0 : Int32)) (fun j t => t.toInt = (j : Int) ∧ j ≤ tz N)
    ⟨rfl, by omega⟩
    (by
      rintro j t _ ⟨h1, h2⟩ hg
      have g := (hG t).mp hg
      have e : B_X4_fit_32 f t = t + 1 := by unfold B_X4_fit_32; dsimp only [bnd]; rw [if_pos g]
      rw [ti_eq, ti_idx h1, hd _ (by omega), z0] at g
      have hj : j ≠ tz N := by
        intro q
        rw [q] at g
        exact (tz_dvd N).2 hN0 (by omega)
      rw [e]
      exact ⟨by rw [ti_add (by omega) (by omega), h1, c1]; omega, by omega⟩)
    (by rintro t ⟨_, h2⟩; omega)
  obtain ⟨⟨k, hk, h1, h2⟩, hg, hb⟩ := R
  have hng := ng_of hg
  rw [hG, ti_eq, ti_idx h1, hd _ (by omega), z0] at hng
  have ek : k = tz N := by
    by_cases q : k < tz N
    · rw [dig_low q] at hng; exact absurd rfl hng
    · omega
  refine ⟨by rw [hz, h1, ek], fun j hj => ?_, hg⟩
  obtain ⟨⟨q1, q2⟩, q4, q5⟩ := hb j hj
  unfold SB_X4_fit_32
  rw [vp_in_iff, q1]; omega
