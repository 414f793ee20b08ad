/-! ===== the reference: products ===== -/
def pv (f : Nat → Int32) : Nat → Nat
  | 0 => 0
  | n + 1 => pv f n + (f n).toInt.toNat * 10 ^ n
theorem pv_s (f : Nat → Int32) (n : Nat) : pv f (n + 1) = pv f n + (f n).toInt.toNat * 10 ^ n := rfl
theorem pv_out {f : Nat → Int32} {j : Nat} {v : Int32} : ∀ n, n ≤ j → pv (va_up f j v) n = pv f n := by
  intro n
  induction n with
  | zero => intro _; rfl
  | succ n ih =>
    intro h
    rw [pv_s, pv_s, ih (by omega), up_n (by omega)]
theorem pv_up {f : Nat → Int32} {j c : Nat} {v : Int32} (hv : v.toInt.toNat = (f j).toInt.toNat + c) : ∀ n, j < n → pv (va_up f j v) n = pv f n + c * 10 ^ j := by
  intro n
  induction n with
  | zero => intro h; omega
  | succ n ih =>
    intro h
    rw [pv_s, pv_s]
    by_cases y : n = j
    · subst y
      rw [pv_out n (Nat.le_refl n), up_s, hv, Nat.add_mul]; omega
    · rw [ih (by omega), up_n y]; omega
theorem pv_high (f : Nat → Int32) (n : Nat) : ∀ k, ∃ r, pv f (n + k) = pv f n + 10 ^ n * r := by
  intro k
  induction k with
  | zero => exact ⟨0, rfl⟩
  | succ k ih =>
    obtain ⟨r, hr⟩ := ih
    refine ⟨r + (f (n + k)).toInt.toNat * 10 ^ k, ?_⟩
    rw [← Nat.add_assoc, pv_s, hr, Nat.mul_add, p10a]
    have e : (f (n + k)).toInt.toNat * (10 ^ n * 10 ^ k) = 10 ^ n * ((f (n + k)).toInt.toNat * 10 ^ k) := Nat.mul_left_comm _ _ _
    rw [e, Nat.add_assoc]
theorem pv_zero {f : Nat → Int32} : ∀ n, (∀ m, m < n → f m = 0) → pv f n = 0 := by
  intro n
  induction n with
  | zero => intro _; rfl
  | succ n ih =>
    intro h
    rw [pv_s, ih (fun m hm => h m (by omega)), h n (by omega)]
    have : (0 : Int32).toInt = 0 := rfl
    rw [this]; simp
theorem tin_mul {a b : Int32} {m n : Nat} (ha : a.toInt = m) (hb : b.toInt = n) (h : m * n < 2147483648) : (a * b).toInt = ((m * n : Nat) : Int) := by
  have e : a.toInt * b.toInt = ((m * n : Nat) : Int) := by rw [ha, hb]; exact (Int.natCast_mul m n).symm
  rw [ti_mul (by omega) (by omega), e]
/-- one digit's row is added -/
theorem sp_mulIn {w : Nat} (hw : w = 40) {g : Nat → Int32} {B : Nat} (hg0 : DP g B) (hB : B < 10000000000000000) {t0 : Int64 × Int32 × (Nat → Int32)} {i d : Nat} {dv : Int32} (hi : t0.2.1.toInt = (i : Int)) (hi9 : i < 20) (hd : dv.toInt = (d : Int)) (hd9 : d ≤ 9) (hc : ∀ m, m < 900 → 0 ≤ (t0.2.2 m).toInt ∧ (t0.2.2 m).toInt ≤ 81 * i) (hz40 : ∀ m, 40 ≤ m → m < 900 → t0.2.2 m = 0)
    {z : Int32 × (Nat → Int32)} (hz : z = wl (G_X4_multiply_179 g t0 dv) (B_X4_multiply_179 g t0 dv) 901 (0, t0.2.2)) :
    ((∀ m, m < 900 → 0 ≤ (z.2 m).toInt ∧ (z.2 m).toInt ≤ 81 * (i + 1)) ∧ (∀ m, 40 ≤ m → m < 900 → z.2 m = 0) ∧ pv z.2 w = pv t0.2.2 w + d * 10 ^ i * B) ∧
    (∀ j : Nat, j < nW (G_X4_multiply_179 g t0 dv) (B_X4_multiply_179 g t0 dv) 901 (0, t0.2.2) → SB_X4_multiply_179 g t0 dv (itn (B_X4_multiply_179 g t0 dv) j (0, t0.2.2))) ∧ G_X4_multiply_179 g t0 dv (wl (G_X4_multiply_179 g t0 dv) (B_X4_multiply_179 g t0 dv) 901 (0, t0.2.2)) = false := by
  have c16 : (16 : Int32).toInt = 16 := rfl
  have c1 : (1 : Int32).toInt = 1 := rfl
  have hG : ∀ t, G_X4_multiply_179 g t0 dv t = true ↔ ¬ (16 : Int32) ≤ t.1 := by
    intro t; unfold G_X4_multiply_179; dsimp only [bnd]
    by_cases h : (16 : Int32) ≤ t.1
    · simp [h]
    · simp [h]
  have R := wl_run (G := G_X4_multiply_179 g t0 dv) (B := B_X4_multiply_179 g t0 dv) (N := 901) (t := (0, t0.2.2)) (fun j t => t.1.toInt = j ∧ j ≤ 16 ∧ (∀ m, m < 900 → 0 ≤ (t.2 m).toInt ∧ (t.2 m).toInt ≤ 81 * (i + 1) ∧ (i + j ≤ m → (t.2 m).toInt ≤ 81 * i)) ∧ (∀ m, 40 ≤ m → m < 900 → t.2 m = 0) ∧ pv t.2 w = pv t0.2.2 w + d * 10 ^ i * (B % 10 ^ j))
    ⟨rfl, by omega, fun m hm => by
      have := hc m hm
      show 0 ≤ (t0.2.2 m).toInt ∧ (t0.2.2 m).toInt ≤ _ ∧ (_ → (t0.2.2 m).toInt ≤ _)
      exact ⟨this.1, by omega, fun _ => this.2⟩, hz40, by rw [Nat.pow_zero, Nat.mod_one, Nat.mul_zero]; rfl⟩
    (by
      rintro j t _ ⟨h1, h2, h3, h4, h5⟩ hg
      have gg := (hG t).mp hg
      have e : B_X4_multiply_179 g t0 dv t = (t.1 + 1, va_up t.2 (t0.2.1 + t.1).toNatClampNeg (t.2 (t0.2.1 + t.1).toNatClampNeg + dv * g t.1.toNatClampNeg)) := by unfold B_X4_multiply_179; dsimp only [bnd]; rw [if_neg gg]
      rw [ti_le, c16, h1] at gg
      have hs : (t0.2.1 + t.1).toInt = ((i + j : Nat) : Int) := by rw [ti_add (by omega) (by omega)]; omega
      have k2 := hg0.2 j (by omega)
      have d2 : B / 10 ^ j % 10 < 10 := Nat.mod_lt _ (by decide)
      have hprod : d * (B / 10 ^ j % 10) ≤ 81 := (Nat.mul_le_mul hd9 (Nat.le_of_lt_succ d2) : d * (B / 10 ^ j % 10) ≤ 9 * 9)
      have m1 := tin_mul hd k2 (by omega)
      obtain ⟨b1, b2, b3⟩ := h3 (i + j) (by omega)
      have b3' := b3 (Nat.le_refl _)
      have v1 : (t.2 (i + j) + dv * g j).toInt = (t.2 (i + j)).toInt + ((d * (B / 10 ^ j % 10) : Nat) : Int) := by rw [ti_add (by rw [m1]; omega) (by rw [m1]; omega), m1]
      have hvn : (t.2 (i + j) + dv * g j).toInt.toNat = (t.2 (i + j)).toInt.toNat + d * (B / 10 ^ j % 10) := by rw [v1]; omega
      rw [e, ti_idx h1, ti_idx hs]
      refine ⟨by rw [ti_add (by omega) (by omega), h1, c1]; omega, by omega, fun m hm => ?_, fun m h40 hm => ?_, ?_⟩
      · by_cases y : m = i + j
        · subst y
          show 0 ≤ Int32.toInt (va_up _ _ _ _) ∧ Int32.toInt (va_up _ _ _ _) ≤ _ ∧ (_ → Int32.toInt (va_up _ _ _ _) ≤ _)
          rw [up_s, v1]
          exact ⟨by omega, by omega, fun h => by omega⟩
        · show 0 ≤ Int32.toInt (va_up _ _ _ _) ∧ Int32.toInt (va_up _ _ _ _) ≤ _ ∧ (_ → Int32.toInt (va_up _ _ _ _) ≤ _)
          rw [up_n y]
          obtain ⟨w1, w2, w3⟩ := h3 m hm
          exact ⟨w1, w2, fun h => w3 (by omega)⟩
      · show va_up _ _ _ _ = _
        rw [up_n (by omega)]; exact h4 m h40 hm
      · show pv (va_up _ _ _) w = _
        rw [pv_up hvn w (by omega), h5, mod_step, Nat.mul_add, Nat.add_assoc]
        congr 2
        rw [p10a]; ac_rfl)
    (by rintro t ⟨_, h2, _⟩; omega)
  obtain ⟨⟨k, hk, h1, h2, h3, h4, h5⟩, hg, hb⟩ := R
  have hng := ng_of hg
  rw [hG, ti_le, c16, h1] at hng
  have ek : k = 16 := by omega
  subst ek
  rw [p16, Nat.mod_eq_of_lt hB] at h5
  refine ⟨by rw [hz]; exact ⟨fun m hm => ⟨(h3 m hm).1, (h3 m hm).2.1⟩, h4, h5⟩, fun j hj => ?_, hg⟩
  obtain ⟨⟨q1, q2, q3⟩, q5, q6⟩ := hb j hj
  unfold SB_X4_multiply_179
  refine ite_P (fun _ => trivial) (fun gg => ?_)
  rw [ti_le, c16, q1] at gg
  refine ⟨?_, ?_⟩
  · rw [vp_in_iff, ti_add (by omega) (by omega), hi, q1]; omega
  · rw [vp_in_iff, q1]; omega
def mulP (w A B : Nat) (j : Nat) (t : Int64 × Int32 × (Nat → Int32)) : Prop := t.1.toInt = ((A / 10 ^ j : Nat) : Int) ∧ t.2.1.toInt = (j : Int) ∧ j ≤ nd A ∧ (∀ m, m < 900 → 0 ≤ (t.2.2 m).toInt ∧ (t.2.2 m).toInt ≤ 81 * (j : Int)) ∧ (∀ m, 40 ≤ m → m < 900 → t.2.2 m = 0) ∧ pv t.2.2 w = A % 10 ^ j * B
theorem sp_mulStep {w : Nat} (hw : w = 40) {g : Nat → Int32} {A B : Nat} (hg0 : DP g B) (hB : B < 10000000000000000) (hA : A < 10000000000000000) {j : Nat} {t : Int64 × Int32 × (Nat → Int32)} (hP : mulP w A B j t) (gg : ¬ t.1 ≤ 0) {dv : Int32} (edv : dv = (jremL t.1 10).toInt32) {y : Int32 × (Nat → Int32)} (hy : y = wl (G_X4_multiply_179 g t dv) (B_X4_multiply_179 g t dv) 901 (0, t.2.2)) :
    j < nd A ∧ ((∀ m, m < 900 → 0 ≤ (y.2 m).toInt ∧ (y.2 m).toInt ≤ 81 * ((j : Int) + 1)) ∧ (∀ m, 40 ≤ m → m < 900 → y.2 m = 0) ∧ pv y.2 w = pv t.2.2 w + A / 10 ^ j % 10 * 10 ^ j * B) ∧
    (∀ i : Nat, i < nW (G_X4_multiply_179 g t dv) (B_X4_multiply_179 g t dv) 901 (0, t.2.2) → SB_X4_multiply_179 g t dv (itn (B_X4_multiply_179 g t dv) i (0, t.2.2))) ∧ G_X4_multiply_179 g t dv (wl (G_X4_multiply_179 g t dv) (B_X4_multiply_179 g t dv) 901 (0, t.2.2)) = false := by
  have l0 : (0 : Int64).toInt = 0 := rfl
  have l10 : (10 : Int64).toInt = ((10 : Nat) : Int) := rfl
  have hnA : nd A ≤ 16 := by rw [nd_le, p16]; exact hA
  obtain ⟨h1, h2, h3, h4, h5, h6⟩ := hP
  rw [tl_le, l0, h1] at gg
  have hj : j < nd A := by
    apply Nat.lt_of_not_le
    intro h
    rw [nd_small h] at gg; omega
  have r1 := tn_rem h1 l10 (by decide)
  have d10 : A / 10 ^ j % 10 < 10 := Nat.mod_lt _ (by decide)
  have hd : dv.toInt = ((A / 10 ^ j % 10 : Nat) : Int) := by rw [edv, tl_int (by omega) (by omega), r1]
  exact ⟨hj, sp_mulIn hw hg0 hB h2 (by omega) hd (by omega) h4 h5 hy⟩
theorem mulP_next {w : Nat} {A B : Nat} {j : Nat} {t : Int64 × Int32 × (Nat → Int32)} (hP : mulP w A B j t) (hj : j < nd A) (hA : nd A ≤ 16) {y : Nat → Int32} (y1 : ∀ m, m < 900 → 0 ≤ (y m).toInt ∧ (y m).toInt ≤ 81 * ((j : Int) + 1)) (y2 : ∀ m, 40 ≤ m → m < 900 → y m = 0) (y3 : pv y w = pv t.2.2 w + A / 10 ^ j % 10 * 10 ^ j * B) : mulP w A B (j + 1) (t.1 / 10, t.2.1 + 1, y) := by
  have c1 : (1 : Int32).toInt = 1 := rfl
  have l10 : (10 : Int64).toInt = ((10 : Nat) : Int) := rfl
  obtain ⟨h1, h2, h3, h4, h5, h6⟩ := hP
  have e10 : A / 10 ^ (j + 1) = A / 10 ^ j / 10 := by rw [Nat.pow_succ, Nat.div_div_eq_div_mul]
  have e6 : pv y w = A % 10 ^ (j + 1) * B := by
    rw [y3, h6, mod_step, Nat.add_mul]
    congr 1; ac_rfl
  have e1 := tn_div h1 l10 (by decide)
  rw [← e10] at e1
  refine ⟨e1, ?_, hj, fun m hm => ?_, y2, e6⟩
  · show (t.2.1 + 1).toInt = _
    rw [ti_add (by omega) (by omega), h2, c1]; omega
  · have := y1 m hm
    exact ⟨this.1, by have := this.2; show (y m).toInt ≤ _; omega⟩
theorem sp_mulOut {w : Nat} (hw : w = 40) {g f : Nat → Int32} {A B : Nat} (hg0 : DP g B) (hB : B < 10000000000000000) {x : Int64} (hx : x.toInt = (A : Int)) (hA : A < 10000000000000000) (hf : ∀ m, m < 900 → f m = 0)
    {z : Int64 × Int32 × (Nat → Int32)} (hz : z = wl (G_X4_multiply_152 g) (B_X4_multiply_152 g) 901 (x, 0, f)) :
    ((∀ m, m < 900 → 0 ≤ (z.2.2 m).toInt ∧ (z.2.2 m).toInt ≤ 1296) ∧ (∀ m, 40 ≤ m → m < 900 → z.2.2 m = 0) ∧ pv z.2.2 w = A * B) ∧
    (∀ j : Nat, j < nW (G_X4_multiply_152 g) (B_X4_multiply_152 g) 901 (x, 0, f) → SB_X4_multiply_152 g (itn (B_X4_multiply_152 g) j (x, 0, f))) ∧ G_X4_multiply_152 g (wl (G_X4_multiply_152 g) (B_X4_multiply_152 g) 901 (x, 0, f)) = false := by
  have c1 : (1 : Int32).toInt = 1 := rfl
  have z0 : (0 : Int32).toInt = 0 := rfl
  have l0 : (0 : Int64).toInt = 0 := rfl
  have l10 : (10 : Int64).toInt = ((10 : Nat) : Int) := rfl
  have hnA : nd A ≤ 16 := by rw [nd_le, p16]; exact hA
  have hG : ∀ t, G_X4_multiply_152 g t = true ↔ ¬ t.1 ≤ 0 := by
    intro t; unfold G_X4_multiply_152; dsimp only [bnd]
    by_cases h : t.1 ≤ 0
    · simp [h]
    · simp [h]
  have R := wl_run (G := G_X4_multiply_152 g) (B := B_X4_multiply_152 g) (N := 901) (t := (x, 0, f)) (mulP w A B)
    ⟨by rw [Nat.pow_zero, Nat.div_one]; exact hx, rfl, by omega, fun m hm => by show 0 ≤ (f m).toInt ∧ (f m).toInt ≤ _; rw [hf m hm, z0]; omega, fun m _ hm => hf m hm, by rw [Nat.pow_zero, Nat.mod_one, Nat.zero_mul]; exact pv_zero w (fun m hm => hf m (by omega))⟩
    (by
      intro j t _ hP hg
      have gg := (hG t).mp hg
      obtain ⟨hj, ⟨y1, y2, y3⟩, -⟩ := sp_mulStep hw hg0 hB hA hP gg rfl rfl
      have e : B_X4_multiply_152 g t = (t.1 / 10, t.2.1 + 1, (wl (G_X4_multiply_179 g t ((jremL t.1 10).toInt32)) (B_X4_multiply_179 g t ((jremL t.1 10).toInt32)) 901 (0, t.2.2)).2) := by unfold B_X4_multiply_152; dsimp only [bnd]; rw [if_neg gg]
      rw [e]
      exact mulP_next hP hj hnA y1 y2 y3)
    (by
      intro t hP
      have h2 := hP.2.2.1
      clear hP
      omega)
  obtain ⟨⟨k, hk, hP⟩, hg, hb⟩ := R
  have hng := ng_of hg
  rw [hG] at hng
  have hle : (wl (G_X4_multiply_152 g) (B_X4_multiply_152 g) 901 (x, 0, f)).1 ≤ 0 := Classical.byContradiction hng
  obtain ⟨h1, h2, h3, h4, h5, h6⟩ := hP
  rw [tl_le, h1, l0] at hle
  have hA0 : A / 10 ^ k = 0 := nat_le0 hle
  have hAk : A % 10 ^ k = A := by
    have := Nat.div_add_mod A (10 ^ k)
    rw [hA0, Nat.mul_zero, Nat.zero_add] at this
    exact this
  rw [hAk] at h6
  refine ⟨by rw [hz]; exact ⟨fun m hm => ⟨(h4 m hm).1, by have := (h4 m hm).2; omega⟩, h5, h6⟩, fun j hj => ?_, hg⟩
  obtain ⟨q1, q5, q6⟩ := hb j hj
  unfold SB_X4_multiply_152
  refine ite_P (fun _ => trivial) (fun gg => ?_)
  intro dv edv _ _
  exact (sp_mulStep hw hg0 hB hA q1 gg edv rfl).2.2
theorem sp_mulCarry {w : Nat} (hw : w = 40) {f : Nat → Int32} {V : Nat} (hc : ∀ m, m < 900 → 0 ≤ (f m).toInt ∧ (f m).toInt ≤ 1296) (hz40 : ∀ m, 40 ≤ m → m < 900 → f m = 0) (hV : pv f w = V) (hV2 : V < 10000000000000000 * 10000000000000000)
    {z : Int32 × Int32 × (Nat → Int32)} (hz : z = wl (G_X4_multiply_227) (B_X4_multiply_227) 901 (0, 0, f)) :
    DP z.2.2 V ∧ (∀ j : Nat, j < nW (G_X4_multiply_227) (B_X4_multiply_227) 901 (0, 0, f) → SB_X4_multiply_227 (itn (B_X4_multiply_227) j (0, 0, f))) ∧ G_X4_multiply_227 (wl (G_X4_multiply_227) (B_X4_multiply_227) 901 (0, 0, f)) = false := by
  have c40 : (40 : Int32).toInt = 40 := rfl
  have c1 : (1 : Int32).toInt = 1 := rfl
  have z0 : (0 : Int32).toInt = 0 := rfl
  have c10 : (10 : Int32).toInt = ((10 : Nat) : Int) := rfl
  have hG : ∀ t, G_X4_multiply_227 t = true ↔ ¬ (40 : Int32) ≤ t.2.1 := by
    intro t; unfold G_X4_multiply_227; dsimp only [bnd]
    by_cases h : (40 : Int32) ≤ t.2.1
    · simp [h]
    · simp [h]
  have hcar : ∀ j, pv f (j + 1) / 10 ^ j = pv f j / 10 ^ j + (f j).toInt.toNat := by
    intro j
    rw [pv_s]; exact Nat.add_mul_div_right _ _ (p10 j)
  have hcb : ∀ j, j ≤ 40 → pv f j / 10 ^ j ≤ 1296 := by
    intro j
    induction j with
    | zero => intro _; rw [Nat.pow_zero, Nat.div_one]; exact Nat.zero_le _
    | succ j ih =>
      intro h
      have h1 := ih (by omega)
      rw [Nat.pow_succ, ← Nat.div_div_eq_div_mul, hcar j]
      have := hc j (by omega)
      generalize pv f j / 10 ^ j = a at h1 ⊢
      omega
  have hdig : ∀ j, j < 40 → pv f (j + 1) / 10 ^ j % 10 = V / 10 ^ j % 10 := by
    intro j hj
    obtain ⟨r, hr⟩ := pv_high f (j + 1) (w - (j + 1))
    rw [Nat.add_sub_cancel' (by omega), hV] at hr
    have e : 10 ^ (j + 1) * r = 10 * r * 10 ^ j := by rw [p10s]; ac_rfl
    rw [hr, e, Nat.add_mul_div_right _ _ (p10 j)]
    generalize pv f (j + 1) / 10 ^ j = a
    omega
  have R := wl_run (G := G_X4_multiply_227) (B := B_X4_multiply_227) (N := 901) (t := (0, 0, f)) (fun j t => t.2.1.toInt = j ∧ j ≤ 40 ∧ t.1.toInt = ((pv f j / 10 ^ j : Nat) : Int) ∧ ∀ m, m < 900 → (t.2.2 m).toInt = if m < j then ((V / 10 ^ m % 10 : Nat) : Int) else (f m).toInt)
    ⟨rfl, by omega, by rw [Nat.pow_zero, Nat.div_one]; rfl, fun m hm => by rw [if_neg (by omega)]⟩
    (by
      rintro j t _ ⟨h1, h2, h3, h4⟩ hg
      have gg := (hG t).mp hg
      have e : B_X4_multiply_227 t = ((t.2.2 t.2.1.toNatClampNeg + t.1) / 10, t.2.1 + 1, va_up t.2.2 t.2.1.toNatClampNeg (jrem (t.2.2 t.2.1.toNatClampNeg + t.1) 10)) := by unfold B_X4_multiply_227; dsimp only [bnd]; rw [if_neg gg]
      rw [ti_le, c40, h1] at gg
      have k1 := h4 j (by omega)
      rw [if_neg (by omega)] at k1
      have hb1 := hc j (by omega)
      have hb2 := hcb j h2
      have hn1 : (t.2.2 j).toInt = (((f j).toInt.toNat : Nat) : Int) := by rw [k1]; omega
      have hcj := hcar j
      have hdj := hdig j (by omega)
      have hnext : pv f (j + 1) / 10 ^ (j + 1) = (pv f (j + 1) / 10 ^ j) / 10 := by rw [Nat.pow_succ, Nat.div_div_eq_div_mul]
      have s1 : (t.2.2 j + t.1).toInt = ((pv f (j + 1) / 10 ^ j : Nat) : Int) := by
        rw [hcj, Nat.add_comm]
        refine tin_add hn1 h3 ?_
        generalize pv f j / 10 ^ j = a at hb2 ⊢
        omega
      rw [e, ti_idx h1]
      refine ⟨by rw [ti_add (by omega) (by omega), h1, c1]; omega, by omega, ?_, fun m hm => ?_⟩
      · rw [hnext]; exact tin_div s1 c10 (by decide)
      · by_cases y : m = j
        · subst y
          show Int32.toInt (va_up _ _ _ _) = _
          rw [up_s, if_pos (by omega), ← hdj]
          exact tin_rem s1 c10 (by decide)
        · show Int32.toInt (va_up _ _ _ _) = _
          rw [up_n y, h4 m hm]
          by_cases y2 : m < j
          · rw [if_pos y2, if_pos (by omega)]
          · rw [if_neg y2, if_neg (by omega)])
    (by rintro t ⟨_, h2, _⟩; omega)
  obtain ⟨⟨k, hk, h1, h2, h3, h4⟩, hg, hb⟩ := R
  have hng := ng_of hg
  rw [hG, ti_le, c40, h1] at hng
  have ek : k = 40 := by omega
  subst ek
  have hnV : nd V ≤ 32 := by rw [nd_le, p32]; exact hV2
  rw [hz]
  refine ⟨⟨by omega, fun m hm => ?_⟩, fun j hj => ?_, hg⟩
  · rw [h4 m hm]
    by_cases y : m < 40
    · rw [if_pos y]
    · rw [if_neg y, hz40 m (by omega) hm, nd_small (by omega)]; rfl
  · obtain ⟨⟨q1, q2, q3⟩, q5, q6⟩ := hb j hj
    unfold SB_X4_multiply_227
    refine ite_P (fun _ => trivial) (fun gg => ?_)
    rw [ti_le, c40, q1] at gg
    rw [vp_in_iff, q1]; omega
