/-! ===== how many digits, how many zeros at the end ===== -/
def nd (n : Nat) : Nat := if h : n = 0 then 0 else nd (n / 10) + 1
termination_by n
decreasing_by omega
theorem nd_0 : nd 0 = 0 := by rw [nd]; rfl
theorem nd_s {n : Nat} (h : n ≠ 0) : nd n = nd (n / 10) + 1 := by rw [nd]; rw [dif_neg h]
theorem p10 (k : Nat) : 0 < 10 ^ k := Nat.pow_pos (by decide)
theorem p10s (k : Nat) : 10 ^ (k + 1) = 10 * 10 ^ k := by rw [Nat.pow_succ, Nat.mul_comm]
theorem p10a (a b : Nat) : 10 ^ (a + b) = 10 ^ a * 10 ^ b := Nat.pow_add 10 a b
theorem p10le {a b : Nat} (h : a ≤ b) : 10 ^ a ≤ 10 ^ b := Nat.pow_le_pow_right (by decide) h
theorem p10lt {a b : Nat} (h : a < b) : 10 ^ a < 10 ^ b := Nat.pow_lt_pow_right (by decide) h
theorem nd_le (d : Nat) : ∀ n : Nat, nd n ≤ d ↔ n < 10 ^ d := by
  induction d with
  | zero =>
    intro n
    by_cases h : n = 0
    · subst h; rw [nd_0]; decide
    · rw [nd_s h]; constructor
      · intro h2; omega
      · intro h2; rw [Nat.pow_zero] at h2; omega
  | succ d ih =>
    intro n
    by_cases h : n = 0
    · subst h; rw [nd_0]; exact ⟨fun _ => p10 _, fun _ => Nat.zero_le _⟩
    · have h2 := ih (n / 10)
      rw [nd_s h, Nat.pow_succ, Nat.succ_le_succ_iff, h2]
      exact Nat.div_lt_iff_lt_mul (by decide)
theorem nd_lt (n : Nat) : n < 10 ^ nd n := (nd_le _ n).mp (Nat.le_refl _)
theorem nd_gt {n d : Nat} : d < nd n ↔ 10 ^ d ≤ n := by
  have h := nd_le d n
  constructor
  · intro h2; apply Nat.le_of_not_lt; intro h3; have := h.mpr h3; omega
  · intro h2; apply Nat.lt_of_not_le; intro h3; have := h.mp h3; omega
theorem nd_pos {n : Nat} (h : n ≠ 0) : 0 < nd n := by rw [nd_s h]; exact Nat.succ_pos _
theorem nd_eq0 {n : Nat} : nd n = 0 ↔ n = 0 := by
  constructor
  · intro h; by_cases h2 : n = 0
    · exact h2
    · have := nd_pos h2; omega
  · intro h; rw [h, nd_0]
theorem nd_ge {n : Nat} (h : n ≠ 0) : 10 ^ (nd n - 1) ≤ n := by
  have h2 := nd_pos h
  exact nd_gt.mp (by omega)
theorem nd_eq {n d : Nat} (h1 : n < 10 ^ d) (h2 : d = 0 ∨ 10 ^ (d - 1) ≤ n) : nd n = d := by
  have h3 := (nd_le d n).mpr h1
  rcases h2 with h2 | h2
  · omega
  · have := nd_gt.mpr h2; omega
theorem nd_div (n k : Nat) : nd (n / 10 ^ k) = nd n - k := by
  have h : ∀ d, nd (n / 10 ^ k) ≤ d ↔ nd n - k ≤ d := by
    intro d
    rw [nd_le, Nat.div_lt_iff_lt_mul (p10 k), ← Nat.pow_add, ← nd_le]
    omega
  exact Nat.le_antisymm ((h _).mpr (Nat.le_refl _)) ((h _).mp (Nat.le_refl _))
theorem nd_mul {n : Nat} (k : Nat) (h : n ≠ 0) : nd (n * 10 ^ k) = nd n + k := by
  have h2 := nd_div (n * 10 ^ k) k
  rw [Nat.mul_div_cancel _ (p10 k)] at h2
  have h3 : k < nd (n * 10 ^ k) := nd_gt.mpr (Nat.le_mul_of_pos_left _ (Nat.pos_of_ne_zero h))
  omega
theorem nd_mono {a b : Nat} (h : a ≤ b) : nd a ≤ nd b := by
  rw [nd_le]; exact Nat.lt_of_le_of_lt h (nd_lt b)
def tz (n : Nat) : Nat := if h : n = 0 then 0 else if n % 10 = 0 then tz (n / 10) + 1 else 0
termination_by n
decreasing_by omega
theorem tz_0 : tz 0 = 0 := by rw [tz]; rfl
theorem tz_n {n : Nat} (h : n % 10 ≠ 0) : tz n = 0 := by
  by_cases h0 : n = 0
  · rw [tz, dif_pos h0]
  · rw [tz, dif_neg h0, if_neg h]
theorem tz_s {n : Nat} (h : n ≠ 0) (h2 : n % 10 = 0) : tz n = tz (n / 10) + 1 := by rw [tz]; rw [dif_neg h, if_pos h2]
theorem tz_mul {n : Nat} (h : n ≠ 0) : ∀ k : Nat, tz (n * 10 ^ k) = tz n + k := by
  intro k
  induction k with
  | zero => rw [Nat.pow_zero, Nat.mul_one, Nat.add_zero]
  | succ k ih =>
    have e : n * 10 ^ (k + 1) = (n * 10 ^ k) * 10 := by rw [Nat.pow_succ, Nat.mul_assoc]
    have h0 : n * 10 ^ k ≠ 0 := Nat.mul_ne_zero h (Nat.ne_of_gt (p10 k))
    rw [e, tz_s (by omega) (by omega), Nat.mul_div_cancel _ (by decide), ih, Nat.add_assoc]
theorem tz_eq {n : Nat} (h : n % 10 ≠ 0) (k : Nat) : tz (n * 10 ^ k) = k := by
  rw [tz_mul (by omega) k, tz_n h, Nat.zero_add]
theorem tz_dvd (n : Nat) : n / 10 ^ tz n * 10 ^ tz n = n ∧ (n ≠ 0 → n / 10 ^ tz n % 10 ≠ 0) := by
  induction n using Nat.strongRecOn with
  | _ n ih =>
    by_cases h : n = 0
    · subst h; rw [tz_0]; exact ⟨rfl, fun h => absurd rfl h⟩
    · by_cases h2 : n % 10 = 0
      · have h3 := ih (n / 10) (by omega)
        rw [tz_s h h2, p10s, ← Nat.div_div_eq_div_mul]
        refine ⟨?_, fun _ => h3.2 (by omega)⟩
        have h4 := h3.1
        rw [Nat.mul_left_comm, h4]; omega
      · rw [tz_n h2, Nat.pow_zero, Nat.div_one, Nat.mul_one]; exact ⟨rfl, fun _ => h2⟩
theorem tz_lt {n k : Nat} (h : n % 10 ^ k ≠ 0) : tz n < k := by
  apply Nat.lt_of_not_le
  intro h2
  apply h
  have h3 := (tz_dvd n).1
  have h4 : 10 ^ tz n = 10 ^ (tz n - k) * 10 ^ k := by rw [← Nat.pow_add]; congr 1; omega
  rw [← h3, h4, ← Nat.mul_assoc]
  exact Nat.mul_mod_left _ _
theorem tz_ndvd {n : Nat} (h : n ≠ 0) : tz n < nd n := by
  have h3 := (tz_dvd n).1
  apply nd_gt.mpr
  have h4 : n / 10 ^ tz n ≠ 0 := by intro h5; rw [h5, Nat.zero_mul] at h3; omega
  have h5 := Nat.le_mul_of_pos_left (10 ^ tz n) (Nat.pos_of_ne_zero h4)
  omega
/-! ===== rounding ===== -/
/-- how what is cut off stands to half a unit: none, below, half, above -/
def rcl (r U : Nat) (s : Bool) : Nat := if r = 0 ∧ s = false then 0 else if 2 * r < U then 1 else if 2 * r = U ∧ s = false then 2 else 3
def rup (mode : Int) (neg : Bool) (k rc : Nat) : Bool :=
  if mode = 0 then decide (rc = 3 ∨ rc = 2 ∧ k % 2 = 1) else if mode = 1 then decide (2 ≤ rc) else if mode = 3 then decide (rc ≠ 0) && !neg else if mode = 4 then decide (rc ≠ 0) && neg else false
def rnd (mode : Int) (neg : Bool) (N d : Nat) (s : Bool) : Nat := N / 10 ^ d + (if rup mode neg (N / 10 ^ d) (rcl (N % 10 ^ d) (10 ^ d) s) = true then 1 else 0)
theorem mod_mul_p {M K U : Nat} (hK : 0 < K) : (M * K) % (U * K) = (M % U) * K := Nat.mul_mod_mul_right K M U
theorem rcl_scale {r U K : Nat} (hK : 0 < K) (s : Bool) (h : s = true → K = 1) : rcl (r * K) (U * K) s = rcl r U s := by
  cases s with
  | true => rw [h rfl, Nat.mul_one, Nat.mul_one]
  | false =>
    unfold rcl
    have e1 : r * K = 0 ↔ r = 0 := by
      constructor
      · intro h; rcases Nat.mul_eq_zero.mp h with h | h
        · exact h
        · omega
      · intro h; rw [h, Nat.zero_mul]
    have e2 : 2 * (r * K) < U * K ↔ 2 * r < U := by rw [← Nat.mul_assoc]; exact Nat.mul_lt_mul_right hK
    have e3 : 2 * (r * K) = U * K ↔ 2 * r = U := by rw [← Nat.mul_assoc]; exact ⟨fun h => Nat.mul_right_cancel hK h, fun h => by rw [h]⟩
    simp only [e1, e2, e3]
theorem rnd_scale (mode : Int) (neg : Bool) (M d z : Nat) : rnd mode neg (M * 10 ^ z) (d + z) false = rnd mode neg M d false := by
  unfold rnd
  have e1 : M * 10 ^ z / 10 ^ (d + z) = M / 10 ^ d := by rw [p10a]; exact Nat.mul_div_mul_right M _ (p10 z)
  have e2 : M * 10 ^ z % 10 ^ (d + z) = M % 10 ^ d * 10 ^ z := by rw [p10a]; exact mod_mul_p (p10 z)
  have e3 : 10 ^ (d + z) = 10 ^ d * 10 ^ z := p10a d z
  rw [e1, e2, e3, rcl_scale (p10 z) false (fun h => by cases h)]
theorem rcl_sticky {q U K R : Nat} {s : Bool} (hR : R < K) (hU : U % 2 = 0) (hs : s = true ∨ R ≠ 0) : rcl (q * K + R) (U * K) s = rcl q U true := by
  have hK : 0 < K := by omega
  unfold rcl
  have f1 : ¬ (q = 0 ∧ true = false) := by simp
  have f2 : ¬ (2 * q = U ∧ true = false) := by simp
  have f3 : ¬ (q * K + R = 0 ∧ s = false) := by
    rintro ⟨h1, h2⟩
    rcases hs with h3 | h3
    · rw [h3] at h2; cases h2
    · omega
  rw [if_neg f1, if_neg f2, if_neg f3]
  by_cases h : 2 * q < U
  · have h2 : (2 * q + 2) * K ≤ U * K := Nat.mul_le_mul_right K (by omega)
    rw [Nat.add_mul, Nat.mul_assoc] at h2
    rw [if_pos h, if_pos (by omega)]
  · have h2 : U * K ≤ 2 * q * K := Nat.mul_le_mul_right K (by omega)
    rw [Nat.mul_assoc] at h2
    have f4 : ¬ (2 * (q * K + R) = U * K ∧ s = false) := by
      rintro ⟨h3, h4⟩
      rcases hs with h5 | h5
      · rw [h5] at h4; cases h4
      · omega
    rw [if_neg h, if_neg (by omega), if_neg f4]
theorem p10even {d : Nat} (h : 0 < d) : 10 ^ d % 2 = 0 := by
  obtain ⟨e, rfl⟩ : ∃ e, d = e + 1 := ⟨d - 1, by omega⟩
  rw [p10s]; omega
theorem rnd_sticky (mode : Int) (neg : Bool) (N d k : Nat) (s : Bool) (hd : 0 < d) (hs : s = true ∨ N % 10 ^ k ≠ 0) : rnd mode neg N (d + k) s = rnd mode neg (N / 10 ^ k) d true := by
  unfold rnd
  have e3 : 10 ^ (d + k) = 10 ^ d * 10 ^ k := p10a d k
  have e1 : N / 10 ^ (d + k) = N / 10 ^ k / 10 ^ d := by rw [e3, Nat.mul_comm, Nat.div_div_eq_div_mul]
  have e2 : N % 10 ^ (d + k) = N / 10 ^ k % 10 ^ d * 10 ^ k + N % 10 ^ k := by
    rw [e3, Nat.mul_comm (10 ^ d), Nat.mod_mul, Nat.mul_comm (10 ^ k), Nat.add_comm]
  rw [e1, e2, e3, rcl_sticky (Nat.mod_lt _ (p10 k)) (p10even hd) hs]
/-! ===== to fit ===== -/
def greatS (mode : Int) (neg : Bool) (r : Int32) : Int × Bool × Nat × Int × Int32 :=
  if mode = 2 ∨ mode = 3 ∧ neg = true ∨ mode = 4 ∧ neg = false then (0, neg, 9999999999999999, 369, r ||| 4) else (1, neg, 0, 0, r ||| 4)
def roundS (mode : Int) (neg : Bool) (M : Nat) (h : Int) (s : Bool) (r : Int32) : Int × Bool × Nat × Int × Int32 :=
  let top := h + nd M
  let e := max (-398) (top - 16)
  if 369 < e then greatS mode neg (r ||| 16) else
  let m := rnd mode neg M (e - h).toNat s
  let m' := if m = 10000000000000000 then 1000000000000000 else m
  let e' := if m = 10000000000000000 then e + 1 else e
  if 369 < e' then greatS mode neg (r ||| 16) else
  (0, neg, m', e', if top ≤ -383 then (r ||| 16) ||| 8 else r ||| 16)
/-- whether a coefficient and an exponent in range stand for it -/
def exactS (M : Nat) (h : Int) : Prop := nd M ≤ 16 ∧ -398 ≤ h ∧ h - (16 - nd M) ≤ 369
/-- to fit what has no 0 at its end, or has a rest -/
def fitC (mode : Int) (neg : Bool) (M : Nat) (h : Int) (s : Bool) (wish : Int) (r : Int32) : Int × Bool × Nat × Int × Int32 :=
  if s = false ∧ nd M ≤ 16 ∧ -398 ≤ h ∧ h - (16 - nd M) ≤ 369 then
    let e := max (max (-398) (h - (16 - nd M))) (min wish (min 369 h))
    (0, neg, M * 10 ^ (h - e).toNat, e, r)
  else roundS mode neg M h s r
def fitS (mode : Int) (neg : Bool) (N : Nat) (u : Int) (s : Bool) (wish : Int) (r : Int32) : Int × Bool × Nat × Int × Int32 :=
  if N = 0 ∧ s = false then (0, neg, 0, max (-398) (min wish 369), r)
  else if s = true then fitC mode neg N u true wish r
  else fitC mode neg (N / 10 ^ tz N) (u + tz N) false wish r
/-- zeros at the end count as part of the exponent -/
theorem fitS_scale (mode : Int) (neg : Bool) (M : Nat) (k : Nat) (u : Int) (wish : Int) (r : Int32) : fitS mode neg (M * 10 ^ k) u false wish r = fitS mode neg M (u + k) false wish r := by
  by_cases h : M = 0
  · subst h; rw [Nat.zero_mul]; unfold fitS; simp
  · have h2 : M * 10 ^ k ≠ 0 := Nat.mul_ne_zero h (Nat.ne_of_gt (p10 k))
    unfold fitS
    rw [if_neg (show ¬ (M * 10 ^ k = 0 ∧ false = false) from fun q => h2 q.1), if_neg (show ¬ (M = 0 ∧ false = false) from fun q => h q.1), if_neg (show ¬ false = true by simp), if_neg (show ¬ false = true by simp), tz_mul h, p10a]
    have e : M * 10 ^ k / (10 ^ tz M * 10 ^ k) = M / 10 ^ tz M := Nat.mul_div_mul_right _ _ (p10 k)
    have e2 : u + ((tz M + k : Nat) : Int) = u + k + tz M := by omega
    rw [e, e2]
/-- the rounding of what isn't exact may as well be seen at the unstripped row -/
theorem roundS_scale (mode : Int) (neg : Bool) (M z : Nat) (u : Int) (r : Int32) (hM : M ≠ 0) (h : ¬ (nd M ≤ 16 ∧ -398 ≤ u + z ∧ u + z - (16 - nd M) ≤ 369)) : roundS mode neg (M * 10 ^ z) u false r = roundS mode neg M (u + z) false r := by
  unfold roundS
  have e1 : u + ((nd (M * 10 ^ z) : Nat) : Int) = u + z + nd M := by rw [nd_mul z hM]; omega
  simp only [e1]
  by_cases h1 : 369 < max (-398) (u + z + nd M - 16)
  · rw [if_pos h1, if_pos h1]
  · rw [if_neg h1, if_neg h1]
    have e2 : (max (-398) (u + z + nd M - 16) - u).toNat = (max (-398) (u + z + nd M - 16) - (u + z)).toNat + z := by omega
    rw [e2, rnd_scale]
theorem fitC_round {mode : Int} {neg : Bool} {M : Nat} {h : Int} {s : Bool} {wish : Int} {r : Int32} (hn : ¬ (s = false ∧ nd M ≤ 16 ∧ -398 ≤ h ∧ h - (16 - nd M) ≤ 369)) : fitC mode neg M h s wish r = roundS mode neg M h s r := by
  unfold fitC; rw [if_neg hn]
/-- what lies below 17 digits is seen as a rest alone -/
theorem fitS_sticky (mode : Int) (neg : Bool) (N k : Nat) (u : Int) (s : Bool) (wish : Int) (r : Int32) (hN : 10000000000000000 ≤ N / 10 ^ k) (hs : s = true ∨ N % 10 ^ k ≠ 0) : fitS mode neg N u s wish r = fitS mode neg (N / 10 ^ k) (u + k) true wish r := by
  have hQ : 17 ≤ nd (N / 10 ^ k) := by
    have : 16 < nd (N / 10 ^ k) := nd_gt.mpr (by omega)
    omega
  have hn : nd N = nd (N / 10 ^ k) + k := by have := nd_div N k; omega
  have hN0 : N ≠ 0 := by intro h; rw [h, Nat.zero_div, nd_0] at hQ; omega
  have key : ∀ s : Bool, (s = true ∨ N % 10 ^ k ≠ 0) → roundS mode neg N u s r = roundS mode neg (N / 10 ^ k) (u + k) true r := by
    intro s hs
    unfold roundS
    have e1 : u + ((nd N : Nat) : Int) = u + k + nd (N / 10 ^ k) := by omega
    simp only [e1]
    by_cases h1 : 369 < max (-398) (u + k + nd (N / 10 ^ k) - 16)
    · rw [if_pos h1, if_pos h1]
    · rw [if_neg h1, if_neg h1]
      have e2 : (max (-398) (u + k + nd (N / 10 ^ k) - 16) - u).toNat = (max (-398) (u + k + nd (N / 10 ^ k) - 16) - (u + k)).toNat + k := by omega
      have e3 : 0 < (max (-398) (u + k + nd (N / 10 ^ k) - 16) - (u + k)).toNat := by omega
      rw [e2, rnd_sticky _ _ _ _ _ _ e3 hs]
  have hR : fitS mode neg (N / 10 ^ k) (u + k) true wish r = roundS mode neg (N / 10 ^ k) (u + k) true r := by
    unfold fitS
    rw [if_neg (by simp), if_pos rfl, fitC_round (by simp)]
  rw [hR, ← key s hs]
  unfold fitS
  rw [if_neg (fun q => hN0 q.1)]
  by_cases h : s = true
  · subst h; rw [if_pos rfl, fitC_round (by simp)]
  · have h' : s = false := by simpa using h
    subst h'
    rw [if_neg (by simp)]
    have hz := tz_lt (hs.resolve_left (by simp))
    have hd := tz_dvd N
    have hM0 : N / 10 ^ tz N ≠ 0 := by intro q; rw [q, Nat.zero_mul] at hd; exact hN0 hd.1.symm
    have hnM : ¬ (nd (N / 10 ^ tz N) ≤ 16 ∧ -398 ≤ u + tz N ∧ u + tz N - (16 - nd (N / 10 ^ tz N)) ≤ 369) := by
      rw [nd_div]; omega
    rw [fitC_round (fun q => hnM q.2)]
    have := roundS_scale mode neg (N / 10 ^ tz N) (tz N) u r hM0 hnM
    rw [hd.1] at this
    exact this.symm
