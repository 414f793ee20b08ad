/-! ===== sums of the class ===== -/
theorem sub_div {M B K : Nat} (hK : 0 < K) (h : B ≤ M * K) : (M * K - B) / K = M - B / K - (if B % K = 0 then 0 else 1) ∧ ((M * K - B) % K = 0 ↔ B % K = 0) := by
  have h0 := Nat.div_add_mod B K
  have h1 : B % K < K := Nat.mod_lt _ hK
  by_cases z : B % K = 0
  · rw [if_pos z]
    rw [z, Nat.add_zero] at h0
    have e : M * K - B = (M - B / K) * K := by
      rw [Nat.sub_mul, Nat.mul_comm (B / K) K, h0]
    rw [e]
    refine ⟨Nat.mul_div_cancel _ hK, fun _ => z, fun _ => Nat.mul_mod_left _ _⟩
  · rw [if_neg z]
    generalize B / K = q at h0 ⊢
    generalize B % K = r at h0 h1 z ⊢
    have hq : q < M := by
      apply Nat.lt_of_not_le
      intro hh
      have := Nat.mul_le_mul_right K hh
      rw [Nat.mul_comm q K] at this
      omega
    obtain ⟨x, rfl⟩ : ∃ x, M = x + (q + 1) := ⟨M - (q + 1), by omega⟩
    have e : (x + (q + 1)) * K - B = (K - r) + x * K := by
      rw [Nat.add_mul, Nat.add_mul, Nat.one_mul, ← h0, Nat.mul_comm q K]; omega
    rw [e]
    have h3 : (K - r + x * K) / K = x := by
      rw [Nat.add_mul_div_right _ _ hK, Nat.div_eq_of_lt (by omega), Nat.zero_add]
    have h4 : (K - r + x * K) % K = K - r := by
      rw [Nat.add_mul_mod_self_right, Nat.mod_eq_of_lt (by omega)]
    refine ⟨by rw [h3]; omega, ?_⟩
    rw [h4]
    constructor
    · intro hh; omega
    · intro hh; exact absurd hh z
theorem add_div' {M B K : Nat} (hK : 0 < K) : (M * K + B) / K = M + B / K ∧ (M * K + B) % K = B % K := by
  rw [Nat.mul_comm M K]
  exact ⟨Nat.mul_add_div hK _ _, Nat.mul_add_mod _ _ _⟩
/-- the size of a difference -/
def dif (X Y : Nat) : Nat := if X < Y then Y - X else X - Y
theorem jn_1 {V : Nat} {a b p : Nat} (h : V = a * 10000000000000000 + b + p) : (V : Int) = (a : Int) * 10000000000000000 + ((b : Int) + (p : Int)) := by omega
theorem jn_2 {V : Nat} {a b p : Nat} (h : V + p = a * 10000000000000000 + b) : (V : Int) = (a : Int) * 10000000000000000 + ((b : Int) + -(p : Int)) := by omega
theorem jn_3 {V : Nat} {a b p : Nat} (h : V + (p + 1) = a * 10000000000000000 + b) : (V : Int) = (a : Int) * 10000000000000000 + ((b : Int) + (-(p : Int) - 1)) := by omega
theorem jn_4 (V : Nat) : V / 10000000000000000 * 10000000000000000 + V % 10000000000000000 = V := by omega
theorem jn_5 {M P : Nat} (h1 : M ≤ 9999999999999999 * 10000000000000000) (h2 : P < 10000000000000000) : M + P < 10000000000000000 * 10000000000000000 := by omega
theorem jn_6 {M P : Nat} (h1 : M ≤ 9999999999999999 * 10000000000000000) (h2 : P ≤ M) : P < 10000000000000000 * 10000000000000000 := by omega
theorem jn_7 {V : Nat} (h : V < 10000000000000000) : V / 10000000000000000 = 0 ∧ V % 10000000000000000 = V ∧ V < 10000000000000000 * 10000000000000000 := by omega
theorem dnz_t {n : Nat} (h : n ≠ 0) : true = decide (n ≠ 0) := (decide_eq_true h).symm
theorem dnz_f {n : Nat} (h : n = 0) : false = decide (n ≠ 0) := (decide_eq_false (fun q => q h)).symm
theorem dnz_0 {V : Nat} {k : Nat} (h : decide (V % 10 ^ k ≠ 0) = true) : 0 < k := by
  apply Nat.pos_of_ne_zero
  intro q; subst q
  rw [Nat.pow_zero, Nat.mod_one] at h
  exact absurd h (by decide)
section SUM
variable {so : Nat → Int32} {mi : Nat → Bool} {co : Nat → Int64} {ex : Nat → Int32} {i j : Nat}
theorem sp_join {A B : Nat} {ea eb : Int} (hA : (co i).toInt = A) (hB : (co j).toInt = B) (hA0 : A ≠ 0) (hB0 : B ≠ 0) (hA2 : A < 10000000000000000) (hB2 : B < 10000000000000000) (he1 : (ex i).toInt = ea) (he2 : (ex j).toInt = eb) (b1 : -1000 ≤ ea ∧ ea ≤ 1000) (b2 : -1000 ≤ eb ∧ eb ≤ 1000)
    (hge : eb ≤ ea) {al : Bool} {z : Bool × Int64 × Int64 × Int32 × Bool} (hz : z = F_X1_join co ex i j al) {X V : Nat} (hX : X = A * 10 ^ (ea - eb).toNat) (hV : V = if al = true then X + B else dif X B) :
    S_X1_join co ex i j al ∧ z.1 = decide (al = false ∧ X < B) ∧ ∃ k : Nat, eb + (k : Int) ≤ ea ∧ OC z.2.1 z.2.2.1 z.2.2.2.1 (decide (V % 10 ^ k ≠ 0)) (V / 10 ^ k) (eb + k) ∧ z.2.2.2.2 = decide (V % 10 ^ k ≠ 0) := by
  have c16 : (16 : Int32).toInt = 16 := rfl
  have l0 : (0 : Int64).toInt = ((0 : Nat) : Int) := rfl
  have l1 : (1 : Int64).toInt = 1 := rfl
  obtain ⟨q1, q2⟩ := sp_digitsOf hA hA2
  have hnA : nd A ≤ 16 := by rw [nd_le, p16]; exact hA2
  unfold F_X1_join at hz
  unfold S_X1_join
  obtain ⟨x1, e1, hz⟩ := bnd_x hz
  obtain ⟨x2, e2, hz⟩ := bnd_x hz
  obtain ⟨x3, e3, hz⟩ := bnd_x hz
  obtain ⟨x4, e4, hz⟩ := bnd_x hz
  obtain ⟨x5, e5, hz⟩ := bnd_x hz
  obtain ⟨x6, e6, hz⟩ := bnd_x hz
  obtain ⟨x7, e7, hz⟩ := bnd_x hz
  obtain ⟨x8, e8, hz⟩ := bnd_x hz
  obtain ⟨x9, e9, hz⟩ := bnd_x hz
  obtain ⟨x10, e10, hz⟩ := bnd_x hz
  have f1 : x1.toInt = ea - eb := by rw [e1, ti_sub (by omega) (by omega), he1, he2]
  have f2' : x2.toInt = min (ea - eb) (16 - nd A) := by rw [e2, ti_min, ti_sub (by omega) (by omega), f1, c16, q1]
  have f3' : x3.toInt = min (ea - eb - min (ea - eb) (16 - nd A)) 16 := by rw [e3, ti_min, ti_sub (by omega) (by omega), f1, f2', c16]
  obtain ⟨g, eg⟩ : ∃ g : Nat, g = (ea - eb).toNat := ⟨_, rfl⟩
  obtain ⟨s, es⟩ : ∃ s : Nat, s = min g (16 - nd A) := ⟨_, rfl⟩
  obtain ⟨w, ew⟩ : ∃ w : Nat, w = min (g - s) 16 := ⟨_, rfl⟩
  obtain ⟨k, ek⟩ : ∃ k : Nat, k = g - s - w := ⟨_, rfl⟩
  have f2 : x2.toInt = (s : Int) := by omega
  have f3 : x3.toInt = (w : Int) := by omega
  have hs16 : s ≤ 16 := by omega
  have hw16 : w ≤ 16 := by omega
  have t2 := sp_tenTo f2 hs16
  have t3 := sp_tenTo f3 hw16
  have f3c : (16 - x3).toInt = ((16 - w : Nat) : Int) := by rw [ti_sub (by omega) (by omega)]; omega
  have t3c := sp_tenTo f3c (by omega)
  obtain ⟨c, ec⟩ : ∃ c : Nat, c = A * 10 ^ s := ⟨_, rfl⟩
  have hc : c < 10000000000000000 := by
    have h1 : A * 10 ^ s < 10 ^ nd A * 10 ^ s := Nat.mul_lt_mul_of_pos_right (nd_lt A) (p10 s)
    rw [← p10a] at h1
    have h2 := p10_16 (k := nd A + s) (by omega)
    omega
  have f4 : x4.toInt = (c : Int) := by rw [e4, ec]; exact tn_mul hA t2 (by omega)
  have f5 : x5.toInt = ((c / 10 ^ (16 - w) : Nat) : Int) := by rw [e5]; exact tn_div f4 t3c (p10 _)
  obtain ⟨M, eM⟩ : ∃ M : Nat, M = c * 10 ^ w := ⟨_, rfl⟩
  have hM1 : M / 10000000000000000 = c / 10 ^ (16 - w) := by rw [eM, pE hw16]; exact Nat.mul_div_mul_right _ _ (p10 w)
  have hM2 : M % 10000000000000000 = c % 10 ^ (16 - w) * 10 ^ w := by rw [eM, pE hw16]; exact Nat.mul_mod_mul_right _ _ _
  have hMle : M ≤ 9999999999999999 * 10000000000000000 := by rw [eM]; exact Nat.mul_le_mul (Nat.le_of_lt_succ hc) (p10_16 hw16)
  rw [← hM1] at f5
  have f6 : x6.toInt = ((M % 10000000000000000 : Nat) : Int) := by
    rw [e6, hM2]
    refine tn_mul (tn_rem f4 t3c (p10 _)) t3 ?_
    rw [← hM2]
    exact Nat.lt_trans (Nat.mod_lt _ (by decide)) (by decide)
  have f7 : x7.toInt = eb + (k : Int) := by
    rw [e7, ti_sub (by rw [ti_sub (by omega) (by omega)]; omega) (by rw [ti_sub (by omega) (by omega)]; omega), ti_sub (by omega) (by omega), he1, f2, f3]; omega
  have f8 : x8.toInt = (k : Int) := by
    rw [e8, ti_sub (by rw [ti_sub (by omega) (by omega)]; omega) (by rw [ti_sub (by omega) (by omega)]; omega), ti_sub (by omega) (by omega), f1, f2, f3]; omega
  have eX : X = M * 10 ^ k := by
    rw [hX, eM, ec, ← eg, Nat.mul_assoc, Nat.mul_assoc, ← p10a, ← p10a]
    congr 2; omega
  have hk0 : 0 < k → w = 16 ∧ 1000000000000000 ≤ c := by
    intro h
    have h1 : s = 16 - nd A := by omega
    refine ⟨by omega, ?_⟩
    rw [ec, ← p15]
    have h2 : nd (A * 10 ^ s) = 16 := by rw [nd_mul s hA0]; omega
    exact nd_gt.mp (by omega)
  have hkM : 0 < k → 1000000000000000 * 10000000000000000 ≤ M := by
    intro h
    obtain ⟨h1, h2⟩ := hk0 h
    rw [eM, h1, p16]; exact Nat.mul_le_mul_right _ h2
  have fP : x9.toInt = ((B / 10 ^ k : Nat) : Int) := by
    rw [e9]
    unfold Z_X1_join_J_128
    by_cases h : x8 ≤ 16
    · rw [if_pos h]; rw [ti_le, f8, c16] at h
      exact tn_div hB (sp_tenTo f8 (by omega)) (p10 k)
    · rw [if_neg h]; rw [ti_le, f8, c16] at h
      rw [Nat.div_eq_of_lt]; rfl
      have := p10le (a := 16) (b := k) (by omega)
      rw [p16] at this; omega
  have fR : x10 = decide (B % 10 ^ k ≠ 0) := by
    rw [e10]
    unfold Z_X1_join_J_136
    by_cases h : 16 < x8
    · rw [if_pos h]; rw [ti_lt, f8, c16] at h
      have := p10le (a := 16) (b := k) (by omega)
      rw [p16] at this
      rw [Nat.mod_eq_of_lt (by omega)]
      exact dnz_t hB0
    · rw [if_neg h]; rw [ti_lt, f8, c16] at h
      have r := tn_rem hB (sp_tenTo f8 (by omega)) (p10 k)
      by_cases y : jremL (co j) (F_X3_tenTo x8) = 0
      · rw [if_pos y]; rw [tl_eq, r, l0] at y
        exact dnz_f (Int.ofNat.inj y)
      · rw [if_neg y]; rw [tl_eq, r, l0] at y
        exact dnz_t (fun q => y (by rw [q]))
  have hPB : B / 10 ^ k < 10000000000000000 := Nat.lt_of_le_of_lt (Nat.div_le_self _ _) hB2
  have hS : ∀ (n101 : Int32), n101 = ex i - ex j → (S_X3_digitsOf (co i)) ∧ ∀ (n104 : Int32), n104 = jmin n101 (16 - F_X3_digitsOf (co i)) → ∀ (n105 : Int32), n105 = jmin (n101 - n104) 16 → (S_X3_tenTo n104) ∧ ∀ (n108 : Int64), n108 = co i * F_X3_tenTo n104 → (S_X3_tenTo (16 - n105)) ∧ (¬ F_X3_tenTo (16 - n105) = 0) ∧ ∀ (f112 : Int64), f112 = n108 / F_X3_tenTo (16 - n105) → (S_X3_tenTo n105) ∧ ∀ (f117 : Int64), f117 = jremL n108 (F_X3_tenTo (16 - n105)) * F_X3_tenTo n105 → ∀ (f119 : Int32), f119 = ex i - n104 - n105 → ∀ (n121 : Int32), n121 = n101 - n104 - n105 → (if n121 ≤ 16 then (S_X3_tenTo n121) ∧ ¬ F_X3_tenTo n121 = 0 else True) ∧ ∀ (z127 : Int64), z127 = Z_X1_join_J_128 co j n121 → if 16 < n121 then True else (S_X3_tenTo n121) ∧ ¬ F_X3_tenTo n121 = 0 := by
    have z0 : (0 : Int64).toInt = 0 := rfl
    have nz : ∀ {y : Int32} {m : Nat}, y.toInt = m → m ≤ 16 → ¬ F_X3_tenTo y = 0 := by
      intro y m h1 h2
      rw [tl_eq, sp_tenTo h1 h2, z0]
      have := p10 m
      omega
    refine all_n e1 ⟨q2, all_n e2 (all_n e3 ⟨S_tenTo _, all_n e4 ⟨S_tenTo _, nz f3c (by omega), all_n e5 ⟨S_tenTo _, all_n e6 (all_n e7 (all_n e8 ⟨?_, all_n e9 ?_⟩))⟩⟩⟩)⟩
    · refine ite_P (fun h => ⟨S_tenTo _, ?_⟩) (fun _ => trivial)
      rw [ti_le, f8, c16] at h
      exact nz f8 (by omega)
    · refine ite_P (fun _ => trivial) (fun h => ⟨S_tenTo _, ?_⟩)
      rw [ti_lt, f8, c16] at h
      exact nz f8 (by omega)
  refine ⟨hS, ?_⟩
  have hh20 : M / 10000000000000000 ≤ 20000000000000000 := by
    have : M / 10000000000000000 ≤ 9999999999999999 := Nat.div_le_of_le_mul (by rw [Nat.mul_comm]; exact hMle)
    omega
  have hlo : M % 10000000000000000 < 10000000000000000 := Nat.mod_lt _ (by decide)
  have hMs := jn_4 M
  obtain ⟨P, eP⟩ : ∃ P : Nat, P = B / 10 ^ k := ⟨_, rfl⟩
  rw [← eP] at fP hPB
  clear hM1 hM2 hc f2' f3' f3c t2 t3 t3c e1 e2 e3 e4 e5 e6 e7 e8 e9 e10
  -- alike
  cases al with
  | true =>
    rw [if_pos rfl] at hz hV
    obtain ⟨y, ey, hz⟩ := bnd_x hz
    obtain ⟨d1, d2⟩ := add_div' (M := M) (B := B) (p10 k)
    rw [← eX, ← hV] at d1 d2
    rw [← eP] at d1
    have hVi : ((M + P : Nat) : Int) = ((M / 10000000000000000 : Nat) : Int) * 10000000000000000 + (((M % 10000000000000000 : Nat) : Int) + (P : Int)) := jn_1 (by omega)
    obtain ⟨r1, r2⟩ := sp_addToLow f5 f6 fP hVi (by omega) (by omega) hh20
    rw [← ey] at r1 r2
    have hlt := jn_5 hMle hPB
    subst hz
    refine ⟨by simp, k, by omega, ?_, ?_⟩
    · rw [d2, d1]
      refine ⟨r1, r2, f7, hlt, fun q => ?_⟩
      have := hkM (dnz_0 q)
      omega
    · rw [d2]; exact fR
  | false =>
    rw [if_neg (by simp)] at hz hV
    by_cases hi : x5 = 0
    · rw [if_pos hi] at hz
      rw [tl_eq, f5, l0] at hi
      have hM0 : M / 10000000000000000 = 0 := Int.ofNat.inj hi
      have hk : k = 0 := by
        apply Classical.byContradiction
        intro h
        have := hkM (Nat.pos_of_ne_zero h)
        omega
      subst hk
      rw [Nat.pow_zero, Nat.mul_one] at eX
      rw [Nat.pow_zero, Nat.div_one] at eP
      rw [eP] at fP
      have hlowM : M % 10000000000000000 = M := by omega
      rw [hlowM] at f6
      have fR' : x10 = false := by rw [fR, Nat.pow_zero, Nat.mod_one]; rfl
      have hV2 : decide (V % 1 ≠ 0) = false := by rw [Nat.mod_one]; rfl
      rw [← eX] at f6
      have hXM : X < 10000000000000000 := by omega
      by_cases lt : x9 ≤ x6
      · rw [if_pos lt] at hz
        rw [tl_le, fP, f6] at lt
        obtain ⟨y, ey, hz⟩ := bnd_x hz
        obtain ⟨v, ev, hz⟩ := bnd_x hz
        have fy : y.toInt = -(B : Int) := by
          rw [ey, fR']; unfold Z_X1_join_J_151; rw [if_neg (by simp), tl_neg (by omega), fP]
        have hVe : V = X - B := by rw [hV]; unfold dif; rw [if_neg (by omega)]
        have hVint : (V : Int) = ((M / 10000000000000000 : Nat) : Int) * 10000000000000000 + ((X : Int) + -(B : Int)) := by rw [hM0, hVe]; omega
        obtain ⟨r1, r2⟩ := sp_addToLow f5 f6 fy hVint (by omega) (by omega) hh20
        rw [← ev] at r1 r2
        subst hz
        refine ⟨?_, 0, by omega, ?_, ?_⟩
        · exact (decide_eq_false (p := false = false ∧ X < B) (fun q => by have := q.2; omega)).symm
        · rw [Nat.pow_zero, Nat.div_one, hV2]
          exact ⟨r1, r2, f7, by omega, fun q => absurd q (by simp)⟩
        · rw [Nat.pow_zero, hV2]; exact fR'
      · rw [if_neg lt] at hz
        rw [tl_le, fP, f6] at lt
        obtain ⟨y, ey, hz⟩ := bnd_x hz
        have hVe : V = B - X := by rw [hV]; unfold dif; rw [if_pos (by omega)]
        have fy : y.toInt = (V : Int) := by rw [ey, tl_sub (by omega) (by omega), fP, f6, hVe]; omega
        obtain ⟨w1, w2, w3⟩ := jn_7 (V := V) (by omega)
        subst hz
        refine ⟨?_, 0, by omega, ?_, ?_⟩
        · exact (decide_eq_true (p := false = false ∧ X < B) ⟨rfl, by omega⟩).symm
        · rw [Nat.pow_zero, Nat.div_one, hV2]
          refine ⟨?_, ?_, f7, w3, fun q => absurd q (by simp)⟩
          · show x5.toInt = _
            rw [f5, hM0, w1]
          · show y.toInt = _
            rw [w2]; exact fy
        · rw [Nat.pow_zero, hV2]; exact fR'
    · rw [if_neg hi] at hz
      rw [tl_eq, f5, l0] at hi
      have hMge : 10000000000000000 ≤ M := by
        apply Nat.le_of_not_lt
        intro h
        exact hi (by rw [Nat.div_eq_of_lt h])
      obtain ⟨y, ey, hz⟩ := bnd_x hz
      obtain ⟨v, ev, hz⟩ := bnd_x hz
      have hBX : B < X := by
        rw [eX]
        exact Nat.lt_of_lt_of_le (Nat.lt_of_lt_of_le hB2 hMge) (Nat.le_mul_of_pos_right M (p10 k))
      have hVe : V = X - B := by rw [hV]; unfold dif; rw [if_neg (by omega)]
      obtain ⟨d1, d2⟩ := sub_div (M := M) (B := B) (K := 10 ^ k) (p10 k) (by rw [← eX]; omega)
      rw [← eX, ← hVe] at d1 d2
      rw [← eP] at d1
      have d3 : decide (V % 10 ^ k ≠ 0) = decide (B % 10 ^ k ≠ 0) := by
        by_cases q : B % 10 ^ k = 0
        · rw [← dnz_f (d2.mpr q), ← dnz_f q]
        · rw [← dnz_t (fun h => q (d2.mp h)), ← dnz_t q]
      have hfin : (F_X1_addToLow x5 x6 y).1.toInt = ((V / 10 ^ k / 10000000000000000 : Nat) : Int) ∧ (F_X1_addToLow x5 x6 y).2.toInt = ((V / 10 ^ k % 10000000000000000 : Nat) : Int) := by
        rw [d1]
        by_cases q : B % 10 ^ k = 0
        · have fy : y.toInt = -(P : Int) := by
            rw [ey, fR, ← dnz_f q]; unfold Z_X1_join_J_151; rw [if_neg (by simp), tl_neg (by omega), fP]
          rw [if_pos q]
          exact sp_addToLow f5 f6 fy (jn_2 (by omega)) (by omega) (by omega) hh20
        · have fy : y.toInt = -(P : Int) - 1 := by
            rw [ey, fR, ← dnz_t q]; unfold Z_X1_join_J_151; rw [if_pos rfl, tl_sub (by rw [tl_neg (by omega), fP, l1]; omega) (by rw [tl_neg (by omega), fP, l1]; omega), tl_neg (by omega), fP, l1]
          rw [if_neg q]
          exact sp_addToLow f5 f6 fy (jn_3 (by omega)) (by omega) (by omega) hh20
      obtain ⟨r1, r2⟩ := hfin
      rw [← ev] at r1 r2
      subst hz
      refine ⟨?_, k, by omega, ?_, ?_⟩
      · exact (decide_eq_false (p := false = false ∧ X < B) (fun q => by have := q.2; omega)).symm
      · rw [d3]
        refine ⟨r1, r2, f7, ?_, fun q => ?_⟩
        · exact jn_6 hMle (by rw [d1]; omega)
        · have := hkM (dnz_0 q)
          rw [d1]
          split <;> omega
      · rw [d3]; exact fR
end SUM
