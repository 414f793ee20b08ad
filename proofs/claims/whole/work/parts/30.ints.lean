/-! ===== machine numbers as whole numbers ===== -/
theorem ti_lo (a : Int32) : -2147483648 ≤ a.toInt := by
  have h : Int32.minValue.toInt = -2147483648 := rfl
  rw [← h]; exact Int32.le_toInt a
theorem ti_hi (a : Int32) : a.toInt ≤ 2147483647 := by
  have h : Int32.maxValue.toInt = 2147483647 := rfl
  rw [← h]; exact Int32.toInt_le a
theorem tl_lo (a : Int64) : -9223372036854775808 ≤ a.toInt := by
  have h : Int64.minValue.toInt = -9223372036854775808 := rfl
  rw [← h]; exact Int64.le_toInt a
theorem tl_hi (a : Int64) : a.toInt ≤ 9223372036854775807 := by
  have h : Int64.maxValue.toInt = 9223372036854775807 := rfl
  rw [← h]; exact Int64.toInt_le a
theorem ti_add {a b : Int32} (h1 : -2147483648 ≤ a.toInt + b.toInt) (h2 : a.toInt + b.toInt ≤ 2147483647) : (a + b).toInt = a.toInt + b.toInt := by
  rw [Int32.toInt_add]; exact Int.bmod_eq_of_le (by omega) (by omega)
theorem ti_sub {a b : Int32} (h1 : -2147483648 ≤ a.toInt - b.toInt) (h2 : a.toInt - b.toInt ≤ 2147483647) : (a - b).toInt = a.toInt - b.toInt := by
  rw [Int32.toInt_sub]; exact Int.bmod_eq_of_le (by omega) (by omega)
theorem ti_mul {a b : Int32} (h1 : -2147483648 ≤ a.toInt * b.toInt) (h2 : a.toInt * b.toInt ≤ 2147483647) : (a * b).toInt = a.toInt * b.toInt := by
  rw [Int32.toInt_mul]; exact Int.bmod_eq_of_le (by omega) (by omega)
theorem ti_neg {a : Int32} (h1 : -2147483647 ≤ a.toInt) : (-a).toInt = -a.toInt := by
  have h2 := ti_hi a
  rw [Int32.toInt_neg]; exact Int.bmod_eq_of_le (by omega) (by omega)
theorem tl_add {a b : Int64} (h1 : -9223372036854775808 ≤ a.toInt + b.toInt) (h2 : a.toInt + b.toInt ≤ 9223372036854775807) : (a + b).toInt = a.toInt + b.toInt := by
  rw [Int64.toInt_add]; exact Int.bmod_eq_of_le (by omega) (by omega)
theorem tl_sub {a b : Int64} (h1 : -9223372036854775808 ≤ a.toInt - b.toInt) (h2 : a.toInt - b.toInt ≤ 9223372036854775807) : (a - b).toInt = a.toInt - b.toInt := by
  rw [Int64.toInt_sub]; exact Int.bmod_eq_of_le (by omega) (by omega)
theorem tl_mul {a b : Int64} (h1 : -9223372036854775808 ≤ a.toInt * b.toInt) (h2 : a.toInt * b.toInt ≤ 9223372036854775807) : (a * b).toInt = a.toInt * b.toInt := by
  rw [Int64.toInt_mul]; exact Int.bmod_eq_of_le (by omega) (by omega)
theorem tl_neg {a : Int64} (h1 : -9223372036854775807 ≤ a.toInt) : (-a).toInt = -a.toInt := by
  have h2 := tl_hi a
  rw [Int64.toInt_neg]; exact Int.bmod_eq_of_le (by omega) (by omega)
theorem ti_div {a b : Int32} (h1 : 0 ≤ a.toInt) (h2 : 0 < b.toInt) : (a / b).toInt = a.toInt / b.toInt := by
  have h3 := ti_hi a
  have h4 : a.toInt / b.toInt ≤ a.toInt := Int.ediv_le_self _ h1
  have h5 : 0 ≤ a.toInt / b.toInt := Int.ediv_nonneg h1 (Int.le_of_lt h2)
  rw [Int32.toInt_div, Int.tdiv_eq_ediv_of_nonneg h1]; exact Int.bmod_eq_of_le (by omega) (by omega)
theorem tl_div {a b : Int64} (h1 : 0 ≤ a.toInt) (h2 : 0 < b.toInt) : (a / b).toInt = a.toInt / b.toInt := by
  have h3 := tl_hi a
  have h4 : a.toInt / b.toInt ≤ a.toInt := Int.ediv_le_self _ h1
  have h5 : 0 ≤ a.toInt / b.toInt := Int.ediv_nonneg h1 (Int.le_of_lt h2)
  rw [Int64.toInt_div, Int.tdiv_eq_ediv_of_nonneg h1]; exact Int.bmod_eq_of_le (by omega) (by omega)
theorem dm_le {a b : Int} (h1 : 0 ≤ a) (h2 : 0 < b) : a / b * b = a - a % b ∧ 0 ≤ a % b ∧ a % b ≤ a ∧ a % b < b := by
  have h3 := Int.emod_add_ediv_mul a b
  have h4 := Int.emod_nonneg a (Int.ne_of_gt h2)
  have h5 : 0 ≤ a / b * b := Int.mul_nonneg (Int.ediv_nonneg h1 (Int.le_of_lt h2)) (Int.le_of_lt h2)
  have h6 := Int.emod_lt_of_pos a h2
  omega
theorem ti_rem {a b : Int32} (h1 : 0 ≤ a.toInt) (h2 : 0 < b.toInt) : (jrem a b).toInt = a.toInt % b.toInt := by
  have h3 := ti_hi a
  obtain ⟨e1, e2, e3, e4⟩ := dm_le h1 h2
  have e5 := ti_div h1 h2
  unfold jrem
  have e6 : (a / b * b).toInt = a.toInt - a.toInt % b.toInt := by rw [ti_mul (by rw [e5, e1]; omega) (by rw [e5, e1]; omega), e5, e1]
  rw [ti_sub (by rw [e6]; omega) (by rw [e6]; omega), e6]; omega
theorem tl_rem {a b : Int64} (h1 : 0 ≤ a.toInt) (h2 : 0 < b.toInt) : (jremL a b).toInt = a.toInt % b.toInt := by
  have h3 := tl_hi a
  obtain ⟨e1, e2, e3, e4⟩ := dm_le h1 h2
  have e5 := tl_div h1 h2
  unfold jremL
  have e6 : (a / b * b).toInt = a.toInt - a.toInt % b.toInt := by rw [tl_mul (by rw [e5, e1]; omega) (by rw [e5, e1]; omega), e5, e1]
  rw [tl_sub (by rw [e6]; omega) (by rw [e6]; omega), e6]; omega
theorem ti_max (a b : Int32) : (jmax a b).toInt = max a.toInt b.toInt := by
  unfold jmax
  by_cases h : a < b
  · rw [if_pos h]; rw [Int32.lt_iff_toInt_lt] at h; omega
  · rw [if_neg h]; rw [Int32.lt_iff_toInt_lt] at h; omega
theorem ti_min (a b : Int32) : (jmin a b).toInt = min a.toInt b.toInt := by
  unfold jmin
  by_cases h : b < a
  · rw [if_pos h]; rw [Int32.lt_iff_toInt_lt] at h; omega
  · rw [if_neg h]; rw [Int32.lt_iff_toInt_lt] at h; omega
theorem tl_max (a b : Int64) : (jmaxL a b).toInt = max a.toInt b.toInt := by
  unfold jmaxL
  by_cases h : b < a
  · rw [if_pos h]; rw [Int64.lt_iff_toInt_lt] at h; omega
  · rw [if_neg h]; rw [Int64.lt_iff_toInt_lt] at h; omega
theorem ti_lt {a b : Int32} : a < b ↔ a.toInt < b.toInt := Int32.lt_iff_toInt_lt
theorem ti_le {a b : Int32} : a ≤ b ↔ a.toInt ≤ b.toInt := Int32.le_iff_toInt_le
theorem ti_eq {a b : Int32} : a = b ↔ a.toInt = b.toInt := Int32.toInt_inj.symm
theorem tl_lt {a b : Int64} : a < b ↔ a.toInt < b.toInt := Int64.lt_iff_toInt_lt
theorem tl_le {a b : Int64} : a ≤ b ↔ a.toInt ≤ b.toInt := Int64.le_iff_toInt_le
theorem tl_eq {a b : Int64} : a = b ↔ a.toInt = b.toInt := Int64.toInt_inj.symm
theorem ti_long (a : Int32) : a.toInt64.toInt = a.toInt := Int32.toInt_toInt64 a
theorem tl_int {a : Int64} (h1 : -2147483648 ≤ a.toInt) (h2 : a.toInt ≤ 2147483647) : a.toInt32.toInt = a.toInt := by
  rw [Int64.toInt_toInt32]; exact Int.bmod_eq_of_le (by omega) (by omega)
theorem ti_nat (a : Int32) : a.toNatClampNeg = a.toInt.toNat := rfl
theorem ti_test1 : (17 : Int32).toInt = 17 := by simp
theorem ti_test2 : (10000000000000000 : Int64).toInt = 10000000000000000 := by simp
theorem ti_test3 : (-383 : Int32).toInt = -383 := by simp
theorem ti_test4 : (-383 : Int32).toInt = -383 := rfl
theorem ti_test5 (a : Int32) (h : a ≤ -383) : ¬ a = 5 := by
  simp only [ti_le, ti_eq] at h ⊢
  simp at h ⊢
  omega
/-! ===== loops ===== -/
theorem itn_add {T : Type} (B : T → T) : ∀ (n m : Nat) (t : T), itn B (n + m) t = itn B m (itn B n t) := by
  intro n
  induction n with
  | zero => intro m t; rw [Nat.zero_add]; rfl
  | succ n ih => intro m t; rw [Nat.add_right_comm]; exact ih m (B t)
/-- a bounded loop with an invariant that knows how often it has run -/
theorem wl_rule {T : Type} (G : T → Bool) (B : T → T) (P : Nat → T → Prop) : ∀ (N k : Nat) (t : T), P k t → (∀ j t, k ≤ j → j < k + N → P j t → G t = true → P (j + 1) (B t)) → (∀ t, P (k + N) t → G t = false) →
    P (k + nW G B N t) (wl G B N t) ∧ G (wl G B N t) = false ∧ (∀ j, j < nW G B N t → P (k + j) (itn B j t)) ∧ nW G B N t ≤ N := by
  intro N
  induction N with
  | zero =>
    intro k t h0 _ hN
    exact ⟨h0, hN t h0, fun j hj => absurd hj (Nat.not_lt_zero j), Nat.le_refl 0⟩
  | succ N ih =>
    intro k t h0 hs hN
    by_cases hg : G t = true
    · have h1 := ih (k + 1) (B t) (hs k t (Nat.le_refl k) (by omega) h0 hg) (fun j t' h2 h3 => hs j t' (by omega) (by omega)) (fun t' h => hN t' (by rw [← Nat.add_assoc, Nat.add_right_comm]; exact h))
      have e : nW G B (N + 1) t = nW G B N (B t) + 1 := by show (if G t = true then nW G B N (B t) + 1 else 0) = _; rw [if_pos hg]
      rw [wl_t G B N t hg, e]
      refine ⟨?_, h1.2.1, ?_, Nat.succ_le_succ h1.2.2.2⟩
      · have := h1.1
        rwa [Nat.add_right_comm, Nat.add_assoc] at this
      · intro j hj
        cases j with
        | zero => exact h0
        | succ j =>
          have := h1.2.2.1 j (by omega)
          rwa [Nat.add_right_comm, Nat.add_assoc] at this
    · have e : nW G B (N + 1) t = 0 := by show (if G t = true then nW G B N (B t) + 1 else 0) = _; rw [if_neg hg]
      rw [wl_f G B (N + 1) t hg, e]
      exact ⟨h0, by simpa using hg, fun j hj => absurd hj (Nat.not_lt_zero j), Nat.zero_le _⟩
/-- the same from the start -/
theorem wl_run {T : Type} {G : T → Bool} {B : T → T} (P : Nat → T → Prop) {N : Nat} {t : T} (h0 : P 0 t) (hs : ∀ j t, j < N → P j t → G t = true → P (j + 1) (B t)) (hN : ∀ t, P N t → G t = false) :
    (∃ n, n ≤ N ∧ P n (wl G B N t)) ∧ G (wl G B N t) = false ∧ (∀ j, j < nW G B N t → P j (itn B j t) ∧ j < N ∧ G (itn B j t) = true) := by
  have h := wl_rule G B P N 0 t h0 (fun j t' _ h3 => hs j t' (by omega)) (fun t' h => hN t' (by rwa [Nat.zero_add] at h))
  rw [Nat.zero_add] at h
  refine ⟨⟨_, h.2.2.2, h.1⟩, h.2.1, fun j hj => ⟨?_, Nat.lt_of_lt_of_le hj h.2.2.2, nW_lt _ _ _ _ j hj⟩⟩
  have := h.2.2.1 j hj
  rwa [Nat.zero_add] at this
