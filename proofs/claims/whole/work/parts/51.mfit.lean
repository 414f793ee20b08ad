/-! ===== the reference: rounding and fitting ===== -/
theorem mod_step (N k : Nat) : N % 10 ^ (k + 1) = N % 10 ^ k + 10 ^ k * (N / 10 ^ k % 10) := by
  rw [Nat.pow_succ, Nat.mod_mul]
theorem rcl_dig {N q : Nat} {s : Bool} (hq : 0 < q) : rcl (N % 10 ^ q) (10 ^ q) s = if N % 10 ^ (q - 1) = 0 ∧ s = false then (if N / 10 ^ (q - 1) % 10 = 0 then 0 else if N / 10 ^ (q - 1) % 10 < 5 then 1 else if N / 10 ^ (q - 1) % 10 = 5 then 2 else 3) else if N / 10 ^ (q - 1) % 10 < 5 then 1 else 3 := by
  obtain ⟨k, rfl⟩ : ∃ k, q = k + 1 := ⟨q - 1, by omega⟩
  rw [Nat.add_sub_cancel, mod_step, p10s]
  have hd : N / 10 ^ k % 10 < 10 := Nat.mod_lt _ (by decide)
  have hl : N % 10 ^ k < 10 ^ k := Nat.mod_lt _ (p10 k)
  generalize N / 10 ^ k % 10 = d at hd ⊢
  generalize N % 10 ^ k = L at hl ⊢
  generalize 10 ^ k = K at hl ⊢
  have e1 : L + K * d = 0 ↔ L = 0 ∧ d = 0 := by
    constructor
    · intro h
      have h1 : L = 0 := by omega
      have h2 : K * d = 0 := by omega
      rcases Nat.mul_eq_zero.mp h2 with h3 | h3
      · omega
      · exact ⟨h1, h3⟩
    · rintro ⟨h1, h2⟩; rw [h1, h2]; rfl
  have hm : K * d ≤ K * 9 := Nat.mul_le_mul_left K (by omega)
  have e2 : 2 * (L + K * d) < 10 * K ↔ d < 5 := by
    constructor
    · intro h
      apply Nat.lt_of_not_le
      intro h5
      have := Nat.mul_le_mul_left K h5
      omega
    · intro h
      have := Nat.mul_le_mul_left K (show d ≤ 4 by omega)
      omega
  have e3 : 2 * (L + K * d) = 10 * K ↔ L = 0 ∧ d = 5 := by
    constructor
    · intro h
      have h5 : ¬ d < 5 := fun q => by have := e2.mpr q; omega
      have h6 : d = 5 := by
        apply Classical.byContradiction
        intro h7
        have := Nat.mul_le_mul_left K (show 6 ≤ d by omega)
        omega
      subst h6
      exact ⟨by omega, rfl⟩
    · rintro ⟨h1, h2⟩; rw [h1, h2]; omega
  unfold rcl
  simp only [e1, e2, e3]
  by_cases a : L = 0
  · subst a
    cases s with
    | true =>
      simp
    | false =>
      simp only [true_and, and_true, if_true]
  · have na : ∀ P : Prop, ¬ ((L = 0 ∧ P) ∧ s = false) := fun P q => a q.1.1
    rw [if_neg (na _), if_neg (show ¬ (L = 0 ∧ s = false) from fun q => a q.1)]
    split
    · rfl
    · rw [if_neg (na _)]
theorem sp_mrounded {mo : Int32} {re : Bool} {f : Nat → Int32} {N : Nat} (h : DP f N) {ct p : Int32} {c q : Nat} (b : Bool) (hc : ct.toInt = c) (hp : p.toInt = q) (hc9 : c ≤ 900) (hNc : nd N ≤ c) (hq0 : 0 < q) (hq9 : q ≤ 900) (hb : N / 10 ^ q < 10000000000000000) :
    (F_X4_rounded mo ct re f p b).toInt = ((rnd mo.toInt b N q re : Nat) : Int) ∧ S_X4_rounded mo ct re f p b := by
  have hDP := h
  obtain ⟨hN, hd⟩ := h
  have z0 : (0 : Int32).toInt = 0 := rfl
  have c1 : (1 : Int32).toInt = 1 := rfl
  have c3 : (3 : Int32).toInt = 3 := rfl
  have c4 : (4 : Int32).toInt = 4 := rfl
  have c5 : (5 : Int32).toInt = 5 := rfl
  have l0 : (0 : Int64).toInt = ((0 : Nat) : Int) := rfl
  have l1 : (1 : Int64).toInt = ((1 : Nat) : Int) := rfl
  have l2 : (2 : Int64).toInt = ((2 : Nat) : Int) := rfl
  have hp0 : (0 : Int32) < p := by rw [ti_lt, hp, z0]; omega
  have hp1 : (p - 1).toInt = ((q - 1 : Nat) : Int) := by rw [ti_sub (by omega) (by omega)]; omega
  obtain ⟨w1, w2⟩ := sp_whole hDP hc hp hc9 hNc (by omega)
  have fm : (Z_X4_rounded_J_107 ct f p).toInt = ((N / 10 ^ q : Nat) : Int) := by
    unfold Z_X4_rounded_J_107
    by_cases y : ct ≤ p
    · rw [if_pos y]; rw [ti_le, hc, hp] at y; rw [nd_small (by omega)]; exact l0
    · rw [if_neg y]; exact w1
  have hG : ∀ t, G_X4_rounded_53 f p t = true ↔ ¬ p - 1 ≤ t.2 := by
    intro t; unfold G_X4_rounded_53; dsimp only [bnd]
    by_cases h : p - 1 ≤ t.2
    · simp [h]
    · simp [h]
  have R := wl_run (G := G_X4_rounded_53 f p) (B := B_X4_rounded_53 f p) (N := 901) (t := (re, 0)) (fun j t => t.1 = (re || decide (N % 10 ^ j ≠ 0)) ∧ t.2.toInt = (j : Int) ∧ j ≤ q - 1)
    ⟨by rw [Nat.pow_zero, Nat.mod_one]; cases re <;> rfl, rfl, by omega⟩
    (by
      rintro j t _ ⟨h1, h2, h3⟩ hg
      have g := (hG t).mp hg
      have e : B_X4_rounded_53 f p t = (Z_X4_rounded_J_116 f t, t.2 + 1) := by unfold B_X4_rounded_53; dsimp only [bnd]; rw [if_neg g]
      rw [ti_le, h2, hp1] at g
      have hdd := hd j (by omega)
      rw [e]
      refine ⟨?_, by rw [ti_add (by omega) (by omega), h2, c1]; omega, by omega⟩
      show Z_X4_rounded_J_116 f t = _
      unfold Z_X4_rounded_J_116
      rw [h1, ti_idx h2, mod_step]
      cases re with
      | true => simp
      | false =>
        by_cases y : N % 10 ^ j = 0
        · rw [y, Nat.zero_add]
          rw [if_neg (by simp)]
          by_cases y2 : N / 10 ^ j % 10 = 0
          · rw [if_pos (by rw [ti_le, hdd, y2, z0]; exact Int.le_refl 0), y2, Nat.mul_zero]; rfl
          · rw [if_neg (by rw [ti_le, hdd, z0]; omega)]
            have : 10 ^ j * (N / 10 ^ j % 10) ≠ 0 := Nat.mul_ne_zero (Nat.ne_of_gt (p10 j)) y2
            rw [Bool.false_or]; exact dnz_t this
        · rw [if_pos (by rw [Bool.false_or]; exact (dnz_t y).symm), Bool.false_or]
          exact dnz_t (fun q => y (by omega)))
    (by rintro t ⟨_, _, h2⟩; omega)
  obtain ⟨⟨k, hk, h1, h2, h3⟩, hg, hb'⟩ := R
  have hng := ng_of hg
  rw [hG, ti_le, h2, hp1] at hng
  have ek : k = q - 1 := by omega
  subst ek
  have hS : S_X4_rounded mo ct re f p b := by
    unfold S_X4_rounded
    rw [if_pos hp0]
    refine ⟨ite_P (fun _ => trivial) (fun _ => w2), fun _ _ => ⟨?_, fun _ _ => ⟨fun j hj => ?_, hg⟩⟩⟩
    · rw [vp_in_iff, hp1]; omega
    · obtain ⟨⟨q1, q2, q3⟩, q4, q5⟩ := hb' j hj
      unfold SB_X4_rounded_53
      refine ite_P (fun _ => trivial) (fun g => ite_P (fun _ => trivial) (fun _ => ?_))
      rw [ti_le, q2, hp1] at g
      rw [vp_in_iff, q2]; omega
  refine ⟨?_, hS⟩
  have hdn := hd (q - 1) (by omega)
  have hd10 : N / 10 ^ (q - 1) % 10 < 10 := Nat.mod_lt _ (by decide)
  unfold F_X4_rounded
  rw [if_pos hp0]
  dsimp only [bnd]
  rw [ti_idx hp1]
  have hrem := tn_rem fm l2 (by decide)
  unfold rnd
  rw [rcl_dig hq0]
  generalize wl (G_X4_rounded_53 f p) (B_X4_rounded_53 f p) 901 (re, 0) = z at h1 ⊢
  generalize Z_X4_rounded_J_107 ct f p = m at fm hrem ⊢
  have key : ∀ (X : Bool), Z_X4_rounded_J_154 mo b m (Z_X4_rounded_J_127 (f (q - 1)) z) (Z_X4_rounded_J_132 (f (q - 1)) z) (Z_X4_rounded_J_138 (f (q - 1)) z) = X → X = rup mo.toInt b (N / 10 ^ q) (if N % 10 ^ (q - 1) = 0 ∧ re = false then (if N / 10 ^ (q - 1) % 10 = 0 then 0 else if N / 10 ^ (q - 1) % 10 < 5 then 1 else if N / 10 ^ (q - 1) % 10 = 5 then 2 else 3) else if N / 10 ^ (q - 1) % 10 < 5 then 1 else 3) → (if X = true then m + 1 else m).toInt = ((N / 10 ^ q + if rup mo.toInt b (N / 10 ^ q) (if N % 10 ^ (q - 1) = 0 ∧ re = false then (if N / 10 ^ (q - 1) % 10 = 0 then 0 else if N / 10 ^ (q - 1) % 10 < 5 then 1 else if N / 10 ^ (q - 1) % 10 = 5 then 2 else 3) else if N / 10 ^ (q - 1) % 10 < 5 then 1 else 3) = true then 1 else 0 : Nat) : Int) := by
    intro X _ h
    rw [← h]
    cases X with
    | true => rw [if_pos rfl, if_pos rfl, tn_add fm l1 (by omega)]
    | false => rw [if_neg (by simp), if_neg (by simp), fm, Nat.add_zero]
  refine key _ rfl ?_
  clear key
  -- the three answers
  have hmore : (z.1 = true) ↔ ¬ (N % 10 ^ (q - 1) = 0 ∧ re = false) := by
    rw [h1]
    cases re with
    | true => simp
    | false => simp
  unfold Z_X4_rounded_J_154 Z_X4_rounded_J_127 Z_X4_rounded_J_132 Z_X4_rounded_J_138 rup
  simp only [ti_eq, ti_le, ti_lt, tl_eq, hdn, hrem, z0, c1, c3, c4, c5, l1]
  generalize N / 10 ^ (q - 1) % 10 = d at hd10 ⊢
  generalize hKK : N / 10 ^ q = K
  by_cases am : N % 10 ^ (q - 1) = 0 ∧ re = false
  · have hz : ¬ z.1 = true := fun y => hmore.mp y am
    simp only [if_neg hz, if_pos am]
    by_cases d0 : d = 0
    · subst d0; simp
    · by_cases d5 : d < 5
      · have q1 : ¬ (5 : Int) < (d : Int) := by omega
        have q2 : ¬ (d : Int) = 5 := by omega
        have q3 : ¬ (d : Int) ≤ 0 := by omega
        simp only [if_neg q1, if_neg q2, if_neg q3, if_neg d0, if_pos d5]
        by_cases m0 : mo.toInt = 0 <;> by_cases m1 : mo.toInt = 1 <;> by_cases m3 : mo.toInt = 3 <;> by_cases m4 : mo.toInt = 4 <;> cases b <;> simp [m0, m1, m3, m4]
      · by_cases d6 : d = 5
        · subst d6
          by_cases kk : K % 2 = 1
          · have kk' : ((K % 2 : Nat) : Int) = ((1 : Nat) : Int) := by rw [kk]
            by_cases m0 : mo.toInt = 0 <;> by_cases m1 : mo.toInt = 1 <;> by_cases m3 : mo.toInt = 3 <;> by_cases m4 : mo.toInt = 4 <;> cases b <;> simp [m0, m1, m3, m4, kk, kk']
          · have kk' : ¬ ((K % 2 : Nat) : Int) = ((1 : Nat) : Int) := fun y => kk (Int.ofNat.inj y)
            have kk2 : ¬ ((K : Int) % 2 = 1) := by omega
            by_cases m0 : mo.toInt = 0 <;> by_cases m1 : mo.toInt = 1 <;> by_cases m3 : mo.toInt = 3 <;> by_cases m4 : mo.toInt = 4 <;> cases b <;> simp [m0, m1, m3, m4, kk, kk2]
        · have q1 : (5 : Int) < (d : Int) := by omega
          have q2 : ¬ (d : Int) = 5 := by omega
          have q3 : ¬ (d : Int) ≤ 0 := by omega
          simp only [if_pos q1, if_neg q2, if_neg q3, if_neg d0, if_neg d5, if_neg d6]
          by_cases m0 : mo.toInt = 0 <;> by_cases m1 : mo.toInt = 1 <;> by_cases m3 : mo.toInt = 3 <;> by_cases m4 : mo.toInt = 4 <;> cases b <;> simp [m0, m1, m3, m4]
  · have hz : z.1 = true := hmore.mpr am
    simp only [if_pos hz, if_neg am]
    by_cases d5 : d < 5
    · have q1 : ¬ (5 : Int) < (d : Int) := by omega
      have q2 : ¬ (d : Int) = 5 := by omega
      simp only [if_neg q1, if_neg q2, if_pos d5]
      by_cases m0 : mo.toInt = 0 <;> by_cases m1 : mo.toInt = 1 <;> by_cases m3 : mo.toInt = 3 <;> by_cases m4 : mo.toInt = 4 <;> cases b <;> simp [m0, m1, m3, m4]
    · simp only [if_neg d5]
      by_cases d6 : d = 5
      · subst d6
        by_cases m0 : mo.toInt = 0 <;> by_cases m1 : mo.toInt = 1 <;> by_cases m3 : mo.toInt = 3 <;> by_cases m4 : mo.toInt = 4 <;> cases b <;> simp [m0, m1, m3, m4]
      · have q1 : (5 : Int) < (d : Int) := by omega
        have q2 : ¬ (d : Int) = 5 := by omega
        simp only [if_pos q1, if_neg q2]
        by_cases m0 : mo.toInt = 0 <;> by_cases m1 : mo.toInt = 1 <;> by_cases m3 : mo.toInt = 3 <;> by_cases m4 : mo.toInt = 4 <;> cases b <;> simp [m0, m1, m3, m4]
