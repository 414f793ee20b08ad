/-! ===== unpacking: validity, and what the loops need ===== -/
theorem zk_c16 (x : Int64) (g : Bool) : 0 ≤ (Z_X4_unpack_J_154 (Z_X4_unpack_J_145 x g)).toInt ∧ (Z_X4_unpack_J_154 (Z_X4_unpack_J_145 x g)).toInt < 10000000000000000 := by
  have hk1 : (2251799813685247 : Int64).toInt = 2251799813685247 := by decide
  have hk2 : (9007199254740991 : Int64).toInt = 9007199254740991 := by decide
  have hk3 : (9007199254740992 : Int64).toInt = 9007199254740992 := by decide
  have h0 : 0 ≤ (Z_X4_unpack_J_145 x g).toInt := by
    unfold Z_X4_unpack_J_145
    cases g with
    | true =>
      rw [if_pos rfl]
      obtain ⟨a1, a2⟩ := zk_andle (x := x) (k := 2251799813685247) (by rw [hk1]; decide)
      rw [hk1] at a2
      rw [tl_add (by rw [hk3]; omega) (by rw [hk3]; omega), hk3]
      omega
    | false =>
      rw [if_neg (show ¬ false = true by decide)]
      exact (zk_andle (x := x) (k := 9007199254740991) (by rw [hk2]; decide)).1
  unfold Z_X4_unpack_J_154
  have hk4 : (10000000000000000 : Int64).toInt = 10000000000000000 := by decide
  by_cases h : Z_X4_unpack_J_145 x g < 10000000000000000
  · rw [if_pos h]
    rw [tl_lt, hk4] at h
    exact ⟨h0, h⟩
  · rw [if_neg h]
    decide
theorem zk_e0 {e : Int32} (h0 : 0 ≤ e.toInt) (h1 : e.toInt ≤ 767) : (e + (-398)).toInt = e.toInt - 398 := by
  have hk : (-398 : Int32).toInt = -398 := by decide
  rw [ti_add (by rw [hk]; omega) (by rw [hk]; omega), hk]
  omega
theorem zk_uv {p1 : Int32} (hw : p1 = 0 ∨ p1 = 1) (x : Int64) : ∃ c : Nat, (zU p1 x).2.2.1.toInt = (c : Int) ∧ VS (zU p1 x).1.toInt (zU p1 x).2.1 c (zU p1 x).2.2.2.toInt := by
  by_cases c1 : zw x = 31
  · have e : zU p1 x = (2, false, 0, 0) := by
      unfold zU Z_X4_unpack_J_163
      rw [if_pos c1]
      rfl
    rw [e]
    exact ⟨0, rfl, Or.inr (Or.inr ⟨rfl, rfl, rfl, rfl⟩)⟩
  by_cases c0 : zw x = 30
  · have e : zU p1 x = (1, Z_X4_unpack_J_113 x, 0, 0) := by
      unfold zU Z_X4_unpack_J_163
      rw [if_neg c1, if_pos c0]
      rfl
    rw [e]
    exact ⟨0, rfl, Or.inr (Or.inl ⟨rfl, rfl, rfl⟩)⟩
  rcases hw with h | h
  · subst h
    have e : zU 0 x = (0, Z_X4_unpack_J_113 x, Z_X4_unpack_J_154 (Z_X4_unpack_J_145 x (Z_X4_unpack_J_118 (zw x))), ((jshrL x (Z_X4_unpack_J_149 (Z_X4_unpack_J_118 (zw x)))) &&& 1023).toInt32 + (-398)) := by
      unfold zU Z_X4_unpack_J_163
      rw [if_neg c1, if_neg c0, if_pos (show (0 : Int32) = 0 from rfl)]
      rfl
    rw [e]
    dsimp only
    obtain ⟨a1, a2⟩ := zk_c16 x (Z_X4_unpack_J_118 (zw x))
    obtain ⟨b1, b2⟩ := zk_e10 x c0 c1
    rw [zk_e0 b1 b2]
    exact ⟨_, (Int.toNat_of_nonneg a1).symm, Or.inl ⟨rfl, by omega, by omega, by omega⟩⟩
  · subst h
    have e := zk_mdD (Z_X4_unpack_J_113 x) (Z_X4_unpack_J_118 (zw x)) (zw x) x c0 c1
    rw [show zU 1 x = _ from e]
    dsimp only
    have hd : (0 ≤ (Z_X4_unpack_J_125 (zw x) (Z_X4_unpack_J_118 (zw x))).toInt ∧ (Z_X4_unpack_J_125 (zw x) (Z_X4_unpack_J_118 (zw x))).toInt ≤ 9) ∧ 0 ≤ (Z_X4_unpack_J_129 (zw x) (Z_X4_unpack_J_118 (zw x))).toInt ∧ (Z_X4_unpack_J_129 (zw x) (Z_X4_unpack_J_118 (zw x))).toInt ≤ 2 := by
      unfold zw at c0 c1 ⊢
      obtain ⟨n, hn⟩ := zk_v x
      rw [hn] at c0 c1 ⊢
      exact ⟨pv_3 n _, pv_4 n c0 c1⟩
    obtain ⟨⟨d1, d2⟩, d3, d4⟩ := hd
    obtain ⟨a1, a2⟩ := zk_A (x := x) d1 d2
    have hb : 0 ≤ ((jshrL x 50) &&& 255).toInt32.toInt ∧ ((jshrL x 50) &&& 255).toInt32.toInt ≤ 255 := by
      rw [← (zk_dig x true).2.2]
      obtain ⟨n, hn⟩ := zk_lo x 50
      rw [hn]
      exact pv_5 n
    obtain ⟨b1, b2⟩ := hb
    have hk : (256 : Int32).toInt = 256 := by decide
    have m1 : (Z_X4_unpack_J_129 (zw x) (Z_X4_unpack_J_118 (zw x)) * 256).toInt = (Z_X4_unpack_J_129 (zw x) (Z_X4_unpack_J_118 (zw x))).toInt * 256 := by rw [ti_mul (by rw [hk]; omega) (by rw [hk]; omega), hk]
    have m2 : (Z_X4_unpack_J_129 (zw x) (Z_X4_unpack_J_118 (zw x)) * 256 + ((jshrL x 50) &&& 255).toInt32).toInt = (Z_X4_unpack_J_129 (zw x) (Z_X4_unpack_J_118 (zw x))).toInt * 256 + ((jshrL x 50) &&& 255).toInt32.toInt := by rw [ti_add (by rw [m1]; omega) (by rw [m1]; omega), m1]
    rw [zk_e0 (by rw [m2]; omega) (by rw [m2]; omega), m2]
    exact ⟨_, (Int.toNat_of_nonneg a1).symm, Or.inl ⟨rfl, by omega, by omega, by omega⟩⟩
