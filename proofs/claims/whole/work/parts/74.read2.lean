/-! ===== unpacking: what a word says is a datum ===== -/
theorem pv_3 : ∀ n : Fin 32, ∀ g : Bool, 0 ≤ (Z_X4_unpack_J_125 (pkE n.val).toInt32 g).toInt ∧ (Z_X4_unpack_J_125 (pkE n.val).toInt32 g).toInt ≤ 9 := by decide +kernel
theorem pv_4 : ∀ n : Fin 32, ¬ (pkE n.val).toInt32 = 30 → ¬ (pkE n.val).toInt32 = 31 → 0 ≤ (Z_X4_unpack_J_129 (pkE n.val).toInt32 (Z_X4_unpack_J_118 (pkE n.val).toInt32)).toInt ∧ (Z_X4_unpack_J_129 (pkE n.val).toInt32 (Z_X4_unpack_J_118 (pkE n.val).toInt32)).toInt ≤ 2 := by decide +kernel
theorem pv_5 : ∀ n : Fin 256, 0 ≤ (pkE n.val).toInt32.toInt ∧ (pkE n.val).toInt32.toInt ≤ 255 := by decide +kernel
theorem pv_6 : ∀ n : Fin 1024, 0 ≤ (pkE n.val).toInt32.toInt ∧ ((pkE n.val).toInt32.toInt ≤ 767 ∨ (lb (pkE n.val) 8 && lb (pkE n.val) 9) = true) := by decide +kernel
theorem pv_7 : ∀ n : Fin 32, (lb (pkE n.val) 1 && lb (pkE n.val) 2) = true → (lb (pkE n.val) 3 && lb (pkE n.val) 4) = true → (pkE n.val).toInt32 = 30 ∨ (pkE n.val).toInt32 = 31 := by decide +kernel
theorem zk_lbv (x : Int64) (j : Nat) (hj : j < 5) : lb (jushrL x 58 &&& 31) j = lb x (58 + j) := by
  have hM : ∀ j, j < 5 → lb 31 j = true := by decide +kernel
  rw [lb_and, show (58 : Int32) = pkN 58 from rfl, lb_ushr 58 (by decide), hM j hj, Bool.and_true]
theorem zk_lbf (x : Int64) (n j : Nat) (hn : n < 64) (hj : j < 10) : lb (jushrL x (pkN n) &&& 1023) j = lb x (n + j) := by
  have hM : ∀ j, j < 10 → lb 1023 j = true := by decide +kernel
  rw [lb_and, lb_ushr n hn, hM j hj, Bool.and_true]
/-- the exponent's ten bits -/
theorem zk_e10 (x : Int64) (c0 : ¬ zw x = 30) (c1 : ¬ zw x = 31) : 0 ≤ ((jshrL x (Z_X4_unpack_J_149 (Z_X4_unpack_J_118 (zw x)))) &&& 1023).toInt32.toInt ∧ ((jshrL x (Z_X4_unpack_J_149 (Z_X4_unpack_J_118 (zw x)))) &&& 1023).toInt32.toInt ≤ 767 := by
  rw [← (zk_bin x _).2]
  unfold zw at c0 c1 ⊢
  obtain ⟨v, hv⟩ := zk_v x
  have b1 := zk_lbv x 1 (by decide)
  have b2 := zk_lbv x 2 (by decide)
  have b3 := zk_lbv x 3 (by decide)
  have b4 := zk_lbv x 4 (by decide)
  rw [hv] at c0 c1 b1 b2 b3 b4 ⊢
  have hg := pv_great v
  by_cases h : jshr (pkE v.val).toInt32 3 = 3
  · have hz : Z_X4_unpack_J_118 (pkE v.val).toInt32 = true := by unfold Z_X4_unpack_J_118; rw [if_pos h]
    rw [hz]
    show 0 ≤ ((jushrL x (pkN 51)) &&& 1023).toInt32.toInt ∧ ((jushrL x (pkN 51)) &&& 1023).toInt32.toInt ≤ 767
    have q8 := zk_lbf x 51 8 (by decide) (by decide)
    have q9 := zk_lbf x 51 9 (by decide) (by decide)
    obtain ⟨n, hn⟩ := zk_f x (pkN 51)
    rw [hn] at q8 q9 ⊢
    obtain ⟨e1, e2 | e2⟩ := pv_6 n
    · exact ⟨e1, e2⟩
    · rw [q8, q9] at e2
      rw [decide_eq_true h] at hg
      have := pv_7 v (by rw [b1, b2]; exact e2) hg
      rcases this with h9 | h9
      · exact absurd h9 c0
      · exact absurd h9 c1
  · have hz : Z_X4_unpack_J_118 (pkE v.val).toInt32 = false := by unfold Z_X4_unpack_J_118; rw [if_neg h]
    rw [hz]
    show 0 ≤ ((jushrL x (pkN 53)) &&& 1023).toInt32.toInt ∧ ((jushrL x (pkN 53)) &&& 1023).toInt32.toInt ≤ 767
    have q8 := zk_lbf x 53 8 (by decide) (by decide)
    have q9 := zk_lbf x 53 9 (by decide) (by decide)
    obtain ⟨n, hn⟩ := zk_f x (pkN 53)
    rw [hn] at q8 q9 ⊢
    obtain ⟨e1, e2 | e2⟩ := pv_6 n
    · exact ⟨e1, e2⟩
    · rw [q8, q9] at e2
      rw [decide_eq_false h, b3, b4] at hg
      exact absurd (hg.symm.trans e2) (by decide)
theorem zk_andle {x k : Int64} (hk : 0 ≤ k.toInt) : 0 ≤ (x &&& k).toInt ∧ (x &&& k).toInt ≤ k.toInt := by
  have h1 : (x &&& k).toBitVec.toNat ≤ k.toBitVec.toNat := by
    rw [Int64.toBitVec_and, BitVec.toNat_and]
    exact Nat.and_le_right
  have h2 := k.toBitVec.isLt
  have h3 : k.toInt = k.toBitVec.toInt := rfl
  have h4 : (x &&& k).toInt = (x &&& k).toBitVec.toInt := rfl
  rw [BitVec.toInt_eq_toNat_cond] at h3 h4
  by_cases h5 : 2 * k.toBitVec.toNat < 2 ^ 64
  · rw [if_pos h5] at h3
    rw [if_pos (by omega)] at h4
    omega
  · rw [if_neg h5] at h3
    omega
