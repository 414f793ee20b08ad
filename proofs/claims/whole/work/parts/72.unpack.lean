/-! ===== unpacking: the bits of a word on both sides ===== -/
def lb (x : Int64) (i : Nat) : Bool := x.toBitVec.getLsbD i
theorem lb_ext {x y : Int64} (h : ∀ i, i < 64 → lb x i = lb y i) : x = y := Int64.toBitVec_inj.mp (BitVec.eq_of_getLsbD_eq (fun i hi => h i hi))
theorem lb_and (x y : Int64) (i : Nat) : lb (x &&& y) i = (lb x i && lb y i) := by unfold lb; rw [Int64.toBitVec_and, BitVec.getLsbD_and]
theorem lb_su : ∀ n, n < 64 → (((pkN n).toInt64.toUInt64 &&& Int64.toUInt64 63).toBitVec % 64).toNat = n := by decide +kernel
theorem lb_sl : ∀ n, n < 64 → (((pkN n).toInt64 &&& 63).toBitVec.smod 64).toNat = n := by decide +kernel
theorem lb_ushr (n : Nat) (hn : n < 64) (x : Int64) (i : Nat) : lb (jushrL x (pkN n)) i = lb x (n + i) := by
  show (x.toUInt64 >>> ((pkN n).toInt64.toUInt64 &&& Int64.toUInt64 63)).toBitVec.getLsbD i = x.toUInt64.toBitVec.getLsbD (n + i)
  rw [UInt64.toBitVec_shiftRight]
  show (x.toUInt64.toBitVec >>> (((pkN n).toInt64.toUInt64 &&& Int64.toUInt64 63).toBitVec % 64).toNat).getLsbD i = _
  rw [lb_su n hn, BitVec.getLsbD_ushiftRight]
theorem lb_sshr (n : Nat) (hn : n < 64) (x : Int64) {i : Nat} (hi : i < 64) : lb (jshrL x (pkN n)) i = if n + i < 64 then lb x (n + i) else lb x 63 := by
  unfold lb jshrL
  rw [Int64.toBitVec_shiftRight]
  show (x.toBitVec.sshiftRight (((pkN n).toInt64 &&& 63).toBitVec.smod 64).toNat).getLsbD i = _
  rw [lb_sl n hn, BitVec.getLsbD_sshiftRight, BitVec.msb_eq_getLsbD_last]
  simp [hi]
def lbM (k : Int64) (b : Nat) : Prop := ∀ i, i < 64 → lb k i = true → i < b
theorem lbM_31 : lbM 31 5 := by unfold lbM; decide +kernel
theorem lbM_1023 : lbM 1023 10 := by unfold lbM; decide +kernel
theorem lbM_255 : lbM 255 8 := by unfold lbM; decide +kernel
theorem lbM_7 : lbM 7 3 := by unfold lbM; decide +kernel
theorem lbM_3 : lbM 3 2 := by unfold lbM; decide +kernel
theorem lbM_1 : lbM 1 1 := by unfold lbM; decide +kernel
/-- under a mask the two shifts are one -/
theorem zk_sh (x k : Int64) (n b : Nat) (hn : n < 64) (hk : lbM k b) (h : n + b ≤ 64) : jushrL x (pkN n) &&& k = jshrL x (pkN n) &&& k := by
  refine lb_ext (fun i hi => ?_)
  rw [lb_and, lb_and]
  cases hb : lb k i with
  | false => rw [Bool.and_false, Bool.and_false]
  | true =>
    have := hk i hi hb
    rw [lb_ushr n hn, lb_sshr n hn x hi, if_pos (by omega)]
/-- a masked part of a masked part -/
theorem zk_sub (x k m : Int64) (n j b : Nat) (hn : n + j < 64) (hk : lbM k b) (hm : ∀ i, i < b → lb m (j + i) = true) : jushrL x (pkN (n + j)) &&& k = jushrL (jushrL x (pkN n) &&& m) (pkN j) &&& k := by
  refine lb_ext (fun i hi => ?_)
  rw [lb_and, lb_and]
  cases hb : lb k i with
  | false => rw [Bool.and_false, Bool.and_false]
  | true =>
    have := hk i hi hb
    rw [lb_ushr (n + j) hn, lb_ushr j (by omega), lb_and, lb_ushr n (by omega), hm i this, Nat.add_assoc]
    simp only [Bool.and_true]
/-- a masked value is small -/
theorem zk_small {x k : Int64} (b : Nat) (hb : b < 32) (hk : (k.toBitVec.toNat) < 2 ^ b) : ∃ n : Fin (2 ^ b), x &&& k = pkE n.val := by
  have h1 : (x &&& k).toBitVec.toNat < 2 ^ b := by
    rw [Int64.toBitVec_and, BitVec.toNat_and]
    exact Nat.lt_of_le_of_lt Nat.and_le_right hk
  refine ⟨⟨(x &&& k).toBitVec.toNat, h1⟩, Int64.toBitVec_inj.mp ?_⟩
  show _ = BitVec.ofNat 64 _
  simp
theorem zk_v (x : Int64) : ∃ n : Fin 32, jushrL x 58 &&& 31 = pkE n.val := zk_small 5 (by decide) (by decide)
theorem zk_g (x : Int64) : ∃ n : Fin 1024, jushrL x 58 &&& 1023 = pkE n.val := zk_small 10 (by decide) (by decide)
theorem zk_f (x : Int64) (j : Int32) : ∃ n : Fin 1024, jushrL x j &&& 1023 = pkE n.val := zk_small 10 (by decide) (by decide)
theorem zk_lo (x : Int64) (j : Int32) : ∃ n : Fin 256, jushrL x j &&& 255 = pkE n.val := zk_small 8 (by decide) (by decide)
/-! what follows from the five bits -/
theorem pv_30 : ∀ n : Fin 32, (pkE n.val = 30 ↔ (pkE n.val).toInt32 = 30) ∧ (pkE n.val = 31 ↔ (pkE n.val).toInt32 = 31) := by decide +kernel
theorem pv_great : ∀ n : Fin 32, (lb (pkE n.val) 3 && lb (pkE n.val) 4) = decide (jshr (pkE n.val).toInt32 3 = 3) := by decide +kernel
theorem pv_1 : ∀ n : Fin 32, 8 ||| (pkE n.val &&& 1) = (8 + ((pkE n.val).toInt32 &&& 1)).toInt64 ∧ pkE n.val &&& 7 = ((pkE n.val).toInt32 &&& 7).toInt64 := by decide +kernel
theorem pv_2 : ∀ n : Fin 32, (jushrL (pkE n.val) 1 &&& 3).toInt32 = jshr (pkE n.val).toInt32 1 &&& 3 ∧ (jushrL (pkE n.val) 3 &&& 3).toInt32 = jshr (pkE n.val).toInt32 3 := by decide +kernel
theorem zk_m1 (x : Int64) : jushrL x 58 &&& 1 = (jushrL x 58 &&& 31) &&& 1 := by rw [Int64.and_assoc]; rfl
theorem zk_m7 (x : Int64) : jushrL x 58 &&& 7 = (jushrL x 58 &&& 31) &&& 7 := by rw [Int64.and_assoc]; rfl
theorem zk_59 (x : Int64) : jushrL x 59 &&& 3 = jushrL (jushrL x 58 &&& 31) 1 &&& 3 := zk_sub x 3 31 58 1 2 (by decide) lbM_3 (by decide +kernel)
theorem zk_61 (x : Int64) : jushrL x 61 &&& 3 = jushrL (jushrL x 58 &&& 31) 3 &&& 3 := zk_sub x 3 31 58 3 2 (by decide) lbM_3 (by decide +kernel)
theorem zk_great (x : Int64) : (x &&& 6917529027641081856 = 6917529027641081856) ↔ (lb (jushrL x 58 &&& 31) 3 && lb (jushrL x 58 &&& 31) 4) = true := by
  have hM : ∀ i, i < 64 → lb 6917529027641081856 i = (decide (i = 61) || decide (i = 62)) := by decide +kernel
  have a3 : lb (jushrL x 58 &&& 31) 3 = lb x 61 := by
    rw [lb_and, show (58 : Int32) = pkN 58 from rfl, lb_ushr 58 (by decide), show lb 31 3 = true from by decide +kernel, Bool.and_true]
  have a4 : lb (jushrL x 58 &&& 31) 4 = lb x 62 := by
    rw [lb_and, show (58 : Int32) = pkN 58 from rfl, lb_ushr 58 (by decide), show lb 31 4 = true from by decide +kernel, Bool.and_true]
  rw [a3, a4]
  constructor
  · intro h
    have b1 : lb (x &&& 6917529027641081856) 61 = lb 6917529027641081856 61 := by rw [h]
    have b2 : lb (x &&& 6917529027641081856) 62 = lb 6917529027641081856 62 := by rw [h]
    rw [lb_and, hM 61 (by decide)] at b1
    rw [lb_and, hM 62 (by decide)] at b2
    have c1 : lb x 61 = true := by simpa using b1
    have c2 : lb x 62 = true := by simpa using b2
    rw [c1, c2]
    rfl
  · intro h
    obtain ⟨c1, c2⟩ := (Bool.and_eq_true _ _).mp h
    refine lb_ext (fun i hi => ?_)
    rw [lb_and]
    by_cases e1 : i = 61
    · subst e1; rw [c1, Bool.true_and]
    · by_cases e2 : i = 62
      · subst e2; rw [c2, Bool.true_and]
      · rw [hM i hi, decide_eq_false e1, decide_eq_false e2]
        simp
/-! the two loops over groups -/
def zT (x : Int64) (j : Int32) : Int64 := (F_X4_three ((jushrL x j &&& 1023).toInt32)).toInt64
def zS (x a : Int64) (j : Int32) : Int64 := a * 1000 + zT x j
theorem zk_en : ∀ n : Fin 1024, (pkE n.val).toInt32 = pkN n.val := by decide +kernel
theorem zk_grp3 (x : Int64) (j : Int32) : F_X2_digitsOfGroup ((jushrL x j &&& 1023).toInt32) = F_X4_three ((jushrL x j &&& 1023).toInt32) ∧ 0 ≤ (zT x j).toInt ∧ (zT x j).toInt ≤ 999 := by
  unfold zT
  obtain ⟨n, hn⟩ := zk_f x j
  rw [hn, zk_en n, ti_long]
  exact zk_three n
theorem zk_s2 (x a : Int64) (i j : Int32) (h : 10 * i = j) : a * 1000 + (F_X2_digitsOfGroup (((jushrL x (10 * i)) &&& 1023).toInt32)).toInt64 = zS x a j := by
  rw [h, (zk_grp3 x j).1]
  rfl
theorem zk_s4 (x a : Int64) (i : Int32) (n : Nat) (h : 10 * i = pkN n) (hn : n + 10 ≤ 64) : 1000 * a + (F_X4_three (((jshrL x (10 * i)) &&& 1023).toInt32)).toInt64 = zS x a (pkN n) := by
  rw [h, ← zk_sh x 1023 n 10 (by omega) lbM_1023 hn, Int64.mul_comm]
  rfl
def zA (x d : Int64) : Int64 := zS x (zS x (zS x (zS x (zS x d 40) 30) 20) 10) 0
theorem zk_b2 (x a : Int64) (i j i2 : Int32) (h0 : ¬ i < 0) (h : 10 * i = j) (h2 : i + (-1) = i2) : B_X2_readDigits_71 x (a, i) = (zS x a j, i2) := by
  unfold B_X2_readDigits_71 bnd
  rw [if_neg h0, ← zk_s2 x a i j h, ← h2]
theorem zk_g2 (x a : Int64) (i : Int32) (h0 : ¬ i < 0) : G_X2_readDigits_71 x (a, i) = true := by
  unfold G_X2_readDigits_71 bnd
  rw [if_neg h0]
theorem zk_b4 (x a : Int64) (i : Int32) (n : Nat) (i2 : Int32) (h0 : ¬ i < 0) (h : 10 * i = pkN n) (hn : n + 10 ≤ 64) (h2 : i + (-1) = i2) : B_X4_unpack_255 x (i, a) = (i2, zS x a (pkN n)) := by
  unfold B_X4_unpack_255 bnd
  rw [if_neg h0, ← zk_s4 x a i n h hn, ← h2]
theorem zk_g4 (x a : Int64) (i : Int32) (h0 : ¬ i < 0) : G_X4_unpack_255 x (i, a) = true := by
  unfold G_X4_unpack_255 bnd
  rw [if_neg h0]
theorem zk_rd (x d : Int64) : wl (G_X2_readDigits_71 x) (B_X2_readDigits_71 x) 6 (d, 4) = (zA x d, -1) := by
  rw [wl_t _ _ 5 _ (zk_g2 x _ 4 (by decide)), zk_b2 x _ 4 40 3 (by decide) (by decide) (by decide)]
  rw [wl_t _ _ 4 _ (zk_g2 x _ 3 (by decide)), zk_b2 x _ 3 30 2 (by decide) (by decide) (by decide)]
  rw [wl_t _ _ 3 _ (zk_g2 x _ 2 (by decide)), zk_b2 x _ 2 20 1 (by decide) (by decide) (by decide)]
  rw [wl_t _ _ 2 _ (zk_g2 x _ 1 (by decide)), zk_b2 x _ 1 10 0 (by decide) (by decide) (by decide)]
  rw [wl_t _ _ 1 _ (zk_g2 x _ 0 (by decide)), zk_b2 x _ 0 0 (-1) (by decide) (by decide) (by decide)]
  exact wl_f _ _ _ _ (show ¬ false = true from by decide)
theorem zk_md (x d : Int64) : wl (G_X4_unpack_255 x) (B_X4_unpack_255 x) 901 (4, d) = (-1, zA x d) := by
  rw [wl_t _ _ 900 _ (zk_g4 x _ 4 (by decide)), zk_b4 x _ 4 40 3 (by decide) (by decide) (by decide) (by decide)]
  rw [wl_t _ _ 899 _ (zk_g4 x _ 3 (by decide)), zk_b4 x _ 3 30 2 (by decide) (by decide) (by decide) (by decide)]
  rw [wl_t _ _ 898 _ (zk_g4 x _ 2 (by decide)), zk_b4 x _ 2 20 1 (by decide) (by decide) (by decide) (by decide)]
  rw [wl_t _ _ 897 _ (zk_g4 x _ 1 (by decide)), zk_b4 x _ 1 10 0 (by decide) (by decide) (by decide) (by decide)]
  rw [wl_t _ _ 896 _ (zk_g4 x _ 0 (by decide)), zk_b4 x _ 0 0 (-1) (by decide) (by decide) (by decide) (by decide)]
  exact wl_f _ _ _ _ (show ¬ false = true from by decide)
theorem zk_st {x a : Int64} {j : Int32} {n : Int} (h0 : 0 ≤ a.toInt) (h1 : a.toInt ≤ n) (hn : n ≤ 10000000000000) : 0 ≤ (zS x a j).toInt ∧ (zS x a j).toInt ≤ n * 1000 + 999 := by
  obtain ⟨-, t0, t1⟩ := zk_grp3 x j
  have hk : (1000 : Int64).toInt = 1000 := by decide
  unfold zS
  have e1 : (a * 1000).toInt = a.toInt * 1000 := by rw [tl_mul (by rw [hk]; omega) (by rw [hk]; omega), hk]
  rw [tl_add (by rw [e1]; omega) (by rw [e1]; omega), e1]
  omega
theorem zk_A {x d : Int64} (h0 : 0 ≤ d.toInt) (h1 : d.toInt ≤ 9) : 0 ≤ (zA x d).toInt ∧ (zA x d).toInt ≤ 9999999999999999 := by
  unfold zA
  obtain ⟨a1, a2⟩ := zk_st (x := x) (j := 40) h0 h1 (by decide)
  obtain ⟨b1, b2⟩ := zk_st (x := x) (j := 30) a1 a2 (by decide)
  obtain ⟨c1, c2⟩ := zk_st (x := x) (j := 20) b1 b2 (by decide)
  obtain ⟨d1, d2⟩ := zk_st (x := x) (j := 10) c1 c2 (by decide)
  obtain ⟨e1, e2⟩ := zk_st (x := x) (j := 0) d1 d2 (by decide)
  exact ⟨e1, e2⟩
