/-! ===== unpacking: what a word says, on both sides ===== -/
def zw (x : Int64) : Int32 := (jushrL x 58 &&& 31).toInt32
theorem zk_zw (x : Int64) : (jshrL x 58 &&& 31).toInt32 = zw x := by
  unfold zw
  rw [show (58 : Int32) = pkN 58 from rfl, zk_sh x 31 58 5 (by decide) lbM_31 (by decide)]
theorem zk_gr (x : Int64) : Z_X2_readBinary_J_104 x = Z_X4_unpack_J_118 (zw x) := by
  unfold Z_X2_readBinary_J_104 Z_X4_unpack_J_118 zw
  obtain ⟨n, hn⟩ := zk_v x
  have hg := zk_great x
  rw [hn] at hg ⊢
  rw [pv_great n] at hg
  by_cases h : x &&& 6917529027641081856 = 6917529027641081856
  · rw [if_pos h, if_pos (of_decide_eq_true (hg.mp h))]
  · rw [if_neg h, if_neg (fun h9 => h (hg.mpr (decide_eq_true h9)))]
theorem zk_or (x : Int64) : 9007199254740992 ||| (x &&& 2251799813685247) = (x &&& 2251799813685247) + 9007199254740992 := by
  rw [Int64.or_comm]
  refine Int64.toBitVec_inj.mp ?_
  rw [Int64.toBitVec_or, Int64.toBitVec_add, BitVec.add_eq_or_of_and_eq_zero]
  rw [← Int64.toBitVec_and, Int64.and_assoc, show (2251799813685247 : Int64) &&& 9007199254740992 = 0 from by decide, Int64.and_zero]
  rfl
theorem zk_bin (x : Int64) (g : Bool) : Z_X2_readBinary_J_117 (Z_X2_readBinary_J_113 x g) = Z_X4_unpack_J_154 (Z_X4_unpack_J_145 x g) ∧ ((jushrL x (Z_X2_readBinary_J_108 g)) &&& 1023).toInt32 = ((jshrL x (Z_X4_unpack_J_149 g)) &&& 1023).toInt32 := by
  have hz : ∀ z : Int64, Z_X2_readBinary_J_117 z = Z_X4_unpack_J_154 z := by
    intro z
    unfold Z_X2_readBinary_J_117 Z_X4_unpack_J_154
    by_cases h : 10000000000000000 ≤ z
    · rw [if_pos h, if_neg (fun h9 => by rw [tl_le] at h; rw [tl_lt] at h9; omega)]
    · rw [if_neg h, if_pos (by rw [tl_le] at h; rw [tl_lt]; omega)]
  cases g with
  | true =>
    constructor
    · rw [hz]
      unfold Z_X2_readBinary_J_113 Z_X4_unpack_J_145
      rw [if_pos rfl, if_pos rfl, zk_or]
    · show ((jushrL x (pkN 51)) &&& 1023).toInt32 = ((jshrL x (pkN 51)) &&& 1023).toInt32
      rw [zk_sh x 1023 51 10 (by decide) lbM_1023 (by decide)]
  | false =>
    constructor
    · rw [hz]
      unfold Z_X2_readBinary_J_113 Z_X4_unpack_J_145
      rw [if_neg (show ¬ false = true by decide), if_neg (show ¬ false = true by decide)]
    · show ((jushrL x (pkN 53)) &&& 1023).toInt32 = ((jshrL x (pkN 53)) &&& 1023).toInt32
      rw [zk_sh x 1023 53 10 (by decide) lbM_1023 (by decide)]
theorem zk_dig (x : Int64) (g : Bool) : Z_X2_readDigits_J_113 x g = Z_X4_unpack_J_125 (zw x) g ∧ ((jushrL x (Z_X2_readDigits_J_108 g)) &&& 3).toInt32 = Z_X4_unpack_J_129 (zw x) g ∧ ((jushrL x 50) &&& 255).toInt32 = ((jshrL x 50) &&& 255).toInt32 := by
  have h50 : jushrL x 50 &&& 255 = jshrL x 50 &&& 255 := zk_sh x 255 50 8 (by decide) lbM_255 (by decide)
  obtain ⟨n, hn⟩ := zk_v x
  unfold Z_X2_readDigits_J_113 Z_X4_unpack_J_125 Z_X2_readDigits_J_108 Z_X4_unpack_J_129 zw
  refine ⟨?_, ?_, by rw [h50]⟩
  · rw [zk_m1, zk_m7, hn, (pv_1 n).1, (pv_1 n).2]
  · cases g with
    | true =>
      rw [if_pos rfl, if_pos rfl, zk_59, hn, (pv_2 n).1]
    | false =>
      show ((jushrL x 61) &&& 3).toInt32 = jshr ((jushrL x 58 &&& 31).toInt32) 3
      rw [zk_61, hn, (pv_2 n).2]
/-- what a word says -/
def zU (p1 : Int32) (x : Int64) : Int32 × Bool × Int64 × Int32 := Z_X4_unpack_J_163 p1 x (Z_X4_unpack_J_113 x) (zw x) (Z_X4_unpack_J_118 (zw x))
def zP (so : Nat → Int32) (mi : Nat → Bool) (co : Nat → Int64) (ex : Nat → Int32) (i : Nat) (u : Int32 × Bool × Int64 × Int32) : (Nat → Int32) × (Nat → Bool) × (Nat → Int64) × (Nat → Int32) := (va_up so i u.1, va_up mi i u.2.1, va_up co i u.2.2.1, va_up ex i u.2.2.2)
theorem zk_rdD (so : Nat → Int32) (mi : Nat → Bool) (co : Nat → Int64) (ex : Nat → Int32) (i : Nat) (z : Bool) (x : Int64) : F_X2_readDigits so mi co ex i z x = zP so mi co ex i (0, z, zA x (Z_X4_unpack_J_125 (zw x) (Z_X4_unpack_J_118 (zw x))), ((Z_X4_unpack_J_129 (zw x) (Z_X4_unpack_J_118 (zw x))) * 256 + ((jshrL x 50) &&& 255).toInt32) + (-398)) := by
  have h4 : Z_X2_readDigits_J_104 x = Z_X4_unpack_J_118 (zw x) := zk_gr x
  unfold F_X2_readDigits bnd
  dsimp only
  rw [h4, (zk_dig x _).1, (zk_dig x _).2.1, (zk_dig x true).2.2, zk_rd]
  rfl
theorem zk_mdD (z g : Bool) (w : Int32) (x : Int64) (c0 : ¬ w = 30) (c1 : ¬ w = 31) : Z_X4_unpack_J_163 1 x z w g = (0, z, zA x (Z_X4_unpack_J_125 w g), ((Z_X4_unpack_J_129 w g) * 256 + ((jshrL x 50) &&& 255).toInt32) + (-398)) := by
  unfold Z_X4_unpack_J_163
  rw [if_neg c1, if_neg c0, if_neg (show ¬ (1 : Int32) = 0 by decide)]
  unfold bnd
  dsimp only
  rw [zk_md]
  rfl
theorem zk_read (so : Nat → Int32) (mi : Nat → Bool) (co : Nat → Int64) (ex : Nat → Int32) (i : Nat) {p1 : Int32} (hw : p1 = 0 ∨ p1 = 1) (x : Int64) : F_X2_read so mi co ex i (if p1 = 0 then false else true) x = zP so mi co ex i (zU p1 x) := by
  unfold F_X2_read bnd zU Z_X4_unpack_J_163
  dsimp only
  have hm : Z_X2_read_J_104 x = Z_X4_unpack_J_113 x := rfl
  rw [hm]
  have h30 : (jushrL x 58 &&& 31 = 30 ↔ zw x = 30) ∧ (jushrL x 58 &&& 31 = 31 ↔ zw x = 31) := by
    unfold zw
    obtain ⟨n, hn⟩ := zk_v x
    rw [hn]
    exact pv_30 n
  by_cases c0 : zw x = 30
  · rw [if_pos (h30.1.mpr c0), if_neg (show ¬ zw x = 31 by rw [c0]; decide), if_pos c0]
    rfl
  by_cases c1 : zw x = 31
  · rw [if_neg (fun h => c0 (h30.1.mp h)), if_pos (h30.2.mpr c1), if_pos c1]
    rfl
  rw [if_neg (fun h => c0 (h30.1.mp h)), if_neg (fun h => c1 (h30.2.mp h)), if_neg c1, if_neg c0]
  rcases hw with h | h
  · subst h
    rw [if_pos (show (0 : Int32) = 0 from rfl), if_neg (show ¬ false = true by decide), if_pos (show (0 : Int32) = 0 from rfl)]
    show zP so mi co ex i (0, Z_X4_unpack_J_113 x, Z_X2_readBinary_J_117 (Z_X2_readBinary_J_113 x (Z_X2_readBinary_J_104 x)), ((jushrL x (Z_X2_readBinary_J_108 (Z_X2_readBinary_J_104 x))) &&& 1023).toInt32 + (-398)) = zP so mi co ex i (0, Z_X4_unpack_J_113 x, Z_X4_unpack_J_154 (Z_X4_unpack_J_145 x (Z_X4_unpack_J_118 (zw x))), ((jshrL x (Z_X4_unpack_J_149 (Z_X4_unpack_J_118 (zw x)))) &&& 1023).toInt32 + (-398))
    rw [zk_gr, (zk_bin x _).1, (zk_bin x _).2]
  · subst h
    rw [if_neg (show ¬ (1 : Int32) = 0 by decide), if_pos (show true = true from rfl), zk_rdD, ← zk_mdD (Z_X4_unpack_J_113 x) (Z_X4_unpack_J_118 (zw x)) (zw x) x c0 c1]
    unfold Z_X4_unpack_J_163
    rw [if_neg c1, if_neg c0]
