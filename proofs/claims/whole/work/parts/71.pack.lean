/-! ===== packing: groups of three digits, words by digits and by bits, on both sides ===== -/
def pkN (n : Nat) : Int32 := Int32.ofNat n
set_option maxRecDepth 100000 in
theorem zk_group : ∀ n : Fin 1000, F_X2_groupOf (pkN n.val / 100) (jrem (pkN n.val / 10) 10) (jrem (pkN n.val) 10) = F_X4_ten (pkN n.val / 100) (jrem (pkN n.val / 10) 10) (jrem (pkN n.val) 10) := by decide +kernel
set_option maxRecDepth 100000 in
theorem zk_three : ∀ n : Fin 1024, F_X2_digitsOfGroup (pkN n.val) = F_X4_three (pkN n.val) ∧ 0 ≤ (F_X4_three (pkN n.val)).toInt ∧ (F_X4_three (pkN n.val)).toInt ≤ 999 := by decide +kernel
theorem zk_of {x : Int32} {N : Nat} (h1 : 0 ≤ x.toInt) (h2 : x.toInt < (N : Int)) : ∃ n : Fin N, x = pkN n.val := by
  refine ⟨⟨x.toInt.toNat, by omega⟩, ?_⟩
  have h3 := ti_hi x
  refine ti_eq.mpr ?_
  show x.toInt = (Int32.ofNat x.toInt.toNat).toInt
  rw [Int32.toInt_ofNat_of_lt (by omega)]
  omega
theorem zk_grp {x : Int32} (h1 : 0 ≤ x.toInt) (h2 : x.toInt < 1000) : F_X2_groupOf (x / 100) (jrem (x / 10) 10) (jrem x 10) = F_X4_ten (x / 100) (jrem (x / 10) 10) (jrem x 10) := by
  obtain ⟨n, rfl⟩ := zk_of (N := 1000) h1 h2
  exact zk_group n
def pkG (c : Int64) (i : Int32) : Int64 := jshlL ((F_X4_ten ((jremL c 1000).toInt32 / 100) (jrem ((jremL c 1000).toInt32 / 10) 10) (jrem (jremL c 1000).toInt32 10)).toInt64) (10 * i)
def pkD (c : Int64) (i : Int32) : Int64 := jshlL ((F_X2_groupOf ((jremL (c / (F_X3_tenTo (3 * i))) 1000).toInt32 / 100) (jrem ((jremL (c / (F_X3_tenTo (3 * i))) 1000).toInt32 / 10) 10) (jrem (jremL (c / (F_X3_tenTo (3 * i))) 1000).toInt32 10)).toInt64) (10 * i)
theorem zk_rem {c : Int64} (h : 0 ≤ c.toInt) : 0 ≤ (jremL c 1000).toInt32.toInt ∧ (jremL c 1000).toInt32.toInt < 1000 := by
  have e : (jremL c 1000).toInt = c.toInt % 1000 := tl_rem h (by decide)
  have h1 := Int.emod_nonneg c.toInt (show (1000 : Int) ≠ 0 by decide)
  have h2 := Int.emod_lt_of_pos c.toInt (show (0 : Int) < 1000 by decide)
  have e2 : (jremL c 1000).toInt32.toInt = (jremL c 1000).toInt := tl_int (by omega) (by omega)
  omega
theorem zk_GD {c c' : Int64} {i : Int32} (h : c / (F_X3_tenTo (3 * i)) = c') (h0 : 0 ≤ c'.toInt) : pkD c i = pkG c' i := by
  unfold pkD pkG
  rw [h]
  obtain ⟨h1, h2⟩ := zk_rem h0
  rw [zk_grp h1 h2]
/-- the class' loop, laid out -/
theorem zk_dw (c n : Int64) : wl (G_X2_digitWord_74 c) (B_X2_digitWord_74 c) 6 (0, n) = (5, ((((n ||| pkD c 0) ||| pkD c 1) ||| pkD c 2) ||| pkD c 3) ||| pkD c 4) := by
  rw [wl_t _ _ 5 _ rfl]
  show wl _ _ 5 ((1 : Int32), n ||| pkD c 0) = _
  rw [wl_t _ _ 4 _ rfl]
  show wl _ _ 4 ((2 : Int32), (n ||| pkD c 0) ||| pkD c 1) = _
  rw [wl_t _ _ 3 _ rfl]
  show wl _ _ 3 ((3 : Int32), ((n ||| pkD c 0) ||| pkD c 1) ||| pkD c 2) = _
  rw [wl_t _ _ 2 _ rfl]
  show wl _ _ 2 ((4 : Int32), (((n ||| pkD c 0) ||| pkD c 1) ||| pkD c 2) ||| pkD c 3) = _
  rw [wl_t _ _ 1 _ rfl]
  show wl _ _ 1 ((5 : Int32), ((((n ||| pkD c 0) ||| pkD c 1) ||| pkD c 2) ||| pkD c 3) ||| pkD c 4) = _
  exact wl_f _ _ _ _ (show ¬ false = true from by decide)
/-- the reference's loop, laid out -/
theorem zk_mw (c : Int64) : wl (G_X4_packDigits_26) (B_X4_packDigits_26) 901 (c, 0, 0) = (c / 1000 / 1000 / 1000 / 1000 / 1000, ((((0 ||| pkG c 0) ||| pkG (c / 1000) 1) ||| pkG (c / 1000 / 1000) 2) ||| pkG (c / 1000 / 1000 / 1000) 3) ||| pkG (c / 1000 / 1000 / 1000 / 1000) 4, 5) := by
  rw [wl_t _ _ 900 _ rfl]
  show wl _ _ 900 (c / 1000, 0 ||| pkG c 0, (1 : Int32)) = _
  rw [wl_t _ _ 899 _ rfl]
  show wl _ _ 899 (c / 1000 / 1000, (0 ||| pkG c 0) ||| pkG (c / 1000) 1, (2 : Int32)) = _
  rw [wl_t _ _ 898 _ rfl]
  show wl _ _ 898 (c / 1000 / 1000 / 1000, ((0 ||| pkG c 0) ||| pkG (c / 1000) 1) ||| pkG (c / 1000 / 1000) 2, (3 : Int32)) = _
  rw [wl_t _ _ 897 _ rfl]
  show wl _ _ 897 (c / 1000 / 1000 / 1000 / 1000, (((0 ||| pkG c 0) ||| pkG (c / 1000) 1) ||| pkG (c / 1000 / 1000) 2) ||| pkG (c / 1000 / 1000 / 1000) 3, (4 : Int32)) = _
  rw [wl_t _ _ 896 _ rfl]
  show wl _ _ 896 (c / 1000 / 1000 / 1000 / 1000 / 1000, ((((0 ||| pkG c 0) ||| pkG (c / 1000) 1) ||| pkG (c / 1000 / 1000) 2) ||| pkG (c / 1000 / 1000 / 1000) 3) ||| pkG (c / 1000 / 1000 / 1000 / 1000) 4, (5 : Int32)) = _
  exact wl_f _ _ _ _ (show ¬ false = true from by decide)
theorem zk_div {c d e : Int64} {m n : Int} (h0 : 0 ≤ c.toInt) (hd : d.toInt = m) (he : e.toInt = m * n) (hm : 0 < m) (hn : 0 < n) {k : Int64} (hk : k.toInt = n) : c / e = c / d / k := by
  have a : (c / d).toInt = c.toInt / m := by rw [tl_div h0 (by rw [hd]; exact hm), hd]
  have a0 : 0 ≤ (c / d).toInt := by rw [a]; exact Int.ediv_nonneg h0 (Int.le_of_lt hm)
  refine tl_eq.mpr ?_
  rw [tl_div h0 (by rw [he]; exact Int.mul_pos hm hn), tl_div a0 (by rw [hk]; exact hn), a, he, hk, Int.ediv_ediv_of_nonneg (Int.le_of_lt hm)]
theorem zk_d0 {c : Int64} {k : Int64} (h0 : 0 ≤ c.toInt) (hk : 0 < k.toInt) : 0 ≤ (c / k).toInt := by
  rw [tl_div h0 hk]
  exact Int.ediv_nonneg h0 (Int.le_of_lt hk)
theorem zk_t0 (c : Int64) (h : 0 ≤ c.toInt) : c / (F_X3_tenTo (3 * 0)) = c := by
  rw [show F_X3_tenTo (3 * 0) = 1 from by decide +kernel]
  refine tl_eq.mpr ?_
  rw [tl_div h (by decide)]
  show c.toInt / 1 = c.toInt
  exact Int.ediv_one _
theorem zk_t1 (c : Int64) : c / (F_X3_tenTo (3 * 1)) = c / 1000 := by
  rw [show F_X3_tenTo (3 * 1) = 1000 from by decide +kernel]
theorem zk_t2 (c : Int64) (h : 0 ≤ c.toInt) : c / (F_X3_tenTo (3 * 2)) = c / 1000 / 1000 := by
  rw [show F_X3_tenTo (3 * 2) = 1000000 from by decide +kernel]
  exact zk_div (m := 1000) (n := 1000) h (by decide) (by decide) (by decide) (by decide) (by decide)
theorem zk_t3 (c : Int64) (h : 0 ≤ c.toInt) : c / (F_X3_tenTo (3 * 3)) = c / 1000 / 1000 / 1000 := by
  rw [← zk_t2 c h, show F_X3_tenTo (3 * 2) = 1000000 from by decide +kernel, show F_X3_tenTo (3 * 3) = 1000000000 from by decide +kernel]
  exact zk_div (m := 1000000) (n := 1000) h (by decide) (by decide) (by decide) (by decide) (by decide)
theorem zk_t4 (c : Int64) (h : 0 ≤ c.toInt) : c / (F_X3_tenTo (3 * 4)) = c / 1000 / 1000 / 1000 / 1000 := by
  rw [← zk_t3 c h, show F_X3_tenTo (3 * 3) = 1000000000 from by decide +kernel, show F_X3_tenTo (3 * 4) = 1000000000000 from by decide +kernel]
  exact zk_div (m := 1000000000) (n := 1000) h (by decide) (by decide) (by decide) (by decide) (by decide)
theorem zk_t5 (c : Int64) (h : 0 ≤ c.toInt) : c / 1000000000000000 = c / 1000 / 1000 / 1000 / 1000 / 1000 := by
  rw [← zk_t4 c h, show F_X3_tenTo (3 * 4) = 1000000000000 from by decide +kernel]
  exact zk_div (m := 1000000000000) (n := 1000) h (by decide) (by decide) (by decide) (by decide) (by decide)
def pkE (n : Nat) : Int64 := Int64.ofNat n
set_option maxRecDepth 100000 in
theorem zk_256' : ∀ n : Fin 768, (pkE n.val) &&& 255 = jremL (pkE n.val) 256 := by decide +kernel
theorem zk_256 {e : Int64} (h1 : 0 ≤ e.toInt) (h2 : e.toInt < 768) : e &&& 255 = jremL e 256 := by
  have e9 : e = pkE e.toInt.toNat := by
    refine tl_eq.mpr ?_
    show e.toInt = (Int64.ofNat e.toInt.toNat).toInt
    rw [Int64.toInt_ofNat_of_lt (by omega)]
    omega
  rw [e9]
  exact zk_256' ⟨e.toInt.toNat, by omega⟩
theorem zk_word {c e : Int64} (h0 : 0 ≤ c.toInt) (e1 : 0 ≤ e.toInt) (e2 : e.toInt < 768) : F_X2_digitWord c e =
    (if 8 ≤ c / 1000 / 1000 / 1000 / 1000 / 1000 then (((((((0 ||| pkG c 0) ||| pkG (c / 1000) 1) ||| pkG (c / 1000 / 1000) 2) ||| pkG (c / 1000 / 1000 / 1000) 3) ||| pkG (c / 1000 / 1000 / 1000 / 1000) 4) ||| (jshlL (jremL e 256) 50) ||| 6917529027641081856) ||| (jshlL (e / 256) 59)) ||| (jshlL (c / 1000 / 1000 / 1000 / 1000 / 1000 - 8) 58)
     else ((((((0 ||| pkG c 0) ||| pkG (c / 1000) 1) ||| pkG (c / 1000 / 1000) 2) ||| pkG (c / 1000 / 1000 / 1000) 3) ||| pkG (c / 1000 / 1000 / 1000 / 1000) 4) ||| (jshlL (jremL e 256) 50) ||| (jshlL (e / 256) 61)) ||| (jshlL (c / 1000 / 1000 / 1000 / 1000 / 1000) 58)) := by
  have k1 : 0 ≤ (c / 1000).toInt := zk_d0 h0 (by decide)
  have k2 : 0 ≤ (c / 1000 / 1000).toInt := zk_d0 k1 (by decide)
  have k3 : 0 ≤ (c / 1000 / 1000 / 1000).toInt := zk_d0 k2 (by decide)
  have k4 : 0 ≤ (c / 1000 / 1000 / 1000 / 1000).toInt := zk_d0 k3 (by decide)
  have a : F_X2_digitWord c e = (((((Z_X2_digitWord_J_106 (c / 1000000000000000) (e / 256) ||| (jshlL (e &&& 255) 50)) ||| pkD c 0) ||| pkD c 1) ||| pkD c 2) ||| pkD c 3) ||| pkD c 4 := by
    unfold F_X2_digitWord
    show (wl _ _ 6 (0, Z_X2_digitWord_J_106 (c / 1000000000000000) (e / 256) ||| (jshlL (e &&& 255) 50))).2 = _
    rw [zk_dw]
  rw [a, zk_GD (zk_t0 c h0) h0, zk_GD (zk_t1 c) k1, zk_GD (zk_t2 c h0) k2, zk_GD (zk_t3 c h0) k3, zk_GD (zk_t4 c h0) k4, zk_256 e1 e2, zk_t5 c h0]
  clear a
  unfold Z_X2_digitWord_J_106
  generalize pkG c 0 = g0
  generalize pkG (c / 1000) 1 = g1
  generalize pkG (c / 1000 / 1000) 2 = g2
  generalize pkG (c / 1000 / 1000 / 1000) 3 = g3
  generalize pkG (c / 1000 / 1000 / 1000 / 1000) 4 = g4
  generalize jshlL (jremL e 256) 50 = g5
  generalize c / 1000 / 1000 / 1000 / 1000 / 1000 = d
  rw [Int64.zero_or]
  by_cases h : 8 ≤ d
  · rw [if_pos h, if_pos h]
    generalize jshlL (e / 256) 59 = g6
    generalize jshlL (d - 8) 58 = g7
    ac_rfl
  · rw [if_neg h, if_neg h]
    generalize jshlL (e / 256) 61 = g6
    generalize jshlL d 58 = g7
    ac_rfl
theorem zk_ref (vcs : Nat → Int64) (ves : Nat → Int32) (p0 : Int32) {c e : Int64} (hc : vcs p0.toNatClampNeg = c) (he : ((ves p0.toNatClampNeg) - (-398)).toInt64 = e) : F_X4_packDigits vcs ves p0 =
    (if 8 ≤ c / 1000 / 1000 / 1000 / 1000 / 1000 then (((((((0 ||| pkG c 0) ||| pkG (c / 1000) 1) ||| pkG (c / 1000 / 1000) 2) ||| pkG (c / 1000 / 1000 / 1000) 3) ||| pkG (c / 1000 / 1000 / 1000 / 1000) 4) ||| (jshlL (jremL e 256) 50) ||| 6917529027641081856) ||| (jshlL (e / 256) 59)) ||| (jshlL (c / 1000 / 1000 / 1000 / 1000 / 1000 - 8) 58)
     else ((((((0 ||| pkG c 0) ||| pkG (c / 1000) 1) ||| pkG (c / 1000 / 1000) 2) ||| pkG (c / 1000 / 1000 / 1000) 3) ||| pkG (c / 1000 / 1000 / 1000 / 1000) 4) ||| (jshlL (jremL e 256) 50) ||| (jshlL (e / 256) 61)) ||| (jshlL (c / 1000 / 1000 / 1000 / 1000 / 1000) 58)) := by
  subst hc he
  have a := zk_mw (vcs p0.toNatClampNeg)
  unfold F_X4_packDigits bnd
  dsimp only
  rw [a]
theorem zk_digits {vcs : Nat → Int64} {ves : Nat → Int32} {p0 : Int32} {c e : Int64} (hc : vcs p0.toNatClampNeg = c) (he : ((ves p0.toNatClampNeg) - (-398)).toInt64 = e) (h0 : 0 ≤ c.toInt) (e1 : 0 ≤ e.toInt) (e2 : e.toInt < 768) : F_X2_digitWord c e = F_X4_packDigits vcs ves p0 := by
  rw [zk_word h0 e1 e2, zk_ref vcs ves p0 hc he]
/-- pack: one word on both sides -/
theorem zk_pack {so : Nat → Int32} {mi : Nat → Bool} {co : Nat → Int64} {ex : Nat → Int32} {p0 p1 : Int32} {k : Int} {n : Bool} {c : Nat} {q : Int} (hv : VD so mi co ex p0.toNatClampNeg k n c q) (h0 : ¬ F_X4_noRegister p0 = true) (hw : p1 = 0 ∨ p1 = 1) :
    F_X4_pack so mi co ex p0 p1 = (F_X2_wordOf so mi co ex p0.toNatClampNeg (if p1 = 0 then false else true), 0) := by
  obtain ⟨v1, v2, v3, v4, v5⟩ := hv
  have hz : Z_X4_pack_J_107 p0 p1 = 0 := by
    unfold Z_X4_pack_J_107
    rw [if_neg h0]
    rcases hw with h | h <;> subst h <;> decide
  unfold F_X4_pack bnd
  dsimp only
  rw [hz, if_pos rfl]
  have hR : ∀ b : Bool, F_X2_wordOf so mi co ex p0.toNatClampNeg b = (if so p0.toNatClampNeg = 1 then Z_X4_pack_J_114 mi p0 ||| 8646911284551352320 else (if so p0.toNatClampNeg = 2 then 8935141660703064064 else Z_X4_pack_J_114 mi p0 ||| Z_X2_wordOf_J_114 co p0.toNatClampNeg b (((ex p0.toNatClampNeg) - (-398)).toInt64))) := fun _ => rfl
  rw [hR]
  clear hR
  unfold F_X4_is
  rcases v5 with ⟨rfl, d1, d2, d3⟩ | ⟨rfl, rfl, rfl⟩ | ⟨rfl, rfl, rfl, rfl⟩
  · have hso : so p0.toNatClampNeg = 0 := ti_eq.mpr v1
    rw [hso, if_neg (show ¬ (0 : Int32) = 1 by decide), if_neg (show ¬ (0 : Int32) = 2 by decide)]
    have b0 : 0 ≤ (co p0.toNatClampNeg).toInt := by omega
    have b1 : ((ex p0.toNatClampNeg) - (-398)).toInt64.toInt = q + 398 := by
      have hm : (-398 : Int32).toInt = -398 := by decide
      rw [ti_long, ti_sub (by rw [hm, v4]; omega) (by rw [hm, v4]; omega), hm, v4]
      omega
    rw [if_pos (show (if (0 : Int32) = 0 then true else false) = true from rfl)]
    rcases hw with h | h
    · subst h
      rw [if_neg (show ¬ (0 : Int32) = 1 by decide), if_pos (show (0 : Int32) = 0 from rfl)]
      unfold Z_X2_wordOf_J_114 F_X2_binaryWord
      rw [if_neg (show ¬ false = true by decide)]
      by_cases h9 : 9007199254740992 ≤ co p0.toNatClampNeg
      · rw [if_pos h9, if_pos h9, Int64.or_assoc, Int64.or_assoc, Int64.or_assoc]
      · rw [if_neg h9, if_neg h9, Int64.or_assoc]
    · subst h
      rw [if_pos (show (1 : Int32) = 1 from rfl), if_neg (show ¬ (1 : Int32) = 0 by decide)]
      unfold Z_X2_wordOf_J_114
      rw [if_pos (show true = true from rfl), zk_digits (vcs := co) (ves := ex) (p0 := p0) rfl rfl b0 (by omega) (by omega)]
  · have hso : so p0.toNatClampNeg = 1 := ti_eq.mpr v1
    have hz2 : Z_X4_pack_J_129 so p0 = 30 := by
      unfold Z_X4_pack_J_129 F_X4_is
      rw [hso]
      rfl
    rw [hz2, hso, if_neg (show ¬ (if (1 : Int32) = 0 then true else false) = true by decide), if_pos (show (1 : Int32) = 1 from rfl)]
    rfl
  · have hso : so p0.toNatClampNeg = 2 := ti_eq.mpr v1
    have hz2 : Z_X4_pack_J_129 so p0 = 31 := by
      unfold Z_X4_pack_J_129 F_X4_is
      rw [hso]
      rfl
    have hz3 : Z_X4_pack_J_114 mi p0 = 0 := by
      unfold Z_X4_pack_J_114
      rw [v2]
      rfl
    rw [hz2, hz3, hso, if_neg (show ¬ (if (2 : Int32) = 0 then true else false) = true by decide), if_neg (show ¬ (2 : Int32) = 1 by decide), if_pos (show (2 : Int32) = 2 from rfl)]
    rfl
/-- what the loops need -/
theorem zk_T0 : S_X3_tenTo (3 * 0) ∧ ¬ F_X3_tenTo (3 * 0) = 0 := ⟨S_tenTo _, by decide +kernel⟩
theorem zk_T1 : S_X3_tenTo (3 * 1) ∧ ¬ F_X3_tenTo (3 * 1) = 0 := ⟨S_tenTo _, by decide +kernel⟩
theorem zk_T2 : S_X3_tenTo (3 * 2) ∧ ¬ F_X3_tenTo (3 * 2) = 0 := ⟨S_tenTo _, by decide +kernel⟩
theorem zk_T3 : S_X3_tenTo (3 * 3) ∧ ¬ F_X3_tenTo (3 * 3) = 0 := ⟨S_tenTo _, by decide +kernel⟩
theorem zk_T4 : S_X3_tenTo (3 * 4) ∧ ¬ F_X3_tenTo (3 * 4) = 0 := ⟨S_tenTo _, by decide +kernel⟩
theorem zk_SX2 {so : Nat → Int32} {mi : Nat → Bool} {co : Nat → Int64} {ex : Nat → Int32} {i : Nat} (b : Bool) : S_X2_wordOf so mi co ex i b := by
  unfold S_X2_wordOf
  intro z103 _
  refine ite_P (fun _ => trivial) (fun _ => ite_P (fun _ => trivial) (fun _ => ?_))
  intro n107 _
  refine ite_P (fun _ => ?_) (fun _ => trivial)
  unfold S_X2_digitWord
  intro n101 _ n102 _ z105 _ n107 _
  refine ⟨?_, by rw [zk_dw]; rfl⟩
  intro j hj
  have hn : ¬ 5 < nW (G_X2_digitWord_74 (co i)) (B_X2_digitWord_74 (co i)) 6 (0, n107) := by
    intro h
    have g := nW_lt _ _ _ _ _ h
    have g2 : G_X2_digitWord_74 (co i) (itn (B_X2_digitWord_74 (co i)) 5 (0, n107)) = false := rfl
    rw [g2] at g
    cases g
  unfold SB_X2_digitWord_74
  refine ite_P (fun _ => trivial) (fun _ => ?_)
  rcases j with _ | _ | _ | _ | _ | j
  · exact zk_T0
  · exact zk_T1
  · exact zk_T2
  · exact zk_T3
  · exact zk_T4
  · omega
theorem zk_SX4 {so : Nat → Int32} {mi : Nat → Bool} {co : Nat → Int64} {ex : Nat → Int32} {p0 p1 : Int32} (hp : ¬ F_X4_noRegister p0 = true → vp_in p0 8) : S_X4_pack so mi co ex p0 p1 := by
  unfold S_X4_pack
  intro z106 hz
  refine ite_P (fun h => ?_) (fun _ => trivial)
  have hr : ¬ F_X4_noRegister p0 = true := by
    intro h9
    have : Z_X4_pack_J_107 p0 p1 = 1 := by unfold Z_X4_pack_J_107; rw [if_pos h9]
    rw [hz, this] at h
    exact absurd h (by decide)
  refine ⟨hp hr, fun z113 _ => ⟨hp hr, ite_P (fun _ => ite_P (fun _ => ?_) (fun _ => trivial)) (fun _ => hp hr)⟩⟩
  exact ⟨hp hr, fun n102 _ n103 _ => by rw [zk_mw]; rfl⟩
