section MOP
variable {ks : Nat → Int32} {ms : Nat → Bool} {cs : Nat → Int64} {es : Nat → Int32}
theorem sp_length {x : Int64} {X : Nat} (hx : x.toInt = (X : Int)) (hX : nd X ≤ 20) : (F_X4_lengthOf x).toInt = nd X ∧ S_X4_lengthOf x := by
  have c1 : (1 : Int32).toInt = 1 := rfl
  have l0 : (0 : Int64).toInt = 0 := rfl
  have l10 : (10 : Int64).toInt = ((10 : Nat) : Int) := rfl
  have hG : ∀ t, G_X4_lengthOf_5 t = true ↔ ¬ t.2 ≤ 0 := by
    intro t; unfold G_X4_lengthOf_5; dsimp only [bnd]
    by_cases h : t.2 ≤ 0
    · simp [h]
    · simp [h]
  have R := wl_run (G := G_X4_lengthOf_5) (B := B_X4_lengthOf_5) (N := 901) (t := (0, x)) (fun j t => t.1.toInt = (j : Int) ∧ t.2.toInt = ((X / 10 ^ j : Nat) : Int) ∧ j ≤ nd X)
    ⟨rfl, by rw [Nat.pow_zero, Nat.div_one]; exact hx, by omega⟩
    (by
      rintro j t _ ⟨h1, h2, h3⟩ hg
      have gg := (hG t).mp hg
      have e : B_X4_lengthOf_5 t = (t.1 + 1, t.2 / 10) := by unfold B_X4_lengthOf_5; dsimp only [bnd]; rw [if_neg gg]
      rw [tl_le, l0, h2] at gg
      have hj : j < nd X := by
        apply Nat.lt_of_not_le
        intro h
        rw [nd_small h] at gg; omega
      have e10 : X / 10 ^ (j + 1) = X / 10 ^ j / 10 := by rw [Nat.pow_succ, Nat.div_div_eq_div_mul]
      rw [e, e10]
      exact ⟨by rw [ti_add (by omega) (by omega), h1, c1]; omega, tn_div h2 l10 (by decide), hj⟩)
    (by
      intro t hP
      have h2 := hP.2.2
      clear hP
      omega)
  obtain ⟨⟨k, hk, h1, h2, h3⟩, hg, -⟩ := R
  have hng := ng_of hg
  rw [hG, tl_le, l0, h2] at hng
  refine ⟨?_, hg⟩
  have hX0 : X / 10 ^ k = 0 := nat_le0 (Classical.byContradiction hng)
  have hlt : X < 10 ^ k := by
    have := Nat.div_add_mod X (10 ^ k)
    have h5 : X % 10 ^ k < 10 ^ k := Nat.mod_lt _ (p10 k)
    rw [hX0, Nat.mul_zero, Nat.zero_add] at this
    rw [← this]; exact h5
  have hle := (nd_le k X).mpr hlt
  have ek : k = nd X := by omega
  unfold F_X4_lengthOf
  dsimp only [bnd]
  rw [h1, ek]
theorem VD.msign {p : Int32} {k : Int} {n : Bool} {c : Nat} {q : Int} (h : VD ks ms cs es p.toNatClampNeg k n c q) : (F_X4_signOf ks ms cs p).toInt = sideS k n c := by
  obtain ⟨h1, h2, h3, h4, h5⟩ := h
  have z0 : (0 : Int32).toInt = 0 := rfl
  have fA := sp_is (v := 0) h1
  rw [z0] at fA
  have cA := sp_czero h3
  unfold F_X4_signOf sideS
  rw [h2]
  by_cases k0 : k = 0
  · rw [if_pos (fA.mpr k0)]
    by_cases a0 : c = 0
    · rw [if_pos (cA.mpr a0), if_pos ⟨k0, a0⟩]; rfl
    · rw [if_neg (fun q => a0 (cA.mp q)), if_neg (show ¬ (k = 0 ∧ c = 0) from fun q => a0 q.2)]
      cases n <;> rfl
  · rw [if_neg (fun q => k0 (fA.mp q)), if_neg (show ¬ (k = 0 ∧ c = 0) from fun q => k0 q.1)]
    cases n <;> rfl
theorem sp_msizes {p0 p1 : Int32} {A : Nat} {ea : Int} {B : Nat} {eb : Int} (h0 : vp_in p0 8) (h1 : vp_in p1 8) (a3 : (cs p0.toNatClampNeg).toInt = (A : Int)) (a4 : (es p0.toNatClampNeg).toInt = ea) (b3 : (cs p1.toNatClampNeg).toInt = (B : Int)) (b4 : (es p1.toNatClampNeg).toInt = eb) (hA : A < 10000000000000000) (hB : B < 10000000000000000) (be : -398 ≤ ea ∧ ea ≤ 369) (bf : -398 ≤ eb ∧ eb ≤ 369) :
    (A ≠ 0 → B ≠ 0 → (F_X4_compareSizes cs es p0 p1).toInt = sizeS 0 A ea 0 B eb) ∧ (A = 0 → B = 0 → (F_X4_compareSizes cs es p0 p1).toInt = 0) ∧ S_X4_compareSizes cs es p0 p1 := by
  have c16 : (16 : Int32).toInt = 16 := rfl
  have hnA : nd A ≤ 16 := by rw [nd_le, p16]; exact hA
  have hnB : nd B ≤ 16 := by rw [nd_le, p16]; exact hB
  have cA := sp_czero a3
  have cB := sp_czero b3
  obtain ⟨l1, l2⟩ := sp_length a3 (by omega)
  obtain ⟨l3, l4⟩ := sp_length b3 (by omega)
  have s1 : (16 - F_X4_lengthOf (cs p0.toNatClampNeg)).toInt = ((16 - nd A : Nat) : Int) := by rw [ti_sub (by omega) (by omega), l1, c16]; omega
  have s2 : (16 - F_X4_lengthOf (cs p1.toNatClampNeg)).toInt = ((16 - nd B : Nat) : Int) := by rw [ti_sub (by omega) (by omega), l3, c16]; omega
  have m1 := mul_lt16 (A := A) (k := 16 - nd A) (by omega)
  have m2 := mul_lt16 (A := B) (k := 16 - nd B) (by omega)
  obtain ⟨u1, u2⟩ := sp_times a3 s1 (by omega) (Nat.lt_trans m1 (by decide))
  obtain ⟨v1, v2⟩ := sp_times b3 s2 (by omega) (Nat.lt_trans m2 (by decide))
  have t1 : (F_X4_lengthOf (cs p0.toNatClampNeg) + es p0.toNatClampNeg).toInt = ea + nd A := by rw [ti_add (by omega) (by omega), l1, a4]; omega
  have t2 : (F_X4_lengthOf (cs p1.toNatClampNeg) + es p1.toNatClampNeg).toInt = eb + nd B := by rw [ti_add (by omega) (by omega), l3, b4]; omega
  refine ⟨fun A0 B0 => ?_, fun A0 B0 => ?_, h0, all_n rfl ⟨h1, all_n rfl (ite_P (fun _ => trivial) (fun _ => ite_P (fun _ => trivial) (fun _ => ⟨l2, all_n rfl ⟨l4, all_n rfl (ite_P (fun _ => ⟨u2, all_n rfl v2⟩) (fun _ => trivial))⟩⟩)))⟩⟩
  · unfold F_X4_compareSizes sizeS
    dsimp only [bnd]
    rw [if_neg (fun q => A0 (cA.mp q)), if_neg (fun q => B0 (cB.mp q)), if_neg (show ¬ ((0 : Int) = 1 ∨ (0 : Int) = 1) by decide)]
    by_cases e : ea + nd A = eb + nd B
    · rw [if_pos (by rw [ti_eq, t1, t2]; exact e), if_pos e]
      generalize F_X4_times (cs p0.toNatClampNeg) (16 - F_X4_lengthOf (cs p0.toNatClampNeg)) = x at u1 ⊢
      generalize F_X4_times (cs p1.toNatClampNeg) (16 - F_X4_lengthOf (cs p1.toNatClampNeg)) = y at v1 ⊢
      generalize A * 10 ^ (16 - nd A) = X at u1 ⊢
      generalize B * 10 ^ (16 - nd B) = Y at v1 ⊢
      unfold ordS
      by_cases w1 : y ≤ x
      · rw [if_pos w1]; rw [tl_le, u1, v1] at w1
        by_cases w2 : x ≤ y
        · rw [if_pos w2]; rw [tl_le, u1, v1] at w2; rw [if_pos (by omega)]; rfl
        · rw [if_neg w2]; rw [tl_le, u1, v1] at w2; rw [if_neg (by omega), if_neg (by omega)]; rfl
      · rw [if_neg w1]; rw [tl_le, u1, v1] at w1; rw [if_neg (by omega), if_pos (by omega)]; rfl
    · rw [if_neg (by rw [ti_eq, t1, t2]; exact e), if_neg e]
      unfold ordS
      rw [if_neg e]
      by_cases w : F_X4_lengthOf (cs p1.toNatClampNeg) + es p1.toNatClampNeg ≤ F_X4_lengthOf (cs p0.toNatClampNeg) + es p0.toNatClampNeg
      · rw [if_pos w]; rw [ti_le, t1, t2] at w; rw [if_neg (by omega)]; rfl
      · rw [if_neg w]; rw [ti_le, t1, t2] at w; rw [if_pos (by omega)]; rfl
  · unfold F_X4_compareSizes
    dsimp only [bnd]
    rw [if_pos (cA.mpr A0), if_pos (by rw [cA.mpr A0, cB.mpr B0])]; rfl
theorem side_ne {k : Int} {n : Bool} {c : Nat} (h : ¬ (k = 0 ∧ c = 0)) : sideS k n c ≠ 0 := by
  unfold sideS; rw [if_neg h]; split <;> omega
theorem sp_morder {p0 p1 : Int32} {ka : Int} {sa : Bool} {A : Nat} {ea : Int} {kb : Int} {sb : Bool} {B : Nat} {eb : Int} (h0 : vp_in p0 8) (h1 : vp_in p1 8) (ha : VD ks ms cs es p0.toNatClampNeg ka sa A ea) (hb : VD ks ms cs es p1.toNatClampNeg kb sb B eb) (na : ka ≠ 2) (nb : kb ≠ 2) :
    (F_X4_order ks ms cs es p0 p1).toInt = orderS ka sa A ea kb sb B eb ∧ S_X4_order ks ms cs es p0 p1 := by
  have s1 := ha.msign
  have s2 := hb.msign
  have hb1 := sideS_b ka sa A
  have hb2 := sizeS_b ka A ea kb B eb
  obtain ⟨a1, a2, a3, a4, a5⟩ := ha
  obtain ⟨b1, b2, b3, b4, b5⟩ := hb
  have c1 : (1 : Int32).toInt = 1 := rfl
  have z0 : (0 : Int32).toInt = 0 := rfl
  have iA := sp_is (v := 1) a1
  have iB := sp_is (v := 1) b1
  rw [c1] at iA iB
  have hsg0 : S_X4_signOf ks ms cs p0 := ⟨h0, ite_P (fun _ => h0) (fun _ => h0)⟩
  have hsg1 : S_X4_signOf ks ms cs p1 := ⟨h1, ite_P (fun _ => h1) (fun _ => h1)⟩
  have hcs : ka ≠ 1 → kb ≠ 1 → ka = 0 ∧ kb = 0 ∧ ((A ≠ 0 → B ≠ 0 → (F_X4_compareSizes cs es p0 p1).toInt = sizeS 0 A ea 0 B eb) ∧ (A = 0 → B = 0 → (F_X4_compareSizes cs es p0 p1).toInt = 0) ∧ S_X4_compareSizes cs es p0 p1) := by
    intro ia ib
    obtain ⟨ka0, hA, be1, be2, hnA⟩ := fin_b a5 ia na
    obtain ⟨kb0, hB, bf1, bf2, hnB⟩ := fin_b b5 ib nb
    exact ⟨ka0, kb0, sp_msizes h0 h1 a3 a4 b3 b4 hA hB ⟨be1, be2⟩ ⟨bf1, bf2⟩⟩
  refine ⟨?_, hsg0, hsg1, ite_P (fun _ => ⟨h0, ite_P (fun _ => h1) (fun ia => ⟨h1, ite_P (fun _ => trivial) (fun ib => (hcs (fun q => ia (iA.mpr q)) (fun q => ib (iB.mpr q))).2.2.2.2)⟩)⟩) (fun _ => trivial)⟩
  unfold F_X4_order orderS
  by_cases e : F_X4_signOf ks ms cs p0 = F_X4_signOf ks ms cs p1
  · rw [if_pos e]
    rw [ti_eq, s1, s2] at e
    rw [if_pos e]
    dsimp only [bnd]
    have key : (sideS ka sa A ≠ 0 ∧ (Z_X4_order_J_125 ks cs es p0 p1).toInt = sizeS ka A ea kb B eb) ∨ (sideS ka sa A = 0 ∧ (Z_X4_order_J_125 ks cs es p0 p1).toInt = 0) := by
      unfold Z_X4_order_J_125 Z_X4_order_J_115
      dsimp only [bnd]
      by_cases ia : ka = 1
      · rw [if_pos (iA.mpr ia)]
        left
        refine ⟨side_ne (fun q => by have := q.1; omega), ?_⟩
        unfold sizeS
        rw [if_pos (Or.inl ia)]
        by_cases ib : kb = 1
        · rw [if_pos (iB.mpr ib), ia, ib]; rfl
        · rw [if_neg (fun q => ib (iB.mp q)), ia]
          have kb0 : kb = 0 := by rcases b5 with h | h | h <;> omega
          rw [kb0]; rfl
      · rw [if_neg (fun q => ia (iA.mp q))]
        have ka0 : ka = 0 := by rcases a5 with h | h | h <;> omega
        by_cases ib : kb = 1
        · left
          refine ⟨by rw [e]; exact side_ne (fun q => by have := q.1; omega), ?_⟩
          rw [if_pos (iB.mpr ib)]
          unfold sizeS
          rw [if_pos (Or.inr ib), ib, ka0]; rfl
        · rw [if_neg (fun q => ib (iB.mp q))]
          obtain ⟨-, kb0, w1, w2, w3⟩ := hcs ia ib
          by_cases A0 : A = 0
          · right
            have hs0 : sideS ka sa A = 0 := by unfold sideS; rw [if_pos ⟨ka0, A0⟩]
            have B0 : B = 0 := by
              apply Classical.byContradiction
              intro q
              exact side_ne (n := sb) (fun y => q y.2) (by rw [← e]; exact hs0)
            exact ⟨hs0, w2 A0 B0⟩
          · left
            have B0 : B ≠ 0 := by
              intro q
              have hs0 : sideS kb sb B = 0 := by unfold sideS; rw [if_pos ⟨kb0, q⟩]
              exact side_ne (n := sa) (fun y => A0 y.2) (by rw [e]; exact hs0)
            exact ⟨side_ne (fun y => A0 y.2), by rw [w1 A0 B0, ka0, kb0]⟩
    generalize Z_X4_order_J_125 ks cs es p0 p1 = x at key ⊢
    have hx : -1 ≤ x.toInt ∧ x.toInt ≤ 1 := by rcases key with h | h <;> omega
    have hv : (if 0 ≤ F_X4_signOf ks ms cs p0 then x else -x).toInt = if 0 ≤ sideS ka sa A then x.toInt else -x.toInt := by
      by_cases g : 0 ≤ F_X4_signOf ks ms cs p0
      · rw [if_pos g]; rw [ti_le, s1, z0] at g; rw [if_pos g]
      · rw [if_neg g]; rw [ti_le, s1, z0] at g; rw [if_neg g, ti_neg (by omega)]
    rw [hv]
    rcases key with ⟨k1, k2⟩ | ⟨k1, k2⟩
    · have h3 : sideS ka sa A = -1 ∨ sideS ka sa A = 1 := by omega
      rcases h3 with h | h
      · rw [h, if_neg (by decide), k2]; omega
      · rw [h, if_pos (by decide), Int.one_mul]; exact k2
    · rw [k1, if_pos (by decide), Int.zero_mul]; exact k2
  · rw [if_neg e]
    rw [ti_eq, s1, s2] at e
    rw [if_neg e]
    by_cases z : F_X4_signOf ks ms cs p1 ≤ F_X4_signOf ks ms cs p0
    · rw [if_pos z]; rw [ti_le, s1, s2] at z; rw [if_neg (by omega)]; rfl
    · rw [if_neg z]; rw [ti_le, s1, s2] at z; rw [if_pos (by omega)]; rfl
end MOP
