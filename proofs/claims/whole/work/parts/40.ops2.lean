section OPS
variable {so : Nat → Int32} {mi : Nat → Bool} {co : Nat → Int64} {ex : Nat → Int32} {i j : Nat}
theorem VD.side {k : Int} {n : Bool} {c : Nat} {q : Int} (h : VD so mi co ex i k n c q) : (F_X0_side so mi co i).toInt = sideS k n c := by
  obtain ⟨h1, h2, h3, h4, h5⟩ := h
  have c0 : (0 : Int32).toInt = 0 := rfl
  unfold F_X0_side sideS
  by_cases k0 : k = 0
  · have zA := sp_dZero (so := so) (co := co) (i := i) (by rw [h1, k0]) h3
    by_cases a0 : c = 0
    · rw [if_pos (zA.mpr a0), if_pos ⟨k0, a0⟩]; rfl
    · rw [if_neg (fun q => a0 (zA.mp q)), if_neg (show ¬ (k = 0 ∧ c = 0) from fun q => a0 q.2), h2]
      cases n <;> rfl
  · have hz : ¬ F_X0_isZero so co i = true := by
      unfold F_X0_isZero
      rw [if_neg (by rw [ti_eq, h1, c0]; exact k0)]; simp
    rw [if_neg hz, if_neg (show ¬ (k = 0 ∧ c = 0) from fun q => k0 q.1), h2]
    cases n <;> rfl
theorem sp_sizes {ka : Int} {sa : Bool} {A : Nat} {ea : Int} {kb : Int} {sb : Bool} {B : Nat} {eb : Int} (ha : VD so mi co ex i ka sa A ea) (hb : VD so mi co ex j kb sb B eb) (na : ka ≠ 2) (nb : kb ≠ 2) :
    (F_X3_orderOfSizes so co ex i j).toInt = sizeS ka A ea kb B eb ∧ S_X3_orderOfSizes so co ex i j := by
  obtain ⟨h1, h2, h3, h4, h5⟩ := ha
  obtain ⟨g1, g2, g3, g4, g5⟩ := hb
  have c0 : (0 : Int32).toInt = 0 := rfl
  have c1 : (1 : Int32).toInt = 1 := rfl
  have c16 : (16 : Int32).toInt = 16 := rfl
  unfold F_X3_orderOfSizes S_X3_orderOfSizes sizeS
  by_cases a1 : so i = 1
  · rw [if_pos a1, if_pos a1]
    rw [ti_eq, h1, c1] at a1
    rw [if_pos (Or.inl a1)]
    exact ⟨sp_orderOf (by rw [ti_long, h1]) (by rw [ti_long, g1]), trivial⟩
  · rw [if_neg a1, if_neg a1]
    rw [ti_eq, h1, c1] at a1
    by_cases a2 : so j = 1
    · rw [if_pos a2, if_pos a2]
      rw [ti_eq, g1, c1] at a2
      rw [if_pos (Or.inr a2)]
      exact ⟨sp_orderOf (by rw [ti_long, h1]) (by rw [ti_long, g1]), trivial⟩
    · rw [if_neg a2, if_neg a2]
      rw [ti_eq, g1, c1] at a2
      rw [if_neg (by omega)]
      have hA : A < 10000000000000000 ∧ -398 ≤ ea ∧ ea ≤ 369 := by rcases h5 with h5 | h5 | h5 <;> omega
      have hB : B < 10000000000000000 ∧ -398 ≤ eb ∧ eb ≤ 369 := by rcases g5 with g5 | g5 | g5 <;> omega
      obtain ⟨p1, p2⟩ := sp_digitsOf h3 hA.1
      obtain ⟨r1, r2⟩ := sp_digitsOf g3 hB.1
      have hnA : nd A ≤ 16 := by rw [nd_le, p16]; exact hA.1
      have hnB : nd B ≤ 16 := by rw [nd_le, p16]; exact hB.1
      have sc : ∀ {X : Nat}, X < 10000000000000000 → X * 10 ^ (16 - nd X) < 9223372036854775808 := by
        intro X hX
        have hnX : nd X ≤ 16 := by rw [nd_le, p16]; exact hX
        have k1 := Nat.mul_lt_mul_of_pos_right (nd_lt X) (p10 (16 - nd X))
        rw [← p10a] at k1
        have k2 := p10_16 (k := nd X + (16 - nd X)) (by omega)
        omega
      have tA := tn_mul h3 (sp_tenTo (p := 16 - F_X3_digitsOf (co i)) (k := 16 - nd A) (by rw [ti_sub (by omega) (by omega), p1, c16]; omega) (by omega)) (sc hA.1)
      have tB := tn_mul g3 (sp_tenTo (p := 16 - F_X3_digitsOf (co j)) (k := 16 - nd B) (by rw [ti_sub (by omega) (by omega), r1, c16]; omega) (by omega)) (sc hB.1)
      have o1 : (F_X3_orderOf ((ex i + F_X3_digitsOf (co i)).toInt64) ((ex j + F_X3_digitsOf (co j)).toInt64)).toInt = ordS (ea + nd A) (eb + nd B) := sp_orderOf (by rw [ti_long, ti_add (by omega) (by omega), h4, p1]) (by rw [ti_long, ti_add (by omega) (by omega), g4, r1])
      dsimp only [bnd]
      refine ⟨?_, ⟨p2, all_n rfl ⟨r2, all_n rfl (all_n rfl (ite_P (fun _ => ⟨S_tenTo _, S_tenTo _⟩) (fun _ => trivial)))⟩⟩⟩
      by_cases e : ea + nd A = eb + nd B
      · rw [if_pos e, if_pos (by rw [ti_eq, o1, c0, e]; unfold ordS; rw [if_pos rfl])]
        exact sp_orderOf tA tB
      · rw [if_neg e, if_neg ?_]
        · exact o1
        · rw [ti_eq, o1, c0]; unfold ordS; rw [if_neg e]; split <;> omega
theorem sideS_b (k : Int) (n : Bool) (c : Nat) : -1 ≤ sideS k n c ∧ sideS k n c ≤ 1 := by unfold sideS; split <;> (try split) <;> omega
theorem sizeS_b (ka : Int) (A : Nat) (ea : Int) (kb : Int) (B : Nat) (eb : Int) : -1 ≤ sizeS ka A ea kb B eb ∧ sizeS ka A ea kb B eb ≤ 1 := by
  unfold sizeS
  split
  · exact ordS_b _ _
  · split <;> exact ordS_b _ _
theorem mul_b {a b : Int} (h1 : -1 ≤ a ∧ a ≤ 1) (h2 : -1 ≤ b ∧ b ≤ 1) : -1 ≤ a * b ∧ a * b ≤ 1 := by
  have : a = -1 ∨ a = 0 ∨ a = 1 := by omega
  rcases this with h | h | h <;> subst h <;> omega
theorem sp_order {ka : Int} {sa : Bool} {A : Nat} {ea : Int} {kb : Int} {sb : Bool} {B : Nat} {eb : Int} (ha : VD so mi co ex i ka sa A ea) (hb : VD so mi co ex j kb sb B eb) (na : ka ≠ 2) (nb : kb ≠ 2) :
    (F_X3_order so mi co ex i j).toInt = orderS ka sa A ea kb sb B eb ∧ S_X3_order so mi co ex i j := by
  have c0 : (0 : Int32).toInt = 0 := rfl
  have s1 := ha.side
  have s2 := hb.side
  obtain ⟨t1, t2⟩ := sp_sizes ha hb na nb
  have hb1 := sideS_b ka sa A
  have hb2 := sizeS_b ka A ea kb B eb
  have hb3 := mul_b hb1 hb2
  unfold F_X3_order S_X3_order orderS
  dsimp only [bnd]
  by_cases e : F_X0_side so mi co i = F_X0_side so mi co j
  · rw [if_pos e]
    refine ⟨?_, all_n rfl (by rw [if_pos e]; exact ite_P (fun _ => trivial) (fun _ => t2))⟩
    rw [ti_eq, s1, s2] at e
    rw [if_pos e]
    by_cases z : F_X0_side so mi co i = 0
    · rw [if_pos z]; rw [ti_eq, s1, c0] at z; rw [z, Int.zero_mul]; rfl
    · rw [if_neg z, ti_mul (by rw [s1, t1]; omega) (by rw [s1, t1]; omega), s1, t1]
  · rw [if_neg e]
    refine ⟨?_, all_n rfl (by rw [if_neg e]; trivial)⟩
    rw [ti_eq, s1, s2] at e
    rw [if_neg e]
    by_cases z : F_X0_side so mi co j ≤ F_X0_side so mi co i
    · rw [if_pos z]; rw [ti_le, s1, s2] at z; rw [if_neg (by omega)]; rfl
    · rw [if_neg z]; rw [ti_le, s1, s2] at z; rw [if_pos (by omega)]; rfl
theorem sp_addInf {r : Int32} {ka : Int} {sa : Bool} {A : Nat} {ea : Int} {kb : Int} {sb : Bool} {B : Nat} {eb : Int} (ha : VD so mi co ex i ka sa A ea) (hb : VD so mi co ex j kb sb B eb) {s : Bool} {z : Int32 × (Nat → Int32) × (Nat → Bool) × (Nat → Int64) × (Nat → Int32)} (hz : z = F_X3_addInfinity r so mi co ex i j s) {t : Int × Bool × Nat × Int × Int32} (ht : t = if ka = kb ∧ sa ≠ s then (2, false, 0, 0, r ||| 1) else (1, if ka = 1 then sa else s, 0, 0, r)) :
    z.1 = t.2.2.2.2 ∧ RD so mi co ex z.2.1 z.2.2.1 z.2.2.2.1 z.2.2.2.2 t.1 t.2.1 t.2.2.1 t.2.2.2.1 := by
  obtain ⟨h1, h2, h3, h4, h5⟩ := ha
  obtain ⟨g1, g2, g3, g4, g5⟩ := hb
  have c1 : (1 : Int32).toInt = 1 := rfl
  have hJ : Z_X3_addInfinity_J_112 so mi i s = if ka = 1 then sa else s := by
    unfold Z_X3_addInfinity_J_112
    by_cases q : ka = 1
    · rw [if_pos q, if_pos (by rw [ti_eq, h1, c1]; exact q), h2]
    · rw [if_neg q, if_neg (by rw [ti_eq, h1, c1]; exact q)]
  unfold F_X3_addInfinity at hz
  by_cases e : so i = so j
  · rw [if_pos e] at hz
    rw [ti_eq, h1, g1] at e
    by_cases d : mi i = s
    · rw [if_pos d] at hz
      rw [h2] at d
      rw [if_neg (fun q => q.2 d)] at ht
      obtain ⟨x, ex1, hz⟩ := bnd_x hz
      obtain ⟨y, ey, hz⟩ := bnd_x hz
      rw [ex1, hJ] at ey
      have hR := sp_setInfinity ey
      subst hz; subst ht
      exact ⟨rfl, hR⟩
    · rw [if_neg d] at hz
      rw [h2] at d
      rw [if_pos ⟨e, d⟩] at ht
      obtain ⟨y, ey, hz⟩ := bnd_x hz
      have hR := sp_invalid ey
      subst hz; subst ht
      exact hR
  · rw [if_neg e] at hz
    rw [ti_eq, h1, g1] at e
    rw [if_neg (fun q => e q.1)] at ht
    obtain ⟨x, ex1, hz⟩ := bnd_x hz
    obtain ⟨y, ey, hz⟩ := bnd_x hz
    rw [ex1, hJ] at ey
    have hR := sp_setInfinity ey
    subst hz; subst ht
    exact ⟨rfl, hR⟩
theorem VD.zero {k : Int} {n : Bool} {c : Nat} {q : Int} (h : VD so mi co ex i k n c q) : F_X0_isZero so co i = true ↔ k = 0 ∧ c = 0 := by
  obtain ⟨h1, h2, h3, h4, h5⟩ := h
  have c0 : (0 : Int32).toInt = 0 := rfl
  by_cases k0 : k = 0
  · rw [sp_dZero (by rw [h1, k0]) h3]; exact ⟨fun h => ⟨k0, h⟩, fun h => h.2⟩
  · unfold F_X0_isZero
    rw [if_neg (by rw [ti_eq, h1, c0]; exact k0)]
    exact ⟨fun h => absurd h (by simp), fun h => absurd h.1 k0⟩
theorem sp_fromInf {r : Int32} {op : Int32} {ka : Int} {sa : Bool} {A : Nat} {ea : Int} {kb : Int} {sb : Bool} {B : Nat} {eb : Int} (ha : VD so mi co ex i ka sa A ea) (hb : VD so mi co ex j kb sb B eb) (na : ka ≠ 2) (nb : kb ≠ 2) (h01 : ka = 1 ∨ kb = 1) {z : Int32 × (Nat → Int32) × (Nat → Bool) × (Nat → Int64) × (Nat → Int32)} (hz : z = F_X3_setFromInfinity r so mi co ex op i j) {t : Int × Bool × Nat × Int × Int32} (ht : t = infS op.toInt ka sa A kb sb B r) :
    z.1 = t.2.2.2.2 ∧ RD so mi co ex z.2.1 z.2.2.1 z.2.2.2.1 z.2.2.2.2 t.1 t.2.1 t.2.2.1 t.2.2.2.1 := by
  have zA := ha.zero
  have zB := hb.zero
  have ha' := ha
  have hb' := hb
  obtain ⟨h1, h2, h3, h4, h5⟩ := ha'
  obtain ⟨g1, g2, g3, g4, g5⟩ := hb'
  have c0 : (0 : Int32).toInt = 0 := rfl
  have c1 : (1 : Int32).toInt = 1 := rfl
  have c2 : (2 : Int32).toInt = 2 := rfl
  have c3 : (3 : Int32).toInt = 3 := rfl
  unfold F_X3_setFromInfinity at hz
  unfold infS at ht
  obtain ⟨x1, e1, hz⟩ := bnd_x hz
  obtain ⟨x2, e2, hz⟩ := bnd_x hz
  have f1 : x1 = (sa != sb) := by rw [e1, ← h2, ← g2]; exact neB _ _
  have f2 : x2 = decide (ka = kb) := by
    rw [e2]; unfold Z_X3_setFromInfinity_J_108
    by_cases q : ka = kb
    · rw [if_pos (by rw [ti_eq, h1, g1]; exact q), decide_eq_true q]
    · rw [if_neg (by rw [ti_eq, h1, g1]; exact q), decide_eq_false q]
  have hboth : x2 = true ↔ ka = kb := by rw [f2]; simp
  clear e1 e2 f2
  by_cases p0 : op = 0
  · rw [if_pos p0] at hz
    rw [ti_eq, c0] at p0
    rw [if_pos (Or.inl p0)] at ht
    obtain ⟨y, ey, hz⟩ := bnd_x hz
    have hR := sp_addInf ha hb ey (t := t) (by rw [ht]; dsimp only; rw [if_neg (show ¬ op.toInt = 1 by omega), g2])
    subst hz
    exact hR
  · rw [if_neg p0] at hz
    rw [ti_eq, c0] at p0
    by_cases p1 : op = 1
    · rw [if_pos p1] at hz
      rw [ti_eq, c1] at p1
      rw [if_pos (Or.inr p1)] at ht
      obtain ⟨w, ew, hz⟩ := bnd_x hz
      obtain ⟨y, ey, hz⟩ := bnd_x hz
      have fw : w = !sb := by rw [ew]; unfold Z_X3_setFromInfinity_J_119; rw [g2]; cases sb <;> rfl
      have hR := sp_addInf ha hb ey (t := t) (by rw [ht]; dsimp only; rw [if_pos p1, fw])
      subst hz
      exact hR
    · rw [if_neg p1] at hz
      rw [ti_eq, c1] at p1
      rw [if_neg (by omega)] at ht
      by_cases p2 : op = 2
      · rw [if_pos p2] at hz
        rw [ti_eq, c2] at p2
        rw [if_pos p2] at ht
        by_cases za : F_X0_isZero so co i = true
        · rw [if_pos za] at hz
          rw [if_pos (Or.inl (zA.mp za))] at ht
          obtain ⟨y, ey, hz⟩ := bnd_x hz
          have hR := sp_invalid ey
          subst hz; subst ht
          exact hR
        · rw [if_neg za] at hz
          by_cases zb : F_X0_isZero so co j = true
          · rw [if_pos zb] at hz
            rw [if_pos (Or.inr (zB.mp zb))] at ht
            obtain ⟨y, ey, hz⟩ := bnd_x hz
            have hR := sp_invalid ey
            subst hz; subst ht
            exact hR
          · rw [if_neg zb] at hz
            rw [if_neg (fun q => q.elim (fun q => za (zA.mpr q)) (fun q => zb (zB.mpr q)))] at ht
            obtain ⟨y, ey, hz⟩ := bnd_x hz
            rw [f1] at ey
            have hR := sp_setInfinity ey
            subst hz; subst ht
            exact ⟨rfl, hR⟩
      · rw [if_neg p2] at hz
        rw [ti_eq, c2] at p2
        rw [if_neg p2] at ht
        by_cases p3 : op = 3
        · rw [if_pos p3] at hz
          rw [ti_eq, c3] at p3
          rw [if_pos p3] at ht
          by_cases eq : ka = kb
          · rw [if_pos (hboth.mpr eq)] at hz
            rw [if_pos eq] at ht
            obtain ⟨y, ey, hz⟩ := bnd_x hz
            have hR := sp_invalid ey
            subst hz; subst ht
            exact hR
          · rw [if_neg (fun q => eq (hboth.mp q))] at hz
            rw [if_neg eq] at ht
            by_cases k1 : so i = 1
            · rw [if_pos k1] at hz
              rw [ti_eq, h1, c1] at k1
              rw [if_pos k1] at ht
              obtain ⟨y, ey, hz⟩ := bnd_x hz
              rw [f1] at ey
              have hR := sp_setInfinity ey
              subst hz; subst ht
              exact ⟨rfl, hR⟩
            · rw [if_neg k1] at hz
              rw [ti_eq, h1, c1] at k1
              rw [if_neg k1] at ht
              obtain ⟨y, ey, hz⟩ := bnd_x hz
              rw [f1] at ey
              have hR := sp_setFinite (cn := 0) (qi := -398) rfl rfl ey
              subst hz; subst ht
              exact ⟨rfl, hR⟩
        · rw [if_neg p3] at hz
          rw [ti_eq, c3] at p3
          rw [if_neg p3] at ht
          have hz2 : z = if x2 = true then (bnd (F_X0_take so mi co ex 8 i) (fun u148 => (r, u148.1, u148.2.1, u148.2.2.1, u148.2.2.2))) else (bnd (F_X3_setInvalid r so mi co ex) (fun u146 => (u146.1, u146.2.1, u146.2.2.1, u146.2.2.2.1, u146.2.2.2.2))) := by
            rw [hz]; split <;> rfl
          clear hz
          by_cases eq : ka = kb
          · rw [if_pos (hboth.mpr eq)] at hz2
            rw [if_pos eq] at ht
            obtain ⟨y, ey, hz⟩ := bnd_x hz2
            have hR := sp_take ha ey
            have hi : ka = 1 ∧ A = 0 ∧ ea = 0 := by rcases h5 with h5 | h5 | h5 <;> omega
            rw [hi.1, hi.2.1, hi.2.2] at hR
            subst hz; subst ht
            exact ⟨rfl, hR⟩
          · rw [if_neg (fun q => eq (hboth.mp q))] at hz2
            rw [if_neg eq] at ht
            obtain ⟨y, ey, hz⟩ := bnd_x hz2
            have hR := sp_invalid ey
            subst hz; subst ht
            exact hR
end OPS
