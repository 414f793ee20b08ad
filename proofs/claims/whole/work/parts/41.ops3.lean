/-! what an operation gives is a datum -/
abbrev VT (t : Int × Bool × Nat × Int × Int32) : Prop := VS t.1 t.2.1 t.2.2.1 t.2.2.2.1
theorem greatS_v (mode : Int) (neg : Bool) (r : Int32) : VT (greatS mode neg r) := by
  unfold greatS
  split
  · exact Or.inl ⟨rfl, by dsimp only; decide, by dsimp only; decide, by dsimp only; decide⟩
  · exact Or.inr (Or.inl ⟨rfl, rfl, rfl⟩)
theorem roundS_v (mode : Int) (neg : Bool) (M : Nat) (h : Int) (s : Bool) (r : Int32) : VT (roundS mode neg M h s r) := by
  unfold roundS
  dsimp only
  split
  · exact greatS_v _ _ _
  · obtain ⟨d, ed⟩ : ∃ d : Nat, d = (max (-398) (h + nd M - 16) - h).toNat := ⟨_, rfl⟩
    have hkb : M / 10 ^ d < 10000000000000000 := by
      rw [Nat.div_lt_iff_lt_mul (p10 d), ← p16, ← p10a]
      exact nd_lt' (by omega)
    have hm := rnd_le (mode := mode) (neg := neg) (s := s) hkb
    rw [← ed]
    generalize rnd mode neg M d s = R at hm ⊢
    by_cases q : R = 10000000000000000
    · rw [if_pos q, if_pos q]
      split
      · exact greatS_v _ _ _
      · exact Or.inl ⟨rfl, by dsimp only; decide, by dsimp only; omega, by dsimp only; omega⟩
    · rw [if_neg q, if_neg q]
      split
      · exact greatS_v _ _ _
      · exact Or.inl ⟨rfl, by dsimp only; omega, by dsimp only; omega, by dsimp only; omega⟩
theorem mul_lt16 {A k : Nat} (h : nd A + k ≤ 16) : A * 10 ^ k < 10000000000000000 := by
  have h1 := Nat.mul_lt_mul_of_pos_right (nd_lt A) (p10 k)
  rw [← p10a] at h1
  have h2 := p10_16 (k := nd A + k) h
  omega
theorem fitC_v (mode : Int) (neg : Bool) (M : Nat) (h : Int) (s : Bool) (wish : Int) (r : Int32) : VT (fitC mode neg M h s wish r) := by
  unfold fitC
  split
  · next q =>
    obtain ⟨q1, q2, q3, q4⟩ := q
    exact Or.inl ⟨rfl, mul_lt16 (by omega), by dsimp only; omega, by dsimp only; omega⟩
  · exact roundS_v _ _ _ _ _ _
theorem fitS_v (mode : Int) (neg : Bool) (N : Nat) (u : Int) (s : Bool) (wish : Int) (r : Int32) : VT (fitS mode neg N u s wish r) := by
  unfold fitS
  split
  · exact Or.inl ⟨rfl, by dsimp only; decide, by dsimp only; omega, by dsimp only; omega⟩
  · split <;> exact fitC_v _ _ _ _ _ _ _
theorem quantS_v {mode : Int} {sa : Bool} {A : Nat} {ea q : Int} {r : Int32} (hA : A < 10000000000000000) (h1 : -398 ≤ q) (h2 : q ≤ 369) : VT (quantS mode sa A ea q r) := by
  unfold quantS
  split
  · refine Or.inl ⟨rfl, ?_, h1, h2⟩
    dsimp only
    have k1 : A / 10 ^ (q - ea).toNat ≤ A / 10 := by
      have := p10le (a := 1) (b := (q - ea).toNat) (by omega)
      rw [Nat.pow_one] at this
      exact Nat.div_le_div_left this (by decide)
    unfold rnd
    split <;> omega
  · split
    · exact Or.inl ⟨rfl, by dsimp only; decide, h1, h2⟩
    · split
      · exact Or.inr (Or.inr ⟨rfl, rfl, rfl, rfl⟩)
      · exact Or.inl ⟨rfl, mul_lt16 (by omega), h1, h2⟩
theorem nextS_v {k : Int} {n : Bool} {A : Nat} {e : Int} {r : Int32} (h : VS k n A e) : VT (nextS k n A e r) := by
  unfold nextS
  by_cases k2 : k = 2
  · rw [if_pos k2]
    rcases h with h | h | h
    · omega
    · omega
    · exact Or.inr (Or.inr ⟨rfl, h.2.1, rfl, rfl⟩)
  · rw [if_neg k2]
    by_cases k1 : k = 1
    · rw [if_pos k1]
      split
      · exact Or.inl ⟨rfl, by dsimp only; decide, by dsimp only; decide, by dsimp only; decide⟩
      · exact Or.inr (Or.inl ⟨rfl, rfl, rfl⟩)
    · rw [if_neg k1]
      have h0 : k = 0 ∧ A < 10000000000000000 ∧ -398 ≤ e ∧ e ≤ 369 := by rcases h with h | h | h <;> omega
      obtain ⟨-, hA, b1, b2⟩ := h0
      have hnA : nd A ≤ 16 := by rw [nd_le, p16]; exact hA
      split
      · exact Or.inl ⟨rfl, by dsimp only; decide, by dsimp only; decide, by dsimp only; decide⟩
      · dsimp only
        have hc := mul_lt16 (A := A) (k := (min (16 - nd A : Int) (e + 398)).toNat) (by omega)
        generalize A * 10 ^ (min (16 - nd A : Int) (e + 398)).toNat = c at hc ⊢
        split
        · split
          · exact Or.inl ⟨rfl, by dsimp only; decide, by dsimp only; omega, by dsimp only; omega⟩
          · exact Or.inl ⟨rfl, by dsimp only; omega, by dsimp only; omega, by dsimp only; omega⟩
        · split
          · exact Or.inl ⟨rfl, by dsimp only; omega, by dsimp only; omega, by dsimp only; omega⟩
          · split
            · exact Or.inl ⟨rfl, by dsimp only; omega, by dsimp only; omega, by dsimp only; omega⟩
            · exact Or.inr (Or.inl ⟨rfl, rfl, rfl⟩)
theorem infS_v (op : Int) (ka : Int) (sa : Bool) (A : Nat) (kb : Int) (sb : Bool) (B : Nat) (r : Int32) : VT (infS op ka sa A kb sb B r) := by
  have v2 : ∀ r : Int32, VT (2, false, 0, 0, r) := fun r => Or.inr (Or.inr ⟨rfl, rfl, rfl, rfl⟩)
  have v1 : ∀ (s : Bool) (r : Int32), VT (1, s, 0, 0, r) := fun s r => Or.inr (Or.inl ⟨rfl, rfl, rfl⟩)
  unfold infS
  dsimp only
  generalize (if op = 1 then !sb else sb) = s'
  split
  · split
    · exact v2 _
    · exact v1 _ _
  · split
    · split
      · exact v2 _
      · exact v1 _ _
    · split
      · split
        · exact v2 _
        · split
          · exact v1 _ _
          · exact Or.inl ⟨rfl, by dsimp only; decide, by dsimp only; decide, by dsimp only; decide⟩
      · split
        · exact v1 _ _
        · exact v2 _
theorem finS_v {mode op : Int} {sa : Bool} {A : Nat} {ea : Int} {sb : Bool} {B : Nat} {eb : Int} {r : Int32} (hA : A < 10000000000000000) (h1 : -398 ≤ eb) (h2 : eb ≤ 369) : VT (finS mode op sa A ea sb B eb r) := by
  unfold finS
  split
  · exact fitS_v _ _ _ _ _ _ _
  · split
    · exact fitS_v _ _ _ _ _ _ _
    · split
      · exact fitS_v _ _ _ _ _ _ _
      · split
        · split
          · split
            · exact Or.inr (Or.inr ⟨rfl, rfl, rfl, rfl⟩)
            · exact Or.inr (Or.inl ⟨rfl, rfl, rfl⟩)
          · exact fitS_v _ _ _ _ _ _ _
        · exact quantS_v hA h1 h2
theorem opS_v {mode op : Int} {ka : Int} {sa : Bool} {A : Nat} {ea : Int} {kb : Int} {sb : Bool} {B : Nat} {eb : Int} {r : Int32} (ha : VS ka sa A ea) (hb : VS kb sb B eb) : VT (opS mode op ka sa A ea kb sb B eb r) := by
  unfold opS
  by_cases o6 : op = 6
  · rw [if_pos o6]; exact nextS_v ha
  · rw [if_neg o6]
    by_cases n2 : ka = 2 ∨ kb = 2
    · rw [if_pos n2]; exact Or.inr (Or.inr ⟨rfl, rfl, rfl, rfl⟩)
    · rw [if_neg n2]
      by_cases o5 : op = 5
      · rw [if_pos o5]; split
        · exact hb
        · exact ha
      · rw [if_neg o5]
        by_cases i1 : ka = 1 ∨ kb = 1
        · rw [if_pos i1]; exact infS_v _ _ _ _ _ _ _ _
        · rw [if_neg i1]
          have hA : A < 10000000000000000 := by rcases ha with h | h | h <;> omega
          have hB : -398 ≤ eb ∧ eb ≤ 369 := by rcases hb with h | h | h <;> omega
          exact finS_v hA hB.1 hB.2
section OPS
variable {so : Nat → Int32} {mi : Nat → Bool} {co : Nat → Int64} {ex : Nat → Int32} {i j : Nat}
theorem sp_fromFin {rd r : Int32} {om : Bool} {oh ol : Int64} {op : Int32} {oe : Bool} {ow : Int32} {ok : Int64} {os : Int32} {p0 : Int32} {sa : Bool} {A : Nat} {ea : Int} {sb : Bool} {B : Nat} {eb : Int} (ha : VD so mi co ex i 0 sa A ea) (hb : VD so mi co ex j 0 sb B eb)
    {z : Int32 × Bool × Int64 × Int64 × Int32 × Bool × Int32 × Int64 × Int32 × (Nat → Int32) × (Nat → Bool) × (Nat → Int64) × (Nat → Int32)} (hz : z = F_X3_setFromFinite rd r om oh ol op oe ow ok os so mi co ex p0 i j) {t : Int × Bool × Nat × Int × Int32} (ht : t = finS rd.toInt p0.toInt sa A ea sb B eb r) :
    S_X3_setFromFinite rd r om oh ol op oe ow ok os so mi co ex p0 i j ∧ z.1 = t.2.2.2.2 ∧ RD so mi co ex z.2.2.2.2.2.2.2.2.2.1 z.2.2.2.2.2.2.2.2.2.2.1 z.2.2.2.2.2.2.2.2.2.2.2.1 z.2.2.2.2.2.2.2.2.2.2.2.2 t.1 t.2.1 t.2.2.1 t.2.2.2.1 := by
  obtain ⟨h1, h2, h3, h4, h5⟩ := ha
  obtain ⟨g1, g2, g3, g4, g5⟩ := hb
  have c0 : (0 : Int32).toInt = 0 := rfl
  have c1 : (1 : Int32).toInt = 1 := rfl
  have c2 : (2 : Int32).toInt = 2 := rfl
  have c3 : (3 : Int32).toInt = 3 := rfl
  have c4 : (4 : Int32).toInt = 4 := rfl
  have hA : A < 10000000000000000 ∧ -398 ≤ ea ∧ ea ≤ 369 := by rcases h5 with h5 | h5 | h5 <;> omega
  have hB : B < 10000000000000000 ∧ -398 ≤ eb ∧ eb ≤ 369 := by rcases g5 with g5 | g5 | g5 <;> omega
  obtain ⟨hA2, ba1, ba2⟩ := hA
  obtain ⟨hB2, bb1, bb2⟩ := hB
  have zA := sp_dZero (so := so) (co := co) h1 h3
  have zB := sp_dZero (so := so) (co := co) g1 g3
  have hlow : Z_X3_setFromFinite_J_123 rd = decide (rd.toInt = 4) := by
    unfold Z_X3_setFromFinite_J_123
    by_cases q : rd.toInt = 4
    · rw [if_pos (by rw [ti_eq, c4]; exact q), decide_eq_true q]
    · rw [if_neg (by rw [ti_eq, c4]; exact q), decide_eq_false q]
  unfold F_X3_setFromFinite at hz
  unfold S_X3_setFromFinite
  unfold finS at ht
  by_cases p0' : p0 = 0
  · rw [if_pos p0'] at hz ⊢
    rw [ti_eq, c0] at p0'
    rw [if_pos p0'] at ht
    obtain ⟨x, ex1, hz⟩ := bnd_x hz
    obtain ⟨y, ey, hz⟩ := bnd_x hz
    obtain ⟨w, ew, hz⟩ := bnd_x hz
    rw [g2] at ey ⊢
    obtain ⟨s1, s2, N, u, s3, s4, s5, s6⟩ := sp_setSum h1 g1 h3 g3 hA2 hB2 h4 g4 (by omega) (by omega) ey
    have hx4 : x = decide (rd.toInt = 4) := by rw [ex1, hlow]
    obtain ⟨r1, r2, r3⟩ := sp_fit s5 s3 s4 ew (t := t) (by rw [ht, s2, s6 rd.toInt r hx4, h2])
    refine ⟨all_n ex1 ⟨s1, all_n ey r1⟩, ?_⟩
    subst hz
    exact ⟨r2, r3⟩
  · rw [if_neg p0'] at hz ⊢
    rw [ti_eq, c0] at p0'
    rw [if_neg p0'] at ht
    by_cases p1' : p0 = 1
    · rw [if_pos p1'] at hz ⊢
      rw [ti_eq, c1] at p1'
      rw [if_pos p1'] at ht
      obtain ⟨b, eb', hz⟩ := bnd_x hz
      obtain ⟨x, ex1, hz⟩ := bnd_x hz
      obtain ⟨y, ey, hz⟩ := bnd_x hz
      obtain ⟨w, ew, hz⟩ := bnd_x hz
      have hbn : b = !sb := by rw [eb']; unfold Z_X3_setFromFinite_J_119; rw [g2]; cases sb <;> rfl
      obtain ⟨s1, s2, N, u, s3, s4, s5, s6⟩ := sp_setSum h1 g1 h3 g3 hA2 hB2 h4 g4 (by omega) (by omega) ey
      have hx4 : x = decide (rd.toInt = 4) := by rw [ex1, hlow]
      obtain ⟨r1, r2, r3⟩ := sp_fit s5 s3 s4 ew (t := t) (by rw [ht, s2, s6 rd.toInt r hx4, h2, hbn])
      refine ⟨all_n eb' (all_n ex1 ⟨s1, all_n ey r1⟩), ?_⟩
      subst hz
      exact ⟨r2, r3⟩
    · rw [if_neg p1'] at hz ⊢
      rw [ti_eq, c1] at p1'
      rw [if_neg p1'] at ht
      by_cases p2' : p0 = 2
      · rw [if_pos p2'] at hz ⊢
        rw [ti_eq, c2] at p2'
        rw [if_pos p2'] at ht
        obtain ⟨y, ey, hz⟩ := bnd_x hz
        obtain ⟨w, ew, hz⟩ := bnd_x hz
        obtain ⟨s1, s2, s3, s4⟩ := sp_product h3 g3 hA2 hB2 h4 g4 (by omega) (by omega) ey
        rw [← s3] at s2
        obtain ⟨r1, r2, r3⟩ := sp_fit s2 (by omega) (by omega) ew (t := t) (by rw [ht, s1, s3, s4, h2, g2])
        refine ⟨all_n ey r1, ?_⟩
        subst hz
        exact ⟨r2, r3⟩
      · rw [if_neg p2'] at hz ⊢
        rw [ti_eq, c2] at p2'
        rw [if_neg p2'] at ht
        by_cases p3' : p0 = 3
        · rw [if_pos p3'] at hz ⊢
          rw [ti_eq, c3] at p3'
          rw [if_pos p3'] at ht
          by_cases b0 : B = 0
          · rw [if_pos (zB.mpr b0)] at hz ⊢
            rw [if_pos b0] at ht
            obtain ⟨w, ew, hz⟩ := bnd_x hz
            unfold F_X3_divideByZero at ew
            refine ⟨trivial, ?_⟩
            by_cases a0 : A = 0
            · rw [if_pos (zA.mpr a0)] at ew
              rw [if_pos a0] at ht
              obtain ⟨y, ey, ew⟩ := bnd_x ew
              have hR := sp_invalid ey
              subst ew; subst hz; subst ht
              exact hR
            · rw [if_neg (fun q => a0 (zA.mp q))] at ew
              rw [if_neg a0] at ht
              obtain ⟨x, ex1, ew⟩ := bnd_x ew
              obtain ⟨v, ev, ew⟩ := bnd_x ew
              obtain ⟨y, ey, ew⟩ := bnd_x ew
              have hv : v = (sa != sb) := by rw [ev, ← h2, ← g2]; exact neB _ _
              rw [hv] at ey
              have hR := sp_setInfinity ey
              subst ew; subst hz; subst ht
              exact ⟨by rw [ex1]; rfl, hR⟩
          · rw [if_neg (fun q => b0 (zB.mp q))] at hz ⊢
            rw [if_neg b0] at ht
            obtain ⟨y, ey, hz⟩ := bnd_x hz
            obtain ⟨v, ev, hz⟩ := bnd_x hz
            obtain ⟨s1, s2, ⟨k, hk, s3, s4⟩, s5⟩ := sp_quotient h3 g3 hA2 (Nat.pos_of_ne_zero b0) hB2 h4 g4 (by omega) (by omega) ey
            have hd := divS_cut rd.toInt (sa != sb) A B ea eb r k hk (Nat.pos_of_ne_zero b0) s3.2.2.2.2
            rw [← s4] at s3 hd
            obtain ⟨r1, r2, r3⟩ := sp_fit s3 (by omega) (by omega) ev (t := t) (by rw [ht, hd, s2, s5, h2, g2])
            refine ⟨⟨s1, all_n ey r1⟩, ?_⟩
            subst hz
            exact ⟨r2, r3⟩
        · rw [if_neg p3'] at hz ⊢
          rw [ti_eq, c3] at p3'
          rw [if_neg p3'] at ht
          obtain ⟨y, ey⟩ : ∃ y, y = F_X3_quantize rd r om oh ol op oe ok os so mi co ex i (ex j) := ⟨_, rfl⟩
          obtain ⟨r1, r2, r3⟩ := sp_quantize h1 h3 hA2 h4 g4 (by omega) (by omega) ey (t := t) (by rw [ht, h2])
          refine ⟨by split <;> exact r1, ?_⟩
          have hz2 : z = (y.1, y.2.1, y.2.2.1, y.2.2.2.1, y.2.2.2.2.1, y.2.2.2.2.2.1, ow, y.2.2.2.2.2.2.1, y.2.2.2.2.2.2.2.1, y.2.2.2.2.2.2.2.2.1, y.2.2.2.2.2.2.2.2.2.1, y.2.2.2.2.2.2.2.2.2.2.1, y.2.2.2.2.2.2.2.2.2.2.2) := by
            rw [hz, ey]; split <;> rfl
          rw [hz2]
          exact ⟨r2, r3⟩
theorem sp_setResult {rd r : Int32} {om : Bool} {oh ol : Int64} {op : Int32} {oe : Bool} {ow : Int32} {ok : Int64} {os : Int32} {p0 : Int32} {ka : Int} {sa : Bool} {A : Nat} {ea : Int} {kb : Int} {sb : Bool} {B : Nat} {eb : Int} (ha : VD so mi co ex i ka sa A ea) (hb : VD so mi co ex j kb sb B eb)
    {z : Int32 × Bool × Int64 × Int64 × Int32 × Bool × Int32 × Int64 × Int32 × (Nat → Int32) × (Nat → Bool) × (Nat → Int64) × (Nat → Int32)} (hz : z = F_X3_setResult rd r om oh ol op oe ow ok os so mi co ex p0 i j) {t : Int × Bool × Nat × Int × Int32} (ht : t = opS rd.toInt p0.toInt ka sa A ea kb sb B eb r) :
    S_X3_setResult rd r om oh ol op oe ow ok os so mi co ex p0 i j ∧ z.1 = t.2.2.2.2 ∧ RD so mi co ex z.2.2.2.2.2.2.2.2.2.1 z.2.2.2.2.2.2.2.2.2.2.1 z.2.2.2.2.2.2.2.2.2.2.2.1 z.2.2.2.2.2.2.2.2.2.2.2.2 t.1 t.2.1 t.2.2.1 t.2.2.2.1 := by
  have h1 := ha.1
  have g1 := hb.1
  have c0 : (0 : Int32).toInt = 0 := rfl
  have c1 : (1 : Int32).toInt = 1 := rfl
  have c2 : (2 : Int32).toInt = 2 := rfl
  have c5 : (5 : Int32).toInt = 5 := rfl
  have c6 : (6 : Int32).toInt = 6 := rfl
  unfold F_X3_setResult at hz
  unfold S_X3_setResult
  unfold opS at ht
  by_cases o6 : p0 = 6
  · rw [if_pos o6] at hz ⊢
    rw [ti_eq, c6] at o6
    rw [if_pos o6] at ht
    obtain ⟨y, ey, hz⟩ := bnd_x hz
    obtain ⟨r1, r2, r3⟩ := sp_next ha ey ht
    subst hz
    exact ⟨r1, r3.symm, r2⟩
  · rw [if_neg o6] at hz ⊢
    rw [ti_eq, c6] at o6
    rw [if_neg o6] at ht
    by_cases n1 : so i = 2
    · rw [if_pos n1] at hz ⊢
      rw [ti_eq, h1, c2] at n1
      rw [if_pos (Or.inl n1)] at ht
      obtain ⟨y, ey, hz⟩ := bnd_x hz
      have hR := sp_setNothing ey
      subst hz; subst ht
      exact ⟨trivial, rfl, hR⟩
    · rw [if_neg n1] at hz ⊢
      rw [ti_eq, h1, c2] at n1
      by_cases n2 : so j = 2
      · rw [if_pos n2] at hz ⊢
        rw [ti_eq, g1, c2] at n2
        rw [if_pos (Or.inr n2)] at ht
        obtain ⟨y, ey, hz⟩ := bnd_x hz
        have hR := sp_setNothing ey
        subst hz; subst ht
        exact ⟨trivial, rfl, hR⟩
      · rw [if_neg n2] at hz ⊢
        rw [ti_eq, g1, c2] at n2
        rw [if_neg (by omega)] at ht
        by_cases o5 : p0 = 5
        · rw [if_pos o5] at hz ⊢
          rw [ti_eq, c5] at o5
          rw [if_pos o5] at ht
          obtain ⟨q1, q2⟩ := sp_order hb ha n2 n1
          rw [orderS_anti] at q1
          refine ⟨q2, ?_⟩
          obtain ⟨x, ex1, hz⟩ := bnd_x hz
          obtain ⟨y, ey, hz⟩ := bnd_x hz
          unfold Z_X3_setResult_J_122 at ex1
          by_cases g : 0 ≤ F_X3_order so mi co ex j i
          · rw [if_pos g] at ex1
            rw [ti_le, c0, q1] at g
            rw [if_neg (by omega)] at ht
            rw [ex1] at ey
            have hR := sp_take ha ey
            subst hz; subst ht
            exact ⟨rfl, hR⟩
          · rw [if_neg g] at ex1
            rw [ti_le, c0, q1] at g
            rw [if_pos (by omega)] at ht
            rw [ex1] at ey
            have hR := sp_take hb ey
            subst hz; subst ht
            exact ⟨rfl, hR⟩
        · rw [if_neg o5] at hz ⊢
          rw [ti_eq, c5] at o5
          rw [if_neg o5] at ht
          by_cases i1 : so i = 1
          · rw [if_pos i1] at hz ⊢
            rw [ti_eq, h1, c1] at i1
            rw [if_pos (Or.inl i1)] at ht
            obtain ⟨y, ey, hz⟩ := bnd_x hz
            have hR := sp_fromInf ha hb n1 n2 (Or.inl i1) ey ht
            subst hz
            exact ⟨trivial, hR⟩
          · rw [if_neg i1] at hz ⊢
            rw [ti_eq, h1, c1] at i1
            by_cases i2 : so j = 1
            · rw [if_pos i2] at hz ⊢
              rw [ti_eq, g1, c1] at i2
              rw [if_pos (Or.inr i2)] at ht
              obtain ⟨y, ey, hz⟩ := bnd_x hz
              have hR := sp_fromInf ha hb n1 n2 (Or.inr i2) ey ht
              subst hz
              exact ⟨trivial, hR⟩
            · rw [if_neg i2] at hz ⊢
              rw [ti_eq, g1, c1] at i2
              rw [if_neg (by omega)] at ht
              have ka0 : ka = 0 := by rcases ha.2.2.2.2 with h | h | h <;> omega
              have kb0 : kb = 0 := by rcases hb.2.2.2.2 with h | h | h <;> omega
              subst ka0; subst kb0
              obtain ⟨y, ey, hz⟩ := bnd_x hz
              obtain ⟨r1, r2, r3⟩ := sp_fromFin ha hb ey ht
              subst hz
              exact ⟨r1, r2, r3⟩
end OPS
