section MOP
variable {ks : Nat → Int32} {ms : Nat → Bool} {cs : Nat → Int64} {es : Nat → Int32}
theorem sp_mnextLoop {x : Int64} {e : Int32} {A : Nat} {q : Int} (hx : x.toInt = (A : Int)) (he : e.toInt = q) (hA0 : A ≠ 0) (hA : A < 10000000000000000) (hq : -398 ≤ q ∧ q ≤ 369) {z : Int64 × Int32} (hz : z = wl (G_X4_next_98) (B_X4_next_98) 901 (x, e)) :
    z.1.toInt = ((A * 10 ^ (min (16 - nd A : Int) (q + 398)).toNat : Nat) : Int) ∧ z.2.toInt = q - min (16 - nd A : Int) (q + 398) ∧ G_X4_next_98 (wl (G_X4_next_98) (B_X4_next_98) 901 (x, e)) = false := by
  have cm1 : (-1 : Int32).toInt = -1 := rfl
  have c398 : (-398 : Int32).toInt = -398 := rfl
  have l15 : (1000000000000000 : Int64).toInt = 1000000000000000 := rfl
  have l10 : (10 : Int64).toInt = ((10 : Nat) : Int) := rfl
  have hnA : nd A ≤ 16 := by rw [nd_le, p16]; exact hA
  have hG : ∀ t, G_X4_next_98 t = true ↔ ¬ t.2 ≤ -398 ∧ ¬ 1000000000000000 ≤ t.1 := by
    intro t; unfold G_X4_next_98; dsimp only [bnd]
    by_cases h : t.2 ≤ -398
    · simp [h]
    · by_cases h2 : 1000000000000000 ≤ t.1
      · simp [h2]
      · simp [h, h2]
  have hn : ∀ j, nd (A * 10 ^ j) = nd A + j := fun j => nd_mul j hA0
  have R := wl_run (G := G_X4_next_98) (B := B_X4_next_98) (N := 901) (t := (x, e)) (fun j t => t.1.toInt = ((A * 10 ^ j : Nat) : Int) ∧ t.2.toInt = q - (j : Int) ∧ (j : Int) ≤ min (16 - nd A : Int) (q + 398))
    ⟨by rw [Nat.pow_zero, Nat.mul_one]; exact hx, by rw [he]; omega, by omega⟩
    (by
      rintro j t _ ⟨h1, h2, h3⟩ hg
      obtain ⟨g1, g2⟩ := (hG t).mp hg
      have ee : B_X4_next_98 t = (10 * t.1, t.2 + -1) := by unfold B_X4_next_98; dsimp only [bnd]; rw [if_neg g1, if_neg g2]
      rw [ti_le, c398, h2] at g1
      rw [tl_le, l15, h1] at g2
      have hb : A * 10 ^ j < 10 ^ 15 := by rw [p15]; omega
      have hj := (nd_le 15 (A * 10 ^ j)).mpr hb
      rw [hn] at hj
      rw [p15] at hb
      have e10 : A * 10 ^ (j + 1) = 10 * (A * 10 ^ j) := by rw [p10s, Nat.mul_left_comm]
      rw [ee, e10]
      exact ⟨tn_mul l10 h1 (by omega), by rw [ti_add (by omega) (by omega), h2, cm1]; omega, by omega⟩)
    (by
      intro t hP
      have h2 := hP.2.2
      clear hP
      omega)
  obtain ⟨⟨k, hk, h1, h2, h3⟩, hg, -⟩ := R
  have hng := ng_of hg
  rw [hG, ti_le, tl_le, c398, l15, h1, h2] at hng
  have ek : (k : Int) = min (16 - nd A : Int) (q + 398) := by
    apply Classical.byContradiction
    intro hne
    apply hng
    have hlt : nd (A * 10 ^ k) ≤ 15 := by rw [hn]; omega
    have hb := nd_lt' hlt
    rw [p15] at hb
    exact ⟨by omega, by omega⟩
  rw [← ek, Int.toNat_natCast]
  exact ⟨by rw [hz]; exact h1, by rw [hz]; exact h2, hg⟩
theorem sp_mnext {p0 : Int32} {k : Int} {n : Bool} {A : Nat} {e : Int} (r : Int32) (h0 : vp_in p0 8) (h : VD ks ms cs es p0.toNatClampNeg k n A e) (n2 : k ≠ 2) {z : Int32 × Bool × Int64 × Int32} (hz : z = F_X4_next ks ms cs es p0) : MRc z.1 z.2.1 z.2.2.1 z.2.2.2 r (nextS k n A e r) ∧ S_X4_next ks ms cs es p0 := by
  obtain ⟨a1, a2, a3, a4, a5⟩ := h
  have c1 : (1 : Int32).toInt = 1 := rfl
  have z0 : (0 : Int32).toInt = 0 := rfl
  have c398 : (-398 : Int32).toInt = -398 := rfl
  have c369 : (369 : Int32).toInt = 369 := rfl
  have l1 : (1 : Int64).toInt = 1 := rfl
  have l15 : (1000000000000000 : Int64).toInt = 1000000000000000 := rfl
  have lE : (10000000000000000 : Int64).toInt = 10000000000000000 := rfl
  have iA := sp_is (v := 1) a1
  rw [c1] at iA
  have cA := sp_czero a3
  unfold F_X4_next at hz
  unfold S_X4_next nextS
  rw [if_neg n2]
  by_cases ia : k = 1
  · rw [if_pos (iA.mpr ia)] at hz
    rw [if_pos ia, if_pos (iA.mpr ia)]
    refine ⟨?_, h0, h0⟩
    unfold Z_X4_next_J_157 Z_X4_next_J_161 Z_X4_next_J_165 at hz
    dsimp only [bnd] at hz
    rw [a2] at hz
    subst hz
    cases n <;> exact ⟨rfl, rfl, rfl, rfl, rfl⟩
  · rw [if_neg (fun q => ia (iA.mp q))] at hz
    rw [if_neg ia, if_neg (fun q => ia (iA.mp q))]
    obtain ⟨k0, hA, be1, be2, hnA⟩ := fin_b a5 ia n2
    obtain ⟨x, ex1, hz⟩ := bnd_x hz
    obtain ⟨q, eq, hz⟩ := bnd_x hz
    have fx : x.toInt = (A : Int) := by rw [ex1]; exact a3
    have fq : q.toInt = e := by rw [eq]; exact a4
    by_cases A0 : A = 0
    · have x0 : x = 0 := by rw [ex1]; exact cA.mpr A0
      rw [if_pos x0] at hz
      rw [if_pos A0]
      refine ⟨?_, h0, h0, all_n ex1 (all_n eq (by rw [if_pos x0]; trivial))⟩
      subst hz
      exact ⟨rfl, rfl, rfl, rfl, rfl⟩
    · have x0 : ¬ x = 0 := by rw [ex1]; exact fun y => A0 (cA.mp y)
      rw [if_neg x0] at hz
      rw [if_neg A0]
      obtain ⟨w, ew, hz⟩ := bnd_x hz
      obtain ⟨w1, w2, w3⟩ := sp_mnextLoop fx fq A0 hA ⟨be1, be2⟩ ew
      refine ⟨?_, h0, h0, all_n ex1 (all_n eq (by rw [if_neg x0]; exact ⟨w3, fun _ _ => h0⟩))⟩
      obtain ⟨s, es'⟩ : ∃ s : Int, s = min (16 - nd A : Int) (e + 398) := ⟨_, rfl⟩
      rw [← es'] at w1 w2
      dsimp only
      rw [← es']
      have hc := mul_lt16 (A := A) (k := s.toNat) (by omega)
      have hc0 : 0 < A * 10 ^ s.toNat := Nat.mul_pos (Nat.pos_of_ne_zero A0) (p10 _)
      generalize A * 10 ^ s.toNat = c at w1 hc hc0 ⊢
      rw [a2] at hz
      by_cases n1 : n = true
      · rw [if_pos n1] at hz ⊢
        have fm : (w.1 - 1).toInt = ((c - 1 : Nat) : Int) := by rw [tl_sub (by omega) (by omega), w1, l1]; omega
        by_cases d1 : w.1 = 1000000000000000
        · rw [if_pos d1] at hz
          have d1' := d1
          rw [tl_eq, w1, l15] at d1'
          by_cases d2 : w.2 ≤ -398
          · rw [if_pos d2] at hz
            rw [ti_le, w2, c398] at d2
            rw [if_neg (by omega)]
            subst hz
            exact ⟨rfl, rfl, fm, w2, rfl⟩
          · rw [if_neg d2] at hz
            rw [ti_le, w2, c398] at d2
            rw [if_pos (by omega)]
            subst hz
            exact ⟨rfl, rfl, rfl, by show (w.2 - 1).toInt = _; rw [ti_sub (by omega) (by omega), w2, c1], rfl⟩
        · rw [if_neg d1] at hz
          rw [tl_eq, w1, l15] at d1
          rw [if_neg (by omega)]
          subst hz
          exact ⟨rfl, rfl, fm, w2, rfl⟩
      · rw [if_neg n1] at hz ⊢
        have fp : (w.1 + 1).toInt = ((c + 1 : Nat) : Int) := by rw [tl_add (by omega) (by omega), w1, l1]; omega
        obtain ⟨y, ey, hz⟩ := bnd_x hz
        rw [← ey] at fp
        unfold Z_X4_next_J_132 Z_X4_next_J_136 Z_X4_next_J_140 Z_X4_next_J_144 Z_X4_next_J_148 at hz
        dsimp only [bnd] at hz
        by_cases d1 : y = 10000000000000000
        · simp only [if_pos d1] at hz
          rw [tl_eq, fp, lE] at d1
          rw [if_neg (by omega)]
          have fe : (w.2 + 1).toInt = e - s + 1 := by rw [ti_add (by omega) (by omega), w2, c1]
          by_cases d2 : w.2 + 1 ≤ 369
          · simp only [if_pos d2] at hz
            rw [ti_le, fe, c369] at d2
            rw [if_pos (by omega)]
            subst hz
            exact ⟨rfl, rfl, rfl, fe, rfl⟩
          · simp only [if_neg d2] at hz
            rw [ti_le, fe, c369] at d2
            rw [if_neg (by omega)]
            subst hz
            exact ⟨rfl, rfl, rfl, rfl, rfl⟩
        · simp only [if_neg d1] at hz
          rw [tl_eq, fp, lE] at d1
          rw [if_pos (by omega)]
          have d2 : w.2 ≤ 369 := by rw [ti_le, w2, c369]; omega
          simp only [if_pos d2] at hz
          subst hz
          exact ⟨rfl, rfl, fp, w2, rfl⟩
/-- the reference's operations are as they are said -/
theorem sp_moperate {mo ct un : Int32} {re : Bool} {dg og : Nat → Int32} {p0 p1 p2 : Int32} {ka : Int} {sa : Bool} {A : Nat} {ea : Int} {kb : Int} {sb : Bool} {B : Nat} {eb : Int} (h0 : 0 ≤ p0.toInt ∧ p0.toInt ≤ 6) (h1 : vp_in p1 8) (h2 : vp_in p2 8) (ha : VD ks ms cs es p1.toNatClampNeg ka sa A ea) (hb : VD ks ms cs es p2.toNatClampNeg kb sb B eb)
    {z : Int32 × Bool × Int64 × Int32 × Int32 × Int32 × Int32 × Bool × (Nat → Int32) × (Nat → Int32)} (hz : z = F_X4_operate mo ct un re ks ms cs es dg og p0 p1 p2) {t : Int × Bool × Nat × Int × Int32} (ht : t = opS mo.toInt p0.toInt ka sa A ea kb sb B eb 0) :
    MRc z.1 z.2.1 z.2.2.1 z.2.2.2.1 z.2.2.2.2.1 t ∧ S_X4_operate mo ct un re ks ms cs es dg og p0 p1 p2 := by
  have a1 := ha.1
  have b1 := hb.1
  have c2 : (2 : Int32).toInt = 2 := rfl
  have c3 : (3 : Int32).toInt = 3 := rfl
  have c4 : (4 : Int32).toInt = 4 := rfl
  have c5 : (5 : Int32).toInt = 5 := rfl
  have c6 : (6 : Int32).toInt = 6 := rfl
  have c1 : (1 : Int32).toInt = 1 := rfl
  have z0 : (0 : Int32).toInt = 0 := rfl
  have nA := sp_is (v := 2) a1
  have nB := sp_is (v := 2) b1
  rw [c2] at nA nB
  unfold F_X4_operate at hz
  unfold S_X4_operate
  unfold opS at ht
  by_cases na : ka = 2
  · rw [if_pos (nA.mpr na)] at hz ⊢
    refine ⟨?_, h1, trivial⟩
    have hn : t = (2, false, 0, 0, 0) := by
      rw [ht]
      by_cases o6 : p0.toInt = 6
      · rw [if_pos o6]
        unfold nextS
        rw [if_pos na]
        have : sa = false := by rcases ha.2.2.2.2 with h | h | h <;> first | omega | exact h.2.1
        rw [this]
      · rw [if_neg o6, if_pos (Or.inl na)]
    subst hz
    rw [hn]
    exact ⟨rfl, rfl, rfl, rfl, rfl⟩
  · rw [if_neg (fun q => na (nA.mp q))] at hz ⊢
    by_cases o6 : p0 = 6
    · rw [if_pos o6] at hz ⊢
      have o6' := o6
      rw [ti_eq, c6] at o6'
      rw [if_pos o6'] at ht
      have g2 : 2 ≤ p0 := by rw [ti_le, c2]; omega
      have g3 : ¬ p0 = 2 := by rw [ti_eq, c2]; omega
      have g4 : ¬ p0 = 3 := by rw [ti_eq, c3]; omega
      have g5 : ¬ p0 = 4 := by rw [ti_eq, c4]; omega
      have g6 : ¬ p0 = 5 := by rw [ti_eq, c5]; omega
      rw [if_pos g2, if_neg g3, if_neg g4, if_neg g5, if_neg g6] at hz ⊢
      obtain ⟨y, ey, hz⟩ := bnd_x hz
      obtain ⟨r1, r2⟩ := sp_mnext 0 h1 ha na ey
      rw [← ht] at r1
      refine ⟨?_, h1, r2⟩
      subst hz
      exact r1
    · rw [if_neg o6] at hz ⊢
      have o6' := o6
      rw [ti_eq, c6] at o6'
      rw [if_neg o6'] at ht
      by_cases nb : kb = 2
      · rw [if_pos (nB.mpr nb)] at hz ⊢
        rw [if_pos (Or.inr nb)] at ht
        refine ⟨?_, h1, h2, trivial⟩
        subst hz; subst ht
        exact ⟨rfl, rfl, rfl, rfl, rfl⟩
      · rw [if_neg (fun q => nb (nB.mp q))] at hz ⊢
        rw [if_neg (by omega)] at ht
        by_cases g2 : 2 ≤ p0
        · rw [if_pos g2] at hz ⊢
          rw [ti_le, c2] at g2
          by_cases g3 : p0 = 2
          · rw [if_pos g3] at hz ⊢
            rw [ti_eq, c2] at g3
            rw [if_neg (by omega), g3] at ht
            obtain ⟨y, ey, hz⟩ := bnd_x hz
            obtain ⟨r1, r2⟩ := sp_mmul h1 h2 ha hb na nb ey ht
            refine ⟨?_, h1, h2, r2⟩
            subst hz
            exact r1
          · rw [if_neg g3] at hz ⊢
            rw [ti_eq, c2] at g3
            by_cases g4 : p0 = 3
            · rw [if_pos g4] at hz ⊢
              rw [ti_eq, c3] at g4
              rw [if_neg (by omega), g4] at ht
              obtain ⟨y, ey, hz⟩ := bnd_x hz
              obtain ⟨r1, r2⟩ := sp_mdiv h1 h2 ha hb na nb ey ht
              refine ⟨?_, h1, h2, r2⟩
              subst hz
              exact r1
            · rw [if_neg g4] at hz ⊢
              rw [ti_eq, c3] at g4
              by_cases g5 : p0 = 4
              · rw [if_pos g5] at hz ⊢
                rw [ti_eq, c4] at g5
                rw [if_neg (by omega), g5] at ht
                obtain ⟨y, ey, hz⟩ := bnd_x hz
                obtain ⟨r1, r2⟩ := sp_mquant h1 h2 ha hb na nb ey (t := t) (by
                  rw [ht]
                  unfold infS finS
                  rw [if_neg (show ¬ ((4 : Int) = 0 ∨ (4 : Int) = 1) by decide), if_neg (show ¬ (4 : Int) = 2 by decide), if_neg (show ¬ (4 : Int) = 3 by decide), if_neg (show ¬ (4 : Int) = 0 by decide), if_neg (show ¬ (4 : Int) = 1 by decide), if_neg (show ¬ (4 : Int) = 2 by decide), if_neg (show ¬ (4 : Int) = 3 by decide)])
                refine ⟨?_, h1, h2, r2⟩
                subst hz
                exact r1
              · rw [if_neg g5] at hz ⊢
                rw [ti_eq, c4] at g5
                have g6 : p0 = 5 := by rw [ti_eq, c5]; omega
                rw [if_pos g6] at hz ⊢
                rw [if_pos (by rw [g6]; rfl)] at ht
                obtain ⟨r1, r2⟩ := sp_morder h1 h2 ha hb na nb
                obtain ⟨x, ex1, hz⟩ := bnd_x hz
                obtain ⟨y, ey, hz⟩ := bnd_x hz
                unfold Z_X4_operate_J_121 at ex1
                by_cases g : F_X4_order ks ms cs es p1 p2 ≤ 0
                · rw [if_pos g] at ex1
                  rw [ti_le, r1, z0] at g
                  rw [if_neg (by omega)] at ht
                  refine ⟨?_, h1, h2, r2, all_n (n := x) (by rw [ex1]; unfold Z_X4_operate_J_121; rw [if_pos (by rw [ti_le, r1, z0]; exact g)]) (by rw [ex1]; exact h1)⟩
                  rw [ex1] at ey
                  subst ey; subst hz; subst ht
                  exact ⟨ha.1, ha.2.1, ha.2.2.1, ha.2.2.2.1, rfl⟩
                · rw [if_neg g] at ex1
                  rw [ti_le, r1, z0] at g
                  rw [if_pos (by omega)] at ht
                  refine ⟨?_, h1, h2, r2, all_n (n := x) (by rw [ex1]; unfold Z_X4_operate_J_121; rw [if_neg (by rw [ti_le, r1, z0]; exact g)]) (by rw [ex1]; exact h2)⟩
                  rw [ex1] at ey
                  subst ey; subst hz; subst ht
                  exact ⟨hb.1, hb.2.1, hb.2.2.1, hb.2.2.2.1, rfl⟩
        · rw [if_neg g2] at hz ⊢
          rw [ti_le, c2] at g2
          rw [if_neg (by omega)] at ht
          obtain ⟨x, ex1, hz⟩ := bnd_x hz
          obtain ⟨y, ey, hz⟩ := bnd_x hz
          have hx : p0.toInt = if x = true then 1 else 0 := by
            rw [ex1]; unfold Z_X4_operate_J_137
            by_cases q : p0 = 1
            · rw [if_pos q, if_pos rfl, q]; rfl
            · rw [if_neg q, if_neg (by simp)]; rw [ti_eq, c1] at q; omega
          rw [hx] at ht
          obtain ⟨r1, r2⟩ := sp_madd h1 h2 ha hb na nb ey ht
          refine ⟨?_, h1, h2, all_n ex1 r2⟩
          subst hz
          exact r1
end MOP
