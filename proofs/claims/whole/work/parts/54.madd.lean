/-! ===== the reference: add ===== -/
def MRc (kd : Int32) (ng : Bool) (cc : Int64) (qq rs : Int32) (t : Int × Bool × Nat × Int × Int32) : Prop :=
  kd.toInt = t.1 ∧ ng = t.2.1 ∧ cc.toInt = (t.2.2.1 : Int) ∧ qq.toInt = t.2.2.2.1 ∧ rs = t.2.2.2.2
section MOP
variable {ks : Nat → Int32} {ms : Nat → Bool} {cs : Nat → Int64} {es : Nat → Int32}
theorem sp_is {p v : Int32} {k : Int} (h : (ks p.toNatClampNeg).toInt = k) : F_X4_is ks p v = true ↔ k = v.toInt := by
  unfold F_X4_is
  by_cases q : ks p.toNatClampNeg = v
  · rw [if_pos q]; rw [ti_eq, h] at q; exact ⟨fun _ => q, fun _ => rfl⟩
  · rw [if_neg q]; rw [ti_eq, h] at q; exact ⟨fun h => absurd h (by simp), fun h => absurd h q⟩
theorem sp_minvalid {r : Int32} {z : Int32 × Bool × Int64 × Int32 × Int32} (hz : z = F_X4_invalid r) : MRc z.1 z.2.1 z.2.2.1 z.2.2.2.1 z.2.2.2.2 (2, false, 0, 0, r ||| 1) := by
  subst hz
  exact ⟨rfl, rfl, rfl, rfl, rfl⟩
theorem fin_b {k : Int} {n : Bool} {c : Nat} {q : Int} (h : VS k n c q) (n1 : k ≠ 1) (n2 : k ≠ 2) : k = 0 ∧ c < 10000000000000000 ∧ -398 ≤ q ∧ q ≤ 369 ∧ nd c ≤ 16 := by
  rcases h with h | h | h
  · obtain ⟨h1, h2, h3, h4⟩ := h
    exact ⟨h1, h2, h3, h4, by rw [nd_le, p16]; exact h2⟩
  · exact absurd h.1 n1
  · exact absurd h.1 n2
theorem nd_add {X Y k : Nat} (h1 : nd X ≤ k) (h2 : nd Y ≤ k) : nd (X + Y) ≤ k + 1 := by
  rw [nd_le] at *
  rw [p10s]; omega
theorem nd_dif {X Y k : Nat} (h1 : nd X ≤ k) (h2 : nd Y ≤ k) : nd (dif X Y) ≤ k := by
  rw [nd_le] at *
  unfold dif; split <;> omega
theorem nd_mulle {A k : Nat} : nd (A * 10 ^ k) ≤ nd A + k := by
  by_cases h : A = 0
  · subst h; rw [Nat.zero_mul, nd_0]; omega
  · rw [nd_mul k h]; omega
theorem sp_madd {mo r ct un : Int32} {re : Bool} {dg og : Nat → Int32} {p0 p1 : Int32} {turn : Bool} {ka : Int} {sa : Bool} {A : Nat} {ea : Int} {kb : Int} {sb : Bool} {B : Nat} {eb : Int} (h0 : vp_in p0 8) (h1 : vp_in p1 8) (ha : VD ks ms cs es p0.toNatClampNeg ka sa A ea) (hb : VD ks ms cs es p1.toNatClampNeg kb sb B eb) (na : ka ≠ 2) (nb : kb ≠ 2)
    {z : Int32 × Bool × Int64 × Int32 × Int32 × Int32 × Int32 × Bool × (Nat → Int32) × (Nat → Int32)} (hz : z = F_X4_add mo r ct un re ks ms cs es dg og p0 p1 turn) {t : Int × Bool × Nat × Int × Int32} (ht : t = if ka = 1 ∨ kb = 1 then infS (if turn = true then 1 else 0) ka sa A kb sb B r else finS mo.toInt (if turn = true then 1 else 0) sa A ea sb B eb r) :
    MRc z.1 z.2.1 z.2.2.1 z.2.2.2.1 z.2.2.2.2.1 t ∧ S_X4_add mo r ct un re ks ms cs es dg og p0 p1 turn := by
  obtain ⟨a1, a2, a3, a4, a5⟩ := ha
  obtain ⟨b1, b2, b3, b4, b5⟩ := hb
  have c1 : (1 : Int32).toInt = 1 := rfl
  have c4 : (4 : Int32).toInt = 4 := rfl
  have z0 : (0 : Int32).toInt = 0 := rfl
  have iA := sp_is (v := 1) a1
  have iB := sp_is (v := 1) b1
  rw [c1] at iA iB
  have ht2 : t = if ka = 1 ∨ kb = 1 then (if ka = kb ∧ sa ≠ (sb != turn) then (2, false, 0, 0, r ||| 1) else (1, if ka = 1 then sa else (sb != turn), 0, 0, r)) else addS mo.toInt sa A ea (sb != turn) B eb r := by
    rw [ht]
    unfold infS finS
    cases turn <;> cases sb <;> rfl
  clear ht
  unfold F_X4_add at hz
  unfold S_X4_add
  obtain ⟨s, es', hz⟩ := bnd_x hz
  have fs : s = (sb != turn) := by rw [es']; unfold Z_X4_add_J_105; rw [b2]; exact neB _ _
  rw [← fs] at ht2
  by_cases ia : ka = 1
  · rw [if_pos (iA.mpr ia)] at hz
    rw [if_pos (Or.inl ia)] at ht2
    by_cases ib : kb = 1
    · rw [if_pos (iB.mpr ib)] at hz
      refine ⟨?_, h1, all_n es' ⟨h0, by rw [if_pos (iA.mpr ia)]; exact ⟨h1, by rw [if_pos (iB.mpr ib)]; exact h0⟩⟩⟩
      rw [a2] at hz
      by_cases q : sa = s
      · rw [if_pos q] at hz
        rw [if_neg (fun y => y.2 q), if_pos ia] at ht2
        subst hz; subst ht2
        exact ⟨rfl, rfl, rfl, rfl, rfl⟩
      · rw [if_neg q] at hz
        rw [if_pos ⟨by omega, q⟩] at ht2
        obtain ⟨y, ey, hz⟩ := bnd_x hz
        have := sp_minvalid ey
        subst hz; subst ht2
        exact this
    · rw [if_neg (fun y => ib (iB.mp y))] at hz
      rw [if_neg (show ¬ (ka = kb ∧ sa ≠ s) from fun y => ib (y.1 ▸ ia)), if_pos ia] at ht2
      refine ⟨?_, h1, all_n es' ⟨h0, by rw [if_pos (iA.mpr ia)]; exact ⟨h1, by rw [if_neg (fun y => ib (iB.mp y))]; exact h0⟩⟩⟩
      subst hz; subst ht2
      exact ⟨rfl, a2, rfl, rfl, rfl⟩
  · rw [if_neg (fun y => ia (iA.mp y))] at hz
    by_cases ib : kb = 1
    · rw [if_pos (iB.mpr ib)] at hz
      rw [if_pos (Or.inr ib), if_neg (fun y => ia (y.1.trans ib)), if_neg ia] at ht2
      refine ⟨?_, h1, all_n es' ⟨h0, by rw [if_neg (fun y => ia (iA.mp y))]; exact ⟨h1, by rw [if_pos (iB.mpr ib)]; trivial⟩⟩⟩
      subst hz; subst ht2
      exact ⟨rfl, rfl, rfl, rfl, rfl⟩
    · rw [if_neg (fun y => ib (iB.mp y))] at hz
      rw [if_neg (by omega)] at ht2
      obtain ⟨ka0, hA, be1, be2, hnA⟩ := fin_b a5 ia na
      obtain ⟨kb0, hB, bf1, bf2, hnB⟩ := fin_b b5 ib nb
      obtain ⟨u, eu, hz⟩ := bnd_x hz
      have fu : u.toInt = min ea eb := by
        rw [eu]; unfold Z_X4_add_J_131
        by_cases q : es p1.toNatClampNeg ≤ es p0.toNatClampNeg
        · rw [if_pos q]; rw [ti_le, a4, b4] at q; rw [b4]; omega
        · rw [if_neg q]; rw [ti_le, a4, b4] at q; rw [a4]; omega
      obtain ⟨U, eU⟩ : ∃ U : Int, U = min ea eb := ⟨_, rfl⟩
      rw [← eU] at fu
      have fa : (es p0.toNatClampNeg - u).toInt = (((ea - U).toNat : Nat) : Int) := by rw [ti_sub (by omega) (by omega), a4, fu]; omega
      have fb : (es p1.toNatClampNeg - u).toInt = (((eb - U).toNat : Nat) : Int) := by rw [ti_sub (by omega) (by omega), b4, fu]; omega
      obtain ⟨dA, sA⟩ := sp_lay (f := dg) a3 fa (by omega)
      obtain ⟨dB, sB⟩ := sp_layOther (f := og) b3 fb (by omega)
      obtain ⟨X, eX⟩ : ∃ X : Nat, X = A * 10 ^ (ea - U).toNat := ⟨_, rfl⟩
      obtain ⟨Y, eY⟩ : ∃ Y : Nat, Y = B * 10 ^ (eb - U).toNat := ⟨_, rfl⟩
      have hnX : nd X ≤ 783 := by have := nd_mulle (A := A) (k := (ea - U).toNat); rw [eX]; omega
      have hnY : nd Y ≤ 783 := by have := nd_mulle (A := B) (k := (eb - U).toNat); rw [eY]; omega
      rw [← eX] at dA
      rw [← eY] at dB
      obtain ⟨f, ef, hz⟩ := bnd_x hz
      obtain ⟨g, eg, hz⟩ := bnd_x hz
      rw [← ef] at dA
      rw [← eg] at dB
      obtain ⟨n, en, hz⟩ := bnd_x hz
      obtain ⟨w, ew, hz⟩ := bnd_x hz
      obtain ⟨V, eV⟩ : ∃ V : Nat, V = if sa = s then X + Y else dif X Y := ⟨_, rfl⟩
      have hnV : nd V ≤ 784 := by
        rw [eV]; split
        · exact nd_add hnX hnY
        · exact Nat.le_trans (nd_dif hnX hnY) (by decide)
      have hw : DP w.2 V ∧ (sa ≠ s → w.1 = if X < Y then s else sa) ∧ (sa = s → w.1 = sa) ∧ (if ms p0.toNatClampNeg = s then S_X4_addDigits f g else S_X4_subtractDigits f g) := by
        unfold Z_X4_add_J_151 at ew
        rw [a2] at ew en
        rw [a2]
        by_cases q : sa = s
        · rw [if_pos q] at ew eV
          obtain ⟨x, exx, ew⟩ := bnd_x ew
          obtain ⟨r1, r2⟩ := sp_addDigits dA dB (by rw [← eV]; omega)
          rw [← exx, ← eV] at r1
          have e1 : w.2 = x := by rw [ew]
          have e2 : w.1 = sa := by rw [ew]; exact en
          rw [e1, e2, if_pos q]
          exact ⟨r1, fun y => absurd q y, fun _ => rfl, r2⟩
        · rw [if_neg q] at ew eV
          obtain ⟨x, exx, ew⟩ := bnd_x ew
          obtain ⟨r1, r2, r3⟩ := sp_subDigits dA dB
          rw [← exx] at r1 r2
          rw [← eV] at r2
          rw [if_neg q]
          by_cases y : X < Y
          · rw [if_pos (by rw [r1]; exact decide_eq_true y)] at ew
            have e1 : w.2 = x.2 := by rw [ew]
            have e2 : w.1 = s := by rw [ew]
            rw [e1, e2, if_pos y]
            exact ⟨r2, fun _ => rfl, fun y => absurd y q, r3⟩
          · rw [if_neg (by rw [r1, decide_eq_false y]; simp)] at ew
            have e1 : w.2 = x.2 := by rw [ew]
            have e2 : w.1 = sa := by rw [ew]; exact en
            rw [e1, e2, if_neg y]
            exact ⟨r2, fun _ => rfl, fun y => absurd y q, r3⟩
      obtain ⟨dV, hw1, hw2, hw3⟩ := hw
      obtain ⟨tV, sV⟩ := sp_trim dV
      obtain ⟨c, ec, hz⟩ := bnd_x hz
      rw [← ec] at tV
      obtain ⟨v, ev, hz⟩ := bnd_x hz
      obtain ⟨y, ey, hz⟩ := bnd_x hz
      have fv : v = if V = 0 then (if sa = s then s else decide (mo.toInt = 4)) else if sa = s then s else if X < Y then s else sa := by
        rw [ev]
        unfold Z_X4_add_J_163 Z_X4_add_J_160
        dsimp only [bnd]
        rw [a2]
        by_cases v0 : V = 0
        · rw [if_pos v0, if_pos (by rw [ti_eq, tV, v0, nd_0]; rfl)]
          by_cases q : sa = s
          · rw [if_pos q, if_pos q, q]
          · rw [if_neg q, if_neg q]
            by_cases m4 : mo.toInt = 4
            · rw [if_pos (by rw [ti_eq, c4]; exact m4), decide_eq_true m4]
            · rw [if_neg (by rw [ti_eq, c4]; exact m4), decide_eq_false m4]
        · rw [if_neg v0, if_neg (by rw [ti_eq, tV, z0]; have := nd_pos v0; omega)]
          by_cases q : sa = s
          · rw [if_pos q, hw2 q, q]
          · rw [if_neg q, hw1 q]
      obtain ⟨r1, r2⟩ := sp_mfit dV (by omega) fu (by omega) (fun q => absurd q (by simp)) ey (t := t) (by
        rw [ht2]
        unfold addS
        dsimp only
        rw [← eU, ← eX, ← eY, ← eV, ← fv, fu])
      refine ⟨?_, h1, all_n es' ⟨h0, ?_⟩⟩
      · subst hz; exact r1
      · rw [if_neg (fun y => ia (iA.mp y))]
        refine ⟨h1, ?_⟩
        rw [if_neg (fun y => ib (iB.mp y))]
        exact ⟨h0, all_n eu ⟨sA, all_n ef ⟨sB, all_n eg (all_n en ⟨hw3, all_n ew ⟨sV, all_n ec (all_n ev r2)⟩⟩)⟩⟩⟩
end MOP
