section FIT
variable {so : Nat → Int32} {mi : Nat → Bool} {co : Nat → Int64} {ex : Nat → Int32}
theorem rnd_le {mode : Int} {neg : Bool} {N d : Nat} {s : Bool} (h : N / 10 ^ d < 10000000000000000) : rnd mode neg N d s ≤ 10000000000000000 := by
  unfold rnd
  split <;> omega
theorem sp_fitRounded {rd r : Int32} {om : Bool} {h l : Int64} {p : Int32} {mo : Bool} {kk : Int64} {rr : Int32} {M : Nat} {hh : Int} (o : OC h l p mo M hh) (hu1 : -2600 ≤ hh) (hu2 : hh ≤ 2600) (hM : M ≠ 0)
    (hn : ¬ (mo = false ∧ nd M ≤ 16 ∧ -398 ≤ hh ∧ hh - (16 - nd M) ≤ 369)) {z : Int32 × Int64 × Int32 × (Nat → Int32) × (Nat → Bool) × (Nat → Int64) × (Nat → Int32)} (hz : z = F_X3_fitRounded rd r om h l p mo kk rr so mi co ex) {t : Int × Bool × Nat × Int × Int32} (ht : t = roundS rd.toInt om M hh mo r) :
    S_X3_fitRounded rd r om h l p mo kk rr so mi co ex ∧ z.1 = t.2.2.2.2 ∧ RD so mi co ex z.2.2.2.1 z.2.2.2.2.1 z.2.2.2.2.2.1 z.2.2.2.2.2.2 t.1 t.2.1 t.2.2.1 t.2.2.2.1 := by
  have c16 : (16 : Int32).toInt = 16 := rfl
  have c1 : (1 : Int32).toInt = 1 := rfl
  have c398 : (-398 : Int32).toInt = -398 := rfl
  have c383 : (-383 : Int32).toInt = -383 := rfl
  have c369 : (369 : Int32).toInt = 369 := rfl
  have lE : (10000000000000000 : Int64).toInt = ((10000000000000000 : Nat) : Int) := rfl
  obtain ⟨q1, q2⟩ := sp_digits o
  have hnd32 : nd M ≤ 32 := by rw [nd_le, p32]; exact o.2.2.2.1
  have hmo : mo = true → 17 ≤ nd M := by
    intro q
    have h1 := o.2.2.2.2 q
    have : 16 < nd M := nd_gt.mpr (by rw [p16]; exact h1)
    omega
  have hpp := o.2.2.1
  unfold F_X3_fitRounded at hz
  unfold S_X3_fitRounded
  unfold roundS at ht
  obtain ⟨x, e1, hz⟩ := bnd_x hz
  have ex1 : x = r ||| 16 := by rw [e1]; rfl
  obtain ⟨n5, e5, hz⟩ := bnd_x hz
  have f5 : n5.toInt = hh + nd M := by rw [e5, ti_add (by omega) (by omega), hpp, q1]
  obtain ⟨n6, e6, hz⟩ := bnd_x hz
  have f6 : n6.toInt = max (-398) (hh + nd M - 16) := by rw [e6, ti_max, ti_sub (by omega) (by omega), c398, c16, f5]
  dsimp only at ht
  by_cases g1 : n6 ≤ 369
  · have g1' := g1
    rw [ti_le, f6, c369] at g1'
    rw [if_pos g1] at hz
    rw [if_neg (by omega)] at ht
    have hd : 0 < max (-398) (hh + nd M - 16) - hh := by
      cases mo with
      | true => have := hmo rfl; omega
      | false =>
        have h1 : ¬ (nd M ≤ 16 ∧ -398 ≤ hh ∧ hh - (16 - nd M) ≤ 369) := fun q => hn ⟨rfl, q⟩
        omega
    obtain ⟨d, ed⟩ : ∃ d : Nat, d = (max (-398) (hh + nd M - 16) - hh).toNat := ⟨_, rfl⟩
    have fd : (n6 - p).toInt = ((d : Nat) : Int) := by rw [ti_sub (by omega) (by omega), ed, f6, hpp]; omega
    have hd0 : 0 < d := by omega
    have hf : nd M ≤ 16 + d := by omega
    obtain ⟨w1, w2, w3⟩ := sp_cut o fd hd0 hf
    have hkb : M / 10 ^ d < 10000000000000000 := by
      rw [Nat.div_lt_iff_lt_mul (p10 d), ← p16, ← p10a]
      exact nd_lt' hf
    rw [← ed] at ht
    obtain ⟨y, ey, hz⟩ := bnd_x hz
    rw [← ey] at w1 w2
    obtain ⟨m, em, hz⟩ := bnd_x hz
    have fm : m.toInt = ((rnd rd.toInt om M d mo : Nat) : Int) := by
      rw [em, sp_rounded w1 w2 hkb (rcl_le _ _ _)]; rfl
    have hml := rnd_le (mode := rd.toInt) (neg := om) (s := mo) hkb
    generalize rnd rd.toInt om M d mo = R at ht fm hml
    obtain ⟨v, ev, hz⟩ := bnd_x hz
    have hS : ∀ (u101 : Int32), u101 = F_X3_raise r 16 → (S_X1_digits h l) ∧ ∀ (n105 : Int32), n105 = p + F_X1_digits h l → ∀ (n106 : Int32), n106 = jmax (-398) (n105 - 16) → if n106 ≤ 369 then S_X1_cut h l mo (n106 - p) else True :=
      all_n e1 ⟨q2, all_n e5 (all_n e6 (by rw [if_pos g1]; exact w3))⟩
    refine ⟨hS, ?_⟩
    have fv1 : v.1.toInt = (if R = 10000000000000000 then max (-398) (hh + nd M - 16) + 1 else max (-398) (hh + nd M - 16)) := by
      rw [ev]
      unfold Z_X3_fitRounded_J_117
      dsimp only [bnd]
      by_cases z : m < 10000000000000000
      · rw [if_pos z]; rw [tl_lt, fm, lE] at z; rw [if_neg (by omega), ← f6]
      · rw [if_neg z]; rw [tl_lt, fm, lE] at z; rw [if_pos (by omega), ti_add (by omega) (by omega), f6, c1]
    have fv2 : v.2.toInt = (((if R = 10000000000000000 then 1000000000000000 else R) : Nat) : Int) := by
      rw [ev]
      unfold Z_X3_fitRounded_J_117
      dsimp only [bnd]
      by_cases z : m < 10000000000000000
      · rw [if_pos z]; rw [tl_lt, fm, lE] at z; rw [if_neg (by omega)]; exact fm
      · rw [if_neg z]; rw [tl_lt, fm, lE] at z; rw [if_pos (by omega)]; rfl
    by_cases g2 : v.1 ≤ 369
    · rw [if_pos g2] at hz
      rw [ti_le, fv1, c369] at g2
      rw [if_neg (by omega)] at ht
      obtain ⟨b, eb, hz⟩ := bnd_x hz
      obtain ⟨a, ea, hz⟩ := bnd_x hz
      have hR := sp_setFinite fv2 fv1 ea
      subst hz; subst ht
      refine ⟨?_, hR⟩
      show b = _
      rw [eb]
      unfold Z_X3_fitRounded_J_124
      dsimp only [bnd]
      rw [ex1]
      by_cases z : (-383) < n5
      · rw [if_pos z]; rw [ti_lt, f5, c383] at z; rw [if_neg (by omega)]
      · rw [if_neg z]; rw [ti_lt, f5, c383] at z; rw [if_pos (by omega)]; rfl
    · rw [if_neg g2] at hz
      rw [ti_le, fv1, c369] at g2
      rw [if_pos (by omega)] at ht
      obtain ⟨a, ea, hz⟩ := bnd_x hz
      rw [ex1] at ea
      have hR := sp_tooGreat ea ht
      subst hz
      exact hR
  · have g1' := g1
    rw [ti_le, f6, c369] at g1'
    rw [if_neg g1] at hz
    rw [if_pos (by omega)] at ht
    refine ⟨all_n e1 ⟨q2, all_n e5 (all_n e6 (by rw [if_neg g1]; trivial))⟩, ?_⟩
    obtain ⟨a, ea, hz⟩ := bnd_x hz
    rw [ex1] at ea
    have hR := sp_tooGreat ea ht
    subst hz
    exact hR
/-- the class fits as it is said -/
theorem sp_fit {rd r : Int32} {om : Bool} {h l : Int64} {p : Int32} {mo : Bool} {w : Int32} {kk : Int64} {rr : Int32} {N : Nat} {u : Int} (o : OC h l p mo N u) (hu1 : -2500 ≤ u) (hu2 : u ≤ 2500)
    {z : Int32 × Int64 × Int64 × Int32 × Int64 × Int32 × (Nat → Int32) × (Nat → Bool) × (Nat → Int64) × (Nat → Int32)} (hz : z = F_X3_fit rd r om h l p mo w kk rr so mi co ex) {t : Int × Bool × Nat × Int × Int32} (ht : t = fitS rd.toInt om N u mo w.toInt r) :
    S_X3_fit rd r om h l p mo w kk rr so mi co ex ∧ z.1 = t.2.2.2.2 ∧ RD so mi co ex z.2.2.2.2.2.2.1 z.2.2.2.2.2.2.2.1 z.2.2.2.2.2.2.2.2.1 z.2.2.2.2.2.2.2.2.2 t.1 t.2.1 t.2.2.1 t.2.2.2.1 := by
  have c398 : (-398 : Int32).toInt = -398 := rfl
  have c369 : (369 : Int32).toInt = 369 := rfl
  have oz := sp_oZero o
  unfold F_X3_fit at hz
  unfold S_X3_fit
  unfold fitS at ht
  by_cases f : N = 0 ∧ mo = false
  · rw [if_pos (oz.mpr f)] at hz ⊢
    rw [if_pos f] at ht
    obtain ⟨n, en, hz⟩ := bnd_x hz
    obtain ⟨a, ea, hz⟩ := bnd_x hz
    have fn : n.toInt = max (-398) (min w.toInt 369) := by rw [en, ti_max, ti_min, c398, c369]
    subst hz; subst ht
    exact ⟨trivial, rfl, sp_setFinite rfl fn ea⟩
  · rw [if_neg (fun q => f (oz.mp q))] at hz ⊢
    rw [if_neg f] at ht
    obtain ⟨y, ey, hz⟩ := bnd_x hz
    cases mo with
    | true =>
      rw [if_pos rfl, fitC_round (by simp)] at ht
      have hN : N ≠ 0 := by have := o.2.2.2.2 rfl; omega
      have ey2 : y = (false, h, l, p, so, mi, co, ex) := by rw [ey]; unfold F_X3_fitWithoutRest; rw [if_pos rfl]
      have hs0 : S_X3_fitWithoutRest om h l p true w so mi co ex := by unfold S_X3_fitWithoutRest; rw [if_pos rfl]; trivial
      rw [ey2] at hz
      rw [if_neg (by simp)] at hz
      obtain ⟨a, ea, hz⟩ := bnd_x hz
      obtain ⟨r1, r2, r3⟩ := sp_fitRounded o (by omega) (by omega) hN (by simp) ea ht
      refine ⟨⟨hs0, all_n ey ?_⟩, ?_⟩
      · rw [ey2, if_neg (by simp)]; exact r1
      · subst hz; exact ⟨r2, r3⟩
    | false =>
      have hN : N ≠ 0 := fun q => f ⟨q, rfl⟩
      rw [if_neg (by simp)] at ht
      obtain ⟨s1, s2, s3⟩ := sp_fwr o hN hu1 hu2 rfl rfl ey
      unfold fitC at ht
      by_cases g : nd (N / 10 ^ tz N) ≤ 16 ∧ -398 ≤ u + tz N ∧ u + tz N - (16 - nd (N / 10 ^ tz N)) ≤ 369
      · obtain ⟨g1, g2⟩ := s2 g
        rw [if_pos ⟨rfl, g⟩] at ht
        rw [if_pos g1] at hz
        refine ⟨⟨s1, all_n ey (by rw [if_pos g1]; trivial)⟩, ?_⟩
        subst hz; subst ht
        exact ⟨rfl, g2⟩
      · obtain ⟨g1, g2, g3, g4, g5, g6⟩ := s3 g
        rw [if_neg (fun q => g q.2)] at ht
        rw [if_neg (by rw [g1]; simp)] at hz
        obtain ⟨a, ea, hz⟩ := bnd_x hz
        rw [g3, g4, g5, g6] at ea
        have hd := tz_dvd N
        have hM0 : N / 10 ^ tz N ≠ 0 := by intro q; rw [q, Nat.zero_mul] at hd; exact hN hd.1.symm
        have htz : tz N < 33 := by
          have h1 := tz_ndvd hN
          have h2 : nd N ≤ 32 := by rw [nd_le, p32]; exact o.2.2.2.1
          omega
        obtain ⟨r1, r2, r3⟩ := sp_fitRounded g2 (by omega) (by omega) hM0 (fun q => g q.2) ea ht
        refine ⟨⟨s1, all_n ey ?_⟩, ?_⟩
        · rw [if_neg (by rw [g1]; simp), g3, g4, g5, g6]; exact r1
        · subst hz; exact ⟨r2, r3⟩
end FIT
