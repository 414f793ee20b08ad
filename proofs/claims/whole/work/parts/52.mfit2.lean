theorem sp_mgreat {mo r : Int32} {b : Bool} {z : Int32 × Bool × Int64 × Int32 × Int32} (hz : z = F_X4_great mo r b) {t : Int × Bool × Nat × Int × Int32} (ht : t = greatS mo.toInt b r) :
    z.1.toInt = t.1 ∧ z.2.1 = t.2.1 ∧ z.2.2.1.toInt = (t.2.2.1 : Int) ∧ z.2.2.2.1.toInt = t.2.2.2.1 ∧ z.2.2.2.2 = t.2.2.2.2 := by
  have c2 : (2 : Int32).toInt = 2 := rfl
  have c3 : (3 : Int32).toInt = 3 := rfl
  have c4 : (4 : Int32).toInt = 4 := rfl
  have key : Z_X4_great_J_111 mo b = decide (mo.toInt = 2 ∨ mo.toInt = 3 ∧ b = true ∨ mo.toInt = 4 ∧ b = false) := by
    unfold Z_X4_great_J_111
    simp only [ti_eq, c2, c3, c4]
    by_cases a2 : mo.toInt = 2
    · simp [a2]
    · by_cases a3 : mo.toInt = 3
      · cases b <;> simp [a3]
      · by_cases a4 : mo.toInt = 4
        · cases b <;> simp [a4]
        · simp [a2, a3, a4]
  unfold F_X4_great at hz
  unfold greatS at ht
  dsimp only [bnd] at hz
  rw [key] at hz
  by_cases f : mo.toInt = 2 ∨ mo.toInt = 3 ∧ b = true ∨ mo.toInt = 4 ∧ b = false
  · rw [if_pos f] at ht
    rw [decide_eq_true f] at hz
    subst hz; subst ht
    exact ⟨rfl, rfl, rfl, rfl, rfl⟩
  · rw [if_neg f] at ht
    rw [decide_eq_false f] at hz
    subst hz; subst ht
    exact ⟨rfl, rfl, rfl, rfl, rfl⟩
/-- the reference's rounding when the digits aren't exact -/
def mblk (vmo : Int32) (vrs : Int32) (vun : Int32) (vre : Bool) (vdg : Nat → Int32) (p0 : Bool) (u102 : Int32) : Int32 × Bool × Int64 × Int32 × Int32 × Int32 :=
  (bnd (vrs ||| 16) (fun f118 : Int32 => (bnd ((u102 + vun) - 16) (fun n120 : Int32 => (bnd (Z_X4_fit_J_124 n120) (fun z123 : Int32 => (if z123 ≤ 369 then (bnd (F_X4_rounded vmo u102 vre vdg (z123 - vun) p0) (fun n128 : Int64 => (bnd (Z_X4_fit_J_133 z123 n128) (fun z132 : Int32 × Int64 => (if z132.1 ≤ 369 then (bnd (Z_X4_fit_J_138 vun u102 f118) (fun z137 : Int32 => (bnd (F_X4_be (0 : Int32) p0 z132.2 z132.1) (fun u140 : Int32 × Bool × Int64 × Int32 => (u140.1, u140.2.1, u140.2.2.1, u140.2.2.2, z137, u102))))) else (bnd (F_X4_great vmo f118 p0) (fun u142 : Int32 × Bool × Int64 × Int32 × Int32 => (u142.1, u142.2.1, u142.2.2.1, u142.2.2.2.1, u142.2.2.2.2, u102)))))))) else (bnd (F_X4_great vmo f118 p0) (fun u144 : Int32 × Bool × Int64 × Int32 × Int32 => (u144.1, u144.2.1, u144.2.2.1, u144.2.2.2.1, u144.2.2.2.2, u102))))))))))
def mblkS (vmo : Int32) (vrs : Int32) (vun : Int32) (vre : Bool) (vdg : Nat → Int32) (p0 : Bool) (u102 : Int32) : Prop :=
  (∀ f118 : Int32, f118 = vrs ||| 16 → (∀ n120 : Int32, n120 = (u102 + vun) - 16 → (∀ z123 : Int32, z123 = Z_X4_fit_J_124 n120 → (if z123 ≤ 369 then S_X4_rounded vmo u102 vre vdg (z123 - vun) p0 else True))))
/-- what the reference's fields tell -/
def MR5 (z : Int32 × Bool × Int64 × Int32 × Int32 × Int32) (t : Int × Bool × Nat × Int × Int32) : Prop :=
  z.1.toInt = t.1 ∧ z.2.1 = t.2.1 ∧ z.2.2.1.toInt = (t.2.2.1 : Int) ∧ z.2.2.2.1.toInt = t.2.2.2.1 ∧ z.2.2.2.2.1 = t.2.2.2.2
theorem sp_mblk {mo r un : Int32} {re : Bool} {f : Nat → Int32} {b : Bool} {ct : Int32} {N : Nat} {u : Int} (h : DP f N) (hc : ct.toInt = nd N) (hN9 : nd N ≤ 800) (hu : un.toInt = u) (bu : -850 ≤ u ∧ u ≤ 2000)
    (hd : ∀ e : Int, e = max (-398) (u + nd N - 16) → e ≤ 369 → 0 < e - u) {z : Int32 × Bool × Int64 × Int32 × Int32 × Int32} (hz : z = mblk mo r un re f b ct) {t : Int × Bool × Nat × Int × Int32} (ht : t = roundS mo.toInt b N u re r) : MR5 z t ∧ mblkS mo r un re f b ct := by
  have c16 : (16 : Int32).toInt = 16 := rfl
  have c1 : (1 : Int32).toInt = 1 := rfl
  have c398 : (-398 : Int32).toInt = -398 := rfl
  have c383 : (-383 : Int32).toInt = -383 := rfl
  have c369 : (369 : Int32).toInt = 369 := rfl
  have lE : (10000000000000000 : Int64).toInt = ((10000000000000000 : Nat) : Int) := rfl
  unfold mblk at hz
  unfold mblkS
  unfold roundS at ht
  dsimp only at ht
  obtain ⟨x, e1, hz⟩ := bnd_x hz
  obtain ⟨n, e2, hz⟩ := bnd_x hz
  obtain ⟨e, e3, hz⟩ := bnd_x hz
  have f2a : (ct + un).toInt = u + nd N := by rw [ti_add (by omega) (by omega), hc, hu]; omega
  have f2 : n.toInt = u + nd N - 16 := by rw [e2, ti_sub (by omega) (by omega), f2a, c16]
  have f3 : e.toInt = max (-398) (u + nd N - 16) := by
    rw [e3]; unfold Z_X4_fit_J_124
    by_cases y : -398 ≤ n
    · rw [if_pos y]; rw [ti_le, c398, f2] at y; rw [f2]; omega
    · rw [if_neg y]; rw [ti_le, c398, f2] at y; rw [c398]; omega
  by_cases g1 : e ≤ 369
  · have g1' := g1
    rw [ti_le, f3, c369] at g1'
    rw [if_pos g1] at hz
    rw [if_neg (by omega)] at ht
    have hd0 := hd _ rfl g1'
    obtain ⟨d, ed⟩ : ∃ d : Nat, d = (max (-398) (u + nd N - 16) - u).toNat := ⟨_, rfl⟩
    have fd : (e - un).toInt = ((d : Nat) : Int) := by rw [ti_sub (by omega) (by omega), ed, f3, hu]; omega
    have hkb : N / 10 ^ d < 10000000000000000 := by
      rw [Nat.div_lt_iff_lt_mul (p10 d), ← p16, ← p10a]
      exact nd_lt' (by omega)
    rw [← ed] at ht
    obtain ⟨q1, q2⟩ := sp_mrounded (mo := mo) (re := re) h b hc fd (by omega) (Nat.le_refl _) (by omega) (by omega) hkb
    obtain ⟨m, em, hz⟩ := bnd_x hz
    rw [← em] at q1
    have hml := rnd_le (mode := mo.toInt) (neg := b) (s := re) hkb
    generalize rnd mo.toInt b N d re = R at ht q1 hml
    obtain ⟨v, ev, hz⟩ := bnd_x hz
    refine ⟨?_, all_n e1 (all_n e2 (all_n e3 (by rw [if_pos g1]; exact q2)))⟩
    have fv1 : v.1.toInt = (if R = 10000000000000000 then max (-398) (u + nd N - 16) + 1 else max (-398) (u + nd N - 16)) := by
      rw [ev]
      unfold Z_X4_fit_J_133
      dsimp only [bnd]
      by_cases z : m = 10000000000000000
      · rw [if_pos z]; rw [tl_eq, q1, lE] at z; rw [if_pos (by omega), ti_add (by omega) (by omega), f3, c1]
      · rw [if_neg z]; rw [tl_eq, q1, lE] at z; rw [if_neg (by omega), ← f3]
    have fv2 : v.2.toInt = (((if R = 10000000000000000 then 1000000000000000 else R) : Nat) : Int) := by
      rw [ev]
      unfold Z_X4_fit_J_133
      dsimp only [bnd]
      by_cases z : m = 10000000000000000
      · rw [if_pos z]; rw [tl_eq, q1, lE] at z; rw [if_pos (by omega)]; rfl
      · rw [if_neg z]; rw [tl_eq, q1, lE] at z; rw [if_neg (by omega)]; exact q1
    by_cases g2 : v.1 ≤ 369
    · rw [if_pos g2] at hz
      rw [ti_le, fv1, c369] at g2
      rw [if_neg (by omega)] at ht
      obtain ⟨w, ew, hz⟩ := bnd_x hz
      obtain ⟨a, ea, hz⟩ := bnd_x hz
      unfold F_X4_be at ea
      subst ea
      subst hz; subst ht
      refine ⟨rfl, rfl, fv2, fv1, ?_⟩
      show w = if u + nd N ≤ -383 then (r ||| 16) ||| 8 else r ||| 16
      rw [ew]
      unfold Z_X4_fit_J_138
      rw [e1]
      by_cases z : (-383) < ct + un
      · rw [if_pos z]; rw [ti_lt, f2a, c383] at z; rw [if_neg (by omega)]
      · rw [if_neg z]; rw [ti_lt, f2a, c383] at z; rw [if_pos (by omega)]
    · rw [if_neg g2] at hz
      rw [ti_le, fv1, c369] at g2
      rw [if_pos (by omega)] at ht
      obtain ⟨a, ea, hz⟩ := bnd_x hz
      rw [e1] at ea
      have hR := sp_mgreat ea ht
      subst hz
      exact hR
  · have g1' := g1
    rw [ti_le, f3, c369] at g1'
    rw [if_neg g1] at hz
    rw [if_pos (by omega)] at ht
    refine ⟨?_, all_n e1 (all_n e2 (all_n e3 (by rw [if_neg g1]; trivial)))⟩
    obtain ⟨a, ea, hz⟩ := bnd_x hz
    rw [e1] at ea
    have hR := sp_mgreat ea ht
    subst hz
    exact hR
theorem sp_between {x a b : Int32} (h : a.toInt ≤ b.toInt) : (F_X4_between x a b).toInt = max a.toInt (min x.toInt b.toInt) := by
  unfold F_X4_between
  by_cases h1 : a ≤ x
  · rw [if_pos h1]; rw [ti_le] at h1
    by_cases h2 : x ≤ b
    · rw [if_pos h2]; rw [ti_le] at h2; omega
    · rw [if_neg h2]; rw [ti_le] at h2; omega
  · rw [if_neg h1]; rw [ti_le] at h1; omega
/-- the reference fits as it is said -/
theorem sp_mfit {mo r un : Int32} {re : Bool} {f : Nat → Int32} {b : Bool} {w : Int32} {N : Nat} {u : Int} (h : DP f N) (hN9 : nd N ≤ 800) (hu : un.toInt = u) (bu : -850 ≤ u ∧ u ≤ 1000) (hre : re = true → 10000000000000000 ≤ N)
    {z : Int32 × Bool × Int64 × Int32 × Int32 × Int32} (hz : z = F_X4_fit mo r un re f b w) {t : Int × Bool × Nat × Int × Int32} (ht : t = fitS mo.toInt b N u re w.toInt r) : MR5 z t ∧ S_X4_fit mo r un re f b w := by
  have c0 : (0 : Int32).toInt = 0 := rfl
  have c16 : (16 : Int32).toInt = 16 := rfl
  have c398 : (-398 : Int32).toInt = -398 := rfl
  have c369 : (369 : Int32).toInt = 369 := rfl
  obtain ⟨t1, t2⟩ := sp_trim h
  unfold F_X4_fit at hz
  unfold S_X4_fit
  unfold fitS at ht
  obtain ⟨ct, ec, hz⟩ := bnd_x hz
  rw [← ec] at t1
  by_cases g0 : ct = 0
  · rw [if_pos g0] at hz
    have g0' := g0
    rw [ti_eq, t1, c0] at g0'
    have hN0 : N = 0 := nd_eq0.mp (by omega)
    have hre0 : re = false := by
      cases re with
      | true => have := hre rfl; omega
      | false => rfl
    rw [if_pos ⟨hN0, hre0⟩] at ht
    refine ⟨?_, t2, all_n ec (by rw [if_pos g0]; trivial)⟩
    obtain ⟨a, ea, hz⟩ := bnd_x hz
    unfold F_X4_be at ea
    subst ea; subst hz; subst ht
    refine ⟨rfl, rfl, rfl, ?_, rfl⟩
    show (F_X4_between w (-398) 369).toInt = _
    rw [sp_between (by decide), c398, c369]
  · rw [if_neg g0] at hz
    have g0' := g0
    rw [ti_eq, t1, c0] at g0'
    have hN0 : N ≠ 0 := fun q => g0' (by rw [q, nd_0]; rfl)
    rw [if_neg (fun q => hN0 q.1)] at ht
    have htz := tz_ndvd hN0
    obtain ⟨zr, ezr, hz⟩ := bnd_x hz
    obtain ⟨k1, k2, k3⟩ := sp_zeros h hN0 ezr
    obtain ⟨n1, en1, hz⟩ := bnd_x hz
    obtain ⟨n2, en2, hz⟩ := bnd_x hz
    obtain ⟨n3, en3, hz⟩ := bnd_x hz
    have hM : nd (N / 10 ^ tz N) = nd N - tz N := nd_div _ _
    have f1 : n1.toInt = nd (N / 10 ^ tz N) := by rw [en1, ti_sub (by omega) (by omega), t1, k1]; omega
    have f2 : n2.toInt = u + tz N := by rw [en2, ti_add (by omega) (by omega), hu, k1]
    have f3 : n3.toInt = u + tz N - (16 - nd (N / 10 ^ tz N)) := by
      rw [en3, ti_sub (by rw [ti_sub (by omega) (by omega)]; omega) (by rw [ti_sub (by omega) (by omega)]; omega), ti_sub (by omega) (by omega), f2, c16, f1]
    have hzr : vp_in zr 900 := by rw [vp_in_iff, k1]; omega
    have hd := tz_dvd N
    -- rounding
    have blk : ∀ (_ : re = true ∨ ¬ (nd (N / 10 ^ tz N) ≤ 16 ∧ -398 ≤ u + tz N ∧ u + tz N - (16 - nd (N / 10 ^ tz N)) ≤ 369)) {y : Int32 × Bool × Int64 × Int32 × Int32 × Int32}, y = mblk mo r un re f b ct → MR5 y t ∧ mblkS mo r un re f b ct := by
      intro hcond y hy
      refine sp_mblk h t1 hN9 hu (by omega) ?_ hy ?_
      · intro e he he2
        rcases hcond with hc | hc
        · have : 16 < nd N := nd_gt.mpr (by rw [p16]; exact hre hc)
          omega
        · omega
      · rw [ht]
        cases re with
        | true => rw [if_pos rfl, fitC_round (by simp)]
        | false =>
          rw [if_neg (by simp)]
          rcases hcond with hc | hc
          · exact absurd hc (by simp)
          · rw [fitC_round (fun q => hc q.2)]
            have hM0 : N / 10 ^ tz N ≠ 0 := by intro q; rw [q, Nat.zero_mul] at hd; exact hN0 hd.1.symm
            have := roundS_scale mo.toInt b (N / 10 ^ tz N) (tz N) u r hM0 hc
            rw [hd.1] at this
            exact this.symm
    by_cases r1 : re = true
    · rw [if_pos r1] at hz
      obtain ⟨w1, w2⟩ := blk (Or.inl r1) hz
      refine ⟨w1, t2, all_n ec ?_⟩
      rw [if_neg g0]
      refine ⟨k2, k3, all_n ezr ⟨hzr, all_n en1 (all_n en2 (all_n en3 ?_))⟩⟩
      rw [if_pos r1]
      exact w2
    · rw [if_neg r1] at hz
      have r1' : re = false := by simpa using r1
      by_cases s1 : 16 < n1
      · rw [if_pos s1] at hz
        have s1' := s1
        rw [ti_lt, c16, f1] at s1'
        obtain ⟨w1, w2⟩ := blk (Or.inr (by omega)) hz
        refine ⟨w1, t2, all_n ec ?_⟩
        rw [if_neg g0]
        refine ⟨k2, k3, all_n ezr ⟨hzr, all_n en1 (all_n en2 (all_n en3 ?_))⟩⟩
        rw [if_neg r1, if_pos s1]
        exact w2
      · rw [if_neg s1] at hz
        have s1' := s1
        rw [ti_lt, c16, f1] at s1'
        by_cases s2 : n2 < -398
        · rw [if_pos s2] at hz
          have s2' := s2
          rw [ti_lt, c398, f2] at s2'
          obtain ⟨w1, w2⟩ := blk (Or.inr (by omega)) hz
          refine ⟨w1, t2, all_n ec ?_⟩
          rw [if_neg g0]
          refine ⟨k2, k3, all_n ezr ⟨hzr, all_n en1 (all_n en2 (all_n en3 ?_))⟩⟩
          rw [if_neg r1, if_neg s1, if_pos s2]
          exact w2
        · rw [if_neg s2] at hz
          have s2' := s2
          rw [ti_lt, c398, f2] at s2'
          by_cases s3 : 369 < n3
          · rw [if_pos s3] at hz
            have s3' := s3
            rw [ti_lt, c369, f3] at s3'
            obtain ⟨w1, w2⟩ := blk (Or.inr (by omega)) hz
            refine ⟨w1, t2, all_n ec ?_⟩
            rw [if_neg g0]
            refine ⟨k2, k3, all_n ezr ⟨hzr, all_n en1 (all_n en2 (all_n en3 ?_))⟩⟩
            rw [if_neg r1, if_neg s1, if_neg s2, if_pos s3]
            exact w2
          · rw [if_neg s3] at hz
            have s3' := s3
            rw [ti_lt, c369, f3] at s3'
            have hex : nd (N / 10 ^ tz N) ≤ 16 ∧ -398 ≤ u + tz N ∧ u + tz N - (16 - nd (N / 10 ^ tz N)) ≤ 369 := by omega
            rw [if_neg r1] at ht
            unfold fitC at ht
            rw [if_pos ⟨rfl, hex⟩] at ht
            obtain ⟨a, ea, hz⟩ := bnd_x hz
            obtain ⟨c, ec2, hz⟩ := bnd_x hz
            obtain ⟨e, ee, hz⟩ := bnd_x hz
            obtain ⟨y, ey, hz⟩ := bnd_x hz
            have fa : a.toInt = max (-398) (u + tz N - (16 - nd (N / 10 ^ tz N))) := by
              rw [ea]; unfold Z_X4_fit_J_124
              by_cases q : -398 ≤ n3
              · rw [if_pos q]; rw [ti_le, c398, f3] at q; rw [f3]; omega
              · rw [if_neg q]; rw [ti_le, c398, f3] at q; rw [c398]; omega
            have fc : c.toInt = min 369 (u + tz N) := by
              rw [ec2]; unfold Z_X4_fit_J_240
              by_cases q : n2 ≤ 369
              · rw [if_pos q]; rw [ti_le, c369, f2] at q; rw [f2]; omega
              · rw [if_neg q]; rw [ti_le, c369, f2] at q; rw [c369]; omega
            have fe : e.toInt = max (max (-398) (u + tz N - (16 - nd (N / 10 ^ tz N)))) (min w.toInt (min 369 (u + tz N))) := by
              rw [ee, sp_between (by omega), fa, fc]
            have hMb : N / 10 ^ tz N < 1000000000000000000 := by
              have h1 := nd_lt (N / 10 ^ tz N)
              have h2 := p10_16 hex.1
              omega
            obtain ⟨q1, q2⟩ := sp_whole h t1 k1 (by omega) (Nat.le_refl _) hMb
            have fs : (n2 - e).toInt = (((u + tz N - e.toInt).toNat : Nat) : Int) := by rw [ti_sub (by omega) (by omega), f2]; omega
            have hb : N / 10 ^ tz N * 10 ^ (u + tz N - e.toInt).toNat < 10000000000000000 := mul_lt16 (by omega)
            obtain ⟨q3, q4⟩ := sp_times q1 fs (by omega) (by omega)
            rw [fe] at q3
            refine ⟨?_, t2, all_n ec ?_⟩
            · unfold F_X4_be at ey
              subst ey; subst hz; subst ht
              exact ⟨rfl, rfl, q3, fe, rfl⟩
            · rw [if_neg g0]
              refine ⟨k2, k3, all_n ezr ⟨hzr, all_n en1 (all_n en2 (all_n en3 ?_))⟩⟩
              rw [if_neg r1, if_neg s1, if_neg s2, if_neg s3]
              exact all_n ea (all_n ec2 (all_n ee ⟨q2, q4⟩))
