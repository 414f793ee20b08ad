/-! ===== the law's start: what the tables and the premises give ===== -/
theorem sf_hl0 (l : Launch) (hflags : l.flags = flags0) : l.stackTraces = false := by
  unfold Launch.stackTraces
  rw [hflags]
  decide +kernel
theorem tb_wsJ00 : ∀ w ∈ u_ws RJ0 TJ0 2, w ∈ lw_tbl := by decide +kernel
theorem tb_wsJx0 : ∀ w ∈ u_ws RJx00060 TJx00060 6, w ∈ lw_tbl := by decide +kernel
theorem tb_yW : ∀ w ∈ yW, w ∈ lw_tbl := by decide +kernel
theorem sf_K {args : Array Value} {s : State} (hts : ∀ w ∈ lw_tbl, w.before args s = true) : ∃ (D : va_G) (cR cI cJ cZ : ClassId), va_K D vwCl (xty cR cI cJ cZ) s := by
  obtain ⟨c0, f0, k0⟩ := u_known (C := RJ0) (T := TJ0) (N := 2) (n := 4) hts tb_wsJ00 (hts (.instantiable RJ0 4) (by decide +kernel))
  obtain ⟨c1, f1, k1⟩ := u_known (C := RJx00060) (T := TJx00060) (N := 6) (n := 6) hts tb_wsJx0 (hts (.instantiable RJx00060 6) (by decide +kernel))
  obtain ⟨c2, f2, k2⟩ := u_known (C := RX0) (T := TX0) (N := 4) (n := 4) hts tb_wsX00 (hts (.instantiable RX0 4) (by decide +kernel))
  obtain ⟨c3, f3, k3⟩ := u_known (C := RX1) (T := TX1) (N := 8) (n := 8) hts tb_wsX10 (hts (.instantiable RX1 8) (by decide +kernel))
  obtain ⟨c4, f4, k4⟩ := u_known (C := RX3) (T := TX3) (N := 7) (n := 7) hts tb_wsX30 (hts (.instantiable RX3 7) (by decide +kernel))
  obtain ⟨c5, f5, k5⟩ := u_known (C := RX4) (T := TX4) (N := 18) (n := 18) hts tb_wsX40 (hts (.instantiable RX4 18) (by decide +kernel))
  obtain ⟨comp, cR, kR, r1, r2, r3, r4, r5⟩ := Cond.arrayOver_spec (hts (.arrayOver (.object RX0)) (by decide +kernel))
  obtain ⟨cI, kI, pI, i1, i2, i3⟩ := Cond.arrayClass_spec (hts (.arrayClass .int) (by decide +kernel))
  obtain ⟨cJ, kJ, pJ, j1, j2, j3⟩ := Cond.arrayClass_spec (hts (.arrayClass .long) (by decide +kernel))
  obtain ⟨cZ, kZ, pZ, z1, z2, z3⟩ := Cond.arrayClass_spec (hts (.arrayClass .boolean) (by decide +kernel))
  refine ⟨(fun k => match k with | 0 => c0 | 1 => c1 | 2 => c2 | 3 => c3 | 4 => c4 | _ => c5, fun k => match k with | 0 => f0 | 1 => f1 | 2 => f2 | 3 => f3 | 4 => f4 | _ => f5), cR, cI, cJ, cZ, ?_, ?_⟩
  · intro k q hq
    match k, hq with
    | 0, hq => cases hq; exact k0
    | 1, hq => cases hq; exact k1
    | 2, hq => cases hq; exact k2
    | 3, hq => cases hq; exact k3
    | 4, hq => cases hq; exact k4
    | 5, hq => cases hq; exact k5
    | k + 6, hq => simp [vwCl] at hq
  · intro k q hq
    match k, hq with
    | 0, hq => cases hq; exact ⟨fun n z => ⟨fun k h => (by cases h), kR, r3, comp, r4⟩, kR, comp, r3, r4, r1, r5⟩
    | 1, hq => cases hq; exact ⟨fun n z => ⟨fun k h => (by cases h), kI, i2, pI, i3⟩, i1⟩
    | 2, hq => cases hq; exact ⟨fun n z => ⟨fun k h => (by cases h), kJ, j2, pJ, j3⟩, j1⟩
    | 3, hq => cases hq; exact ⟨fun n z => ⟨fun k h => (by cases h), kZ, z2, pZ, z3⟩, z1⟩
    | k + 4, hq => simp [xty] at hq
theorem sf_N {args : Array Value} {s : State} (hts : ∀ w ∈ lw_tbl, w.before args s = true) : iN s :=
  ⟨va_AO.of (hts (.arrayOver (.object RX0)) (by decide +kernel)), (va_Nw.of (by decide +kernel) (hts (.methodLinkNest RX3 15 yX0_init RX3) (by decide +kernel))), (va_Nw.of (by decide +kernel) (hts (.methodLinkNest RX3 22 yX1_init RX3) (by decide +kernel)))⟩
abbrev sfT : Term := .static "DecimalWords" "TENS" "[J"
theorem sf_tens : ∀ j : Nat, j < 17 → Cond.eq (.elem sfT (.int (Int32.ofNat j))) (.long (tensL j)) ∈ flatC (Jvm.Cond.and given_1 narrow_1) := by decide +kernel
theorem sf_X {args : Array Value} {s : State} (hts : ∀ w ∈ lw_tbl, w.before args s = true) (hgv : (Jvm.Cond.and given_1 narrow_1).before args s = true) : ∃ t0 : Nat, xSt t0 (hA9 s) s s.heap := by
  have hs := flat_of_before _ hgv
  have hA : ∀ a : Nat, a < s.heap.size → ¬ hA9 s a := fun a h => Nat.not_le.mpr h
  obtain ⟨t0, ht, hT⟩ := va_Tof (tm := sfT) (ty := .long) (N := 17) (f := fun i => .long (tensL i)) (A := hA9 s) (by decide) (hs (.arrayOf sfT .long) (by decide +kernel)) (Cond.eq_int (hs (Cond.eq (.length sfT) (.int (Int32.ofNat 17))) (by decide +kernel)) rfl) (fun j hj => Cond.eq_long (hs _ (sf_tens j hj)) rfl) hA
  exact ⟨t0, va_Zof (hts (.laysStatic "DecimalWords" "TENS" "[J") (by decide +kernel)) (hts (.initialized "DecimalWords") (by decide +kernel)) ht hA, hT, (va_Nw.of (by decide +kernel) (hts (.methodLinkNest RX1 22 yX3_digitsOf RX3) (by decide +kernel))), (va_Nw.of (by decide +kernel) (hts (.methodLinkNest RX1 64 yX3_tenTo RX3) (by decide +kernel))), (va_Nw.of (by decide +kernel) (hts (.methodLinkNest RX2 53 yX3_tenTo RX3) (by decide +kernel)))⟩
theorem sf_S {args : Array Value} {s : State} (hts : ∀ w ∈ lw_tbl, w.before args s = true) : ∃ sv : Nat → Nat, yStr sv s := by
  obtain ⟨cur, _, hcur, -⟩ := Cond.instantiable_spec (hts (.instantiable RX3 7) (by decide +kernel))
  have h0 := (hts (.stringRef RX3 48 "the coefficient is out of range") (by decide +kernel))
  obtain ⟨_, _, _, a0, -, -, -, -, -, e0⟩ := Cond.stringRef_spec hcur h0
  have h1 := (hts (.stringRef RX3 53 "the exponent is out of range") (by decide +kernel))
  obtain ⟨_, _, _, a1, -, -, -, -, -, e1⟩ := Cond.stringRef_spec hcur h1
  have h2 := (hts (.stringRef RX3 59 "there is no such operation") (by decide +kernel))
  obtain ⟨_, _, _, a2, -, -, -, -, -, e2⟩ := Cond.stringRef_spec hcur h2
  have h3 := (hts (.stringRef RX3 67 "a flag that was raised is a trap") (by decide +kernel))
  obtain ⟨_, _, _, a3, -, -, -, -, -, e3⟩ := Cond.stringRef_spec hcur h3
  have h4 := (hts (.stringRef RX3 101 "there is no such mode") (by decide +kernel))
  obtain ⟨_, _, _, a4, -, -, -, -, -, e4⟩ := Cond.stringRef_spec hcur h4
  have h5 := (hts (.stringRef RX3 103 "there are no such flags") (by decide +kernel))
  obtain ⟨_, _, _, a5, -, -, -, -, -, e5⟩ := Cond.stringRef_spec hcur h5
  have h6 := (hts (.stringRef RX3 107 "there is no such register") (by decide +kernel))
  obtain ⟨_, _, _, a6, -, -, -, -, -, e6⟩ := Cond.stringRef_spec hcur h6
  have h7 := (hts (.stringRef RX3 110 "there is no such way") (by decide +kernel))
  obtain ⟨_, _, _, a7, -, -, -, -, -, e7⟩ := Cond.stringRef_spec hcur h7
  exact ⟨fun k => match k with | 0 => a0 | 1 => a1 | 2 => a2 | 3 => a3 | 4 => a4 | 5 => a5 | 6 => a6 | _ => a7, vk_R.of h0 e0, vk_R.of h1 e1, vk_R.of h2 e2, vk_R.of h3 e3, vk_R.of h4 e4, vk_R.of h5 e5, vk_R.of h6 e6, vk_R.of h7 e7⟩
theorem sf_Y {args : Array Value} {s : State} (hts : ∀ w ∈ lw_tbl, w.before args s = true) (hgv : (Jvm.Cond.and given_1 narrow_1).before args s = true) : ∃ (t0 : Nat) (sv : Nat → Nat), yS t0 sv (hA9 s) s s.heap := by
  have hs := flat_of_before _ hgv
  have hA : ∀ a : Nat, a < s.heap.size → ¬ hA9 s a := fun a h => Nat.not_le.mpr h
  obtain ⟨t0, hX⟩ := sf_X hts hgv
  obtain ⟨sv, hV⟩ := sf_S hts
  refine ⟨t0, sv, hX, vx_Zqof (hts (.laysStatic Bundle.tN "UNASSIGNED_STACK" Bundle.steD) (by decide +kernel)) (hts (.initialized Bundle.tN) (by decide +kernel)) (hs (.isRef (.static Bundle.tN "UNASSIGNED_STACK" Bundle.steD)) (by decide +kernel)) hA, vx_Zqof (hts (.laysStatic Bundle.tN "SUPPRESSED_SENTINEL" Bundle.listD) (by decide +kernel)) (hts (.initialized Bundle.tN) (by decide +kernel)) (hs (.isRef (.static Bundle.tN "SUPPRESSED_SENTINEL" Bundle.listD)) (by decide +kernel)) hA, hV, fun w hw => ?_, va_Nc.of (hs (.not (.castable eIA eIO)) (by decide +kernel)), va_Nc.of (hs (.not (.castable eAE eIO)) (by decide +kernel)), va_Nc.of (hs (.not (.castable eAE eIA)) (by decide +kernel))⟩
  have h1 := List.all_eq_true.mp yW_ok w hw
  simp only [yOk, Bool.and_eq_true] at h1
  exact va_Nw.of h1.1 (hts w (tb_yW w hw))
theorem tb_iOb : iOb ∈ lw_tbl := by decide +kernel
