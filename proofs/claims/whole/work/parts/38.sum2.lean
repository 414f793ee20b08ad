/-! ===== the operations on finite numbers, as they are said ===== -/
theorem fitS_cut (mode : Int) (sg : Bool) (V k : Nat) (u : Int) (wish : Int) (r : Int32) (h : decide (V % 10 ^ k ≠ 0) = true → 10000000000000000 ≤ V / 10 ^ k) : fitS mode sg V u false wish r = fitS mode sg (V / 10 ^ k) (u + k) (decide (V % 10 ^ k ≠ 0)) wish r := by
  by_cases q : V % 10 ^ k = 0
  · have e : V / 10 ^ k * 10 ^ k = V := Nat.div_mul_cancel (Nat.dvd_of_mod_eq_zero q)
    have h2 := fitS_scale mode sg (V / 10 ^ k) k u wish r
    rw [e] at h2
    rw [← dnz_f q]; exact h2
  · rw [← dnz_t q]
    exact fitS_sticky mode sg V k u false wish r (h (dnz_t q).symm) (Or.inr q)
def addS (mode : Int) (sa : Bool) (A : Nat) (ea : Int) (sb : Bool) (B : Nat) (eb : Int) (r : Int32) : Int × Bool × Nat × Int × Int32 :=
  let u := min ea eb
  let X := A * 10 ^ (ea - u).toNat
  let Y := B * 10 ^ (eb - u).toNat
  let V := if sa = sb then X + Y else dif X Y
  let sg := if V = 0 then (if sa = sb then sb else decide (mode = 4)) else if sa = sb then sb else if X < Y then sb else sa
  fitS mode sg V u false u r
def divS (mode : Int) (sg : Bool) (A : Nat) (ea : Int) (B : Nat) (eb : Int) (r : Int32) : Int × Bool × Nat × Int × Int32 :=
  fitS mode sg (A * 10 ^ 34 / B) (ea - eb - 34) (decide (A * 10 ^ 34 % B ≠ 0)) (ea - eb) r
theorem divS_cut (mode : Int) (sg : Bool) (A B : Nat) (ea eb : Int) (r : Int32) (k : Nat) (hk : k ≤ 16) (hB : 0 < B) (h : decide (A * 10 ^ (k + 16) % B ≠ 0) = true → 10000000000000000 ≤ A * 10 ^ (k + 16) / B) :
    divS mode sg A ea B eb r = fitS mode sg (A * 10 ^ (k + 16) / B) (ea - eb - (k + 16)) (decide (A * 10 ^ (k + 16) % B ≠ 0)) (ea - eb) r := by
  obtain ⟨t, ht⟩ : ∃ t : Nat, t = 18 - k := ⟨_, rfl⟩
  have e34 : A * 10 ^ 34 = A * 10 ^ (k + 16) * 10 ^ t := by
    rw [Nat.mul_assoc, ← p10a]; congr 2; omega
  have eu : ea - eb - ((k : Int) + 16) = ea - eb - 34 + (t : Int) := by omega
  unfold divS
  rw [e34, eu]
  generalize A * 10 ^ (k + 16) = T at h ⊢
  obtain ⟨y1, y2⟩ := q_fin T B (10 ^ t) hB
  have hr : T % B < B := Nat.mod_lt _ hB
  have hlt : T % B * 10 ^ t / B < 10 ^ t := by
    rw [Nat.div_lt_iff_lt_mul hB, Nat.mul_comm _ B]
    exact Nat.mul_lt_mul_of_pos_right hr (p10 t)
  have d1 : T * 10 ^ t / B / 10 ^ t = T / B := by
    rw [y1, (add_div' (M := T / B) (B := T % B * 10 ^ t / B) (p10 t)).1, Nat.div_eq_of_lt hlt, Nat.add_zero]
  have d2 : T * 10 ^ t / B % 10 ^ t = T % B * 10 ^ t / B := by
    rw [y1, (add_div' (M := T / B) (B := T % B * 10 ^ t / B) (p10 t)).2, Nat.mod_eq_of_lt hlt]
  by_cases q : T % B = 0
  · have e0 : T * 10 ^ t % B = 0 := by rw [y2, q, Nat.zero_mul, Nat.zero_mod]
    have e1 : T * 10 ^ t / B = T / B * 10 ^ t := by rw [y1, q, Nat.zero_mul, Nat.zero_div, Nat.add_zero]
    rw [e0, q, e1]
    exact fitS_scale mode sg (T / B) t _ _ r
  · rw [← dnz_t q]
    have := fitS_sticky mode sg (T * 10 ^ t / B) t (ea - eb - 34) (decide (T * 10 ^ t % B ≠ 0)) (ea - eb) r (by rw [d1]; exact h (dnz_t q).symm) (by
      rw [d2]
      by_cases q2 : T * 10 ^ t % B = 0
      · right
        intro q3
        have q4 := Nat.div_add_mod (T % B * 10 ^ t) B
        rw [← y2, q2, q3, Nat.mul_zero] at q4
        rcases Nat.mul_eq_zero.mp q4.symm with q5 | q5
        · exact q q5
        · have := p10 t; omega
      · left; exact (dnz_t q2).symm)
    rw [d1] at this
    exact this
section SUM
variable {so : Nat → Int32} {mi : Nat → Bool} {co : Nat → Int64} {ex : Nat → Int32} {i j : Nat}
theorem sp_dZero {A : Nat} (hs : (so i).toInt = 0) (hA : (co i).toInt = A) : F_X0_isZero so co i = true ↔ A = 0 := by
  have c0 : (0 : Int32).toInt = 0 := rfl
  have l0 : (0 : Int64).toInt = ((0 : Nat) : Int) := rfl
  unfold F_X0_isZero
  rw [if_pos (by rw [ti_eq, hs, c0])]
  by_cases q : co i = 0
  · rw [if_pos q]; rw [tl_eq, hA, l0] at q; exact ⟨fun _ => Int.ofNat.inj q, fun _ => rfl⟩
  · rw [if_neg q]; rw [tl_eq, hA, l0] at q; exact ⟨fun h => absurd h (by simp), fun h => absurd (by rw [h]) q⟩
theorem dif_0 (X Y : Nat) : dif X Y = 0 ↔ X = Y := by unfold dif; split <;> omega
theorem dif_0l (Y : Nat) : dif 0 Y = Y := by unfold dif; split <;> omega
theorem dif_0r (X : Nat) : dif X 0 = X := by unfold dif; split <;> omega
theorem dif_c (X Y : Nat) : dif X Y = dif Y X := by unfold dif; split <;> split <;> omega
theorem toNat_0 {a : Int} (h : a ≤ 0) : a.toNat = 0 := by omega
theorem OC_whole {A : Nat} {c : Int64} {q : Int32} {e : Int} (h : c.toInt = A) (h2 : A < 10000000000000000) (h3 : q.toInt = e) : OC 0 c q false A e := by
  have l0 : (0 : Int64).toInt = ((0 : Nat) : Int) := rfl
  obtain ⟨w1, w2, w3⟩ := jn_7 h2
  exact ⟨by rw [l0, w1], by rw [w2]; exact h, h3, w3, fun q => absurd q (by simp)⟩
/-- the class adds as it is said -/
theorem sp_setSum {A B : Nat} {ea eb : Int} {sb p3 : Bool} (hsA : (so i).toInt = 0) (hsB : (so j).toInt = 0) (hA : (co i).toInt = A) (hB : (co j).toInt = B) (hA2 : A < 10000000000000000) (hB2 : B < 10000000000000000) (he1 : (ex i).toInt = ea) (he2 : (ex j).toInt = eb) (b1 : -1000 ≤ ea ∧ ea ≤ 1000) (b2 : -1000 ≤ eb ∧ eb ≤ 1000)
    {z : Bool × Int64 × Int64 × Int32 × Bool × Int32} (hz : z = F_X1_setSum so mi co ex i j sb p3) :
    S_X1_setSum so mi co ex i j sb p3 ∧ z.2.2.2.2.2.toInt = min ea eb ∧ ∃ (N : Nat) (u : Int), -2500 ≤ u ∧ u ≤ 2500 ∧ OC z.2.1 z.2.2.1 z.2.2.2.1 z.2.2.2.2.1 N u ∧
      ∀ (mode : Int) (r : Int32), p3 = decide (mode = 4) → fitS mode z.1 N u z.2.2.2.2.1 (min ea eb) r = addS mode (mi i) A ea sb B eb r := by
  have zA := sp_dZero (so := so) (co := co) hsA hA
  have zB := sp_dZero (so := so) (co := co) hsB hB
  unfold F_X1_setSum at hz
  unfold S_X1_setSum
  obtain ⟨x1, e1, hz⟩ := bnd_x hz
  obtain ⟨x2, e2, hz⟩ := bnd_x hz
  obtain ⟨x3, e3, hz⟩ := bnd_x hz
  obtain ⟨x4, e4, hz⟩ := bnd_x hz
  have hx1 : x1 = decide (mi i = sb) := by rw [e1]; unfold Z_X1_setSum_J_104; by_cases q : mi i = sb <;> simp [q]
  have f4 : x4.toInt = min ea eb := by rw [e4, ti_min, he1, he2]
  -- the sum in units of the lesser exponent
  obtain ⟨U, eU⟩ : ∃ U : Int, U = min ea eb := ⟨_, rfl⟩
  obtain ⟨X, eX⟩ : ∃ X : Nat, X = A * 10 ^ (ea - U).toNat := ⟨_, rfl⟩
  obtain ⟨Y, eY⟩ : ∃ Y : Nat, Y = B * 10 ^ (eb - U).toNat := ⟨_, rfl⟩
  obtain ⟨V, eV⟩ : ∃ V : Nat, V = if mi i = sb then X + Y else dif X Y := ⟨_, rfl⟩
  have key : (if F_X0_isZero so co i = true then True else if F_X0_isZero so co j = true then True else if ex i < ex j then S_X1_join co ex j i x1 else S_X1_join co ex i j x1) ∧
      ∃ k : Nat, U + (k : Int) ≤ 1000 ∧ OC x2.2.1 x2.2.2.1 x2.2.2.2.1 x2.2.2.2.2 (V / 10 ^ k) (U + k) ∧ x2.2.2.2.2 = decide (V % 10 ^ k ≠ 0) ∧ (V ≠ 0 → x2.1 = if mi i = sb then sb else if X < Y then sb else mi i) := by
    unfold Z_X1_setSum_J_133 at e2
    by_cases a0 : A = 0
    · rw [if_pos (zA.mpr a0)] at e2 ⊢
      obtain ⟨y, ey, e2⟩ := bnd_x e2
      have hX0 : X = 0 := by rw [eX, a0, Nat.zero_mul]
      have hV0 : V = Y := by rw [eV, hX0, dif_0l, Nat.zero_add]; split <;> rfl
      refine ⟨trivial, (eb - U).toNat, by omega, ?_⟩
      have h1 : V / 10 ^ (eb - U).toNat = B := by rw [hV0, eY]; exact Nat.mul_div_cancel _ (p10 _)
      have h2 : V % 10 ^ (eb - U).toNat = 0 := by rw [hV0, eY]; exact Nat.mul_mod_left _ _
      have h3 : U + ((eb - U).toNat : Int) = eb := by omega
      rw [h1, h2, h3]
      unfold F_X1_setWhole at ey
      dsimp only [bnd] at ey
      subst ey
      dsimp only at e2
      subst e2
      refine ⟨OC_whole hB hB2 he2, rfl, fun q => ?_⟩
      rw [hX0]
      by_cases q2 : mi i = sb
      · rw [if_pos q2]
      · rw [if_neg q2, if_pos (by omega)]
    · rw [if_neg (fun q => a0 (zA.mp q))] at e2 ⊢
      by_cases b0 : B = 0
      · rw [if_pos (zB.mpr b0)] at e2 ⊢
        obtain ⟨y, ey, e2⟩ := bnd_x e2
        have hY0 : Y = 0 := by rw [eY, b0, Nat.zero_mul]
        have hV0 : V = X := by rw [eV, hY0, dif_0r, Nat.add_zero]; split <;> rfl
        refine ⟨trivial, (ea - U).toNat, by omega, ?_⟩
        have h1 : V / 10 ^ (ea - U).toNat = A := by rw [hV0, eX]; exact Nat.mul_div_cancel _ (p10 _)
        have h2 : V % 10 ^ (ea - U).toNat = 0 := by rw [hV0, eX]; exact Nat.mul_mod_left _ _
        have h3 : U + ((ea - U).toNat : Int) = ea := by omega
        rw [h1, h2, h3]
        unfold F_X1_setWhole at ey
        dsimp only [bnd] at ey
        subst ey
        dsimp only at e2
        subst e2
        refine ⟨OC_whole hA hA2 he1, rfl, fun q => ?_⟩
        rw [hY0]
        by_cases q2 : mi i = sb
        · rw [if_pos q2]; exact q2
        · rw [if_neg q2, if_neg (by omega)]
      · rw [if_neg (fun q => b0 (zB.mp q))] at e2 ⊢
        by_cases hlt : ex i < ex j
        · rw [if_pos hlt] at e2 ⊢
          rw [ti_lt, he1, he2] at hlt
          obtain ⟨y, ey, e2⟩ := bnd_x e2
          obtain ⟨w, ew, e2⟩ := bnd_x e2
          have hU : U = ea := by omega
          have hXA : X = A := by rw [eX, hU, toNat_0 (by omega), Nat.pow_zero, Nat.mul_one]
          have hVj : V = if x1 = true then Y + A else dif Y A := by
            rw [eV, hXA, hx1]
            by_cases q : mi i = sb
            · rw [if_pos q, if_pos (decide_eq_true q), Nat.add_comm]
            · rw [if_neg q, if_neg (by rw [decide_eq_false q]; simp), dif_c]
          obtain ⟨r1, r2, k, hk, r3, r4⟩ := sp_join hB hA b0 a0 hB2 hA2 he2 he1 b2 b1 (by omega) ey (by rw [eY, hU]) hVj
          refine ⟨r1, k, by omega, ?_⟩
          rw [← r4] at r3
          rw [hU]
          subst e2
          refine ⟨r3, r4, fun hv => ?_⟩
          show w = _
          rw [ew]
          unfold Z_X1_setSum_J_116
          rw [r2, hx1, hXA]
          by_cases q : mi i = sb
          · rw [if_pos q, decide_eq_true q, decide_eq_false (by simp)]; cases sb <;> rfl
          · have hne : A ≠ Y := by
              intro h
              apply hv
              rw [eV, if_neg q, dif_0, hXA]; exact h
            rw [if_neg q, decide_eq_false q]
            by_cases q2 : A < Y
            · rw [if_pos q2, decide_eq_false (by omega)]; cases sb <;> rfl
            · rw [if_neg q2, decide_eq_true ⟨rfl, by omega⟩]
              revert q; cases sb <;> cases mi i <;> simp
        · rw [if_neg hlt] at e2 ⊢
          rw [ti_lt, he1, he2] at hlt
          obtain ⟨y, ey, e2⟩ := bnd_x e2
          obtain ⟨w, ew, e2⟩ := bnd_x e2
          have hU : U = eb := by omega
          have hYB : Y = B := by rw [eY, hU, toNat_0 (by omega), Nat.pow_zero, Nat.mul_one]
          have hVj : V = if x1 = true then X + B else dif X B := by
            rw [eV, hYB, hx1]
            by_cases q : mi i = sb
            · rw [if_pos q, if_pos (decide_eq_true q)]
            · rw [if_neg q, if_neg (by rw [decide_eq_false q]; simp)]
          obtain ⟨r1, r2, k, hk, r3, r4⟩ := sp_join hA hB a0 b0 hA2 hB2 he1 he2 b1 b2 (by omega) ey (by rw [eX, hU]) hVj
          refine ⟨r1, k, by omega, ?_⟩
          rw [← r4] at r3
          rw [hU]
          subst e2
          refine ⟨r3, r4, fun hv => ?_⟩
          show w = _
          rw [ew]
          unfold Z_X1_setSum_J_124
          rw [r2, hx1, hYB]
          by_cases q : mi i = sb
          · rw [if_pos q, decide_eq_true q, decide_eq_false (by simp), q]; cases sb <;> rfl
          · rw [if_neg q, decide_eq_false q]
            by_cases q2 : X < B
            · rw [if_pos q2, decide_eq_true ⟨rfl, q2⟩]
              revert q; cases sb <;> cases mi i <;> simp
            · rw [if_neg q2, decide_eq_false (fun h => q2 h.2)]
              cases mi i <;> rfl
  obtain ⟨hS, k, hk, o, hm, hsg⟩ := key
  have hsg3 : x3 = if V = 0 then (if mi i = sb then sb else p3) else if mi i = sb then sb else if X < Y then sb else mi i := by
    rw [e3]
    unfold Z_X1_setSum_J_143 Z_X1_setSum_J_139
    dsimp only [bnd]
    have oz := sp_oZero o
    by_cases v0 : V = 0
    · rw [if_pos (oz.mpr ⟨by rw [v0, Nat.zero_div], by rw [hm, v0, Nat.zero_mod]; rfl⟩), if_pos v0, hx1]
      by_cases q : mi i = sb
      · rw [if_pos q, if_pos (decide_eq_true q)]
      · rw [if_neg q, if_neg (by rw [decide_eq_false q]; simp)]
    · rw [if_neg v0, if_neg ?_]
      · exact hsg v0
      · intro h
        obtain ⟨h1, h2⟩ := oz.mp h
        rw [hm] at h2
        have h3 : V % 10 ^ k = 0 := by simpa using h2
        have h4 := Nat.div_add_mod V (10 ^ k)
        rw [h1, h3, Nat.mul_zero] at h4
        exact v0 h4.symm
  refine ⟨all_n e1 hS, ?_, V / 10 ^ k, U + k, by omega, by omega, ?_, ?_⟩
  · rw [hz]; exact f4
  · rw [hz]; exact o
  · intro mode r hp3
    have o5 := o.2.2.2.2
    rw [hm] at o5
    have hc := fitS_cut mode x3 V k U U r o5
    rw [hz]
    show fitS mode x3 (V / 10 ^ k) (U + k) x2.2.2.2.2 (min ea eb) r = _
    rw [hm, ← eU, ← hc, hsg3, hp3]
    unfold addS
    dsimp only
    rw [← eU, ← eX, ← eY, ← eV]
end SUM
