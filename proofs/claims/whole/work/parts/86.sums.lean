/-! ===== both objects side by side: the sum's loop ===== -/
theorem st_in {i : Int32} {n : Nat} : vp_in i n ↔ 0 ≤ i.toInt ∧ i.toInt < n := by
  unfold vp_in
  rw [ti_lt, ti_nat, show (0 : Int32).toInt = 0 by decide]
  constructor
  · intro h
    omega
  · intro h
    omega
section SUM
variable {rd tr p0 p2 : Int32}
def sJ (t : Int32 × Int32 × Int32 × Int32 × Bool × Int64 × Int64 × Int32 × Bool × Int32 × Int64 × Int32 × (Nat → Int32) × (Nat → Bool) × (Nat → Int64) × (Nat → Int32)) (u : Int32 × Int32 × Int32 × Int32 × Bool × Int64 × Int32 × Int32 × Int32 × Int32 × Bool × (Nat → Int32) × (Nat → Bool) × (Nat → Int64) × (Nat → Int32) × (Nat → Int32) × (Nat → Int32)) : Prop :=
  t.1 = u.1 ∧ t.2.1 = u.2.1 ∧ t.2.2.1 = u.2.2.1 ∧ (0 ≤ (t.2.1).toInt ∧ (t.2.1).toInt ≤ 8) ∧ RS t.2.2.2.2.2.2.2.2.2.2.2.2.1 t.2.2.2.2.2.2.2.2.2.2.2.2.2.1 t.2.2.2.2.2.2.2.2.2.2.2.2.2.2.1 t.2.2.2.2.2.2.2.2.2.2.2.2.2.2.2 u.2.2.2.2.2.2.2.2.2.2.2.1 u.2.2.2.2.2.2.2.2.2.2.2.2.1 u.2.2.2.2.2.2.2.2.2.2.2.2.2.1 u.2.2.2.2.2.2.2.2.2.2.2.2.2.2.1
theorem sj_G3 (t : Int32 × Int32 × Int32 × Int32 × Bool × Int64 × Int64 × Int32 × Bool × Int32 × Int64 × Int32 × (Nat → Int32) × (Nat → Bool) × (Nat → Int64) × (Nat → Int32)) : G_X3_sum_ok_18 rd tr p0 p2 t = if p2 < t.2.1 then false else true := by
  unfold G_X3_sum_ok_18 bnd
  rfl
theorem sj_G4 (u : Int32 × Int32 × Int32 × Int32 × Bool × Int64 × Int32 × Int32 × Int32 × Int32 × Bool × (Nat → Int32) × (Nat → Bool) × (Nat → Int64) × (Nat → Int32) × (Nat → Int32) × (Nat → Int32)) : G_X4_sum_39 rd tr p0 p2 false u = if p2 < u.2.1 then false else true := by
  unfold G_X4_sum_39 bnd
  by_cases h : p2 < u.2.1
  · rw [if_pos h, if_pos h]
  · rw [if_neg h, if_neg h]
    exact if_pos (show bI false = 0 from rfl)
theorem sj_G {t : Int32 × Int32 × Int32 × Int32 × Bool × Int64 × Int64 × Int32 × Bool × Int32 × Int64 × Int32 × (Nat → Int32) × (Nat → Bool) × (Nat → Int64) × (Nat → Int32)} {u : Int32 × Int32 × Int32 × Int32 × Bool × Int64 × Int32 × Int32 × Int32 × Int32 × Bool × (Nat → Int32) × (Nat → Bool) × (Nat → Int64) × (Nat → Int32) × (Nat → Int32) × (Nat → Int32)} (h : sJ t u) : G_X3_sum_ok_18 rd tr p0 p2 t = G_X4_sum_39 rd tr p0 p2 false u := by
  rw [sj_G3, sj_G4, h.2.1]
theorem sj_gt {t : Int32 × Int32 × Int32 × Int32 × Bool × Int64 × Int64 × Int32 × Bool × Int32 × Int64 × Int32 × (Nat → Int32) × (Nat → Bool) × (Nat → Int64) × (Nat → Int32)} (h : G_X3_sum_ok_18 rd tr p0 p2 t = true) : ¬ p2 < t.2.1 := by
  intro h9
  rw [sj_G3, if_pos h9] at h
  exact absurd h (by decide)
set_option maxHeartbeats 4000000 in
theorem sj_B (h0 : vp_in p0 8) (h2 : vp_in p2 8) {t : Int32 × Int32 × Int32 × Int32 × Bool × Int64 × Int64 × Int32 × Bool × Int32 × Int64 × Int32 × (Nat → Int32) × (Nat → Bool) × (Nat → Int64) × (Nat → Int32)} {u : Int32 × Int32 × Int32 × Int32 × Bool × Int64 × Int32 × Int32 × Int32 × Int32 × Bool × (Nat → Int32) × (Nat → Bool) × (Nat → Int64) × (Nat → Int32) × (Nat → Int32) × (Nat → Int32)} (h : sJ t u) (hg : ¬ p2 < t.2.1) :
    sJ (B_X3_sum_ok_18 rd tr p0 p2 t) (B_X4_sum_39 rd tr p0 p2 false u) ∧ (B_X3_sum_ok_18 rd tr p0 p2 t).2.1.toInt = t.2.1.toInt + 1 ∧ t.2.1.toInt ≤ 7 ∧ SB_X3_sum_ok_18 rd tr p0 p2 t ∧ SB_X4_sum_39 rd tr p0 p2 false u := by
  obtain ⟨n1, ix, sd, rn, om, oh, ol, op, oe, ow, ok, os, so, mi, co, ex⟩ := t
  obtain ⟨n2, ix2, fg, kd, ng, cc, qq, rs, ct, un, re, ks, ms, cs, es, dg, og⟩ := u
  obtain ⟨e1, e2, e3, ⟨b1, b2⟩, hR⟩ := h
  dsimp only at e1 e2 e3 b1 b2 hR hg
  subst e1
  subst e2
  subst e3
  have hx : ix.toInt ≤ 7 := by
    have a := (st_in.mp h2).2
    rw [ti_lt] at hg
    omega
  have hin : vp_in ix 8 := st_in.mpr ⟨b1, by omega⟩
  have h6 : 0 ≤ (0 : Int32).toInt ∧ (0 : Int32).toInt ≤ 6 := by decide
  have hn : (ix + 1).toInt = ix.toInt + 1 := by
    have e : (1 : Int32).toInt = 1 := by decide
    rw [ti_add (by omega) (by omega), e]
  obtain ⟨o, ho⟩ : ∃ o, o = F_X3_operate rd tr sd om oh ol op oe ow ok os so mi co ex 0 p0 p0 ix := ⟨_, rfl⟩
  obtain ⟨z, hz⟩ : ∃ z, z = F_X4_operate rd ct un re ks ms cs es dg og 0 p0 ix := ⟨_, rfl⟩
  obtain ⟨s1, s2, q1, q2, q3, q4⟩ := rs_op hR h6 h0 h0 hin ho hz
  have hB1 : B_X3_sum_ok_18 rd tr p0 p2 (n1, ix, sd, rn, om, oh, ol, op, oe, ow, ok, os, so, mi, co, ex) = (if o.1 = true then n1 else n1 + 1, ix + 1, o.2) := by
    unfold B_X3_sum_ok_18 Z_X3_sum_ok_J_115 bnd
    dsimp only
    rw [if_neg hg, ← ho]
  have hB2 : B_X4_sum_39 rd tr p0 p2 false (n1, ix, sd, kd, ng, cc, qq, rs, ct, un, re, ks, ms, cs, es, dg, og) = if z.2.2.2.2.1 &&& tr = 0 then (n1, ix + 1, sd ||| z.2.2.2.2.1, z.1, z.2.1, z.2.2.1, z.2.2.2.1, z.2.2.2.2.1, z.2.2.2.2.2.1, z.2.2.2.2.2.2.1, z.2.2.2.2.2.2.2.1, va_up ks p0.toNatClampNeg z.1, va_up ms p0.toNatClampNeg z.2.1, va_up cs p0.toNatClampNeg z.2.2.1, va_up es p0.toNatClampNeg z.2.2.2.1, z.2.2.2.2.2.2.2.2.1, z.2.2.2.2.2.2.2.2.2) else (n1 + 1, ix + 1, sd ||| z.2.2.2.2.1, z.1, z.2.1, z.2.2.1, z.2.2.2.1, z.2.2.2.2.1, z.2.2.2.2.2.1, z.2.2.2.2.2.2.1, z.2.2.2.2.2.2.2.1, ks, ms, cs, es, z.2.2.2.2.2.2.2.2.1, z.2.2.2.2.2.2.2.2.2) := by
    unfold B_X4_sum_39 Z_X4_sum_J_125 F_X4_store bnd
    dsimp only
    rw [if_neg hg, if_pos (show bI false = 0 from rfl), ← hz]
    by_cases hf : z.2.2.2.2.1 &&& tr = 0
    · rw [if_pos hf, if_pos hf]
    · rw [if_neg hf, if_neg hf]
  have hS1 : SB_X3_sum_ok_18 rd tr p0 p2 (n1, ix, sd, rn, om, oh, ol, op, oe, ow, ok, os, so, mi, co, ex) := by
    unfold SB_X3_sum_ok_18
    exact ite_P (fun _ => trivial) (fun _ => s1)
  have hS2 : SB_X4_sum_39 rd tr p0 p2 false (n1, ix, sd, kd, ng, cc, qq, rs, ct, un, re, ks, ms, cs, es, dg, og) := by
    unfold SB_X4_sum_39
    exact ite_P (fun _ => trivial) (fun _ => ite_P (fun _ => ⟨s2, fun _ _ _ _ => ite_P (fun _ => h0) (fun _ => trivial)⟩) (fun _ => trivial))
  rw [hB1, hB2]
  refine ⟨?_, hn, hx, hS1, hS2⟩
  by_cases hf : z.2.2.2.2.1 &&& tr = 0
  · have e1 : o.1 = true := by rw [q1]; exact decide_eq_true hf
    rw [if_pos hf, if_pos e1]
    exact ⟨rfl, rfl, q2, ⟨by show 0 ≤ (ix + 1).toInt; omega, by show (ix + 1).toInt ≤ 8; omega⟩, q3 hf⟩
  · have e1 : ¬ o.1 = true := by rw [q1]; exact fun h9 => hf (of_decide_eq_true h9)
    rw [if_neg hf, if_neg e1]
    exact ⟨rfl, rfl, q2, ⟨by show 0 ≤ (ix + 1).toInt; omega, by show (ix + 1).toInt ≤ 8; omega⟩, q4 hf⟩
/-- both loops: their ends are side by side again, and all that they ask for on the way holds -/
theorem sj_run (h0 : vp_in p0 8) (h2 : vp_in p2 8) {t : Int32 × Int32 × Int32 × Int32 × Bool × Int64 × Int64 × Int32 × Bool × Int32 × Int64 × Int32 × (Nat → Int32) × (Nat → Bool) × (Nat → Int64) × (Nat → Int32)} {u : Int32 × Int32 × Int32 × Int32 × Bool × Int64 × Int32 × Int32 × Int32 × Int32 × Bool × (Nat → Int32) × (Nat → Bool) × (Nat → Int64) × (Nat → Int32) × (Nat → Int32) × (Nat → Int32)} (h : sJ t u) :
    sJ (wl (G_X3_sum_ok_18 rd tr p0 p2) (B_X3_sum_ok_18 rd tr p0 p2) 901 t) (wl (G_X4_sum_39 rd tr p0 p2 false) (B_X4_sum_39 rd tr p0 p2 false) 901 u) ∧
    G_X3_sum_ok_18 rd tr p0 p2 (wl (G_X3_sum_ok_18 rd tr p0 p2) (B_X3_sum_ok_18 rd tr p0 p2) 901 t) = false ∧ G_X4_sum_39 rd tr p0 p2 false (wl (G_X4_sum_39 rd tr p0 p2 false) (B_X4_sum_39 rd tr p0 p2 false) 901 u) = false ∧
    (∀ j, j < nW (G_X3_sum_ok_18 rd tr p0 p2) (B_X3_sum_ok_18 rd tr p0 p2) 901 t → SB_X3_sum_ok_18 rd tr p0 p2 (itn (B_X3_sum_ok_18 rd tr p0 p2) j t)) ∧
    (∀ j, j < nW (G_X4_sum_39 rd tr p0 p2 false) (B_X4_sum_39 rd tr p0 p2 false) 901 u → SB_X4_sum_39 rd tr p0 p2 false (itn (B_X4_sum_39 rd tr p0 p2 false) j u)) := by
  have hG : ∀ t u, sJ t u → G_X3_sum_ok_18 rd tr p0 p2 t = G_X4_sum_39 rd tr p0 p2 false u := fun _ _ h => sj_G h
  have hB : ∀ t u, sJ t u → G_X3_sum_ok_18 rd tr p0 p2 t = true → sJ (B_X3_sum_ok_18 rd tr p0 p2 t) (B_X4_sum_39 rd tr p0 p2 false u) := fun _ _ h g => (sj_B h0 h2 h (sj_gt g)).1
  have hE := wl_two hG hB 901 t u h
  have hr := (wl_run (G := G_X3_sum_ok_18 rd tr p0 p2) (B := B_X3_sum_ok_18 rd tr p0 p2) (N := 901) (t := t) (fun j t => (j : Int) ≤ t.2.1.toInt ∧ ∃ u, sJ t u) ⟨by have := h.2.2.2.1.1; omega, u, h⟩ (fun j t _ hp g => by
    obtain ⟨a, u, hu⟩ := hp
    obtain ⟨c1, c2, -⟩ := sj_B h0 h2 hu (sj_gt g)
    exact ⟨by rw [c2]; omega, _, c1⟩) (fun t hp => by
    obtain ⟨a, u, hu⟩ := hp
    have := hu.2.2.2.1.2
    omega)).2.1
  refine ⟨hE, hr, (hG _ _ hE).symm.trans hr, fun j hj => ?_, fun j hj => ?_⟩
  · have hp := itn_two hB h j (Nat.le_of_lt hj)
    exact (sj_B h0 h2 hp (sj_gt (nW_lt _ _ _ _ j hj))).2.2.2.1
  · have hp := itn_two' hG hB h j (Nat.le_of_lt hj)
    exact (sj_B h0 h2 hp (sj_gt ((hG _ _ hp).trans (nW_lt _ _ _ _ j hj)))).2.2.2.2
end SUM
