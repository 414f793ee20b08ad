/-! ===== all operations, as they are said ===== -/
def VS (k : Int) (n : Bool) (c : Nat) (q : Int) : Prop := (k = 0 ∧ c < 10000000000000000 ∧ -398 ≤ q ∧ q ≤ 369) ∨ (k = 1 ∧ c = 0 ∧ q = 0) ∨ (k = 2 ∧ n = false ∧ c = 0 ∧ q = 0)
def VD (so : Nat → Int32) (mi : Nat → Bool) (co : Nat → Int64) (ex : Nat → Int32) (i : Nat) (k : Int) (n : Bool) (c : Nat) (q : Int) : Prop := (so i).toInt = k ∧ mi i = n ∧ (co i).toInt = (c : Int) ∧ (ex i).toInt = q ∧ VS k n c q
def quantS (mode : Int) (sa : Bool) (A : Nat) (ea q : Int) (r : Int32) : Int × Bool × Nat × Int × Int32 :=
  if ea < q then (0, sa, rnd mode sa A (q - ea).toNat false, q, if A % 10 ^ (q - ea).toNat = 0 then r else r ||| 16)
  else if A = 0 then (0, sa, 0, q, r)
  else if 16 < nd A + (ea - q) then (2, false, 0, 0, r ||| 1)
  else (0, sa, A * 10 ^ (ea - q).toNat, q, r)
def nextS (k : Int) (n : Bool) (A : Nat) (e : Int) (r : Int32) : Int × Bool × Nat × Int × Int32 :=
  if k = 2 then (2, n, 0, 0, r)
  else if k = 1 then (if n = true then (0, true, 9999999999999999, 369, r) else (1, false, 0, 0, r))
  else if A = 0 then (0, false, 1, -398, r)
  else
    let s := min (16 - nd A : Int) (e + 398)
    let c := A * 10 ^ s.toNat
    if n = true then (if c = 1000000000000000 ∧ -398 < e - s then (0, true, 9999999999999999, e - s - 1, r) else (0, true, c - 1, e - s, r))
    else if c < 9999999999999999 then (0, false, c + 1, e - s, r) else if e - s < 369 then (0, false, 1000000000000000, e - s + 1, r) else (1, false, 0, 0, r)
def sideS (k : Int) (n : Bool) (c : Nat) : Int := if k = 0 ∧ c = 0 then 0 else if n = true then -1 else 1
def sizeS (ka : Int) (A : Nat) (ea : Int) (kb : Int) (B : Nat) (eb : Int) : Int :=
  if ka = 1 ∨ kb = 1 then ordS ka kb
  else if ea + nd A = eb + nd B then ordS (A * 10 ^ (16 - nd A) : Nat) (B * 10 ^ (16 - nd B) : Nat)
  else ordS (ea + nd A) (eb + nd B)
def orderS (ka : Int) (sa : Bool) (A : Nat) (ea : Int) (kb : Int) (sb : Bool) (B : Nat) (eb : Int) : Int :=
  if sideS ka sa A = sideS kb sb B then sideS ka sa A * sizeS ka A ea kb B eb
  else if sideS ka sa A < sideS kb sb B then -1 else 1
theorem ordS_anti (a b : Int) : ordS b a = -ordS a b := by unfold ordS; split <;> split <;> (try split) <;> (try split) <;> omega
theorem ordS_b (a b : Int) : -1 ≤ ordS a b ∧ ordS a b ≤ 1 := by unfold ordS; split <;> (try split) <;> omega
theorem sizeS_anti (ka : Int) (A : Nat) (ea : Int) (kb : Int) (B : Nat) (eb : Int) : sizeS kb B eb ka A ea = -sizeS ka A ea kb B eb := by
  unfold sizeS
  by_cases h : ka = 1 ∨ kb = 1
  · rw [if_pos h, if_pos h.symm, ordS_anti]
  · rw [if_neg h, if_neg (fun q => h q.symm)]
    by_cases h2 : ea + nd A = eb + nd B
    · rw [if_pos h2, if_pos h2.symm, ordS_anti]
    · rw [if_neg h2, if_neg (fun q => h2 q.symm), ordS_anti]
theorem orderS_anti (ka : Int) (sa : Bool) (A : Nat) (ea : Int) (kb : Int) (sb : Bool) (B : Nat) (eb : Int) : orderS kb sb B eb ka sa A ea = -orderS ka sa A ea kb sb B eb := by
  unfold orderS
  by_cases h : sideS ka sa A = sideS kb sb B
  · rw [if_pos h, if_pos h.symm, sizeS_anti, ← h, Int.mul_neg]
  · rw [if_neg h, if_neg (fun q => h q.symm)]
    split <;> split <;> omega
def infS (op : Int) (ka : Int) (sa : Bool) (A : Nat) (kb : Int) (sb : Bool) (B : Nat) (r : Int32) : Int × Bool × Nat × Int × Int32 :=
  if op = 0 ∨ op = 1 then
    let sb' := if op = 1 then !sb else sb
    if ka = kb ∧ sa ≠ sb' then (2, false, 0, 0, r ||| 1) else (1, if ka = 1 then sa else sb', 0, 0, r)
  else if op = 2 then (if ka = 0 ∧ A = 0 ∨ kb = 0 ∧ B = 0 then (2, false, 0, 0, r ||| 1) else (1, sa != sb, 0, 0, r))
  else if op = 3 then (if ka = kb then (2, false, 0, 0, r ||| 1) else if ka = 1 then (1, sa != sb, 0, 0, r) else (0, sa != sb, 0, -398, r))
  else if ka = kb then (1, sa, 0, 0, r) else (2, false, 0, 0, r ||| 1)
def finS (mode op : Int) (sa : Bool) (A : Nat) (ea : Int) (sb : Bool) (B : Nat) (eb : Int) (r : Int32) : Int × Bool × Nat × Int × Int32 :=
  if op = 0 then addS mode sa A ea sb B eb r
  else if op = 1 then addS mode sa A ea (!sb) B eb r
  else if op = 2 then fitS mode (sa != sb) (A * B) (ea + eb) false (ea + eb) r
  else if op = 3 then (if B = 0 then (if A = 0 then (2, false, 0, 0, r ||| 1) else (1, sa != sb, 0, 0, r ||| 2)) else divS mode (sa != sb) A ea B eb r)
  else quantS mode sa A ea eb r
def opS (mode op : Int) (ka : Int) (sa : Bool) (A : Nat) (ea : Int) (kb : Int) (sb : Bool) (B : Nat) (eb : Int) (r : Int32) : Int × Bool × Nat × Int × Int32 :=
  if op = 6 then nextS ka sa A ea r
  else if ka = 2 ∨ kb = 2 then (2, false, 0, 0, r)
  else if op = 5 then (if 0 < orderS ka sa A ea kb sb B eb then (kb, sb, B, eb, r) else (ka, sa, A, ea, r))
  else if ka = 1 ∨ kb = 1 then infS op ka sa A kb sb B r
  else finS mode op sa A ea sb B eb r
section OPS
variable {so : Nat → Int32} {mi : Nat → Bool} {co : Nat → Int64} {ex : Nat → Int32} {i j : Nat}
theorem sp_take {k : Int} {n : Bool} {c : Nat} {q : Int} (h : VD so mi co ex i k n c q) {u : (Nat → Int32) × (Nat → Bool) × (Nat → Int64) × (Nat → Int32)} (hu : u = F_X0_take so mi co ex 8 i) : RD so mi co ex u.1 u.2.1 u.2.2.1 u.2.2.2 k n c q := by
  obtain ⟨h1, h2, h3, h4, -⟩ := h
  subst hu
  unfold F_X0_take RD
  dsimp only [bnd]
  simp only [up_s]
  exact ⟨h1, h2, h3, h4, fun i hi => ⟨up_n hi, up_n hi, up_n hi, up_n hi⟩⟩
theorem raise_e (r f : Int32) : F_X3_raise r f = r ||| f := rfl
theorem sp_invalid {r : Int32} {z : Int32 × (Nat → Int32) × (Nat → Bool) × (Nat → Int64) × (Nat → Int32)} (hz : z = F_X3_setInvalid r so mi co ex) : z.1 = r ||| 1 ∧ RD so mi co ex z.2.1 z.2.2.1 z.2.2.2.1 z.2.2.2.2 2 false 0 0 := by
  unfold F_X3_setInvalid at hz
  obtain ⟨x, e1, hz⟩ := bnd_x hz
  obtain ⟨y, e2, hz⟩ := bnd_x hz
  subst hz
  exact ⟨by rw [e1]; rfl, sp_setNothing e2⟩
theorem rcl_0 {r U : Nat} : rcl r U false = 0 ↔ r = 0 := by
  unfold rcl
  by_cases h : r = 0
  · simp [h]
  · rw [if_neg (fun q => h q.1)]
    constructor
    · intro q
      split at q
      · omega
      · split at q <;> omega
    · intro q; exact absurd q h
theorem sp_quantize {rd r : Int32} {om : Bool} {oh ol : Int64} {op : Int32} {oe : Bool} {ok : Int64} {os : Int32} {A : Nat} {ea q : Int} {p1 : Int32} (hs : (so i).toInt = 0) (hA : (co i).toInt = A) (hA2 : A < 10000000000000000) (he : (ex i).toInt = ea) (hp : p1.toInt = q) (b1 : -398 ≤ ea ∧ ea ≤ 369) (b2 : -398 ≤ q ∧ q ≤ 369)
    {z : Int32 × Bool × Int64 × Int64 × Int32 × Bool × Int64 × Int32 × (Nat → Int32) × (Nat → Bool) × (Nat → Int64) × (Nat → Int32)} (hz : z = F_X3_quantize rd r om oh ol op oe ok os so mi co ex i p1) {t : Int × Bool × Nat × Int × Int32} (ht : t = quantS rd.toInt (mi i) A ea q r) :
    S_X3_quantize rd r om oh ol op oe ok os so mi co ex i p1 ∧ z.1 = t.2.2.2.2 ∧ RD so mi co ex z.2.2.2.2.2.2.2.2.1 z.2.2.2.2.2.2.2.2.2.1 z.2.2.2.2.2.2.2.2.2.2.1 z.2.2.2.2.2.2.2.2.2.2.2 t.1 t.2.1 t.2.2.1 t.2.2.2.1 := by
  have c0 : (0 : Int32).toInt = 0 := rfl
  have c16 : (16 : Int32).toInt = 16 := rfl
  have zA := sp_dZero (so := so) (co := co) hs hA
  obtain ⟨q1, q2⟩ := sp_digitsOf hA hA2
  have hnA : nd A ≤ 16 := by rw [nd_le, p16]; exact hA2
  unfold F_X3_quantize at hz
  unfold S_X3_quantize
  unfold quantS at ht
  obtain ⟨x1, e1, hz⟩ := bnd_x hz
  have f1 : x1.toInt = q - ea := by rw [e1, ti_sub (by omega) (by omega), hp, he]
  by_cases g : x1 ≤ 0
  · rw [if_pos g] at hz
    have g' := g
    rw [ti_le, f1, c0] at g'
    rw [if_neg (by omega)] at ht
    by_cases a0 : A = 0
    · rw [if_pos (zA.mpr a0)] at hz
      rw [if_pos a0] at ht
      obtain ⟨y, ey, hz⟩ := bnd_x hz
      refine ⟨all_n e1 (by rw [if_pos g, if_pos (zA.mpr a0)]; trivial), ?_⟩
      have hR := sp_setFinite (cn := 0) (qi := q) rfl hp ey
      subst hz; subst ht
      exact ⟨rfl, hR⟩
    · rw [if_neg (fun h => a0 (zA.mp h))] at hz
      rw [if_neg a0] at ht
      have f2 : (F_X3_digitsOf (co i) - x1).toInt = nd A + (ea - q) := by rw [ti_sub (by omega) (by omega), q1, f1]; omega
      by_cases g2 : F_X3_digitsOf (co i) - x1 ≤ 16
      · rw [if_pos g2] at hz
        have g2' := g2
        rw [ti_le, f2, c16] at g2'
        rw [if_neg (by omega)] at ht
        obtain ⟨y, ey, hz⟩ := bnd_x hz
        have f3 : (-x1).toInt = (((ea - q).toNat : Nat) : Int) := by rw [ti_neg (by omega), f1]; omega
        refine ⟨all_n e1 (by rw [if_pos g, if_neg (fun h => a0 (zA.mp h)), if_pos g2]; exact ⟨q2, S_tenTo _⟩), ?_⟩
        have t1 := sp_tenTo f3 (by omega)
        have hb : A * 10 ^ (ea - q).toNat < 10000000000000000 := by
          have h1 := Nat.mul_lt_mul_of_pos_right (nd_lt A) (p10 (ea - q).toNat)
          rw [← p10a] at h1
          have h2 := p10_16 (k := nd A + (ea - q).toNat) (by omega)
          omega
        have hR := sp_setFinite (tn_mul hA t1 (by omega)) hp ey
        subst hz; subst ht
        exact ⟨rfl, hR⟩
      · rw [if_neg g2] at hz
        have g2' := g2
        rw [ti_le, f2, c16] at g2'
        rw [if_pos (by omega)] at ht
        obtain ⟨y, ey, hz⟩ := bnd_x hz
        refine ⟨all_n e1 (by rw [if_pos g, if_neg (fun h => a0 (zA.mp h)), if_neg g2]; exact ⟨q2, trivial⟩), ?_⟩
        have hR := sp_invalid ey
        subst hz; subst ht
        exact hR
  · rw [if_neg g] at hz
    have g' := g
    rw [ti_le, f1, c0] at g'
    rw [if_pos (by omega)] at ht
    obtain ⟨y, ey, hz⟩ := bnd_x hz
    unfold F_X1_setWhole at ey
    dsimp only [bnd] at ey
    have o : OC y.2.1 y.2.2.1 y.2.2.2.1 y.2.2.2.2 A ea := by rw [ey]; exact OC_whole hA hA2 he
    have hm : y.2.2.2.2 = false := by rw [ey]
    have f3 : x1.toInt = (((q - ea).toNat : Nat) : Int) := by omega
    obtain ⟨w1, w2, w3⟩ := sp_cut o f3 (by omega) (by omega)
    obtain ⟨v, ev, hz⟩ := bnd_x hz
    obtain ⟨b, eb, hz⟩ := bnd_x hz
    obtain ⟨u, eu, hz⟩ := bnd_x hz
    have hS : ∀ (n101 : Int32), n101 = p1 - ex i → if n101 ≤ 0 then if F_X0_isZero so co i = true then True else (S_X3_digitsOf (co i)) ∧ (if F_X3_digitsOf (co i) - n101 ≤ 16 then S_X3_tenTo (-n101) else True) else ∀ (u116 : Bool × Int64 × Int64 × Int32 × Bool), u116 = F_X1_setWhole mi co ex i → S_X1_cut u116.2.1 u116.2.2.1 u116.2.2.2.2 n101 := by
      refine all_n e1 ?_
      rw [if_neg g]
      refine all_n (n := y) ?_ w3
      rw [ey]; rfl
    refine ⟨hS, ?_⟩
    rw [← ev] at w1 w2
    rw [hm] at w2
    have hkb : A / 10 ^ (q - ea).toNat < 10000000000000000 := Nat.lt_of_le_of_lt (Nat.div_le_self _ _) hA2
    have f4 := sp_rounded (rd := rd) (n := mi i) w1 w2 hkb (rcl_le _ _ _)
    have hR := sp_setFinite (cn := rnd rd.toInt (mi i) A (q - ea).toNat false) (qi := q) f4 hp eu
    have f5 : b = if A % 10 ^ (q - ea).toNat = 0 then r else r ||| 16 := by
      rw [eb]
      unfold Z_X3_quantize_J_126
      by_cases y0 : v.2 = 0
      · rw [if_pos y0]
        rw [ti_eq, w2, c0] at y0
        rw [if_pos (rcl_0.mp (Int.ofNat.inj y0))]
      · rw [if_neg y0]
        rw [ti_eq, w2, c0] at y0
        rw [if_neg (fun h => y0 (by rw [rcl_0.mpr h]; rfl))]; rfl
    subst hz; subst ht
    exact ⟨f5, hR⟩
theorem sp_next {r : Int32} {k : Int} {n : Bool} {A : Nat} {e : Int} (h : VD so mi co ex i k n A e) {z : (Nat → Int32) × (Nat → Bool) × (Nat → Int64) × (Nat → Int32)} (hz : z = F_X3_setNext so mi co ex i) {t : Int × Bool × Nat × Int × Int32} (ht : t = nextS k n A e r) :
    S_X3_setNext so mi co ex i ∧ RD so mi co ex z.1 z.2.1 z.2.2.1 z.2.2.2 t.1 t.2.1 t.2.2.1 t.2.2.2.1 ∧ t.2.2.2.2 = r := by
  have c0 : (0 : Int32).toInt = 0 := rfl
  have c1 : (1 : Int32).toInt = 1 := rfl
  have c2 : (2 : Int32).toInt = 2 := rfl
  have c16 : (16 : Int32).toInt = 16 := rfl
  have c398 : (-398 : Int32).toInt = -398 := rfl
  have c369 : (369 : Int32).toInt = 369 := rfl
  have l15 : (1000000000000000 : Int64).toInt = 1000000000000000 := rfl
  have l99 : (9999999999999999 : Int64).toInt = 9999999999999999 := rfl
  have l1 : (1 : Int64).toInt = 1 := rfl
  have hv := h
  obtain ⟨h1, h2, h3, h4, h5⟩ := h
  unfold F_X3_setNext at hz
  unfold S_X3_setNext
  unfold nextS at ht
  by_cases k2 : so i = 2
  · rw [if_pos k2] at hz ⊢
    rw [ti_eq, h1, c2] at k2
    rw [if_pos k2] at ht
    obtain ⟨y, ey, hz⟩ := bnd_x hz
    have hR := sp_take hv ey
    rcases h5 with h5 | h5 | h5
    · omega
    · omega
    · obtain ⟨-, -, g3, g4⟩ := h5
      rw [k2, g3, g4] at hR
      subst hz; subst ht
      exact ⟨trivial, hR, rfl⟩
  · rw [if_neg k2] at hz ⊢
    rw [ti_eq, h1, c2] at k2
    rw [if_neg k2] at ht
    by_cases k1 : so i = 1
    · rw [if_pos k1] at hz ⊢
      rw [ti_eq, h1, c1] at k1
      rw [if_pos k1] at ht
      by_cases n1 : n = true
      · rw [if_pos (by rw [h2]; exact n1)] at hz
        rw [if_pos n1] at ht
        obtain ⟨y, ey, hz⟩ := bnd_x hz
        subst hz; subst ht
        exact ⟨trivial, sp_setFinite rfl rfl ey, rfl⟩
      · rw [if_neg (by rw [h2]; exact n1)] at hz
        rw [if_neg n1] at ht
        obtain ⟨y, ey, hz⟩ := bnd_x hz
        have hR := sp_take hv ey
        rcases h5 with h5 | h5 | h5
        · omega
        · obtain ⟨-, g3, g4⟩ := h5
          rw [k1, g3, g4, show n = false from by simpa using n1] at hR
          subst hz; subst ht
          exact ⟨trivial, hR, rfl⟩
        · omega
    · rw [if_neg k1] at hz ⊢
      rw [ti_eq, h1, c1] at k1
      rw [if_neg k1] at ht
      have hk0 : k = 0 ∧ A < 10000000000000000 ∧ -398 ≤ e ∧ e ≤ 369 := by
        rcases h5 with h5 | h5 | h5
        · exact h5
        · omega
        · omega
      obtain ⟨k0, hA2, b1, b2⟩ := hk0
      have zA := sp_dZero (so := so) (co := co) (by rw [h1, k0]) h3
      by_cases a0 : A = 0
      · rw [if_pos (zA.mpr a0)] at hz ⊢
        rw [if_pos a0] at ht
        obtain ⟨y, ey, hz⟩ := bnd_x hz
        subst hz; subst ht
        exact ⟨trivial, sp_setFinite rfl rfl ey, rfl⟩
      · rw [if_neg (fun q => a0 (zA.mp q))] at hz ⊢
        rw [if_neg a0] at ht
        obtain ⟨q1, q2⟩ := sp_digitsOf h3 hA2
        have hnA : nd A ≤ 16 := by rw [nd_le, p16]; exact hA2
        obtain ⟨x1, e1, hz⟩ := bnd_x hz
        obtain ⟨x2, e2, hz⟩ := bnd_x hz
        refine ⟨⟨q2, all_n e1 (S_tenTo _)⟩, ?_⟩
        dsimp only at ht
        obtain ⟨s, es⟩ : ∃ s : Int, s = min (16 - nd A : Int) (e + 398) := ⟨_, rfl⟩
        rw [← es] at ht
        have f1 : x1.toInt = s := by rw [e1, ti_min, ti_sub (by omega) (by omega), ti_sub (by omega) (by omega), c16, q1, h4, c398]; omega
        have f1n : x1.toInt = ((s.toNat : Nat) : Int) := by omega
        have t1 := sp_tenTo f1n (by omega)
        obtain ⟨c, ec⟩ : ∃ c : Nat, c = A * 10 ^ s.toNat := ⟨_, rfl⟩
        rw [← ec] at ht
        have hc : c < 10000000000000000 := by
          have h1 : A * 10 ^ s.toNat < 10 ^ nd A * 10 ^ s.toNat := Nat.mul_lt_mul_of_pos_right (nd_lt A) (p10 _)
          rw [← p10a] at h1
          have h2 := p10_16 (k := nd A + s.toNat) (by omega)
          omega
        have hc0 : 0 < c := by rw [ec]; exact Nat.mul_pos (Nat.pos_of_ne_zero a0) (p10 _)
        have f2 : x2.toInt = (c : Int) := by rw [e2, ec]; exact tn_mul h3 t1 (by omega)
        have f3 : (ex i - x1).toInt = e - s := by rw [ti_sub (by omega) (by omega), h4, f1]
        by_cases n1 : n = true
        · rw [if_pos (by rw [h2]; exact n1)] at hz
          rw [if_pos n1] at ht
          obtain ⟨y, ey, hz⟩ := bnd_x hz
          unfold F_X3_stepToZero at ey
          have fm : (x2 - 1).toInt = ((c - 1 : Nat) : Int) := by rw [tl_sub (by omega) (by omega), f2, l1]; omega
          by_cases d1 : x2 = 1000000000000000
          · rw [if_pos d1] at ey
            rw [tl_eq, f2, l15] at d1
            by_cases d2 : ex i - x1 ≤ -398
            · rw [if_pos d2] at ey
              rw [ti_le, f3, c398] at d2
              rw [if_neg (by omega)] at ht
              obtain ⟨w, ew, ey⟩ := bnd_x ey
              have hR := sp_setFinite fm f3 ew
              subst ey; subst hz; subst ht
              exact ⟨hR, rfl⟩
            · rw [if_neg d2] at ey
              rw [ti_le, f3, c398] at d2
              rw [if_pos (by omega)] at ht
              obtain ⟨w, ew, ey⟩ := bnd_x ey
              have hR := sp_setFinite (cn := 9999999999999999) (qi := e - s - 1) rfl (by rw [ti_sub (by omega) (by omega), f3, c1]) ew
              subst ey; subst hz; subst ht
              exact ⟨hR, rfl⟩
          · rw [if_neg d1] at ey
            rw [tl_eq, f2, l15] at d1
            rw [if_neg (by omega)] at ht
            obtain ⟨w, ew, ey⟩ := bnd_x ey
            have hR := sp_setFinite fm f3 ew
            subst ey; subst hz; subst ht
            exact ⟨hR, rfl⟩
        · rw [if_neg (by rw [h2]; exact n1)] at hz
          rw [if_neg n1] at ht
          obtain ⟨y, ey, hz⟩ := bnd_x hz
          unfold F_X3_stepFromZero at ey
          by_cases d1 : 9999999999999999 ≤ x2
          · rw [if_pos d1] at ey
            rw [tl_le, f2, l99] at d1
            rw [if_neg (by omega)] at ht
            by_cases d2 : 369 ≤ ex i - x1
            · rw [if_pos d2] at ey
              rw [ti_le, f3, c369] at d2
              rw [if_neg (by omega)] at ht
              obtain ⟨w, ew, ey⟩ := bnd_x ey
              have hR := sp_setInfinity ew
              subst ey; subst hz; subst ht
              exact ⟨hR, rfl⟩
            · rw [if_neg d2] at ey
              rw [ti_le, f3, c369] at d2
              rw [if_pos (by omega)] at ht
              obtain ⟨w, ew, ey⟩ := bnd_x ey
              have hR := sp_setFinite (cn := 1000000000000000) (qi := e - s + 1) rfl (by rw [ti_add (by omega) (by omega), f3, c1]) ew
              subst ey; subst hz; subst ht
              exact ⟨hR, rfl⟩
          · rw [if_neg d1] at ey
            rw [tl_le, f2, l99] at d1
            rw [if_pos (by omega)] at ht
            obtain ⟨w, ew, ey⟩ := bnd_x ey
            have hR := sp_setFinite (cn := c + 1) (by rw [tl_add (by omega) (by omega), f2, l1]; omega) f3 ew
            subst ey; subst hz; subst ht
            exact ⟨hR, rfl⟩
end OPS
