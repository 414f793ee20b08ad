def S_X3_sum_b0  (p0 : Int32) (p1 : Int32) (p2 : Int32) : Prop := ¬ vp_in p0 8
def rm_X3_sum : Room := { frames := 7, cells := 3, slots := 18, locals := 166 }
set_option maxHeartbeats 4000000 in
set_option maxRecDepth 100000 in
theorem c_X3_sum_b0 (l : Launch) (hl0 : l.stackTraces = false) (D : va_G) (cR cI cJ cZ : ClassId) (t0 : Nat) (sv : Nat → Nat) (ax ar ao : Nat) (ad : Nat → Nat) (vrd : Int32) (vtr : Int32) (vsd : Int32) (vrn : Int32) (vom : Bool) (voh : Int64) (vol : Int64) (vop : Int32) (voe : Bool) (vow : Int32) (vok : Int64) (vos : Int32) (vso : Nat → Int32) (vmi : Nat → Bool) (vco : Nat → Int64) (vex : Nat → Int32) (p0 : Int32) (p1 : Int32) (p2 : Int32) (hs : S_X3_sum_b0 p0 p1 p2) : XT l D (xty cR cI cJ cZ) t0 sv yX3_sum cX3_sum 6 (some .int) rm_X3_sum 3 [.ref ax, .int p0, .int p1, .int p2] (some eIO) none (xw cR ax ar ao ad vrd vtr vsd vrn vom voh vol vop voe vow vok vos vso vmi vco vex) (xw cR ax ar ao ad vrd vtr vsd vrn vom voh vol vop voe vow vok vos vso vmi vco vex) := by
  refine XT.of (by decide) (Nat.le_of_ble_eq_true rfl) ?_
  intro p e s m args below meth c A Q F hnt hK hP hD hA hY hS hQ ls hl
  have hSt := hY.1
  obtain ⟨hx, hb, hr, hts, hown, hlocks, hml⟩ := F
  have hCF : CallFix p m c cX3_sum 6 s args gW RX3 := ⟨hx, hb, hml, hown, hts⟩
  unfold S_X3_sum_b0 at hs
  obtain ⟨H, eH⟩ : ∃ y9 : Heap, y9 = s.heap := ⟨_, rfl⟩
  obtain ⟨locs, eL⟩ : ∃ y9 : List Loc, y9 = [] := ⟨_, rfl⟩
  rw [← eL] at hS ⊢
  have hP : va_P D vwCl (xw cR ax ar ao ad vrd vtr vsd vrn vom voh vol vop voe vow vok vos vso vmi vco vex) H := by rw [eH]; exact hP
  have hS : va_S A s.heap H locs := by rw [eH]; exact hS
  suffices goal9 : W p l e rm_X3_sum s m args below meth c H locs 0 0 Q (F0 m 0 ls []) from by rw [← eH]; exact goal9
  have hl : lv_has ls 6 [(0, .ref ax), (1, .int p0), (2, .int p1), (3, .int p2)] := hl
  refine lv_iload_n hx hb dX3_sum_0 rfl (lv_at hl 1 rfl) ?_
  have h_101 := hs
  exact y_nbad (As := [.int p0]) (rest := []) hCF (c_X3_needRegister_bad l hl0 D cR cI cJ cZ t0 sv p0 h_101) (y_cwS 1 hts (inW_4 _ (List.mem_of_getElem? (i := 32) rfl)) (inW_4 _ (List.mem_of_getElem? (i := 33) rfl)) (inW_1 _ (List.mem_of_getElem? (i := 25) rfl)) (inW_4 _ (List.mem_of_getElem? (i := 34) rfl)) rfl rfl (by decide +kernel) ⟨Nat.le_of_ble_eq_true rfl, Nat.le_of_ble_eq_true rfl⟩) hK hP hD hS hA hY rfl hl.1 rfl (Nat.le_of_ble_eq_true rfl) dX3_sum_1 ⟨Nat.le_of_ble_eq_true rfl, Nat.le_of_ble_eq_true rfl⟩ hnt hlocks hQ rfl (Nat.le_of_ble_eq_true rfl) (Nat.le_of_ble_eq_true rfl)

def S_X3_sum_b1  (p0 : Int32) (p1 : Int32) (p2 : Int32) : Prop := (vp_in p0 8) ∧ ¬ vp_in p1 8
set_option maxHeartbeats 4000000 in
set_option maxRecDepth 100000 in
theorem c_X3_sum_b1 (l : Launch) (hl0 : l.stackTraces = false) (D : va_G) (cR cI cJ cZ : ClassId) (t0 : Nat) (sv : Nat → Nat) (ax ar ao : Nat) (ad : Nat → Nat) (vrd : Int32) (vtr : Int32) (vsd : Int32) (vrn : Int32) (vom : Bool) (voh : Int64) (vol : Int64) (vop : Int32) (voe : Bool) (vow : Int32) (vok : Int64) (vos : Int32) (vso : Nat → Int32) (vmi : Nat → Bool) (vco : Nat → Int64) (vex : Nat → Int32) (p0 : Int32) (p1 : Int32) (p2 : Int32) (hs : S_X3_sum_b1 p0 p1 p2) : XT l D (xty cR cI cJ cZ) t0 sv yX3_sum cX3_sum 6 (some .int) rm_X3_sum 3 [.ref ax, .int p0, .int p1, .int p2] (some eIO) none (xw cR ax ar ao ad vrd vtr vsd vrn vom voh vol vop voe vow vok vos vso vmi vco vex) (xw cR ax ar ao ad vrd vtr vsd vrn vom voh vol vop voe vow vok vos vso vmi vco vex) := by
  refine XT.of (by decide) (Nat.le_of_ble_eq_true rfl) ?_
  intro p e s m args below meth c A Q F hnt hK hP hD hA hY hS hQ ls hl
  have hSt := hY.1
  obtain ⟨hx, hb, hr, hts, hown, hlocks, hml⟩ := F
  have hCF : CallFix p m c cX3_sum 6 s args gW RX3 := ⟨hx, hb, hml, hown, hts⟩
  unfold S_X3_sum_b1 at hs
  obtain ⟨H, eH⟩ : ∃ y9 : Heap, y9 = s.heap := ⟨_, rfl⟩
  obtain ⟨locs, eL⟩ : ∃ y9 : List Loc, y9 = [] := ⟨_, rfl⟩
  rw [← eL] at hS ⊢
  have hP : va_P D vwCl (xw cR ax ar ao ad vrd vtr vsd vrn vom voh vol vop voe vow vok vos vso vmi vco vex) H := by rw [eH]; exact hP
  have hS : va_S A s.heap H locs := by rw [eH]; exact hS
  suffices goal9 : W p l e rm_X3_sum s m args below meth c H locs 0 0 Q (F0 m 0 ls []) from by rw [← eH]; exact goal9
  have hl : lv_has ls 6 [(0, .ref ax), (1, .int p0), (2, .int p1), (3, .int p2)] := hl
  refine lv_iload_n hx hb dX3_sum_0 rfl (lv_at hl 1 rfl) ?_
  obtain ⟨h_101, hs⟩ := hs
  refine y_nok (As := [.int p0]) (rest := []) hCF (c_X3_needRegister_ok l hl0 D cR cI cJ cZ t0 sv p0 h_101) (y_cwS 1 hts (inW_4 _ (List.mem_of_getElem? (i := 32) rfl)) (inW_4 _ (List.mem_of_getElem? (i := 33) rfl)) (inW_1 _ (List.mem_of_getElem? (i := 25) rfl)) (inW_4 _ (List.mem_of_getElem? (i := 34) rfl)) rfl rfl (by decide +kernel) ⟨Nat.le_of_ble_eq_true rfl, Nat.le_of_ble_eq_true rfl⟩) hK hP hD hS hA hY rfl hl.1 rfl (Nat.le_of_ble_eq_true rfl) dX3_sum_1 ⟨Nat.le_of_ble_eq_true rfl, Nat.le_of_ble_eq_true rfl⟩ (fun H locs hP hD hS => ?_)
  show W p l e _ s m args below meth c H locs 1 6 Q (F0 m 4 ls [])
  refine lv_iload_n hx hb dX3_sum_4 rfl (lv_at hl 2 rfl) ?_
  have h_103 := hs
  exact y_nbad (As := [.int p1]) (rest := []) hCF (c_X3_needRegister_bad l hl0 D cR cI cJ cZ t0 sv p1 h_103) (y_cwS 1 hts (inW_4 _ (List.mem_of_getElem? (i := 32) rfl)) (inW_4 _ (List.mem_of_getElem? (i := 33) rfl)) (inW_1 _ (List.mem_of_getElem? (i := 25) rfl)) (inW_4 _ (List.mem_of_getElem? (i := 34) rfl)) rfl rfl (by decide +kernel) ⟨Nat.le_of_ble_eq_true rfl, Nat.le_of_ble_eq_true rfl⟩) hK hP hD hS hA hY rfl hl.1 rfl (Nat.le_of_ble_eq_true rfl) dX3_sum_5 ⟨Nat.le_of_ble_eq_true rfl, Nat.le_of_ble_eq_true rfl⟩ hnt hlocks hQ rfl (Nat.le_of_ble_eq_true rfl) (Nat.le_of_ble_eq_true rfl)

def S_X3_sum_b2  (p0 : Int32) (p1 : Int32) (p2 : Int32) : Prop := (vp_in p0 8) ∧ (vp_in p1 8) ∧ ¬ vp_in p2 8
set_option maxHeartbeats 4000000 in
set_option maxRecDepth 100000 in
theorem c_X3_sum_b2 (l : Launch) (hl0 : l.stackTraces = false) (D : va_G) (cR cI cJ cZ : ClassId) (t0 : Nat) (sv : Nat → Nat) (ax ar ao : Nat) (ad : Nat → Nat) (vrd : Int32) (vtr : Int32) (vsd : Int32) (vrn : Int32) (vom : Bool) (voh : Int64) (vol : Int64) (vop : Int32) (voe : Bool) (vow : Int32) (vok : Int64) (vos : Int32) (vso : Nat → Int32) (vmi : Nat → Bool) (vco : Nat → Int64) (vex : Nat → Int32) (p0 : Int32) (p1 : Int32) (p2 : Int32) (hs : S_X3_sum_b2 p0 p1 p2) : XT l D (xty cR cI cJ cZ) t0 sv yX3_sum cX3_sum 6 (some .int) rm_X3_sum 3 [.ref ax, .int p0, .int p1, .int p2] (some eIO) none (xw cR ax ar ao ad vrd vtr vsd vrn vom voh vol vop voe vow vok vos vso vmi vco vex) (xw cR ax ar ao ad vrd vtr vsd vrn vom voh vol vop voe vow vok vos vso vmi vco vex) := by
  refine XT.of (by decide) (Nat.le_of_ble_eq_true rfl) ?_
  intro p e s m args below meth c A Q F hnt hK hP hD hA hY hS hQ ls hl
  have hSt := hY.1
  obtain ⟨hx, hb, hr, hts, hown, hlocks, hml⟩ := F
  have hCF : CallFix p m c cX3_sum 6 s args gW RX3 := ⟨hx, hb, hml, hown, hts⟩
  unfold S_X3_sum_b2 at hs
  obtain ⟨H, eH⟩ : ∃ y9 : Heap, y9 = s.heap := ⟨_, rfl⟩
  obtain ⟨locs, eL⟩ : ∃ y9 : List Loc, y9 = [] := ⟨_, rfl⟩
  rw [← eL] at hS ⊢
  have hP : va_P D vwCl (xw cR ax ar ao ad vrd vtr vsd vrn vom voh vol vop voe vow vok vos vso vmi vco vex) H := by rw [eH]; exact hP
  have hS : va_S A s.heap H locs := by rw [eH]; exact hS
  suffices goal9 : W p l e rm_X3_sum s m args below meth c H locs 0 0 Q (F0 m 0 ls []) from by rw [← eH]; exact goal9
  have hl : lv_has ls 6 [(0, .ref ax), (1, .int p0), (2, .int p1), (3, .int p2)] := hl
  refine lv_iload_n hx hb dX3_sum_0 rfl (lv_at hl 1 rfl) ?_
  obtain ⟨h_101, hs⟩ := hs
  refine y_nok (As := [.int p0]) (rest := []) hCF (c_X3_needRegister_ok l hl0 D cR cI cJ cZ t0 sv p0 h_101) (y_cwS 1 hts (inW_4 _ (List.mem_of_getElem? (i := 32) rfl)) (inW_4 _ (List.mem_of_getElem? (i := 33) rfl)) (inW_1 _ (List.mem_of_getElem? (i := 25) rfl)) (inW_4 _ (List.mem_of_getElem? (i := 34) rfl)) rfl rfl (by decide +kernel) ⟨Nat.le_of_ble_eq_true rfl, Nat.le_of_ble_eq_true rfl⟩) hK hP hD hS hA hY rfl hl.1 rfl (Nat.le_of_ble_eq_true rfl) dX3_sum_1 ⟨Nat.le_of_ble_eq_true rfl, Nat.le_of_ble_eq_true rfl⟩ (fun H locs hP hD hS => ?_)
  show W p l e _ s m args below meth c H locs 1 6 Q (F0 m 4 ls [])
  refine lv_iload_n hx hb dX3_sum_4 rfl (lv_at hl 2 rfl) ?_
  obtain ⟨h_103, hs⟩ := hs
  refine y_nok (As := [.int p1]) (rest := []) hCF (c_X3_needRegister_ok l hl0 D cR cI cJ cZ t0 sv p1 h_103) (y_cwS 1 hts (inW_4 _ (List.mem_of_getElem? (i := 32) rfl)) (inW_4 _ (List.mem_of_getElem? (i := 33) rfl)) (inW_1 _ (List.mem_of_getElem? (i := 25) rfl)) (inW_4 _ (List.mem_of_getElem? (i := 34) rfl)) rfl rfl (by decide +kernel) ⟨Nat.le_of_ble_eq_true rfl, Nat.le_of_ble_eq_true rfl⟩) hK hP hD hS hA hY rfl hl.1 rfl (Nat.le_of_ble_eq_true rfl) dX3_sum_5 ⟨Nat.le_of_ble_eq_true rfl, Nat.le_of_ble_eq_true rfl⟩ (fun H locs hP hD hS => ?_)
  show W p l e _ s m args below meth c H locs 2 12 Q (F0 m 8 ls [])
  refine lv_iload_n hx hb dX3_sum_8 rfl (lv_at hl 3 rfl) ?_
  have h_105 := hs
  exact y_nbad (As := [.int p2]) (rest := []) hCF (c_X3_needRegister_bad l hl0 D cR cI cJ cZ t0 sv p2 h_105) (y_cwS 1 hts (inW_4 _ (List.mem_of_getElem? (i := 32) rfl)) (inW_4 _ (List.mem_of_getElem? (i := 33) rfl)) (inW_1 _ (List.mem_of_getElem? (i := 25) rfl)) (inW_4 _ (List.mem_of_getElem? (i := 34) rfl)) rfl rfl (by decide +kernel) ⟨Nat.le_of_ble_eq_true rfl, Nat.le_of_ble_eq_true rfl⟩) hK hP hD hS hA hY rfl hl.1 rfl (Nat.le_of_ble_eq_true rfl) dX3_sum_9 ⟨Nat.le_of_ble_eq_true rfl, Nat.le_of_ble_eq_true rfl⟩ hnt hlocks hQ rfl (Nat.le_of_ble_eq_true rfl) (Nat.le_of_ble_eq_true rfl)

def Z_X3_sum_ok_J_115 (t_18 : Int32 × Int32 × Int32 × Int32 × Bool × Int64 × Int64 × Int32 × Bool × Int32 × Int64 × Int32 × (Nat → Int32) × (Nat → Bool) × (Nat → Int64) × (Nat → Int32)) (u109 : Bool × Int32 × Int32 × Bool × Int64 × Int64 × Int32 × Bool × Int32 × Int64 × Int32 × (Nat → Int32) × (Nat → Bool) × (Nat → Int64) × (Nat → Int32)) : Int32 := (if u109.1 = true then t_18.1 else (bnd (t_18.1 + 1) (fun n112 : Int32 => n112)))
def RZ_X3_sum_ok_J_115 (t_18 : Int32 × Int32 × Int32 × Int32 × Bool × Int64 × Int64 × Int32 × Bool × Int32 × Int64 × Int32 × (Nat → Int32) × (Nat → Bool) × (Nat → Int64) × (Nat → Int32)) (u109 : Bool × Int32 × Int32 × Bool × Int64 × Int64 × Int32 × Bool × Int32 × Int64 × Int32 × (Nat → Int32) × (Nat → Bool) × (Nat → Int64) × (Nat → Int32)) (u9 : Int32) : Prop := (if u109.1 = true then u9 = t_18.1 else (∀ n112 : Int32, n112 = t_18.1 + 1 → u9 = n112))
theorem rZ_X3_sum_ok_J_115 (t_18 : Int32 × Int32 × Int32 × Int32 × Bool × Int64 × Int64 × Int32 × Bool × Int32 × Int64 × Int32 × (Nat → Int32) × (Nat → Bool) × (Nat → Int64) × (Nat → Int32)) (u109 : Bool × Int32 × Int32 × Bool × Int64 × Int64 × Int32 × Bool × Int32 × Int64 × Int32 × (Nat → Int32) × (Nat → Bool) × (Nat → Int64) × (Nat → Int32)) {u9 : Int32} (hu : u9 = Z_X3_sum_ok_J_115 t_18 u109) : RZ_X3_sum_ok_J_115 t_18 u109 u9 := by
  unfold RZ_X3_sum_ok_J_115
  refine ite_P (fun c_111 => ?_) (fun c_111 => ?_)
  · have hu := hu.trans (if_pos c_111)
    exact hu
  · have hu := hu.trans (if_neg c_111)
    intro n112 en112
    have hu := bnd_n hu en112
    exact hu
def B_X3_sum_ok_18 (vrd : Int32) (vtr : Int32) (p0 : Int32) (p2 : Int32) (t_18 : Int32 × Int32 × Int32 × Int32 × Bool × Int64 × Int64 × Int32 × Bool × Int32 × Int64 × Int32 × (Nat → Int32) × (Nat → Bool) × (Nat → Int64) × (Nat → Int32)) : Int32 × Int32 × Int32 × Int32 × Bool × Int64 × Int64 × Int32 × Bool × Int32 × Int64 × Int32 × (Nat → Int32) × (Nat → Bool) × (Nat → Int64) × (Nat → Int32) := (if p2 < t_18.2.1 then t_18 else (bnd (F_X3_operate vrd vtr t_18.2.2.1 t_18.2.2.2.2.1 t_18.2.2.2.2.2.1 t_18.2.2.2.2.2.2.1 t_18.2.2.2.2.2.2.2.1 t_18.2.2.2.2.2.2.2.2.1 t_18.2.2.2.2.2.2.2.2.2.1 t_18.2.2.2.2.2.2.2.2.2.2.1 t_18.2.2.2.2.2.2.2.2.2.2.2.1 t_18.2.2.2.2.2.2.2.2.2.2.2.2.1 t_18.2.2.2.2.2.2.2.2.2.2.2.2.2.1 t_18.2.2.2.2.2.2.2.2.2.2.2.2.2.2.1 t_18.2.2.2.2.2.2.2.2.2.2.2.2.2.2.2 (0 : Int32) p0 p0 t_18.2.1) (fun u109 : Bool × Int32 × Int32 × Bool × Int64 × Int64 × Int32 × Bool × Int32 × Int64 × Int32 × (Nat → Int32) × (Nat → Bool) × (Nat → Int64) × (Nat → Int32) => (bnd (Z_X3_sum_ok_J_115 t_18 u109) (fun z114 : Int32 => (bnd (t_18.2.1 + 1) (fun n116 : Int32 => (z114, n116, u109.2.1, u109.2.2.1, u109.2.2.2.1, u109.2.2.2.2.1, u109.2.2.2.2.2.1, u109.2.2.2.2.2.2.1, u109.2.2.2.2.2.2.2.1, u109.2.2.2.2.2.2.2.2.1, u109.2.2.2.2.2.2.2.2.2.1, u109.2.2.2.2.2.2.2.2.2.2.1, u109.2.2.2.2.2.2.2.2.2.2.2.1, u109.2.2.2.2.2.2.2.2.2.2.2.2.1, u109.2.2.2.2.2.2.2.2.2.2.2.2.2.1, u109.2.2.2.2.2.2.2.2.2.2.2.2.2.2))))))))
def G_X3_sum_ok_18 (vrd : Int32) (vtr : Int32) (p0 : Int32) (p2 : Int32) (t_18 : Int32 × Int32 × Int32 × Int32 × Bool × Int64 × Int64 × Int32 × Bool × Int32 × Int64 × Int32 × (Nat → Int32) × (Nat → Bool) × (Nat → Int64) × (Nat → Int32)) : Bool := (if p2 < t_18.2.1 then false else (bnd (F_X3_operate vrd vtr t_18.2.2.1 t_18.2.2.2.2.1 t_18.2.2.2.2.2.1 t_18.2.2.2.2.2.2.1 t_18.2.2.2.2.2.2.2.1 t_18.2.2.2.2.2.2.2.2.1 t_18.2.2.2.2.2.2.2.2.2.1 t_18.2.2.2.2.2.2.2.2.2.2.1 t_18.2.2.2.2.2.2.2.2.2.2.2.1 t_18.2.2.2.2.2.2.2.2.2.2.2.2.1 t_18.2.2.2.2.2.2.2.2.2.2.2.2.2.1 t_18.2.2.2.2.2.2.2.2.2.2.2.2.2.2.1 t_18.2.2.2.2.2.2.2.2.2.2.2.2.2.2.2 (0 : Int32) p0 p0 t_18.2.1) (fun u109 : Bool × Int32 × Int32 × Bool × Int64 × Int64 × Int32 × Bool × Int32 × Int64 × Int32 × (Nat → Int32) × (Nat → Bool) × (Nat → Int64) × (Nat → Int32) => (bnd (Z_X3_sum_ok_J_115 t_18 u109) (fun z114 : Int32 => (bnd (t_18.2.1 + 1) (fun n116 : Int32 => true)))))))
def RB_X3_sum_ok_18 (vrd : Int32) (vtr : Int32) (p0 : Int32) (p2 : Int32) (t_18 : Int32 × Int32 × Int32 × Int32 × Bool × Int64 × Int64 × Int32 × Bool × Int32 × Int64 × Int32 × (Nat → Int32) × (Nat → Bool) × (Nat → Int64) × (Nat → Int32)) (u9 : Int32 × Int32 × Int32 × Int32 × Bool × Int64 × Int64 × Int32 × Bool × Int32 × Int64 × Int32 × (Nat → Int32) × (Nat → Bool) × (Nat → Int64) × (Nat → Int32)) : Prop := (if p2 < t_18.2.1 then True else (∀ u109 : Bool × Int32 × Int32 × Bool × Int64 × Int64 × Int32 × Bool × Int32 × Int64 × Int32 × (Nat → Int32) × (Nat → Bool) × (Nat → Int64) × (Nat → Int32), u109 = F_X3_operate vrd vtr t_18.2.2.1 t_18.2.2.2.2.1 t_18.2.2.2.2.2.1 t_18.2.2.2.2.2.2.1 t_18.2.2.2.2.2.2.2.1 t_18.2.2.2.2.2.2.2.2.1 t_18.2.2.2.2.2.2.2.2.2.1 t_18.2.2.2.2.2.2.2.2.2.2.1 t_18.2.2.2.2.2.2.2.2.2.2.2.1 t_18.2.2.2.2.2.2.2.2.2.2.2.2.1 t_18.2.2.2.2.2.2.2.2.2.2.2.2.2.1 t_18.2.2.2.2.2.2.2.2.2.2.2.2.2.2.1 t_18.2.2.2.2.2.2.2.2.2.2.2.2.2.2.2 (0 : Int32) p0 p0 t_18.2.1 → (∀ z114 : Int32, z114 = Z_X3_sum_ok_J_115 t_18 u109 → (∀ n116 : Int32, n116 = t_18.2.1 + 1 → u9 = (z114, n116, u109.2.1, u109.2.2.1, u109.2.2.2.1, u109.2.2.2.2.1, u109.2.2.2.2.2.1, u109.2.2.2.2.2.2.1, u109.2.2.2.2.2.2.2.1, u109.2.2.2.2.2.2.2.2.1, u109.2.2.2.2.2.2.2.2.2.1, u109.2.2.2.2.2.2.2.2.2.2.1, u109.2.2.2.2.2.2.2.2.2.2.2.1, u109.2.2.2.2.2.2.2.2.2.2.2.2.1, u109.2.2.2.2.2.2.2.2.2.2.2.2.2.1, u109.2.2.2.2.2.2.2.2.2.2.2.2.2.2)))))
def RG_X3_sum_ok_18 (vrd : Int32) (vtr : Int32) (p0 : Int32) (p2 : Int32) (t_18 : Int32 × Int32 × Int32 × Int32 × Bool × Int64 × Int64 × Int32 × Bool × Int32 × Int64 × Int32 × (Nat → Int32) × (Nat → Bool) × (Nat → Int64) × (Nat → Int32)) (u9 : Bool) : Prop := (if p2 < t_18.2.1 then u9 = false else u9 = true)
theorem rB_X3_sum_ok_18 (vrd : Int32) (vtr : Int32) (p0 : Int32) (p2 : Int32) (t_18 : Int32 × Int32 × Int32 × Int32 × Bool × Int64 × Int64 × Int32 × Bool × Int32 × Int64 × Int32 × (Nat → Int32) × (Nat → Bool) × (Nat → Int64) × (Nat → Int32)) {u9 : Int32 × Int32 × Int32 × Int32 × Bool × Int64 × Int64 × Int32 × Bool × Int32 × Int64 × Int32 × (Nat → Int32) × (Nat → Bool) × (Nat → Int64) × (Nat → Int32)} (hu : u9 = B_X3_sum_ok_18 vrd vtr p0 p2 t_18) : RB_X3_sum_ok_18 vrd vtr p0 p2 t_18 u9 := by
  unfold RB_X3_sum_ok_18
  refine ite_P (fun c_107 => ?_) (fun c_107 => ?_)
  · have hu := hu.trans (if_pos c_107)
    trivial
  · have hu := hu.trans (if_neg c_107)
    intro u109 eu109
    have hu := bnd_n hu eu109
    intro z114 ez114
    have hu := bnd_n hu ez114
    intro n116 en116
    have hu := bnd_n hu en116
    exact hu
theorem rG_X3_sum_ok_18 (vrd : Int32) (vtr : Int32) (p0 : Int32) (p2 : Int32) (t_18 : Int32 × Int32 × Int32 × Int32 × Bool × Int64 × Int64 × Int32 × Bool × Int32 × Int64 × Int32 × (Nat → Int32) × (Nat → Bool) × (Nat → Int64) × (Nat → Int32)) {u9 : Bool} (hu : u9 = G_X3_sum_ok_18 vrd vtr p0 p2 t_18) : RG_X3_sum_ok_18 vrd vtr p0 p2 t_18 u9 := by
  unfold RG_X3_sum_ok_18
  refine ite_P (fun c_107 => ?_) (fun c_107 => ?_)
  · have hu := hu.trans (if_pos c_107)
    exact hu
  · have hu := hu.trans (if_neg c_107)
    exact hu
def SB_X3_sum_ok_18 (vrd : Int32) (vtr : Int32) (p0 : Int32) (p2 : Int32) (t_18 : Int32 × Int32 × Int32 × Int32 × Bool × Int64 × Int64 × Int32 × Bool × Int32 × Int64 × Int32 × (Nat → Int32) × (Nat → Bool) × (Nat → Int64) × (Nat → Int32)) : Prop := (if p2 < t_18.2.1 then True else S_X3_operate vrd vtr t_18.2.2.1 t_18.2.2.2.2.1 t_18.2.2.2.2.2.1 t_18.2.2.2.2.2.2.1 t_18.2.2.2.2.2.2.2.1 t_18.2.2.2.2.2.2.2.2.1 t_18.2.2.2.2.2.2.2.2.2.1 t_18.2.2.2.2.2.2.2.2.2.2.1 t_18.2.2.2.2.2.2.2.2.2.2.2.1 t_18.2.2.2.2.2.2.2.2.2.2.2.2.1 t_18.2.2.2.2.2.2.2.2.2.2.2.2.2.1 t_18.2.2.2.2.2.2.2.2.2.2.2.2.2.2.1 t_18.2.2.2.2.2.2.2.2.2.2.2.2.2.2.2 (0 : Int32) p0 p0 t_18.2.1)
def F_X3_sum_ok (vrd : Int32) (vtr : Int32) (vsd : Int32) (vrn : Int32) (vom : Bool) (voh : Int64) (vol : Int64) (vop : Int32) (voe : Bool) (vow : Int32) (vok : Int64) (vos : Int32) (vso : Nat → Int32) (vmi : Nat → Bool) (vco : Nat → Int64) (vex : Nat → Int32) (p0 : Int32) (p1 : Int32) (p2 : Int32) : Int32 × Int32 × Int32 × Bool × Int64 × Int64 × Int32 × Bool × Int32 × Int64 × Int32 × (Nat → Int32) × (Nat → Bool) × (Nat → Int64) × (Nat → Int32) := (bnd (wl (G_X3_sum_ok_18 vrd vtr p0 p2) (B_X3_sum_ok_18 vrd vtr p0 p2) 901 (0, p1, vsd, vrn, vom, voh, vol, vop, voe, vow, vok, vos, vso, vmi, vco, vex)) (fun z117 : Int32 × Int32 × Int32 × Int32 × Bool × Int64 × Int64 × Int32 × Bool × Int32 × Int64 × Int32 × (Nat → Int32) × (Nat → Bool) × (Nat → Int64) × (Nat → Int32) => (z117.1, z117.2.2.1, z117.2.2.2.1, z117.2.2.2.2.1, z117.2.2.2.2.2.1, z117.2.2.2.2.2.2.1, z117.2.2.2.2.2.2.2.1, z117.2.2.2.2.2.2.2.2.1, z117.2.2.2.2.2.2.2.2.2.1, z117.2.2.2.2.2.2.2.2.2.2.1, z117.2.2.2.2.2.2.2.2.2.2.2.1, z117.2.2.2.2.2.2.2.2.2.2.2.2.1, z117.2.2.2.2.2.2.2.2.2.2.2.2.2.1, z117.2.2.2.2.2.2.2.2.2.2.2.2.2.2.1, z117.2.2.2.2.2.2.2.2.2.2.2.2.2.2.2)))
def RF_X3_sum_ok (vrd : Int32) (vtr : Int32) (vsd : Int32) (vrn : Int32) (vom : Bool) (voh : Int64) (vol : Int64) (vop : Int32) (voe : Bool) (vow : Int32) (vok : Int64) (vos : Int32) (vso : Nat → Int32) (vmi : Nat → Bool) (vco : Nat → Int64) (vex : Nat → Int32) (p0 : Int32) (p1 : Int32) (p2 : Int32) (u9 : Int32 × Int32 × Int32 × Bool × Int64 × Int64 × Int32 × Bool × Int32 × Int64 × Int32 × (Nat → Int32) × (Nat → Bool) × (Nat → Int64) × (Nat → Int32)) : Prop := (∀ z117 : Int32 × Int32 × Int32 × Int32 × Bool × Int64 × Int64 × Int32 × Bool × Int32 × Int64 × Int32 × (Nat → Int32) × (Nat → Bool) × (Nat → Int64) × (Nat → Int32), z117 = wl (G_X3_sum_ok_18 vrd vtr p0 p2) (B_X3_sum_ok_18 vrd vtr p0 p2) 901 (0, p1, vsd, vrn, vom, voh, vol, vop, voe, vow, vok, vos, vso, vmi, vco, vex) → u9 = (z117.1, z117.2.2.1, z117.2.2.2.1, z117.2.2.2.2.1, z117.2.2.2.2.2.1, z117.2.2.2.2.2.2.1, z117.2.2.2.2.2.2.2.1, z117.2.2.2.2.2.2.2.2.1, z117.2.2.2.2.2.2.2.2.2.1, z117.2.2.2.2.2.2.2.2.2.2.1, z117.2.2.2.2.2.2.2.2.2.2.2.1, z117.2.2.2.2.2.2.2.2.2.2.2.2.1, z117.2.2.2.2.2.2.2.2.2.2.2.2.2.1, z117.2.2.2.2.2.2.2.2.2.2.2.2.2.2.1, z117.2.2.2.2.2.2.2.2.2.2.2.2.2.2.2))
theorem rF_X3_sum_ok (vrd : Int32) (vtr : Int32) (vsd : Int32) (vrn : Int32) (vom : Bool) (voh : Int64) (vol : Int64) (vop : Int32) (voe : Bool) (vow : Int32) (vok : Int64) (vos : Int32) (vso : Nat → Int32) (vmi : Nat → Bool) (vco : Nat → Int64) (vex : Nat → Int32) (p0 : Int32) (p1 : Int32) (p2 : Int32) {u9 : Int32 × Int32 × Int32 × Bool × Int64 × Int64 × Int32 × Bool × Int32 × Int64 × Int32 × (Nat → Int32) × (Nat → Bool) × (Nat → Int64) × (Nat → Int32)} (hu : u9 = F_X3_sum_ok vrd vtr vsd vrn vom voh vol vop voe vow vok vos vso vmi vco vex p0 p1 p2) : RF_X3_sum_ok vrd vtr vsd vrn vom voh vol vop voe vow vok vos vso vmi vco vex p0 p1 p2 u9 := by
  unfold RF_X3_sum_ok
  intro z117 ez117
  have hu := bnd_n hu ez117
  exact hu
def S_X3_sum_ok (vrd : Int32) (vtr : Int32) (vsd : Int32) (vrn : Int32) (vom : Bool) (voh : Int64) (vol : Int64) (vop : Int32) (voe : Bool) (vow : Int32) (vok : Int64) (vos : Int32) (vso : Nat → Int32) (vmi : Nat → Bool) (vco : Nat → Int64) (vex : Nat → Int32) (p0 : Int32) (p1 : Int32) (p2 : Int32) : Prop := (vp_in p0 8) ∧ (vp_in p1 8) ∧ (vp_in p2 8) ∧ (∀ j : Nat, j < nW (G_X3_sum_ok_18 vrd vtr p0 p2) (B_X3_sum_ok_18 vrd vtr p0 p2) 901 (0, p1, vsd, vrn, vom, voh, vol, vop, voe, vow, vok, vos, vso, vmi, vco, vex) → SB_X3_sum_ok_18 vrd vtr p0 p2 (itn (B_X3_sum_ok_18 vrd vtr p0 p2) j (0, p1, vsd, vrn, vom, voh, vol, vop, voe, vow, vok, vos, vso, vmi, vco, vex))) ∧ G_X3_sum_ok_18 vrd vtr p0 p2 (wl (G_X3_sum_ok_18 vrd vtr p0 p2) (B_X3_sum_ok_18 vrd vtr p0 p2) 901 (0, p1, vsd, vrn, vom, voh, vol, vop, voe, vow, vok, vos, vso, vmi, vco, vex)) = false
set_option maxHeartbeats 4000000 in
set_option maxRecDepth 100000 in
theorem c_X3_sum_ok (l : Launch) (hl0 : l.stackTraces = false) (D : va_G) (cR cI cJ cZ : ClassId) (t0 : Nat) (sv : Nat → Nat) (ax ar ao : Nat) (ad : Nat → Nat) (vrd : Int32) (vtr : Int32) (vsd : Int32) (vrn : Int32) (vom : Bool) (voh : Int64) (vol : Int64) (vop : Int32) (voe : Bool) (vow : Int32) (vok : Int64) (vos : Int32) (vso : Nat → Int32) (vmi : Nat → Bool) (vco : Nat → Int64) (vex : Nat → Int32) (p0 : Int32) (p1 : Int32) (p2 : Int32) (u : Int32 × Int32 × Int32 × Bool × Int64 × Int64 × Int32 × Bool × Int32 × Int64 × Int32 × (Nat → Int32) × (Nat → Bool) × (Nat → Int64) × (Nat → Int32)) (hu : u = F_X3_sum_ok vrd vtr vsd vrn vom voh vol vop voe vow vok vos vso vmi vco vex p0 p1 p2) (hs : S_X3_sum_ok vrd vtr vsd vrn vom voh vol vop voe vow vok vos vso vmi vco vex p0 p1 p2) : XT l D (xty cR cI cJ cZ) t0 sv yX3_sum cX3_sum 6 (some .int) rm_X3_sum 3 [.ref ax, .int p0, .int p1, .int p2] none (some (.int u.1)) (xw cR ax ar ao ad vrd vtr vsd vrn vom voh vol vop voe vow vok vos vso vmi vco vex) (xw cR ax ar ao ad vrd vtr u.2.1 u.2.2.1 u.2.2.2.1 u.2.2.2.2.1 u.2.2.2.2.2.1 u.2.2.2.2.2.2.1 u.2.2.2.2.2.2.2.1 u.2.2.2.2.2.2.2.2.1 u.2.2.2.2.2.2.2.2.2.1 u.2.2.2.2.2.2.2.2.2.2.1 u.2.2.2.2.2.2.2.2.2.2.2.1 u.2.2.2.2.2.2.2.2.2.2.2.2.1 u.2.2.2.2.2.2.2.2.2.2.2.2.2.1 u.2.2.2.2.2.2.2.2.2.2.2.2.2.2) := by
  refine XT.of (by decide) (Nat.le_of_ble_eq_true rfl) ?_
  intro p e s m args below meth c A Q F hnt hK hP hD hA hY hS hQ ls hl
  have hSt := hY.1
  obtain ⟨hx, hb, hr, hts, hown, hlocks, hml⟩ := F
  have hCF : CallFix p m c cX3_sum 6 s args gW RX3 := ⟨hx, hb, hml, hown, hts⟩
  unfold S_X3_sum_ok at hs
  have hu := rF_X3_sum_ok vrd vtr vsd vrn vom voh vol vop voe vow vok vos vso vmi vco vex p0 p1 p2 hu
  unfold RF_X3_sum_ok at hu
  obtain ⟨H, eH⟩ : ∃ y9 : Heap, y9 = s.heap := ⟨_, rfl⟩
  obtain ⟨locs, eL⟩ : ∃ y9 : List Loc, y9 = [] := ⟨_, rfl⟩
  rw [← eL] at hS ⊢
  have hP : va_P D vwCl (xw cR ax ar ao ad vrd vtr vsd vrn vom voh vol vop voe vow vok vos vso vmi vco vex) H := by rw [eH]; exact hP
  have hS : va_S A s.heap H locs := by rw [eH]; exact hS
  suffices goal9 : W p l e rm_X3_sum s m args below meth c H locs 0 0 Q (F0 m 0 ls []) from by rw [← eH]; exact goal9
  have hl : lv_has ls 6 [(0, .ref ax), (1, .int p0), (2, .int p1), (3, .int p2)] := hl
  refine lv_iload_n hx hb dX3_sum_0 rfl (lv_at hl 1 rfl) ?_
  obtain ⟨h_101, hs⟩ := hs
  refine y_nok (As := [.int p0]) (rest := []) hCF (c_X3_needRegister_ok l hl0 D cR cI cJ cZ t0 sv p0 h_101) (y_cwS 1 hts (inW_4 _ (List.mem_of_getElem? (i := 32) rfl)) (inW_4 _ (List.mem_of_getElem? (i := 33) rfl)) (inW_1 _ (List.mem_of_getElem? (i := 25) rfl)) (inW_4 _ (List.mem_of_getElem? (i := 34) rfl)) rfl rfl (by decide +kernel) ⟨Nat.le_of_ble_eq_true rfl, Nat.le_of_ble_eq_true rfl⟩) hK hP hD hS hA hY rfl hl.1 rfl (Nat.le_of_ble_eq_true rfl) dX3_sum_1 ⟨Nat.le_of_ble_eq_true rfl, Nat.le_of_ble_eq_true rfl⟩ (fun H locs hP hD hS => ?_)
  show W p l e _ s m args below meth c H locs 1 6 Q (F0 m 4 ls [])
  refine lv_iload_n hx hb dX3_sum_4 rfl (lv_at hl 2 rfl) ?_
  obtain ⟨h_103, hs⟩ := hs
  refine y_nok (As := [.int p1]) (rest := []) hCF (c_X3_needRegister_ok l hl0 D cR cI cJ cZ t0 sv p1 h_103) (y_cwS 1 hts (inW_4 _ (List.mem_of_getElem? (i := 32) rfl)) (inW_4 _ (List.mem_of_getElem? (i := 33) rfl)) (inW_1 _ (List.mem_of_getElem? (i := 25) rfl)) (inW_4 _ (List.mem_of_getElem? (i := 34) rfl)) rfl rfl (by decide +kernel) ⟨Nat.le_of_ble_eq_true rfl, Nat.le_of_ble_eq_true rfl⟩) hK hP hD hS hA hY rfl hl.1 rfl (Nat.le_of_ble_eq_true rfl) dX3_sum_5 ⟨Nat.le_of_ble_eq_true rfl, Nat.le_of_ble_eq_true rfl⟩ (fun H locs hP hD hS => ?_)
  show W p l e _ s m args below meth c H locs 2 12 Q (F0 m 8 ls [])
  refine lv_iload_n hx hb dX3_sum_8 rfl (lv_at hl 3 rfl) ?_
  obtain ⟨h_105, hs⟩ := hs
  refine y_nok (As := [.int p2]) (rest := []) hCF (c_X3_needRegister_ok l hl0 D cR cI cJ cZ t0 sv p2 h_105) (y_cwS 1 hts (inW_4 _ (List.mem_of_getElem? (i := 32) rfl)) (inW_4 _ (List.mem_of_getElem? (i := 33) rfl)) (inW_1 _ (List.mem_of_getElem? (i := 25) rfl)) (inW_4 _ (List.mem_of_getElem? (i := 34) rfl)) rfl rfl (by decide +kernel) ⟨Nat.le_of_ble_eq_true rfl, Nat.le_of_ble_eq_true rfl⟩) hK hP hD hS hA hY rfl hl.1 rfl (Nat.le_of_ble_eq_true rfl) dX3_sum_9 ⟨Nat.le_of_ble_eq_true rfl, Nat.le_of_ble_eq_true rfl⟩ (fun H locs hP hD hS => ?_)
  show W p l e _ s m args below meth c H locs 3 18 Q (F0 m 12 ls [])
  refine lv_iconst (v := 0) hx hb dX3_sum_12 (by decide) ?_
  refine lv_istore (lv' := [(4, .int 0), (0, .ref ax), (1, .int p0), (2, .int p1), (3, .int p2)]) hx hb dX3_sum_13 hl (by decide) rfl (fun ls hl => ?_)
  refine lv_iload_n hx hb dX3_sum_15 rfl (lv_at hl 3 rfl) ?_
  refine lv_istore (lv' := [(5, .int p1), (4, .int 0), (0, .ref ax), (1, .int p0), (2, .int p1), (3, .int p2)]) hx hb dX3_sum_16 hl (by decide) rfl (fun ls hl => ?_)
  have L_122 : ∀ (n9 : Nat) (t_18 : Int32 × Int32 × Int32 × Int32 × Bool × Int64 × Int64 × Int32 × Bool × Int32 × Int64 × Int32 × (Nat → Int32) × (Nat → Bool) × (Nat → Int64) × (Nat → Int32)), (∀ j : Nat, j < n9 → G_X3_sum_ok_18 vrd vtr p0 p2 (itn (B_X3_sum_ok_18 vrd vtr p0 p2) j t_18) = true) → (∀ j : Nat, j < n9 → SB_X3_sum_ok_18 vrd vtr p0 p2 (itn (B_X3_sum_ok_18 vrd vtr p0 p2) j t_18)) → (∀ (H : Heap) (locs : List Loc), va_P D vwCl (xw cR ax ar ao ad vrd vtr ((itn (B_X3_sum_ok_18 vrd vtr p0 p2) n9 t_18).2.2.1) ((itn (B_X3_sum_ok_18 vrd vtr p0 p2) n9 t_18).2.2.2.1) ((itn (B_X3_sum_ok_18 vrd vtr p0 p2) n9 t_18).2.2.2.2.1) ((itn (B_X3_sum_ok_18 vrd vtr p0 p2) n9 t_18).2.2.2.2.2.1) ((itn (B_X3_sum_ok_18 vrd vtr p0 p2) n9 t_18).2.2.2.2.2.2.1) ((itn (B_X3_sum_ok_18 vrd vtr p0 p2) n9 t_18).2.2.2.2.2.2.2.1) ((itn (B_X3_sum_ok_18 vrd vtr p0 p2) n9 t_18).2.2.2.2.2.2.2.2.1) ((itn (B_X3_sum_ok_18 vrd vtr p0 p2) n9 t_18).2.2.2.2.2.2.2.2.2.1) ((itn (B_X3_sum_ok_18 vrd vtr p0 p2) n9 t_18).2.2.2.2.2.2.2.2.2.2.1) ((itn (B_X3_sum_ok_18 vrd vtr p0 p2) n9 t_18).2.2.2.2.2.2.2.2.2.2.2.1) ((itn (B_X3_sum_ok_18 vrd vtr p0 p2) n9 t_18).2.2.2.2.2.2.2.2.2.2.2.2.1) ((itn (B_X3_sum_ok_18 vrd vtr p0 p2) n9 t_18).2.2.2.2.2.2.2.2.2.2.2.2.2.1) ((itn (B_X3_sum_ok_18 vrd vtr p0 p2) n9 t_18).2.2.2.2.2.2.2.2.2.2.2.2.2.2.1) ((itn (B_X3_sum_ok_18 vrd vtr p0 p2) n9 t_18).2.2.2.2.2.2.2.2.2.2.2.2.2.2.2)) H → va_D A (xw cR ax ar ao ad vrd vtr ((itn (B_X3_sum_ok_18 vrd vtr p0 p2) n9 t_18).2.2.1) ((itn (B_X3_sum_ok_18 vrd vtr p0 p2) n9 t_18).2.2.2.1) ((itn (B_X3_sum_ok_18 vrd vtr p0 p2) n9 t_18).2.2.2.2.1) ((itn (B_X3_sum_ok_18 vrd vtr p0 p2) n9 t_18).2.2.2.2.2.1) ((itn (B_X3_sum_ok_18 vrd vtr p0 p2) n9 t_18).2.2.2.2.2.2.1) ((itn (B_X3_sum_ok_18 vrd vtr p0 p2) n9 t_18).2.2.2.2.2.2.2.1) ((itn (B_X3_sum_ok_18 vrd vtr p0 p2) n9 t_18).2.2.2.2.2.2.2.2.1) ((itn (B_X3_sum_ok_18 vrd vtr p0 p2) n9 t_18).2.2.2.2.2.2.2.2.2.1) ((itn (B_X3_sum_ok_18 vrd vtr p0 p2) n9 t_18).2.2.2.2.2.2.2.2.2.2.1) ((itn (B_X3_sum_ok_18 vrd vtr p0 p2) n9 t_18).2.2.2.2.2.2.2.2.2.2.2.1) ((itn (B_X3_sum_ok_18 vrd vtr p0 p2) n9 t_18).2.2.2.2.2.2.2.2.2.2.2.2.1) ((itn (B_X3_sum_ok_18 vrd vtr p0 p2) n9 t_18).2.2.2.2.2.2.2.2.2.2.2.2.2.1) ((itn (B_X3_sum_ok_18 vrd vtr p0 p2) n9 t_18).2.2.2.2.2.2.2.2.2.2.2.2.2.2.1) ((itn (B_X3_sum_ok_18 vrd vtr p0 p2) n9 t_18).2.2.2.2.2.2.2.2.2.2.2.2.2.2.2)) → va_S A s.heap H locs → ∀ ls : Array Slot, lv_has ls 6 [(0, .ref ax), (1, .int p0), (3, .int p2), (4, .int ((itn (B_X3_sum_ok_18 vrd vtr p0 p2) n9 t_18).1)), (5, .int ((itn (B_X3_sum_ok_18 vrd vtr p0 p2) n9 t_18).2.1))] → W p l e rm_X3_sum s m args below meth c H locs 3 18 Q (F0 m 18 ls [])) → ∀ (H : Heap) (locs : List Loc), va_P D vwCl (xw cR ax ar ao ad vrd vtr t_18.2.2.1 t_18.2.2.2.1 t_18.2.2.2.2.1 t_18.2.2.2.2.2.1 t_18.2.2.2.2.2.2.1 t_18.2.2.2.2.2.2.2.1 t_18.2.2.2.2.2.2.2.2.1 t_18.2.2.2.2.2.2.2.2.2.1 t_18.2.2.2.2.2.2.2.2.2.2.1 t_18.2.2.2.2.2.2.2.2.2.2.2.1 t_18.2.2.2.2.2.2.2.2.2.2.2.2.1 t_18.2.2.2.2.2.2.2.2.2.2.2.2.2.1 t_18.2.2.2.2.2.2.2.2.2.2.2.2.2.2.1 t_18.2.2.2.2.2.2.2.2.2.2.2.2.2.2.2) H → va_D A (xw cR ax ar ao ad vrd vtr t_18.2.2.1 t_18.2.2.2.1 t_18.2.2.2.2.1 t_18.2.2.2.2.2.1 t_18.2.2.2.2.2.2.1 t_18.2.2.2.2.2.2.2.1 t_18.2.2.2.2.2.2.2.2.1 t_18.2.2.2.2.2.2.2.2.2.1 t_18.2.2.2.2.2.2.2.2.2.2.1 t_18.2.2.2.2.2.2.2.2.2.2.2.1 t_18.2.2.2.2.2.2.2.2.2.2.2.2.1 t_18.2.2.2.2.2.2.2.2.2.2.2.2.2.1 t_18.2.2.2.2.2.2.2.2.2.2.2.2.2.2.1 t_18.2.2.2.2.2.2.2.2.2.2.2.2.2.2.2) → va_S A s.heap H locs → ∀ ls : Array Slot, lv_has ls 6 [(0, .ref ax), (1, .int p0), (3, .int p2), (4, .int t_18.1), (5, .int t_18.2.1)] → W p l e rm_X3_sum s m args below meth c H locs 3 18 Q (F0 m 18 ls []) := by
    intro n9
    induction n9 with
    | zero => exact fun _ _ _ k9 => k9
    | succ n9 ih9 =>
      intro t_18 hG9 hs9 k9 H locs hP hD hS ls hl
      have hG0 : G_X3_sum_ok_18 vrd vtr p0 p2 t_18 = true := hG9 0 (Nat.succ_pos n9)
      have hg := rG_X3_sum_ok_18 vrd vtr p0 p2 t_18 (Eq.symm hG0)
      unfold RG_X3_sum_ok_18 at hg
      obtain ⟨t9, et9⟩ : ∃ y9 : Int32 × Int32 × Int32 × Int32 × Bool × Int64 × Int64 × Int32 × Bool × Int32 × Int64 × Int32 × (Nat → Int32) × (Nat → Bool) × (Nat → Int64) × (Nat → Int32), y9 = (B_X3_sum_ok_18 vrd vtr p0 p2) t_18 := ⟨_, rfl⟩
      have hb9 := rB_X3_sum_ok_18 vrd vtr p0 p2 t_18 et9
      unfold RB_X3_sum_ok_18 at hb9
      have hs : SB_X3_sum_ok_18 vrd vtr p0 p2 t_18 := hs9 0 (Nat.succ_pos n9)
      unfold SB_X3_sum_ok_18 at hs
      refine lv_iload hx hb dX3_sum_18 (lv_at hl 4 rfl) ?_
      refine lv_iload_n hx hb dX3_sum_20 rfl (lv_at hl 2 rfl) ?_
      refine lv_icmp_gt (tgt := 45) hx hb dX3_sum_21 (by decide) (fun c_107 => ?_) (fun c_107 => ?_)
      · rw [if_pos c_107] at hg
        exact absurd hg (by decide)
      · rw [if_neg c_107] at hs
        rw [if_neg c_107] at hg
        rw [if_neg c_107] at hb9
        refine lv_aload_n hx hb dX3_sum_24 rfl (lv_at hl 0 rfl) ?_
        refine lv_iconst (v := 0) hx hb dX3_sum_25 (by decide) ?_
        refine lv_iload_n hx hb dX3_sum_26 rfl (lv_at hl 1 rfl) ?_
        refine lv_iload_n hx hb dX3_sum_27 rfl (lv_at hl 1 rfl) ?_
        refine lv_iload hx hb dX3_sum_28 (lv_at hl 4 rfl) ?_
        have h_108 := hs
        obtain ⟨u109, eu109⟩ : ∃ y9 : Bool × Int32 × Int32 × Bool × Int64 × Int64 × Int32 × Bool × Int32 × Int64 × Int32 × (Nat → Int32) × (Nat → Bool) × (Nat → Int64) × (Nat → Int32), y9 = F_X3_operate vrd vtr t_18.2.2.1 t_18.2.2.2.2.1 t_18.2.2.2.2.2.1 t_18.2.2.2.2.2.2.1 t_18.2.2.2.2.2.2.2.1 t_18.2.2.2.2.2.2.2.2.1 t_18.2.2.2.2.2.2.2.2.2.1 t_18.2.2.2.2.2.2.2.2.2.2.1 t_18.2.2.2.2.2.2.2.2.2.2.2.1 t_18.2.2.2.2.2.2.2.2.2.2.2.2.1 t_18.2.2.2.2.2.2.2.2.2.2.2.2.2.1 t_18.2.2.2.2.2.2.2.2.2.2.2.2.2.2.1 t_18.2.2.2.2.2.2.2.2.2.2.2.2.2.2.2 (0 : Int32) p0 p0 t_18.2.1 := ⟨_, rfl⟩
        have hb9 := hb9 _ eu109
        refine x_V (As := [.int 0, .int p0, .int p0, .int t_18.2.1]) (rest := []) hCF (c_X3_operate l D cR cI cJ cZ t0 ax ar ao ad vrd vtr t_18.2.2.1 t_18.2.2.2.1 t_18.2.2.2.2.1 t_18.2.2.2.2.2.1 t_18.2.2.2.2.2.2.1 t_18.2.2.2.2.2.2.2.1 t_18.2.2.2.2.2.2.2.2.1 t_18.2.2.2.2.2.2.2.2.2.1 t_18.2.2.2.2.2.2.2.2.2.2.1 t_18.2.2.2.2.2.2.2.2.2.2.2.1 t_18.2.2.2.2.2.2.2.2.2.2.2.2.1 t_18.2.2.2.2.2.2.2.2.2.2.2.2.2.1 t_18.2.2.2.2.2.2.2.2.2.2.2.2.2.2.1 t_18.2.2.2.2.2.2.2.2.2.2.2.2.2.2.2 (0 : Int32) p0 p0 t_18.2.1 u109 eu109 h_108) (x_cwV 4 hts (inW_5 _ (List.mem_of_getElem? (i := 1) rfl)) (inW_5 _ (List.mem_of_getElem? (i := 2) rfl)) (inW_5 _ (List.mem_of_getElem? (i := 3) rfl)) (inW_1 _ (List.mem_of_getElem? (i := 25) rfl)) (inW_5 _ (List.mem_of_getElem? (i := 4) rfl)) rfl rfl (by decide +kernel) ⟨Nat.le_of_ble_eq_true rfl, Nat.le_of_ble_eq_true rfl⟩) hK hP hD hS hA hSt 0 rfl rfl rfl hl.1 rfl (Nat.le_of_ble_eq_true rfl) dX3_sum_30 ⟨Nat.le_of_ble_eq_true rfl, Nat.le_of_ble_eq_true rfl⟩ (fun H locs hP hD hS => ?_)
        show W p l e _ s m args below meth c H locs 3 18 Q (F0 m 33 ls (.int (bI u109.1) :: []))
        have J_115 : (∀ z114 : Int32, z114 = Z_X3_sum_ok_J_115 t_18 u109 → ∀ (H : Heap) (locs : List Loc), va_P D vwCl (xw cR ax ar ao ad vrd vtr u109.2.1 u109.2.2.1 u109.2.2.2.1 u109.2.2.2.2.1 u109.2.2.2.2.2.1 u109.2.2.2.2.2.2.1 u109.2.2.2.2.2.2.2.1 u109.2.2.2.2.2.2.2.2.1 u109.2.2.2.2.2.2.2.2.2.1 u109.2.2.2.2.2.2.2.2.2.2.1 u109.2.2.2.2.2.2.2.2.2.2.2.1 u109.2.2.2.2.2.2.2.2.2.2.2.2.1 u109.2.2.2.2.2.2.2.2.2.2.2.2.2.1 u109.2.2.2.2.2.2.2.2.2.2.2.2.2.2) H → va_D A (xw cR ax ar ao ad vrd vtr u109.2.1 u109.2.2.1 u109.2.2.2.1 u109.2.2.2.2.1 u109.2.2.2.2.2.1 u109.2.2.2.2.2.2.1 u109.2.2.2.2.2.2.2.1 u109.2.2.2.2.2.2.2.2.1 u109.2.2.2.2.2.2.2.2.2.1 u109.2.2.2.2.2.2.2.2.2.2.1 u109.2.2.2.2.2.2.2.2.2.2.2.1 u109.2.2.2.2.2.2.2.2.2.2.2.2.1 u109.2.2.2.2.2.2.2.2.2.2.2.2.2.1 u109.2.2.2.2.2.2.2.2.2.2.2.2.2.2) → va_S A s.heap H locs → ∀ ls : Array Slot, lv_has ls 6 [(0, .ref ax), (1, .int p0), (3, .int p2), (4, .int z114), (5, .int t_18.2.1)] → W p l e rm_X3_sum s m args below meth c H locs 3 18 Q (F0 m 39 ls [])) := by
          intro z114 ez114 H locs hP hD hS ls hl
          have hb9 := hb9 _ ez114
          obtain ⟨n116, en116⟩ : ∃ y9 : Int32, y9 = t_18.2.1 + 1 := ⟨_, rfl⟩
          have hb9 := hb9 _ en116
          refine lv_iinc (v := n116) (lv' := [(5, .int n116), (0, .ref ax), (1, .int p0), (3, .int p2), (4, .int z114)]) hx hb dX3_sum_39 hl (k := 4) rfl (by rw [en116]; rfl) (by decide) rfl (fun ls hl => ?_)
          refine lv_goto (tgt := 18) hx hb dX3_sum_42 (by decide) ?_
          have e9 := Eq.symm hb9; subst e9
          have key9 := ih9 ((B_X3_sum_ok_18 vrd vtr p0 p2) t_18) (fun j hj => hG9 (j + 1) (Nat.succ_lt_succ hj)) (fun j hj => hs9 (j + 1) (Nat.succ_lt_succ hj)) k9
          rw [← et9] at key9
          exact key9 H locs hP hD hS ls (lv_sub hl [1, 2, 3, 4, 0] rfl)
        obtain ⟨z9, ez9⟩ : ∃ y9 : Int32, y9 = Z_X3_sum_ok_J_115 t_18 u109 := ⟨_, rfl⟩
        have hz := rZ_X3_sum_ok_J_115 t_18 u109 ez9
        unfold RZ_X3_sum_ok_J_115 at hz
        refine xb_ne (tgt := 39) hx hb dX3_sum_33 (by decide) (fun c_111 => ?_) (fun c_111 => ?_)
        · rw [if_pos c_111] at hz
          have e9 := Eq.symm hz; subst e9
          exact J_115 _ ez9 H locs hP hD hS ls (lv_sub hl [0, 1, 2, 3, 4] rfl)
        · rw [if_neg c_111] at hz
          obtain ⟨n112, en112⟩ : ∃ y9 : Int32, y9 = t_18.1 + 1 := ⟨_, rfl⟩
          have hz := hz _ en112
          refine lv_iinc (v := n112) (lv' := [(4, .int n112), (0, .ref ax), (1, .int p0), (3, .int p2), (5, .int t_18.2.1)]) hx hb dX3_sum_36 hl (k := 3) rfl (by rw [en112]; rfl) (by decide) rfl (fun ls hl => ?_)
          have e9 := Eq.symm hz; subst e9
          exact J_115 _ ez9 H locs hP hD hS ls (lv_sub hl [1, 2, 3, 0, 4] rfl)
  obtain ⟨hsL, hG1⟩ := hs
  refine L_122 (nW (G_X3_sum_ok_18 vrd vtr p0 p2) (B_X3_sum_ok_18 vrd vtr p0 p2) 901 (0, p1, vsd, vrn, vom, voh, vol, vop, voe, vow, vok, vos, vso, vmi, vco, vex)) (0, p1, vsd, vrn, vom, voh, vol, vop, voe, vow, vok, vos, vso, vmi, vco, vex) (nW_lt _ _ _ _) hsL (fun H locs hP hD hS ls hl => ?_) H locs hP hD hS ls (lv_sub hl [2, 3, 5, 1, 0] rfl)
  obtain ⟨z117, ez117⟩ : ∃ y9 : Int32 × Int32 × Int32 × Int32 × Bool × Int64 × Int64 × Int32 × Bool × Int32 × Int64 × Int32 × (Nat → Int32) × (Nat → Bool) × (Nat → Int64) × (Nat → Int32), y9 = wl (G_X3_sum_ok_18 vrd vtr p0 p2) (B_X3_sum_ok_18 vrd vtr p0 p2) 901 (0, p1, vsd, vrn, vom, voh, vol, vop, voe, vow, vok, vos, vso, vmi, vco, vex) := ⟨_, rfl⟩
  have e9 : z117 = itn (B_X3_sum_ok_18 vrd vtr p0 p2) (nW (G_X3_sum_ok_18 vrd vtr p0 p2) (B_X3_sum_ok_18 vrd vtr p0 p2) 901 (0, p1, vsd, vrn, vom, voh, vol, vop, voe, vow, vok, vos, vso, vmi, vco, vex)) (0, p1, vsd, vrn, vom, voh, vol, vop, voe, vow, vok, vos, vso, vmi, vco, vex) := ez117
  try rw [← e9] at hP
  try rw [← e9] at hD
  try rw [← e9] at hl
  rw [← ez117] at hG1
  clear e9
  have hg := rG_X3_sum_ok_18 vrd vtr p0 p2 z117 (Eq.symm hG1)
  unfold RG_X3_sum_ok_18 at hg
  have hu := hu _ ez117
  refine lv_iload hx hb dX3_sum_18 (lv_at hl 4 rfl) ?_
  refine lv_iload_n hx hb dX3_sum_20 rfl (lv_at hl 2 rfl) ?_
  have J_121 : ∀ (H : Heap) (locs : List Loc), va_P D vwCl (xw cR ax ar ao ad vrd vtr z117.2.2.1 z117.2.2.2.1 z117.2.2.2.2.1 z117.2.2.2.2.2.1 z117.2.2.2.2.2.2.1 z117.2.2.2.2.2.2.2.1 z117.2.2.2.2.2.2.2.2.1 z117.2.2.2.2.2.2.2.2.2.1 z117.2.2.2.2.2.2.2.2.2.2.1 z117.2.2.2.2.2.2.2.2.2.2.2.1 z117.2.2.2.2.2.2.2.2.2.2.2.2.1 z117.2.2.2.2.2.2.2.2.2.2.2.2.2.1 z117.2.2.2.2.2.2.2.2.2.2.2.2.2.2.1 z117.2.2.2.2.2.2.2.2.2.2.2.2.2.2.2) H → va_D A (xw cR ax ar ao ad vrd vtr z117.2.2.1 z117.2.2.2.1 z117.2.2.2.2.1 z117.2.2.2.2.2.1 z117.2.2.2.2.2.2.1 z117.2.2.2.2.2.2.2.1 z117.2.2.2.2.2.2.2.2.1 z117.2.2.2.2.2.2.2.2.2.1 z117.2.2.2.2.2.2.2.2.2.2.1 z117.2.2.2.2.2.2.2.2.2.2.2.1 z117.2.2.2.2.2.2.2.2.2.2.2.2.1 z117.2.2.2.2.2.2.2.2.2.2.2.2.2.1 z117.2.2.2.2.2.2.2.2.2.2.2.2.2.2.1 z117.2.2.2.2.2.2.2.2.2.2.2.2.2.2.2) → va_S A s.heap H locs → ∀ ls : Array Slot, lv_has ls 6 [(4, .int z117.1)] → W p l e rm_X3_sum s m args below meth c H locs 3 18 Q (F0 m 45 ls []) := by
    intro H locs hP hD hS ls hl
    refine lv_iload hx hb dX3_sum_45 (lv_at hl 0 rfl) ?_
    have e9 := Eq.symm hu; subst e9
    exact y_iret hx hb hr hlocks hQ hK hP hD hS rfl (Nat.le_of_ble_eq_true rfl) (Nat.le_of_ble_eq_true rfl) rfl dX3_sum_47
  refine lv_icmp_gt (tgt := 45) hx hb dX3_sum_21 (by decide) (fun c_119 => ?_) (fun c_119 => ?_)
  · rw [if_pos c_119] at hg
    exact J_121 H locs hP hD hS ls (lv_sub hl [3] rfl)
  · rw [if_neg c_119] at hg
    exact absurd hg (by decide)
