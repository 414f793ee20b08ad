def S_X3_apply_b0  (p0 : Int32) (p1 : Int32) (p2 : Int32) (p3 : Int32) : Prop := ¬ vp_in p1 8
def rm_X3_apply : Room := { frames := 7, cells := 4, slots := 24, locals := 166 }
set_option maxHeartbeats 4000000 in
set_option maxRecDepth 100000 in
theorem c_X3_apply_b0 (l : Launch) (hl0 : l.stackTraces = false) (D : va_G) (cR cI cJ cZ : ClassId) (t0 : Nat) (sv : Nat → Nat) (ax ar ao : Nat) (ad : Nat → Nat) (vrd : Int32) (vtr : Int32) (vsd : Int32) (vrn : Int32) (vom : Bool) (voh : Int64) (vol : Int64) (vop : Int32) (voe : Bool) (vow : Int32) (vok : Int64) (vos : Int32) (vso : Nat → Int32) (vmi : Nat → Bool) (vco : Nat → Int64) (vex : Nat → Int32) (p0 : Int32) (p1 : Int32) (p2 : Int32) (p3 : Int32) (hs : S_X3_apply_b0 p0 p1 p2 p3) : XT l D (xty cR cI cJ cZ) t0 sv yX3_apply cX3_apply 5 none rm_X3_apply 4 [.ref ax, .int p0, .int p1, .int p2, .int p3] (some eIO) none (xw cR ax ar ao ad vrd vtr vsd vrn vom voh vol vop voe vow vok vos vso vmi vco vex) (xw cR ax ar ao ad vrd vtr vsd vrn vom voh vol vop voe vow vok vos vso vmi vco vex) := by
  refine XT.of (by decide) (Nat.le_of_ble_eq_true rfl) ?_
  intro p e s m args below meth c A Q F hnt hK hP hD hA hY hS hQ ls hl
  have hSt := hY.1
  obtain ⟨hx, hb, hr, hts, hown, hlocks, hml⟩ := F
  have hCF : CallFix p m c cX3_apply 5 s args gW RX3 := ⟨hx, hb, hml, hown, hts⟩
  unfold S_X3_apply_b0 at hs
  obtain ⟨H, eH⟩ : ∃ y9 : Heap, y9 = s.heap := ⟨_, rfl⟩
  obtain ⟨locs, eL⟩ : ∃ y9 : List Loc, y9 = [] := ⟨_, rfl⟩
  rw [← eL] at hS ⊢
  have hP : va_P D vwCl (xw cR ax ar ao ad vrd vtr vsd vrn vom voh vol vop voe vow vok vos vso vmi vco vex) H := by rw [eH]; exact hP
  have hS : va_S A s.heap H locs := by rw [eH]; exact hS
  suffices goal9 : W p l e rm_X3_apply s m args below meth c H locs 0 0 Q (F0 m 0 ls []) from by rw [← eH]; exact goal9
  have hl : lv_has ls 5 [(0, .ref ax), (1, .int p0), (2, .int p1), (3, .int p2), (4, .int p3)] := hl
  refine lv_iload_n hx hb dX3_apply_0 rfl (lv_at hl 2 rfl) ?_
  have h_101 := hs
  exact y_nbad (As := [.int p1]) (rest := []) hCF (c_X3_needRegister_bad l hl0 D cR cI cJ cZ t0 sv p1 h_101) (y_cwS 1 hts (inW_4 _ (List.mem_of_getElem? (i := 32) rfl)) (inW_4 _ (List.mem_of_getElem? (i := 33) rfl)) (inW_1 _ (List.mem_of_getElem? (i := 25) rfl)) (inW_4 _ (List.mem_of_getElem? (i := 34) rfl)) rfl rfl (by decide +kernel) ⟨Nat.le_of_ble_eq_true rfl, Nat.le_of_ble_eq_true rfl⟩) hK hP hD hS hA hY rfl hl.1 rfl (Nat.le_of_ble_eq_true rfl) dX3_apply_1 ⟨Nat.le_of_ble_eq_true rfl, Nat.le_of_ble_eq_true rfl⟩ hnt hlocks hQ rfl (Nat.le_of_ble_eq_true rfl) (Nat.le_of_ble_eq_true rfl)

def S_X3_apply_b1  (p0 : Int32) (p1 : Int32) (p2 : Int32) (p3 : Int32) : Prop := (vp_in p1 8) ∧ ¬ vp_in p2 8
set_option maxHeartbeats 4000000 in
set_option maxRecDepth 100000 in
theorem c_X3_apply_b1 (l : Launch) (hl0 : l.stackTraces = false) (D : va_G) (cR cI cJ cZ : ClassId) (t0 : Nat) (sv : Nat → Nat) (ax ar ao : Nat) (ad : Nat → Nat) (vrd : Int32) (vtr : Int32) (vsd : Int32) (vrn : Int32) (vom : Bool) (voh : Int64) (vol : Int64) (vop : Int32) (voe : Bool) (vow : Int32) (vok : Int64) (vos : Int32) (vso : Nat → Int32) (vmi : Nat → Bool) (vco : Nat → Int64) (vex : Nat → Int32) (p0 : Int32) (p1 : Int32) (p2 : Int32) (p3 : Int32) (hs : S_X3_apply_b1 p0 p1 p2 p3) : XT l D (xty cR cI cJ cZ) t0 sv yX3_apply cX3_apply 5 none rm_X3_apply 4 [.ref ax, .int p0, .int p1, .int p2, .int p3] (some eIO) none (xw cR ax ar ao ad vrd vtr vsd vrn vom voh vol vop voe vow vok vos vso vmi vco vex) (xw cR ax ar ao ad vrd vtr vsd vrn vom voh vol vop voe vow vok vos vso vmi vco vex) := by
  refine XT.of (by decide) (Nat.le_of_ble_eq_true rfl) ?_
  intro p e s m args below meth c A Q F hnt hK hP hD hA hY hS hQ ls hl
  have hSt := hY.1
  obtain ⟨hx, hb, hr, hts, hown, hlocks, hml⟩ := F
  have hCF : CallFix p m c cX3_apply 5 s args gW RX3 := ⟨hx, hb, hml, hown, hts⟩
  unfold S_X3_apply_b1 at hs
  obtain ⟨H, eH⟩ : ∃ y9 : Heap, y9 = s.heap := ⟨_, rfl⟩
  obtain ⟨locs, eL⟩ : ∃ y9 : List Loc, y9 = [] := ⟨_, rfl⟩
  rw [← eL] at hS ⊢
  have hP : va_P D vwCl (xw cR ax ar ao ad vrd vtr vsd vrn vom voh vol vop voe vow vok vos vso vmi vco vex) H := by rw [eH]; exact hP
  have hS : va_S A s.heap H locs := by rw [eH]; exact hS
  suffices goal9 : W p l e rm_X3_apply s m args below meth c H locs 0 0 Q (F0 m 0 ls []) from by rw [← eH]; exact goal9
  have hl : lv_has ls 5 [(0, .ref ax), (1, .int p0), (2, .int p1), (3, .int p2), (4, .int p3)] := hl
  refine lv_iload_n hx hb dX3_apply_0 rfl (lv_at hl 2 rfl) ?_
  obtain ⟨h_101, hs⟩ := hs
  refine y_nok (As := [.int p1]) (rest := []) hCF (c_X3_needRegister_ok l hl0 D cR cI cJ cZ t0 sv p1 h_101) (y_cwS 1 hts (inW_4 _ (List.mem_of_getElem? (i := 32) rfl)) (inW_4 _ (List.mem_of_getElem? (i := 33) rfl)) (inW_1 _ (List.mem_of_getElem? (i := 25) rfl)) (inW_4 _ (List.mem_of_getElem? (i := 34) rfl)) rfl rfl (by decide +kernel) ⟨Nat.le_of_ble_eq_true rfl, Nat.le_of_ble_eq_true rfl⟩) hK hP hD hS hA hY rfl hl.1 rfl (Nat.le_of_ble_eq_true rfl) dX3_apply_1 ⟨Nat.le_of_ble_eq_true rfl, Nat.le_of_ble_eq_true rfl⟩ (fun H locs hP hD hS => ?_)
  show W p l e _ s m args below meth c H locs 1 6 Q (F0 m 4 ls [])
  refine lv_iload_n hx hb dX3_apply_4 rfl (lv_at hl 3 rfl) ?_
  have h_103 := hs
  exact y_nbad (As := [.int p2]) (rest := []) hCF (c_X3_needRegister_bad l hl0 D cR cI cJ cZ t0 sv p2 h_103) (y_cwS 1 hts (inW_4 _ (List.mem_of_getElem? (i := 32) rfl)) (inW_4 _ (List.mem_of_getElem? (i := 33) rfl)) (inW_1 _ (List.mem_of_getElem? (i := 25) rfl)) (inW_4 _ (List.mem_of_getElem? (i := 34) rfl)) rfl rfl (by decide +kernel) ⟨Nat.le_of_ble_eq_true rfl, Nat.le_of_ble_eq_true rfl⟩) hK hP hD hS hA hY rfl hl.1 rfl (Nat.le_of_ble_eq_true rfl) dX3_apply_5 ⟨Nat.le_of_ble_eq_true rfl, Nat.le_of_ble_eq_true rfl⟩ hnt hlocks hQ rfl (Nat.le_of_ble_eq_true rfl) (Nat.le_of_ble_eq_true rfl)

def S_X3_apply_b2  (p0 : Int32) (p1 : Int32) (p2 : Int32) (p3 : Int32) : Prop := (vp_in p1 8) ∧ (vp_in p2 8) ∧ ¬ vp_in p3 8
set_option maxHeartbeats 4000000 in
set_option maxRecDepth 100000 in
theorem c_X3_apply_b2 (l : Launch) (hl0 : l.stackTraces = false) (D : va_G) (cR cI cJ cZ : ClassId) (t0 : Nat) (sv : Nat → Nat) (ax ar ao : Nat) (ad : Nat → Nat) (vrd : Int32) (vtr : Int32) (vsd : Int32) (vrn : Int32) (vom : Bool) (voh : Int64) (vol : Int64) (vop : Int32) (voe : Bool) (vow : Int32) (vok : Int64) (vos : Int32) (vso : Nat → Int32) (vmi : Nat → Bool) (vco : Nat → Int64) (vex : Nat → Int32) (p0 : Int32) (p1 : Int32) (p2 : Int32) (p3 : Int32) (hs : S_X3_apply_b2 p0 p1 p2 p3) : XT l D (xty cR cI cJ cZ) t0 sv yX3_apply cX3_apply 5 none rm_X3_apply 4 [.ref ax, .int p0, .int p1, .int p2, .int p3] (some eIO) none (xw cR ax ar ao ad vrd vtr vsd vrn vom voh vol vop voe vow vok vos vso vmi vco vex) (xw cR ax ar ao ad vrd vtr vsd vrn vom voh vol vop voe vow vok vos vso vmi vco vex) := by
  refine XT.of (by decide) (Nat.le_of_ble_eq_true rfl) ?_
  intro p e s m args below meth c A Q F hnt hK hP hD hA hY hS hQ ls hl
  have hSt := hY.1
  obtain ⟨hx, hb, hr, hts, hown, hlocks, hml⟩ := F
  have hCF : CallFix p m c cX3_apply 5 s args gW RX3 := ⟨hx, hb, hml, hown, hts⟩
  unfold S_X3_apply_b2 at hs
  obtain ⟨H, eH⟩ : ∃ y9 : Heap, y9 = s.heap := ⟨_, rfl⟩
  obtain ⟨locs, eL⟩ : ∃ y9 : List Loc, y9 = [] := ⟨_, rfl⟩
  rw [← eL] at hS ⊢
  have hP : va_P D vwCl (xw cR ax ar ao ad vrd vtr vsd vrn vom voh vol vop voe vow vok vos vso vmi vco vex) H := by rw [eH]; exact hP
  have hS : va_S A s.heap H locs := by rw [eH]; exact hS
  suffices goal9 : W p l e rm_X3_apply s m args below meth c H locs 0 0 Q (F0 m 0 ls []) from by rw [← eH]; exact goal9
  have hl : lv_has ls 5 [(0, .ref ax), (1, .int p0), (2, .int p1), (3, .int p2), (4, .int p3)] := hl
  refine lv_iload_n hx hb dX3_apply_0 rfl (lv_at hl 2 rfl) ?_
  obtain ⟨h_101, hs⟩ := hs
  refine y_nok (As := [.int p1]) (rest := []) hCF (c_X3_needRegister_ok l hl0 D cR cI cJ cZ t0 sv p1 h_101) (y_cwS 1 hts (inW_4 _ (List.mem_of_getElem? (i := 32) rfl)) (inW_4 _ (List.mem_of_getElem? (i := 33) rfl)) (inW_1 _ (List.mem_of_getElem? (i := 25) rfl)) (inW_4 _ (List.mem_of_getElem? (i := 34) rfl)) rfl rfl (by decide +kernel) ⟨Nat.le_of_ble_eq_true rfl, Nat.le_of_ble_eq_true rfl⟩) hK hP hD hS hA hY rfl hl.1 rfl (Nat.le_of_ble_eq_true rfl) dX3_apply_1 ⟨Nat.le_of_ble_eq_true rfl, Nat.le_of_ble_eq_true rfl⟩ (fun H locs hP hD hS => ?_)
  show W p l e _ s m args below meth c H locs 1 6 Q (F0 m 4 ls [])
  refine lv_iload_n hx hb dX3_apply_4 rfl (lv_at hl 3 rfl) ?_
  obtain ⟨h_103, hs⟩ := hs
  refine y_nok (As := [.int p2]) (rest := []) hCF (c_X3_needRegister_ok l hl0 D cR cI cJ cZ t0 sv p2 h_103) (y_cwS 1 hts (inW_4 _ (List.mem_of_getElem? (i := 32) rfl)) (inW_4 _ (List.mem_of_getElem? (i := 33) rfl)) (inW_1 _ (List.mem_of_getElem? (i := 25) rfl)) (inW_4 _ (List.mem_of_getElem? (i := 34) rfl)) rfl rfl (by decide +kernel) ⟨Nat.le_of_ble_eq_true rfl, Nat.le_of_ble_eq_true rfl⟩) hK hP hD hS hA hY rfl hl.1 rfl (Nat.le_of_ble_eq_true rfl) dX3_apply_5 ⟨Nat.le_of_ble_eq_true rfl, Nat.le_of_ble_eq_true rfl⟩ (fun H locs hP hD hS => ?_)
  show W p l e _ s m args below meth c H locs 2 12 Q (F0 m 8 ls [])
  refine lv_iload hx hb dX3_apply_8 (lv_at hl 4 rfl) ?_
  have h_105 := hs
  exact y_nbad (As := [.int p3]) (rest := []) hCF (c_X3_needRegister_bad l hl0 D cR cI cJ cZ t0 sv p3 h_105) (y_cwS 1 hts (inW_4 _ (List.mem_of_getElem? (i := 32) rfl)) (inW_4 _ (List.mem_of_getElem? (i := 33) rfl)) (inW_1 _ (List.mem_of_getElem? (i := 25) rfl)) (inW_4 _ (List.mem_of_getElem? (i := 34) rfl)) rfl rfl (by decide +kernel) ⟨Nat.le_of_ble_eq_true rfl, Nat.le_of_ble_eq_true rfl⟩) hK hP hD hS hA hY rfl hl.1 rfl (Nat.le_of_ble_eq_true rfl) dX3_apply_10 ⟨Nat.le_of_ble_eq_true rfl, Nat.le_of_ble_eq_true rfl⟩ hnt hlocks hQ rfl (Nat.le_of_ble_eq_true rfl) (Nat.le_of_ble_eq_true rfl)

def S_X3_apply_b3  (p0 : Int32) (p1 : Int32) (p2 : Int32) (p3 : Int32) : Prop := (vp_in p1 8) ∧ (vp_in p2 8) ∧ (vp_in p3 8) ∧ p0 < 0
set_option maxHeartbeats 4000000 in
set_option maxRecDepth 100000 in
theorem c_X3_apply_b3 (l : Launch) (hl0 : l.stackTraces = false) (D : va_G) (cR cI cJ cZ : ClassId) (t0 : Nat) (sv : Nat → Nat) (ax ar ao : Nat) (ad : Nat → Nat) (vrd : Int32) (vtr : Int32) (vsd : Int32) (vrn : Int32) (vom : Bool) (voh : Int64) (vol : Int64) (vop : Int32) (voe : Bool) (vow : Int32) (vok : Int64) (vos : Int32) (vso : Nat → Int32) (vmi : Nat → Bool) (vco : Nat → Int64) (vex : Nat → Int32) (p0 : Int32) (p1 : Int32) (p2 : Int32) (p3 : Int32) (hs : S_X3_apply_b3 p0 p1 p2 p3) : XT l D (xty cR cI cJ cZ) t0 sv yX3_apply cX3_apply 5 none rm_X3_apply 4 [.ref ax, .int p0, .int p1, .int p2, .int p3] (some eIA) none (xw cR ax ar ao ad vrd vtr vsd vrn vom voh vol vop voe vow vok vos vso vmi vco vex) (xw cR ax ar ao ad vrd vtr vsd vrn vom voh vol vop voe vow vok vos vso vmi vco vex) := by
  refine XT.of (by decide) (Nat.le_of_ble_eq_true rfl) ?_
  intro p e s m args below meth c A Q F hnt hK hP hD hA hY hS hQ ls hl
  have hSt := hY.1
  obtain ⟨hx, hb, hr, hts, hown, hlocks, hml⟩ := F
  have hCF : CallFix p m c cX3_apply 5 s args gW RX3 := ⟨hx, hb, hml, hown, hts⟩
  unfold S_X3_apply_b3 at hs
  obtain ⟨H, eH⟩ : ∃ y9 : Heap, y9 = s.heap := ⟨_, rfl⟩
  obtain ⟨locs, eL⟩ : ∃ y9 : List Loc, y9 = [] := ⟨_, rfl⟩
  rw [← eL] at hS ⊢
  have hP : va_P D vwCl (xw cR ax ar ao ad vrd vtr vsd vrn vom voh vol vop voe vow vok vos vso vmi vco vex) H := by rw [eH]; exact hP
  have hS : va_S A s.heap H locs := by rw [eH]; exact hS
  suffices goal9 : W p l e rm_X3_apply s m args below meth c H locs 0 0 Q (F0 m 0 ls []) from by rw [← eH]; exact goal9
  have hl : lv_has ls 5 [(0, .ref ax), (1, .int p0), (2, .int p1), (3, .int p2), (4, .int p3)] := hl
  refine lv_iload_n hx hb dX3_apply_0 rfl (lv_at hl 2 rfl) ?_
  obtain ⟨h_101, hs⟩ := hs
  refine y_nok (As := [.int p1]) (rest := []) hCF (c_X3_needRegister_ok l hl0 D cR cI cJ cZ t0 sv p1 h_101) (y_cwS 1 hts (inW_4 _ (List.mem_of_getElem? (i := 32) rfl)) (inW_4 _ (List.mem_of_getElem? (i := 33) rfl)) (inW_1 _ (List.mem_of_getElem? (i := 25) rfl)) (inW_4 _ (List.mem_of_getElem? (i := 34) rfl)) rfl rfl (by decide +kernel) ⟨Nat.le_of_ble_eq_true rfl, Nat.le_of_ble_eq_true rfl⟩) hK hP hD hS hA hY rfl hl.1 rfl (Nat.le_of_ble_eq_true rfl) dX3_apply_1 ⟨Nat.le_of_ble_eq_true rfl, Nat.le_of_ble_eq_true rfl⟩ (fun H locs hP hD hS => ?_)
  show W p l e _ s m args below meth c H locs 1 6 Q (F0 m 4 ls [])
  refine lv_iload_n hx hb dX3_apply_4 rfl (lv_at hl 3 rfl) ?_
  obtain ⟨h_103, hs⟩ := hs
  refine y_nok (As := [.int p2]) (rest := []) hCF (c_X3_needRegister_ok l hl0 D cR cI cJ cZ t0 sv p2 h_103) (y_cwS 1 hts (inW_4 _ (List.mem_of_getElem? (i := 32) rfl)) (inW_4 _ (List.mem_of_getElem? (i := 33) rfl)) (inW_1 _ (List.mem_of_getElem? (i := 25) rfl)) (inW_4 _ (List.mem_of_getElem? (i := 34) rfl)) rfl rfl (by decide +kernel) ⟨Nat.le_of_ble_eq_true rfl, Nat.le_of_ble_eq_true rfl⟩) hK hP hD hS hA hY rfl hl.1 rfl (Nat.le_of_ble_eq_true rfl) dX3_apply_5 ⟨Nat.le_of_ble_eq_true rfl, Nat.le_of_ble_eq_true rfl⟩ (fun H locs hP hD hS => ?_)
  show W p l e _ s m args below meth c H locs 2 12 Q (F0 m 8 ls [])
  refine lv_iload hx hb dX3_apply_8 (lv_at hl 4 rfl) ?_
  obtain ⟨h_105, hs⟩ := hs
  refine y_nok (As := [.int p3]) (rest := []) hCF (c_X3_needRegister_ok l hl0 D cR cI cJ cZ t0 sv p3 h_105) (y_cwS 1 hts (inW_4 _ (List.mem_of_getElem? (i := 32) rfl)) (inW_4 _ (List.mem_of_getElem? (i := 33) rfl)) (inW_1 _ (List.mem_of_getElem? (i := 25) rfl)) (inW_4 _ (List.mem_of_getElem? (i := 34) rfl)) rfl rfl (by decide +kernel) ⟨Nat.le_of_ble_eq_true rfl, Nat.le_of_ble_eq_true rfl⟩) hK hP hD hS hA hY rfl hl.1 rfl (Nat.le_of_ble_eq_true rfl) dX3_apply_10 ⟨Nat.le_of_ble_eq_true rfl, Nat.le_of_ble_eq_true rfl⟩ (fun H locs hP hD hS => ?_)
  show W p l e _ s m args below meth c H locs 3 18 Q (F0 m 13 ls [])
  refine lv_iload_n hx hb dX3_apply_13 rfl (lv_at hl 1 rfl) ?_
  have h_107 := hs
  refine lv_if_lt (tgt := 23) hx hb dX3_apply_14 (by decide) (fun _ => ?_) (fun c9 => absurd h_107 c9)
  exact y_throw hl0 ⟨hx, hb, hr, hts, hown, hlocks, hml⟩ hnt hK hP hD hS hY hQ hl.1 rfl (by decide +kernel) (inW_4 _ (List.mem_of_getElem? (i := 29) rfl)) (inW_4 _ (List.mem_of_getElem? (i := 30) rfl)) hY.2.2.2.1.2.2.1 yat_IA dX3_apply_23 dX3_apply_26 dX3_apply_27 dX3_apply_29 dX3_apply_32 (Nat.le_of_ble_eq_true rfl) (Nat.le_of_ble_eq_true rfl) (Nat.le_of_ble_eq_true rfl) (Nat.le_of_ble_eq_true rfl) (Nat.le_of_ble_eq_true rfl) (Nat.le_of_ble_eq_true rfl)

def S_X3_apply_b4  (p0 : Int32) (p1 : Int32) (p2 : Int32) (p3 : Int32) : Prop := (vp_in p1 8) ∧ (vp_in p2 8) ∧ (vp_in p3 8) ∧ (¬ (p0 < 0)) ∧ ¬ (p0 ≤ 6)
set_option maxHeartbeats 4000000 in
set_option maxRecDepth 100000 in
theorem c_X3_apply_b4 (l : Launch) (hl0 : l.stackTraces = false) (D : va_G) (cR cI cJ cZ : ClassId) (t0 : Nat) (sv : Nat → Nat) (ax ar ao : Nat) (ad : Nat → Nat) (vrd : Int32) (vtr : Int32) (vsd : Int32) (vrn : Int32) (vom : Bool) (voh : Int64) (vol : Int64) (vop : Int32) (voe : Bool) (vow : Int32) (vok : Int64) (vos : Int32) (vso : Nat → Int32) (vmi : Nat → Bool) (vco : Nat → Int64) (vex : Nat → Int32) (p0 : Int32) (p1 : Int32) (p2 : Int32) (p3 : Int32) (hs : S_X3_apply_b4 p0 p1 p2 p3) : XT l D (xty cR cI cJ cZ) t0 sv yX3_apply cX3_apply 5 none rm_X3_apply 4 [.ref ax, .int p0, .int p1, .int p2, .int p3] (some eIA) none (xw cR ax ar ao ad vrd vtr vsd vrn vom voh vol vop voe vow vok vos vso vmi vco vex) (xw cR ax ar ao ad vrd vtr vsd vrn vom voh vol vop voe vow vok vos vso vmi vco vex) := by
  refine XT.of (by decide) (Nat.le_of_ble_eq_true rfl) ?_
  intro p e s m args below meth c A Q F hnt hK hP hD hA hY hS hQ ls hl
  have hSt := hY.1
  obtain ⟨hx, hb, hr, hts, hown, hlocks, hml⟩ := F
  have hCF : CallFix p m c cX3_apply 5 s args gW RX3 := ⟨hx, hb, hml, hown, hts⟩
  unfold S_X3_apply_b4 at hs
  obtain ⟨H, eH⟩ : ∃ y9 : Heap, y9 = s.heap := ⟨_, rfl⟩
  obtain ⟨locs, eL⟩ : ∃ y9 : List Loc, y9 = [] := ⟨_, rfl⟩
  rw [← eL] at hS ⊢
  have hP : va_P D vwCl (xw cR ax ar ao ad vrd vtr vsd vrn vom voh vol vop voe vow vok vos vso vmi vco vex) H := by rw [eH]; exact hP
  have hS : va_S A s.heap H locs := by rw [eH]; exact hS
  suffices goal9 : W p l e rm_X3_apply s m args below meth c H locs 0 0 Q (F0 m 0 ls []) from by rw [← eH]; exact goal9
  have hl : lv_has ls 5 [(0, .ref ax), (1, .int p0), (2, .int p1), (3, .int p2), (4, .int p3)] := hl
  refine lv_iload_n hx hb dX3_apply_0 rfl (lv_at hl 2 rfl) ?_
  obtain ⟨h_101, hs⟩ := hs
  refine y_nok (As := [.int p1]) (rest := []) hCF (c_X3_needRegister_ok l hl0 D cR cI cJ cZ t0 sv p1 h_101) (y_cwS 1 hts (inW_4 _ (List.mem_of_getElem? (i := 32) rfl)) (inW_4 _ (List.mem_of_getElem? (i := 33) rfl)) (inW_1 _ (List.mem_of_getElem? (i := 25) rfl)) (inW_4 _ (List.mem_of_getElem? (i := 34) rfl)) rfl rfl (by decide +kernel) ⟨Nat.le_of_ble_eq_true rfl, Nat.le_of_ble_eq_true rfl⟩) hK hP hD hS hA hY rfl hl.1 rfl (Nat.le_of_ble_eq_true rfl) dX3_apply_1 ⟨Nat.le_of_ble_eq_true rfl, Nat.le_of_ble_eq_true rfl⟩ (fun H locs hP hD hS => ?_)
  show W p l e _ s m args below meth c H locs 1 6 Q (F0 m 4 ls [])
  refine lv_iload_n hx hb dX3_apply_4 rfl (lv_at hl 3 rfl) ?_
  obtain ⟨h_103, hs⟩ := hs
  refine y_nok (As := [.int p2]) (rest := []) hCF (c_X3_needRegister_ok l hl0 D cR cI cJ cZ t0 sv p2 h_103) (y_cwS 1 hts (inW_4 _ (List.mem_of_getElem? (i := 32) rfl)) (inW_4 _ (List.mem_of_getElem? (i := 33) rfl)) (inW_1 _ (List.mem_of_getElem? (i := 25) rfl)) (inW_4 _ (List.mem_of_getElem? (i := 34) rfl)) rfl rfl (by decide +kernel) ⟨Nat.le_of_ble_eq_true rfl, Nat.le_of_ble_eq_true rfl⟩) hK hP hD hS hA hY rfl hl.1 rfl (Nat.le_of_ble_eq_true rfl) dX3_apply_5 ⟨Nat.le_of_ble_eq_true rfl, Nat.le_of_ble_eq_true rfl⟩ (fun H locs hP hD hS => ?_)
  show W p l e _ s m args below meth c H locs 2 12 Q (F0 m 8 ls [])
  refine lv_iload hx hb dX3_apply_8 (lv_at hl 4 rfl) ?_
  obtain ⟨h_105, hs⟩ := hs
  refine y_nok (As := [.int p3]) (rest := []) hCF (c_X3_needRegister_ok l hl0 D cR cI cJ cZ t0 sv p3 h_105) (y_cwS 1 hts (inW_4 _ (List.mem_of_getElem? (i := 32) rfl)) (inW_4 _ (List.mem_of_getElem? (i := 33) rfl)) (inW_1 _ (List.mem_of_getElem? (i := 25) rfl)) (inW_4 _ (List.mem_of_getElem? (i := 34) rfl)) rfl rfl (by decide +kernel) ⟨Nat.le_of_ble_eq_true rfl, Nat.le_of_ble_eq_true rfl⟩) hK hP hD hS hA hY rfl hl.1 rfl (Nat.le_of_ble_eq_true rfl) dX3_apply_10 ⟨Nat.le_of_ble_eq_true rfl, Nat.le_of_ble_eq_true rfl⟩ (fun H locs hP hD hS => ?_)
  show W p l e _ s m args below meth c H locs 3 18 Q (F0 m 13 ls [])
  refine lv_iload_n hx hb dX3_apply_13 rfl (lv_at hl 1 rfl) ?_
  obtain ⟨h_107, hs⟩ := hs
  refine lv_if_lt (tgt := 23) hx hb dX3_apply_14 (by decide) (fun c9 => absurd c9 h_107) (fun _ => ?_)
  refine lv_iload_n hx hb dX3_apply_17 rfl (lv_at hl 1 rfl) ?_
  refine lv_bipush (v := 6) hx hb dX3_apply_18 (by decide) ?_
  have h_108 := hs
  refine lv_icmp_le (tgt := 33) hx hb dX3_apply_20 (by decide) (fun c9 => absurd c9 h_108) (fun _ => ?_)
  exact y_throw hl0 ⟨hx, hb, hr, hts, hown, hlocks, hml⟩ hnt hK hP hD hS hY hQ hl.1 rfl (by decide +kernel) (inW_4 _ (List.mem_of_getElem? (i := 29) rfl)) (inW_4 _ (List.mem_of_getElem? (i := 30) rfl)) hY.2.2.2.1.2.2.1 yat_IA dX3_apply_23 dX3_apply_26 dX3_apply_27 dX3_apply_29 dX3_apply_32 (Nat.le_of_ble_eq_true rfl) (Nat.le_of_ble_eq_true rfl) (Nat.le_of_ble_eq_true rfl) (Nat.le_of_ble_eq_true rfl) (Nat.le_of_ble_eq_true rfl) (Nat.le_of_ble_eq_true rfl)

def F_X3_apply_b5 (vrd : Int32) (vtr : Int32) (vsd : Int32) (vom : Bool) (voh : Int64) (vol : Int64) (vop : Int32) (voe : Bool) (vow : Int32) (vok : Int64) (vos : Int32) (vso : Nat → Int32) (vmi : Nat → Bool) (vco : Nat → Int64) (vex : Nat → Int32) (p0 : Int32) (p1 : Int32) (p2 : Int32) (p3 : Int32) : Int32 × Int32 × Bool × Int64 × Int64 × Int32 × Bool × Int32 × Int64 × Int32 × (Nat → Int32) × (Nat → Bool) × (Nat → Int64) × (Nat → Int32) := (bnd (F_X3_operate vrd vtr vsd vom voh vol vop voe vow vok vos vso vmi vco vex p0 p1 p2 p3) (fun u110 : Bool × Int32 × Int32 × Bool × Int64 × Int64 × Int32 × Bool × Int32 × Int64 × Int32 × (Nat → Int32) × (Nat → Bool) × (Nat → Int64) × (Nat → Int32) => (u110.2.1, u110.2.2.1, u110.2.2.2.1, u110.2.2.2.2.1, u110.2.2.2.2.2.1, u110.2.2.2.2.2.2.1, u110.2.2.2.2.2.2.2.1, u110.2.2.2.2.2.2.2.2.1, u110.2.2.2.2.2.2.2.2.2.1, u110.2.2.2.2.2.2.2.2.2.2.1, u110.2.2.2.2.2.2.2.2.2.2.2.1, u110.2.2.2.2.2.2.2.2.2.2.2.2.1, u110.2.2.2.2.2.2.2.2.2.2.2.2.2.1, u110.2.2.2.2.2.2.2.2.2.2.2.2.2.2)))
def RF_X3_apply_b5 (vrd : Int32) (vtr : Int32) (vsd : Int32) (vom : Bool) (voh : Int64) (vol : Int64) (vop : Int32) (voe : Bool) (vow : Int32) (vok : Int64) (vos : Int32) (vso : Nat → Int32) (vmi : Nat → Bool) (vco : Nat → Int64) (vex : Nat → Int32) (p0 : Int32) (p1 : Int32) (p2 : Int32) (p3 : Int32) (u9 : Int32 × Int32 × Bool × Int64 × Int64 × Int32 × Bool × Int32 × Int64 × Int32 × (Nat → Int32) × (Nat → Bool) × (Nat → Int64) × (Nat → Int32)) : Prop := (∀ u110 : Bool × Int32 × Int32 × Bool × Int64 × Int64 × Int32 × Bool × Int32 × Int64 × Int32 × (Nat → Int32) × (Nat → Bool) × (Nat → Int64) × (Nat → Int32), u110 = F_X3_operate vrd vtr vsd vom voh vol vop voe vow vok vos vso vmi vco vex p0 p1 p2 p3 → u9 = (u110.2.1, u110.2.2.1, u110.2.2.2.1, u110.2.2.2.2.1, u110.2.2.2.2.2.1, u110.2.2.2.2.2.2.1, u110.2.2.2.2.2.2.2.1, u110.2.2.2.2.2.2.2.2.1, u110.2.2.2.2.2.2.2.2.2.1, u110.2.2.2.2.2.2.2.2.2.2.1, u110.2.2.2.2.2.2.2.2.2.2.2.1, u110.2.2.2.2.2.2.2.2.2.2.2.2.1, u110.2.2.2.2.2.2.2.2.2.2.2.2.2.1, u110.2.2.2.2.2.2.2.2.2.2.2.2.2.2))
theorem rF_X3_apply_b5 (vrd : Int32) (vtr : Int32) (vsd : Int32) (vom : Bool) (voh : Int64) (vol : Int64) (vop : Int32) (voe : Bool) (vow : Int32) (vok : Int64) (vos : Int32) (vso : Nat → Int32) (vmi : Nat → Bool) (vco : Nat → Int64) (vex : Nat → Int32) (p0 : Int32) (p1 : Int32) (p2 : Int32) (p3 : Int32) {u9 : Int32 × Int32 × Bool × Int64 × Int64 × Int32 × Bool × Int32 × Int64 × Int32 × (Nat → Int32) × (Nat → Bool) × (Nat → Int64) × (Nat → Int32)} (hu : u9 = F_X3_apply_b5 vrd vtr vsd vom voh vol vop voe vow vok vos vso vmi vco vex p0 p1 p2 p3) : RF_X3_apply_b5 vrd vtr vsd vom voh vol vop voe vow vok vos vso vmi vco vex p0 p1 p2 p3 u9 := by
  unfold RF_X3_apply_b5
  intro u110 eu110
  have hu := bnd_n hu eu110
  exact hu
def S_X3_apply_b5 (vrd : Int32) (vtr : Int32) (vsd : Int32) (vom : Bool) (voh : Int64) (vol : Int64) (vop : Int32) (voe : Bool) (vow : Int32) (vok : Int64) (vos : Int32) (vso : Nat → Int32) (vmi : Nat → Bool) (vco : Nat → Int64) (vex : Nat → Int32) (p0 : Int32) (p1 : Int32) (p2 : Int32) (p3 : Int32) : Prop := (vp_in p1 8) ∧ (vp_in p2 8) ∧ (vp_in p3 8) ∧ (¬ (p0 < 0)) ∧ (p0 ≤ 6) ∧ (S_X3_operate vrd vtr vsd vom voh vol vop voe vow vok vos vso vmi vco vex p0 p1 p2 p3) ∧ (∀ u110 : Bool × Int32 × Int32 × Bool × Int64 × Int64 × Int32 × Bool × Int32 × Int64 × Int32 × (Nat → Int32) × (Nat → Bool) × (Nat → Int64) × (Nat → Int32), u110 = F_X3_operate vrd vtr vsd vom voh vol vop voe vow vok vos vso vmi vco vex p0 p1 p2 p3 → ¬ (u110.1 = true))
set_option maxHeartbeats 4000000 in
set_option maxRecDepth 100000 in
theorem c_X3_apply_b5 (l : Launch) (hl0 : l.stackTraces = false) (D : va_G) (cR cI cJ cZ : ClassId) (t0 : Nat) (sv : Nat → Nat) (ax ar ao : Nat) (ad : Nat → Nat) (vrd : Int32) (vtr : Int32) (vsd : Int32) (vrn : Int32) (vom : Bool) (voh : Int64) (vol : Int64) (vop : Int32) (voe : Bool) (vow : Int32) (vok : Int64) (vos : Int32) (vso : Nat → Int32) (vmi : Nat → Bool) (vco : Nat → Int64) (vex : Nat → Int32) (p0 : Int32) (p1 : Int32) (p2 : Int32) (p3 : Int32) (u : Int32 × Int32 × Bool × Int64 × Int64 × Int32 × Bool × Int32 × Int64 × Int32 × (Nat → Int32) × (Nat → Bool) × (Nat → Int64) × (Nat → Int32)) (hu : u = F_X3_apply_b5 vrd vtr vsd vom voh vol vop voe vow vok vos vso vmi vco vex p0 p1 p2 p3) (hs : S_X3_apply_b5 vrd vtr vsd vom voh vol vop voe vow vok vos vso vmi vco vex p0 p1 p2 p3) : XT l D (xty cR cI cJ cZ) t0 sv yX3_apply cX3_apply 5 none rm_X3_apply 4 [.ref ax, .int p0, .int p1, .int p2, .int p3] (some eAE) none (xw cR ax ar ao ad vrd vtr vsd vrn vom voh vol vop voe vow vok vos vso vmi vco vex) (xw cR ax ar ao ad vrd vtr u.1 u.2.1 u.2.2.1 u.2.2.2.1 u.2.2.2.2.1 u.2.2.2.2.2.1 u.2.2.2.2.2.2.1 u.2.2.2.2.2.2.2.1 u.2.2.2.2.2.2.2.2.1 u.2.2.2.2.2.2.2.2.2.1 u.2.2.2.2.2.2.2.2.2.2.1 u.2.2.2.2.2.2.2.2.2.2.2.1 u.2.2.2.2.2.2.2.2.2.2.2.2.1 u.2.2.2.2.2.2.2.2.2.2.2.2.2) := by
  refine XT.of (by decide) (Nat.le_of_ble_eq_true rfl) ?_
  intro p e s m args below meth c A Q F hnt hK hP hD hA hY hS hQ ls hl
  have hSt := hY.1
  obtain ⟨hx, hb, hr, hts, hown, hlocks, hml⟩ := F
  have hCF : CallFix p m c cX3_apply 5 s args gW RX3 := ⟨hx, hb, hml, hown, hts⟩
  unfold S_X3_apply_b5 at hs
  have hu := rF_X3_apply_b5 vrd vtr vsd vom voh vol vop voe vow vok vos vso vmi vco vex p0 p1 p2 p3 hu
  unfold RF_X3_apply_b5 at hu
  obtain ⟨H, eH⟩ : ∃ y9 : Heap, y9 = s.heap := ⟨_, rfl⟩
  obtain ⟨locs, eL⟩ : ∃ y9 : List Loc, y9 = [] := ⟨_, rfl⟩
  rw [← eL] at hS ⊢
  have hP : va_P D vwCl (xw cR ax ar ao ad vrd vtr vsd vrn vom voh vol vop voe vow vok vos vso vmi vco vex) H := by rw [eH]; exact hP
  have hS : va_S A s.heap H locs := by rw [eH]; exact hS
  suffices goal9 : W p l e rm_X3_apply s m args below meth c H locs 0 0 Q (F0 m 0 ls []) from by rw [← eH]; exact goal9
  have hl : lv_has ls 5 [(0, .ref ax), (1, .int p0), (2, .int p1), (3, .int p2), (4, .int p3)] := hl
  refine lv_iload_n hx hb dX3_apply_0 rfl (lv_at hl 2 rfl) ?_
  obtain ⟨h_101, hs⟩ := hs
  refine y_nok (As := [.int p1]) (rest := []) hCF (c_X3_needRegister_ok l hl0 D cR cI cJ cZ t0 sv p1 h_101) (y_cwS 1 hts (inW_4 _ (List.mem_of_getElem? (i := 32) rfl)) (inW_4 _ (List.mem_of_getElem? (i := 33) rfl)) (inW_1 _ (List.mem_of_getElem? (i := 25) rfl)) (inW_4 _ (List.mem_of_getElem? (i := 34) rfl)) rfl rfl (by decide +kernel) ⟨Nat.le_of_ble_eq_true rfl, Nat.le_of_ble_eq_true rfl⟩) hK hP hD hS hA hY rfl hl.1 rfl (Nat.le_of_ble_eq_true rfl) dX3_apply_1 ⟨Nat.le_of_ble_eq_true rfl, Nat.le_of_ble_eq_true rfl⟩ (fun H locs hP hD hS => ?_)
  show W p l e _ s m args below meth c H locs 1 6 Q (F0 m 4 ls [])
  refine lv_iload_n hx hb dX3_apply_4 rfl (lv_at hl 3 rfl) ?_
  obtain ⟨h_103, hs⟩ := hs
  refine y_nok (As := [.int p2]) (rest := []) hCF (c_X3_needRegister_ok l hl0 D cR cI cJ cZ t0 sv p2 h_103) (y_cwS 1 hts (inW_4 _ (List.mem_of_getElem? (i := 32) rfl)) (inW_4 _ (List.mem_of_getElem? (i := 33) rfl)) (inW_1 _ (List.mem_of_getElem? (i := 25) rfl)) (inW_4 _ (List.mem_of_getElem? (i := 34) rfl)) rfl rfl (by decide +kernel) ⟨Nat.le_of_ble_eq_true rfl, Nat.le_of_ble_eq_true rfl⟩) hK hP hD hS hA hY rfl hl.1 rfl (Nat.le_of_ble_eq_true rfl) dX3_apply_5 ⟨Nat.le_of_ble_eq_true rfl, Nat.le_of_ble_eq_true rfl⟩ (fun H locs hP hD hS => ?_)
  show W p l e _ s m args below meth c H locs 2 12 Q (F0 m 8 ls [])
  refine lv_iload hx hb dX3_apply_8 (lv_at hl 4 rfl) ?_
  obtain ⟨h_105, hs⟩ := hs
  refine y_nok (As := [.int p3]) (rest := []) hCF (c_X3_needRegister_ok l hl0 D cR cI cJ cZ t0 sv p3 h_105) (y_cwS 1 hts (inW_4 _ (List.mem_of_getElem? (i := 32) rfl)) (inW_4 _ (List.mem_of_getElem? (i := 33) rfl)) (inW_1 _ (List.mem_of_getElem? (i := 25) rfl)) (inW_4 _ (List.mem_of_getElem? (i := 34) rfl)) rfl rfl (by decide +kernel) ⟨Nat.le_of_ble_eq_true rfl, Nat.le_of_ble_eq_true rfl⟩) hK hP hD hS hA hY rfl hl.1 rfl (Nat.le_of_ble_eq_true rfl) dX3_apply_10 ⟨Nat.le_of_ble_eq_true rfl, Nat.le_of_ble_eq_true rfl⟩ (fun H locs hP hD hS => ?_)
  show W p l e _ s m args below meth c H locs 3 18 Q (F0 m 13 ls [])
  refine lv_iload_n hx hb dX3_apply_13 rfl (lv_at hl 1 rfl) ?_
  obtain ⟨h_107, hs⟩ := hs
  refine lv_if_lt (tgt := 23) hx hb dX3_apply_14 (by decide) (fun c9 => absurd c9 h_107) (fun _ => ?_)
  refine lv_iload_n hx hb dX3_apply_17 rfl (lv_at hl 1 rfl) ?_
  refine lv_bipush (v := 6) hx hb dX3_apply_18 (by decide) ?_
  obtain ⟨h_108, hs⟩ := hs
  refine lv_icmp_le (tgt := 33) hx hb dX3_apply_20 (by decide) (fun _ => ?_) (fun c9 => absurd h_108 c9)
  refine lv_aload_n hx hb dX3_apply_33 rfl (lv_at hl 0 rfl) ?_
  refine lv_iload_n hx hb dX3_apply_34 rfl (lv_at hl 1 rfl) ?_
  refine lv_iload_n hx hb dX3_apply_35 rfl (lv_at hl 2 rfl) ?_
  refine lv_iload_n hx hb dX3_apply_36 rfl (lv_at hl 3 rfl) ?_
  refine lv_iload hx hb dX3_apply_37 (lv_at hl 4 rfl) ?_
  obtain ⟨h_109, hs⟩ := hs
  obtain ⟨u110, eu110⟩ : ∃ y9 : Bool × Int32 × Int32 × Bool × Int64 × Int64 × Int32 × Bool × Int32 × Int64 × Int32 × (Nat → Int32) × (Nat → Bool) × (Nat → Int64) × (Nat → Int32), y9 = F_X3_operate vrd vtr vsd vom voh vol vop voe vow vok vos vso vmi vco vex p0 p1 p2 p3 := ⟨_, rfl⟩
  have hs := hs _ eu110
  have hu := hu _ eu110
  refine x_V (As := [.int p0, .int p1, .int p2, .int p3]) (rest := []) hCF (c_X3_operate l D cR cI cJ cZ t0 ax ar ao ad vrd vtr vsd vrn vom voh vol vop voe vow vok vos vso vmi vco vex p0 p1 p2 p3 u110 eu110 h_109) (x_cwV 4 hts (inW_5 _ (List.mem_of_getElem? (i := 1) rfl)) (inW_5 _ (List.mem_of_getElem? (i := 2) rfl)) (inW_5 _ (List.mem_of_getElem? (i := 3) rfl)) (inW_1 _ (List.mem_of_getElem? (i := 25) rfl)) (inW_5 _ (List.mem_of_getElem? (i := 4) rfl)) rfl rfl (by decide +kernel) ⟨Nat.le_of_ble_eq_true rfl, Nat.le_of_ble_eq_true rfl⟩) hK hP hD hS hA hSt 0 rfl rfl rfl hl.1 rfl (Nat.le_of_ble_eq_true rfl) dX3_apply_39 ⟨Nat.le_of_ble_eq_true rfl, Nat.le_of_ble_eq_true rfl⟩ (fun H locs hP hD hS => ?_)
  show W p l e _ s m args below meth c H locs 3 18 Q (F0 m 42 ls (.int (bI u110.1) :: []))
  have h_112 := hs
  refine xb_ne (tgt := 55) hx hb dX3_apply_42 (by decide) (fun c9 => absurd c9 h_112) (fun _ => ?_)
  have e9 := Eq.symm hu; subst e9
  exact y_throw hl0 ⟨hx, hb, hr, hts, hown, hlocks, hml⟩ hnt hK hP hD hS hY hQ hl.1 rfl (by decide +kernel) (inW_4 _ (List.mem_of_getElem? (i := 39) rfl)) (inW_5 _ (List.mem_of_getElem? (i := 0) rfl)) hY.2.2.2.1.2.2.2.1 yat_AE dX3_apply_45 dX3_apply_48 dX3_apply_49 dX3_apply_51 dX3_apply_54 (Nat.le_of_ble_eq_true rfl) (Nat.le_of_ble_eq_true rfl) (Nat.le_of_ble_eq_true rfl) (Nat.le_of_ble_eq_true rfl) (Nat.le_of_ble_eq_true rfl) (Nat.le_of_ble_eq_true rfl)

def F_X3_apply_ok (vrd : Int32) (vtr : Int32) (vsd : Int32) (vom : Bool) (voh : Int64) (vol : Int64) (vop : Int32) (voe : Bool) (vow : Int32) (vok : Int64) (vos : Int32) (vso : Nat → Int32) (vmi : Nat → Bool) (vco : Nat → Int64) (vex : Nat → Int32) (p0 : Int32) (p1 : Int32) (p2 : Int32) (p3 : Int32) : Int32 × Int32 × Bool × Int64 × Int64 × Int32 × Bool × Int32 × Int64 × Int32 × (Nat → Int32) × (Nat → Bool) × (Nat → Int64) × (Nat → Int32) := (bnd (F_X3_operate vrd vtr vsd vom voh vol vop voe vow vok vos vso vmi vco vex p0 p1 p2 p3) (fun u110 : Bool × Int32 × Int32 × Bool × Int64 × Int64 × Int32 × Bool × Int32 × Int64 × Int32 × (Nat → Int32) × (Nat → Bool) × (Nat → Int64) × (Nat → Int32) => (u110.2.1, u110.2.2.1, u110.2.2.2.1, u110.2.2.2.2.1, u110.2.2.2.2.2.1, u110.2.2.2.2.2.2.1, u110.2.2.2.2.2.2.2.1, u110.2.2.2.2.2.2.2.2.1, u110.2.2.2.2.2.2.2.2.2.1, u110.2.2.2.2.2.2.2.2.2.2.1, u110.2.2.2.2.2.2.2.2.2.2.2.1, u110.2.2.2.2.2.2.2.2.2.2.2.2.1, u110.2.2.2.2.2.2.2.2.2.2.2.2.2.1, u110.2.2.2.2.2.2.2.2.2.2.2.2.2.2)))
def RF_X3_apply_ok (vrd : Int32) (vtr : Int32) (vsd : Int32) (vom : Bool) (voh : Int64) (vol : Int64) (vop : Int32) (voe : Bool) (vow : Int32) (vok : Int64) (vos : Int32) (vso : Nat → Int32) (vmi : Nat → Bool) (vco : Nat → Int64) (vex : Nat → Int32) (p0 : Int32) (p1 : Int32) (p2 : Int32) (p3 : Int32) (u9 : Int32 × Int32 × Bool × Int64 × Int64 × Int32 × Bool × Int32 × Int64 × Int32 × (Nat → Int32) × (Nat → Bool) × (Nat → Int64) × (Nat → Int32)) : Prop := (∀ u110 : Bool × Int32 × Int32 × Bool × Int64 × Int64 × Int32 × Bool × Int32 × Int64 × Int32 × (Nat → Int32) × (Nat → Bool) × (Nat → Int64) × (Nat → Int32), u110 = F_X3_operate vrd vtr vsd vom voh vol vop voe vow vok vos vso vmi vco vex p0 p1 p2 p3 → u9 = (u110.2.1, u110.2.2.1, u110.2.2.2.1, u110.2.2.2.2.1, u110.2.2.2.2.2.1, u110.2.2.2.2.2.2.1, u110.2.2.2.2.2.2.2.1, u110.2.2.2.2.2.2.2.2.1, u110.2.2.2.2.2.2.2.2.2.1, u110.2.2.2.2.2.2.2.2.2.2.1, u110.2.2.2.2.2.2.2.2.2.2.2.1, u110.2.2.2.2.2.2.2.2.2.2.2.2.1, u110.2.2.2.2.2.2.2.2.2.2.2.2.2.1, u110.2.2.2.2.2.2.2.2.2.2.2.2.2.2))
theorem rF_X3_apply_ok (vrd : Int32) (vtr : Int32) (vsd : Int32) (vom : Bool) (voh : Int64) (vol : Int64) (vop : Int32) (voe : Bool) (vow : Int32) (vok : Int64) (vos : Int32) (vso : Nat → Int32) (vmi : Nat → Bool) (vco : Nat → Int64) (vex : Nat → Int32) (p0 : Int32) (p1 : Int32) (p2 : Int32) (p3 : Int32) {u9 : Int32 × Int32 × Bool × Int64 × Int64 × Int32 × Bool × Int32 × Int64 × Int32 × (Nat → Int32) × (Nat → Bool) × (Nat → Int64) × (Nat → Int32)} (hu : u9 = F_X3_apply_ok vrd vtr vsd vom voh vol vop voe vow vok vos vso vmi vco vex p0 p1 p2 p3) : RF_X3_apply_ok vrd vtr vsd vom voh vol vop voe vow vok vos vso vmi vco vex p0 p1 p2 p3 u9 := by
  unfold RF_X3_apply_ok
  intro u110 eu110
  have hu := bnd_n hu eu110
  exact hu
def S_X3_apply_ok (vrd : Int32) (vtr : Int32) (vsd : Int32) (vom : Bool) (voh : Int64) (vol : Int64) (vop : Int32) (voe : Bool) (vow : Int32) (vok : Int64) (vos : Int32) (vso : Nat → Int32) (vmi : Nat → Bool) (vco : Nat → Int64) (vex : Nat → Int32) (p0 : Int32) (p1 : Int32) (p2 : Int32) (p3 : Int32) : Prop := (vp_in p1 8) ∧ (vp_in p2 8) ∧ (vp_in p3 8) ∧ (¬ (p0 < 0)) ∧ (p0 ≤ 6) ∧ (S_X3_operate vrd vtr vsd vom voh vol vop voe vow vok vos vso vmi vco vex p0 p1 p2 p3) ∧ (∀ u110 : Bool × Int32 × Int32 × Bool × Int64 × Int64 × Int32 × Bool × Int32 × Int64 × Int32 × (Nat → Int32) × (Nat → Bool) × (Nat → Int64) × (Nat → Int32), u110 = F_X3_operate vrd vtr vsd vom voh vol vop voe vow vok vos vso vmi vco vex p0 p1 p2 p3 → u110.1 = true)
set_option maxHeartbeats 4000000 in
set_option maxRecDepth 100000 in
theorem c_X3_apply_ok (l : Launch) (hl0 : l.stackTraces = false) (D : va_G) (cR cI cJ cZ : ClassId) (t0 : Nat) (sv : Nat → Nat) (ax ar ao : Nat) (ad : Nat → Nat) (vrd : Int32) (vtr : Int32) (vsd : Int32) (vrn : Int32) (vom : Bool) (voh : Int64) (vol : Int64) (vop : Int32) (voe : Bool) (vow : Int32) (vok : Int64) (vos : Int32) (vso : Nat → Int32) (vmi : Nat → Bool) (vco : Nat → Int64) (vex : Nat → Int32) (p0 : Int32) (p1 : Int32) (p2 : Int32) (p3 : Int32) (u : Int32 × Int32 × Bool × Int64 × Int64 × Int32 × Bool × Int32 × Int64 × Int32 × (Nat → Int32) × (Nat → Bool) × (Nat → Int64) × (Nat → Int32)) (hu : u = F_X3_apply_ok vrd vtr vsd vom voh vol vop voe vow vok vos vso vmi vco vex p0 p1 p2 p3) (hs : S_X3_apply_ok vrd vtr vsd vom voh vol vop voe vow vok vos vso vmi vco vex p0 p1 p2 p3) : XT l D (xty cR cI cJ cZ) t0 sv yX3_apply cX3_apply 5 none rm_X3_apply 4 [.ref ax, .int p0, .int p1, .int p2, .int p3] none none (xw cR ax ar ao ad vrd vtr vsd vrn vom voh vol vop voe vow vok vos vso vmi vco vex) (xw cR ax ar ao ad vrd vtr u.1 u.2.1 u.2.2.1 u.2.2.2.1 u.2.2.2.2.1 u.2.2.2.2.2.1 u.2.2.2.2.2.2.1 u.2.2.2.2.2.2.2.1 u.2.2.2.2.2.2.2.2.1 u.2.2.2.2.2.2.2.2.2.1 u.2.2.2.2.2.2.2.2.2.2.1 u.2.2.2.2.2.2.2.2.2.2.2.1 u.2.2.2.2.2.2.2.2.2.2.2.2.1 u.2.2.2.2.2.2.2.2.2.2.2.2.2) := by
  refine XT.of (by decide) (Nat.le_of_ble_eq_true rfl) ?_
  intro p e s m args below meth c A Q F hnt hK hP hD hA hY hS hQ ls hl
  have hSt := hY.1
  obtain ⟨hx, hb, hr, hts, hown, hlocks, hml⟩ := F
  have hCF : CallFix p m c cX3_apply 5 s args gW RX3 := ⟨hx, hb, hml, hown, hts⟩
  unfold S_X3_apply_ok at hs
  have hu := rF_X3_apply_ok vrd vtr vsd vom voh vol vop voe vow vok vos vso vmi vco vex p0 p1 p2 p3 hu
  unfold RF_X3_apply_ok at hu
  obtain ⟨H, eH⟩ : ∃ y9 : Heap, y9 = s.heap := ⟨_, rfl⟩
  obtain ⟨locs, eL⟩ : ∃ y9 : List Loc, y9 = [] := ⟨_, rfl⟩
  rw [← eL] at hS ⊢
  have hP : va_P D vwCl (xw cR ax ar ao ad vrd vtr vsd vrn vom voh vol vop voe vow vok vos vso vmi vco vex) H := by rw [eH]; exact hP
  have hS : va_S A s.heap H locs := by rw [eH]; exact hS
  suffices goal9 : W p l e rm_X3_apply s m args below meth c H locs 0 0 Q (F0 m 0 ls []) from by rw [← eH]; exact goal9
  have hl : lv_has ls 5 [(0, .ref ax), (1, .int p0), (2, .int p1), (3, .int p2), (4, .int p3)] := hl
  refine lv_iload_n hx hb dX3_apply_0 rfl (lv_at hl 2 rfl) ?_
  obtain ⟨h_101, hs⟩ := hs
  refine y_nok (As := [.int p1]) (rest := []) hCF (c_X3_needRegister_ok l hl0 D cR cI cJ cZ t0 sv p1 h_101) (y_cwS 1 hts (inW_4 _ (List.mem_of_getElem? (i := 32) rfl)) (inW_4 _ (List.mem_of_getElem? (i := 33) rfl)) (inW_1 _ (List.mem_of_getElem? (i := 25) rfl)) (inW_4 _ (List.mem_of_getElem? (i := 34) rfl)) rfl rfl (by decide +kernel) ⟨Nat.le_of_ble_eq_true rfl, Nat.le_of_ble_eq_true rfl⟩) hK hP hD hS hA hY rfl hl.1 rfl (Nat.le_of_ble_eq_true rfl) dX3_apply_1 ⟨Nat.le_of_ble_eq_true rfl, Nat.le_of_ble_eq_true rfl⟩ (fun H locs hP hD hS => ?_)
  show W p l e _ s m args below meth c H locs 1 6 Q (F0 m 4 ls [])
  refine lv_iload_n hx hb dX3_apply_4 rfl (lv_at hl 3 rfl) ?_
  obtain ⟨h_103, hs⟩ := hs
  refine y_nok (As := [.int p2]) (rest := []) hCF (c_X3_needRegister_ok l hl0 D cR cI cJ cZ t0 sv p2 h_103) (y_cwS 1 hts (inW_4 _ (List.mem_of_getElem? (i := 32) rfl)) (inW_4 _ (List.mem_of_getElem? (i := 33) rfl)) (inW_1 _ (List.mem_of_getElem? (i := 25) rfl)) (inW_4 _ (List.mem_of_getElem? (i := 34) rfl)) rfl rfl (by decide +kernel) ⟨Nat.le_of_ble_eq_true rfl, Nat.le_of_ble_eq_true rfl⟩) hK hP hD hS hA hY rfl hl.1 rfl (Nat.le_of_ble_eq_true rfl) dX3_apply_5 ⟨Nat.le_of_ble_eq_true rfl, Nat.le_of_ble_eq_true rfl⟩ (fun H locs hP hD hS => ?_)
  show W p l e _ s m args below meth c H locs 2 12 Q (F0 m 8 ls [])
  refine lv_iload hx hb dX3_apply_8 (lv_at hl 4 rfl) ?_
  obtain ⟨h_105, hs⟩ := hs
  refine y_nok (As := [.int p3]) (rest := []) hCF (c_X3_needRegister_ok l hl0 D cR cI cJ cZ t0 sv p3 h_105) (y_cwS 1 hts (inW_4 _ (List.mem_of_getElem? (i := 32) rfl)) (inW_4 _ (List.mem_of_getElem? (i := 33) rfl)) (inW_1 _ (List.mem_of_getElem? (i := 25) rfl)) (inW_4 _ (List.mem_of_getElem? (i := 34) rfl)) rfl rfl (by decide +kernel) ⟨Nat.le_of_ble_eq_true rfl, Nat.le_of_ble_eq_true rfl⟩) hK hP hD hS hA hY rfl hl.1 rfl (Nat.le_of_ble_eq_true rfl) dX3_apply_10 ⟨Nat.le_of_ble_eq_true rfl, Nat.le_of_ble_eq_true rfl⟩ (fun H locs hP hD hS => ?_)
  show W p l e _ s m args below meth c H locs 3 18 Q (F0 m 13 ls [])
  refine lv_iload_n hx hb dX3_apply_13 rfl (lv_at hl 1 rfl) ?_
  obtain ⟨h_107, hs⟩ := hs
  refine lv_if_lt (tgt := 23) hx hb dX3_apply_14 (by decide) (fun c9 => absurd c9 h_107) (fun _ => ?_)
  refine lv_iload_n hx hb dX3_apply_17 rfl (lv_at hl 1 rfl) ?_
  refine lv_bipush (v := 6) hx hb dX3_apply_18 (by decide) ?_
  obtain ⟨h_108, hs⟩ := hs
  refine lv_icmp_le (tgt := 33) hx hb dX3_apply_20 (by decide) (fun _ => ?_) (fun c9 => absurd h_108 c9)
  refine lv_aload_n hx hb dX3_apply_33 rfl (lv_at hl 0 rfl) ?_
  refine lv_iload_n hx hb dX3_apply_34 rfl (lv_at hl 1 rfl) ?_
  refine lv_iload_n hx hb dX3_apply_35 rfl (lv_at hl 2 rfl) ?_
  refine lv_iload_n hx hb dX3_apply_36 rfl (lv_at hl 3 rfl) ?_
  refine lv_iload hx hb dX3_apply_37 (lv_at hl 4 rfl) ?_
  obtain ⟨h_109, hs⟩ := hs
  obtain ⟨u110, eu110⟩ : ∃ y9 : Bool × Int32 × Int32 × Bool × Int64 × Int64 × Int32 × Bool × Int32 × Int64 × Int32 × (Nat → Int32) × (Nat → Bool) × (Nat → Int64) × (Nat → Int32), y9 = F_X3_operate vrd vtr vsd vom voh vol vop voe vow vok vos vso vmi vco vex p0 p1 p2 p3 := ⟨_, rfl⟩
  have hs := hs _ eu110
  have hu := hu _ eu110
  refine x_V (As := [.int p0, .int p1, .int p2, .int p3]) (rest := []) hCF (c_X3_operate l D cR cI cJ cZ t0 ax ar ao ad vrd vtr vsd vrn vom voh vol vop voe vow vok vos vso vmi vco vex p0 p1 p2 p3 u110 eu110 h_109) (x_cwV 4 hts (inW_5 _ (List.mem_of_getElem? (i := 1) rfl)) (inW_5 _ (List.mem_of_getElem? (i := 2) rfl)) (inW_5 _ (List.mem_of_getElem? (i := 3) rfl)) (inW_1 _ (List.mem_of_getElem? (i := 25) rfl)) (inW_5 _ (List.mem_of_getElem? (i := 4) rfl)) rfl rfl (by decide +kernel) ⟨Nat.le_of_ble_eq_true rfl, Nat.le_of_ble_eq_true rfl⟩) hK hP hD hS hA hSt 0 rfl rfl rfl hl.1 rfl (Nat.le_of_ble_eq_true rfl) dX3_apply_39 ⟨Nat.le_of_ble_eq_true rfl, Nat.le_of_ble_eq_true rfl⟩ (fun H locs hP hD hS => ?_)
  show W p l e _ s m args below meth c H locs 3 18 Q (F0 m 42 ls (.int (bI u110.1) :: []))
  have h_112 := hs
  refine xb_ne (tgt := 55) hx hb dX3_apply_42 (by decide) (fun _ => ?_) (fun c9 => absurd h_112 c9)
  have e9 := Eq.symm hu; subst e9
  exact y_vret hx hb hr hlocks hQ hK hP hD hS rfl (Nat.le_of_ble_eq_true rfl) (Nat.le_of_ble_eq_true rfl) dX3_apply_55

def S_X3_pack_b0  (p0 : Int32) (p1 : Int32) : Prop := ¬ vp_in p0 8
def rm_X3_pack : Room := { frames := 7, cells := 2, slots := 12, locals := 110 }
set_option maxHeartbeats 4000000 in
set_option maxRecDepth 100000 in
theorem c_X3_pack_b0 (l : Launch) (hl0 : l.stackTraces = false) (D : va_G) (cR cI cJ cZ : ClassId) (t0 : Nat) (sv : Nat → Nat) (ax ar ao : Nat) (ad : Nat → Nat) (vrd : Int32) (vtr : Int32) (vsd : Int32) (vrn : Int32) (vom : Bool) (voh : Int64) (vol : Int64) (vop : Int32) (voe : Bool) (vow : Int32) (vok : Int64) (vos : Int32) (vso : Nat → Int32) (vmi : Nat → Bool) (vco : Nat → Int64) (vex : Nat → Int32) (p0 : Int32) (p1 : Int32) (hs : S_X3_pack_b0 p0 p1) : XT l D (xty cR cI cJ cZ) t0 sv yX3_pack cX3_pack 3 (some .long) rm_X3_pack 2 [.ref ax, .int p0, .int p1] (some eIO) none (xw cR ax ar ao ad vrd vtr vsd vrn vom voh vol vop voe vow vok vos vso vmi vco vex) (xw cR ax ar ao ad vrd vtr vsd vrn vom voh vol vop voe vow vok vos vso vmi vco vex) := by
  refine XT.of (by decide) (Nat.le_of_ble_eq_true rfl) ?_
  intro p e s m args below meth c A Q F hnt hK hP hD hA hY hS hQ ls hl
  have hSt := hY.1
  obtain ⟨hx, hb, hr, hts, hown, hlocks, hml⟩ := F
  have hCF : CallFix p m c cX3_pack 3 s args gW RX3 := ⟨hx, hb, hml, hown, hts⟩
  unfold S_X3_pack_b0 at hs
  obtain ⟨H, eH⟩ : ∃ y9 : Heap, y9 = s.heap := ⟨_, rfl⟩
  obtain ⟨locs, eL⟩ : ∃ y9 : List Loc, y9 = [] := ⟨_, rfl⟩
  rw [← eL] at hS ⊢
  have hP : va_P D vwCl (xw cR ax ar ao ad vrd vtr vsd vrn vom voh vol vop voe vow vok vos vso vmi vco vex) H := by rw [eH]; exact hP
  have hS : va_S A s.heap H locs := by rw [eH]; exact hS
  suffices goal9 : W p l e rm_X3_pack s m args below meth c H locs 0 0 Q (F0 m 0 ls []) from by rw [← eH]; exact goal9
  have hl : lv_has ls 3 [(0, .ref ax), (1, .int p0), (2, .int p1)] := hl
  refine lv_iload_n hx hb dX3_pack_0 rfl (lv_at hl 1 rfl) ?_
  have h_101 := hs
  exact y_nbad (As := [.int p0]) (rest := []) hCF (c_X3_needRegister_bad l hl0 D cR cI cJ cZ t0 sv p0 h_101) (y_cwS 1 hts (inW_4 _ (List.mem_of_getElem? (i := 32) rfl)) (inW_4 _ (List.mem_of_getElem? (i := 33) rfl)) (inW_1 _ (List.mem_of_getElem? (i := 25) rfl)) (inW_4 _ (List.mem_of_getElem? (i := 34) rfl)) rfl rfl (by decide +kernel) ⟨Nat.le_of_ble_eq_true rfl, Nat.le_of_ble_eq_true rfl⟩) hK hP hD hS hA hY rfl hl.1 rfl (Nat.le_of_ble_eq_true rfl) dX3_pack_1 ⟨Nat.le_of_ble_eq_true rfl, Nat.le_of_ble_eq_true rfl⟩ hnt hlocks hQ rfl (Nat.le_of_ble_eq_true rfl) (Nat.le_of_ble_eq_true rfl)

def S_X3_pack_b1  (p0 : Int32) (p1 : Int32) : Prop := (vp_in p0 8) ∧ ¬ vp_in p1 2
set_option maxHeartbeats 4000000 in
set_option maxRecDepth 100000 in
theorem c_X3_pack_b1 (l : Launch) (hl0 : l.stackTraces = false) (D : va_G) (cR cI cJ cZ : ClassId) (t0 : Nat) (sv : Nat → Nat) (ax ar ao : Nat) (ad : Nat → Nat) (vrd : Int32) (vtr : Int32) (vsd : Int32) (vrn : Int32) (vom : Bool) (voh : Int64) (vol : Int64) (vop : Int32) (voe : Bool) (vow : Int32) (vok : Int64) (vos : Int32) (vso : Nat → Int32) (vmi : Nat → Bool) (vco : Nat → Int64) (vex : Nat → Int32) (p0 : Int32) (p1 : Int32) (hs : S_X3_pack_b1 p0 p1) : XT l D (xty cR cI cJ cZ) t0 sv yX3_pack cX3_pack 3 (some .long) rm_X3_pack 2 [.ref ax, .int p0, .int p1] (some eIA) none (xw cR ax ar ao ad vrd vtr vsd vrn vom voh vol vop voe vow vok vos vso vmi vco vex) (xw cR ax ar ao ad vrd vtr vsd vrn vom voh vol vop voe vow vok vos vso vmi vco vex) := by
  refine XT.of (by decide) (Nat.le_of_ble_eq_true rfl) ?_
  intro p e s m args below meth c A Q F hnt hK hP hD hA hY hS hQ ls hl
  have hSt := hY.1
  obtain ⟨hx, hb, hr, hts, hown, hlocks, hml⟩ := F
  have hCF : CallFix p m c cX3_pack 3 s args gW RX3 := ⟨hx, hb, hml, hown, hts⟩
  unfold S_X3_pack_b1 at hs
  obtain ⟨H, eH⟩ : ∃ y9 : Heap, y9 = s.heap := ⟨_, rfl⟩
  obtain ⟨locs, eL⟩ : ∃ y9 : List Loc, y9 = [] := ⟨_, rfl⟩
  rw [← eL] at hS ⊢
  have hP : va_P D vwCl (xw cR ax ar ao ad vrd vtr vsd vrn vom voh vol vop voe vow vok vos vso vmi vco vex) H := by rw [eH]; exact hP
  have hS : va_S A s.heap H locs := by rw [eH]; exact hS
  suffices goal9 : W p l e rm_X3_pack s m args below meth c H locs 0 0 Q (F0 m 0 ls []) from by rw [← eH]; exact goal9
  have hl : lv_has ls 3 [(0, .ref ax), (1, .int p0), (2, .int p1)] := hl
  refine lv_iload_n hx hb dX3_pack_0 rfl (lv_at hl 1 rfl) ?_
  obtain ⟨h_101, hs⟩ := hs
  refine y_nok (As := [.int p0]) (rest := []) hCF (c_X3_needRegister_ok l hl0 D cR cI cJ cZ t0 sv p0 h_101) (y_cwS 1 hts (inW_4 _ (List.mem_of_getElem? (i := 32) rfl)) (inW_4 _ (List.mem_of_getElem? (i := 33) rfl)) (inW_1 _ (List.mem_of_getElem? (i := 25) rfl)) (inW_4 _ (List.mem_of_getElem? (i := 34) rfl)) rfl rfl (by decide +kernel) ⟨Nat.le_of_ble_eq_true rfl, Nat.le_of_ble_eq_true rfl⟩) hK hP hD hS hA hY rfl hl.1 rfl (Nat.le_of_ble_eq_true rfl) dX3_pack_1 ⟨Nat.le_of_ble_eq_true rfl, Nat.le_of_ble_eq_true rfl⟩ (fun H locs hP hD hS => ?_)
  show W p l e _ s m args below meth c H locs 1 6 Q (F0 m 4 ls [])
  refine lv_iload_n hx hb dX3_pack_4 rfl (lv_at hl 2 rfl) ?_
  have h_103 := hs
  exact y_nbad (As := [.int p1]) (rest := []) hCF (c_X3_needWay_bad l hl0 D cR cI cJ cZ t0 sv p1 h_103) (y_cwS 1 hts (inW_8 _ (List.mem_of_getElem? (i := 13) rfl)) (inW_8 _ (List.mem_of_getElem? (i := 14) rfl)) (inW_1 _ (List.mem_of_getElem? (i := 25) rfl)) (inW_8 _ (List.mem_of_getElem? (i := 15) rfl)) rfl rfl (by decide +kernel) ⟨Nat.le_of_ble_eq_true rfl, Nat.le_of_ble_eq_true rfl⟩) hK hP hD hS hA hY rfl hl.1 rfl (Nat.le_of_ble_eq_true rfl) dX3_pack_5 ⟨Nat.le_of_ble_eq_true rfl, Nat.le_of_ble_eq_true rfl⟩ hnt hlocks hQ rfl (Nat.le_of_ble_eq_true rfl) (Nat.le_of_ble_eq_true rfl)

def Z_X3_pack_ok_J_108 (p1 : Int32) : Bool := (if p1 = 1 then true else false)
def RZ_X3_pack_ok_J_108 (p1 : Int32) (u9 : Bool) : Prop := (if p1 = 1 then u9 = true else u9 = false)
theorem rZ_X3_pack_ok_J_108 (p1 : Int32) {u9 : Bool} (hu : u9 = Z_X3_pack_ok_J_108 p1) : RZ_X3_pack_ok_J_108 p1 u9 := by
  unfold RZ_X3_pack_ok_J_108
  refine ite_P (fun c_105 => ?_) (fun c_105 => ?_)
  · have hu := hu.trans (if_pos c_105)
    exact hu
  · have hu := hu.trans (if_neg c_105)
    exact hu
def F_X3_pack_ok (vso : Nat → Int32) (vmi : Nat → Bool) (vco : Nat → Int64) (vex : Nat → Int32) (p0 : Int32) (p1 : Int32) : Int64 := (bnd (Z_X3_pack_ok_J_108 p1) (fun z107 : Bool => F_X2_wordOf vso vmi vco vex (p0.toNatClampNeg) z107))
def RF_X3_pack_ok (vso : Nat → Int32) (vmi : Nat → Bool) (vco : Nat → Int64) (vex : Nat → Int32) (p0 : Int32) (p1 : Int32) (u9 : Int64) : Prop := (∀ z107 : Bool, z107 = Z_X3_pack_ok_J_108 p1 → u9 = F_X2_wordOf vso vmi vco vex (p0.toNatClampNeg) z107)
theorem rF_X3_pack_ok (vso : Nat → Int32) (vmi : Nat → Bool) (vco : Nat → Int64) (vex : Nat → Int32) (p0 : Int32) (p1 : Int32) {u9 : Int64} (hu : u9 = F_X3_pack_ok vso vmi vco vex p0 p1) : RF_X3_pack_ok vso vmi vco vex p0 p1 u9 := by
  unfold RF_X3_pack_ok
  intro z107 ez107
  have hu := bnd_n hu ez107
  exact hu
def S_X3_pack_ok (vso : Nat → Int32) (vmi : Nat → Bool) (vco : Nat → Int64) (vex : Nat → Int32) (p0 : Int32) (p1 : Int32) : Prop := (vp_in p0 8) ∧ (vp_in p1 2) ∧ (∀ z107 : Bool, z107 = Z_X3_pack_ok_J_108 p1 → S_X2_wordOf vso vmi vco vex (p0.toNatClampNeg) z107)
set_option maxHeartbeats 4000000 in
set_option maxRecDepth 100000 in
theorem c_X3_pack_ok (l : Launch) (hl0 : l.stackTraces = false) (D : va_G) (cR cI cJ cZ : ClassId) (t0 : Nat) (sv : Nat → Nat) (ax ar ao : Nat) (ad : Nat → Nat) (vrd : Int32) (vtr : Int32) (vsd : Int32) (vrn : Int32) (vom : Bool) (voh : Int64) (vol : Int64) (vop : Int32) (voe : Bool) (vow : Int32) (vok : Int64) (vos : Int32) (vso : Nat → Int32) (vmi : Nat → Bool) (vco : Nat → Int64) (vex : Nat → Int32) (p0 : Int32) (p1 : Int32) (u : Int64) (hu : u = F_X3_pack_ok vso vmi vco vex p0 p1) (hs : S_X3_pack_ok vso vmi vco vex p0 p1) : XT l D (xty cR cI cJ cZ) t0 sv yX3_pack cX3_pack 3 (some .long) rm_X3_pack 2 [.ref ax, .int p0, .int p1] none (some (.long u)) (xw cR ax ar ao ad vrd vtr vsd vrn vom voh vol vop voe vow vok vos vso vmi vco vex) (xw cR ax ar ao ad vrd vtr vsd vrn vom voh vol vop voe vow vok vos vso vmi vco vex) := by
  refine XT.of (by decide) (Nat.le_of_ble_eq_true rfl) ?_
  intro p e s m args below meth c A Q F hnt hK hP hD hA hY hS hQ ls hl
  have hSt := hY.1
  obtain ⟨hx, hb, hr, hts, hown, hlocks, hml⟩ := F
  have hCF : CallFix p m c cX3_pack 3 s args gW RX3 := ⟨hx, hb, hml, hown, hts⟩
  unfold S_X3_pack_ok at hs
  have hu := rF_X3_pack_ok vso vmi vco vex p0 p1 hu
  unfold RF_X3_pack_ok at hu
  obtain ⟨H, eH⟩ : ∃ y9 : Heap, y9 = s.heap := ⟨_, rfl⟩
  obtain ⟨locs, eL⟩ : ∃ y9 : List Loc, y9 = [] := ⟨_, rfl⟩
  rw [← eL] at hS ⊢
  have hP : va_P D vwCl (xw cR ax ar ao ad vrd vtr vsd vrn vom voh vol vop voe vow vok vos vso vmi vco vex) H := by rw [eH]; exact hP
  have hS : va_S A s.heap H locs := by rw [eH]; exact hS
  suffices goal9 : W p l e rm_X3_pack s m args below meth c H locs 0 0 Q (F0 m 0 ls []) from by rw [← eH]; exact goal9
  have hl : lv_has ls 3 [(0, .ref ax), (1, .int p0), (2, .int p1)] := hl
  have hi3 : ∀ w ∈ wsX30, w ∈ gW := inW_X3
  refine lv_iload_n hx hb dX3_pack_0 rfl (lv_at hl 1 rfl) ?_
  obtain ⟨h_101, hs⟩ := hs
  refine y_nok (As := [.int p0]) (rest := []) hCF (c_X3_needRegister_ok l hl0 D cR cI cJ cZ t0 sv p0 h_101) (y_cwS 1 hts (inW_4 _ (List.mem_of_getElem? (i := 32) rfl)) (inW_4 _ (List.mem_of_getElem? (i := 33) rfl)) (inW_1 _ (List.mem_of_getElem? (i := 25) rfl)) (inW_4 _ (List.mem_of_getElem? (i := 34) rfl)) rfl rfl (by decide +kernel) ⟨Nat.le_of_ble_eq_true rfl, Nat.le_of_ble_eq_true rfl⟩) hK hP hD hS hA hY rfl hl.1 rfl (Nat.le_of_ble_eq_true rfl) dX3_pack_1 ⟨Nat.le_of_ble_eq_true rfl, Nat.le_of_ble_eq_true rfl⟩ (fun H locs hP hD hS => ?_)
  show W p l e _ s m args below meth c H locs 1 6 Q (F0 m 4 ls [])
  refine lv_iload_n hx hb dX3_pack_4 rfl (lv_at hl 2 rfl) ?_
  obtain ⟨h_103, hs⟩ := hs
  refine y_nok (As := [.int p1]) (rest := []) hCF (c_X3_needWay_ok l hl0 D cR cI cJ cZ t0 sv p1 h_103) (y_cwS 1 hts (inW_8 _ (List.mem_of_getElem? (i := 13) rfl)) (inW_8 _ (List.mem_of_getElem? (i := 14) rfl)) (inW_1 _ (List.mem_of_getElem? (i := 25) rfl)) (inW_8 _ (List.mem_of_getElem? (i := 15) rfl)) rfl rfl (by decide +kernel) ⟨Nat.le_of_ble_eq_true rfl, Nat.le_of_ble_eq_true rfl⟩) hK hP hD hS hA hY rfl hl.1 rfl (Nat.le_of_ble_eq_true rfl) dX3_pack_5 ⟨Nat.le_of_ble_eq_true rfl, Nat.le_of_ble_eq_true rfl⟩ (fun H locs hP hD hS => ?_)
  show W p l e _ s m args below meth c H locs 2 12 Q (F0 m 8 ls [])
  refine lv_aload_n hx hb dX3_pack_8 rfl (lv_at hl 0 rfl) ?_
  refine va_get (D := D) (ci := 4) (v := .ref ar) (C := RX3) (T := TX3) (N := 7) hx hb hts hi3 hown hK hP 0 rfl rfl 0 (by decide) (hts (.fieldLink RX3 11 "DecimalWords" "registers" "[LDecimalWords$Datum;") (inW_4 _ (List.mem_of_getElem? (i := 16) rfl))) (fun _ h9 => h9) rfl dX3_pack_9 ?_
  refine lv_iload_n hx hb dX3_pack_12 rfl (lv_at hl 1 rfl) ?_
  refine x_aald hx hb hK hP h_101 dX3_pack_13 ?_
  refine lv_iload_n hx hb dX3_pack_14 rfl (lv_at hl 2 rfl) ?_
  refine lv_iconst (v := 1) hx hb dX3_pack_15 (by decide) ?_
  have J_108 : (∀ z107 : Bool, z107 = Z_X3_pack_ok_J_108 p1 → ∀ (H : Heap) (locs : List Loc), va_P D vwCl (xw cR ax ar ao ad vrd vtr vsd vrn vom voh vol vop voe vow vok vos vso vmi vco vex) H → va_D A (xw cR ax ar ao ad vrd vtr vsd vrn vom voh vol vop voe vow vok vos vso vmi vco vex) → va_S A s.heap H locs → ∀ ls : Array Slot, lv_has ls 3 [] → W p l e rm_X3_pack s m args below meth c H locs 2 12 Q (F0 m 24 ls [.int (bI z107), .ref (ad (p0.toNatClampNeg))])) := by
    intro z107 ez107 H locs hP hD hS ls hl
    have hs := hs _ ez107
    have hu := hu _ ez107
    have h_109 := hs
    refine x_S (As := [.ref (ad (p0.toNatClampNeg)), .int (bI z107)]) (rest := []) hCF (c_X2_wordOf l D cR cI cJ cZ t0 ax ar ao ad vrd vtr vsd vrn vom voh vol vop voe vow vok vos vso vmi vco vex (p0.toNatClampNeg) z107 _ rfl h_109 (vp_lt9 h_101)) (x_cwS 2 hts (inW_8 _ (List.mem_of_getElem? (i := 16) rfl)) (inW_8 _ (List.mem_of_getElem? (i := 17) rfl)) (inW_3 _ (List.mem_of_getElem? (i := 5) rfl)) (inW_2 _ (List.mem_of_getElem? (i := 35) rfl)) rfl rfl (by decide +kernel) ⟨Nat.le_of_ble_eq_true rfl, Nat.le_of_ble_eq_true rfl⟩) hK hP hD hS hA hSt rfl hl.1 rfl (Nat.le_of_ble_eq_true rfl) dX3_pack_24 ⟨Nat.le_of_ble_eq_true rfl, Nat.le_of_ble_eq_true rfl⟩ (fun H locs hP hD hS => ?_)
    show W p l e _ s m args below meth c H locs 2 12 Q (F0 m 27 ls (.long (F_X2_wordOf vso vmi vco vex (p0.toNatClampNeg) z107) :: []))
    have e9 := Eq.symm hu; subst e9
    exact y_lret hx hb hr hlocks hQ hK hP hD hS rfl (Nat.le_of_ble_eq_true rfl) (Nat.le_of_ble_eq_true rfl) rfl dX3_pack_27
  obtain ⟨z9, ez9⟩ : ∃ y9 : Bool, y9 = Z_X3_pack_ok_J_108 p1 := ⟨_, rfl⟩
  have hz := rZ_X3_pack_ok_J_108 p1 ez9
  unfold RZ_X3_pack_ok_J_108 at hz
  refine lv_icmp_ne (tgt := 23) hx hb dX3_pack_16 (by decide) (fun c_105 => ?_) (fun c_105 => ?_)
  · rw [if_neg c_105] at hz
    refine lv_iconst (v := 0) hx hb dX3_pack_23 (by decide) ?_
    have e9 := Eq.symm hz; subst e9
    exact J_108 _ ez9 H locs hP hD hS ls (lv_sub hl [] rfl)
  · rw [if_pos c_105] at hz
    refine lv_iconst (v := 1) hx hb dX3_pack_19 (by decide) ?_
    refine lv_goto (tgt := 24) hx hb dX3_pack_20 (by decide) ?_
    have e9 := Eq.symm hz; subst e9
    exact J_108 _ ez9 H locs hP hD hS ls (lv_sub hl [] rfl)

def S_X3_unpack_b0  (p0 : Int32) (p1 : Int32) (p2 : Int64) : Prop := ¬ vp_in p0 8
def rm_X3_unpack : Room := { frames := 7, cells := 2, slots := 12, locals := 121 }
set_option maxHeartbeats 4000000 in
set_option maxRecDepth 100000 in
theorem c_X3_unpack_b0 (l : Launch) (hl0 : l.stackTraces = false) (D : va_G) (cR cI cJ cZ : ClassId) (t0 : Nat) (sv : Nat → Nat) (ax ar ao : Nat) (ad : Nat → Nat) (vrd : Int32) (vtr : Int32) (vsd : Int32) (vrn : Int32) (vom : Bool) (voh : Int64) (vol : Int64) (vop : Int32) (voe : Bool) (vow : Int32) (vok : Int64) (vos : Int32) (vso : Nat → Int32) (vmi : Nat → Bool) (vco : Nat → Int64) (vex : Nat → Int32) (p0 : Int32) (p1 : Int32) (p2 : Int64) (hs : S_X3_unpack_b0 p0 p1 p2) : XT l D (xty cR cI cJ cZ) t0 sv yX3_unpack cX3_unpack 5 none rm_X3_unpack 2 [.ref ax, .int p0, .int p1, .long p2] (some eIO) none (xw cR ax ar ao ad vrd vtr vsd vrn vom voh vol vop voe vow vok vos vso vmi vco vex) (xw cR ax ar ao ad vrd vtr vsd vrn vom voh vol vop voe vow vok vos vso vmi vco vex) := by
  refine XT.of (by decide) (Nat.le_of_ble_eq_true rfl) ?_
  intro p e s m args below meth c A Q F hnt hK hP hD hA hY hS hQ ls hl
  have hSt := hY.1
  obtain ⟨hx, hb, hr, hts, hown, hlocks, hml⟩ := F
  have hCF : CallFix p m c cX3_unpack 5 s args gW RX3 := ⟨hx, hb, hml, hown, hts⟩
  unfold S_X3_unpack_b0 at hs
  obtain ⟨H, eH⟩ : ∃ y9 : Heap, y9 = s.heap := ⟨_, rfl⟩
  obtain ⟨locs, eL⟩ : ∃ y9 : List Loc, y9 = [] := ⟨_, rfl⟩
  rw [← eL] at hS ⊢
  have hP : va_P D vwCl (xw cR ax ar ao ad vrd vtr vsd vrn vom voh vol vop voe vow vok vos vso vmi vco vex) H := by rw [eH]; exact hP
  have hS : va_S A s.heap H locs := by rw [eH]; exact hS
  suffices goal9 : W p l e rm_X3_unpack s m args below meth c H locs 0 0 Q (F0 m 0 ls []) from by rw [← eH]; exact goal9
  have hl : lv_has ls 5 [(0, .ref ax), (1, .int p0), (2, .int p1), (3, .long p2)] := hl
  refine lv_iload_n hx hb dX3_unpack_0 rfl (lv_at hl 1 rfl) ?_
  have h_101 := hs
  exact y_nbad (As := [.int p0]) (rest := []) hCF (c_X3_needRegister_bad l hl0 D cR cI cJ cZ t0 sv p0 h_101) (y_cwS 1 hts (inW_4 _ (List.mem_of_getElem? (i := 32) rfl)) (inW_4 _ (List.mem_of_getElem? (i := 33) rfl)) (inW_1 _ (List.mem_of_getElem? (i := 25) rfl)) (inW_4 _ (List.mem_of_getElem? (i := 34) rfl)) rfl rfl (by decide +kernel) ⟨Nat.le_of_ble_eq_true rfl, Nat.le_of_ble_eq_true rfl⟩) hK hP hD hS hA hY rfl hl.1 rfl (Nat.le_of_ble_eq_true rfl) dX3_unpack_1 ⟨Nat.le_of_ble_eq_true rfl, Nat.le_of_ble_eq_true rfl⟩ hnt hlocks hQ rfl (Nat.le_of_ble_eq_true rfl) (Nat.le_of_ble_eq_true rfl)

def S_X3_unpack_b1  (p0 : Int32) (p1 : Int32) (p2 : Int64) : Prop := (vp_in p0 8) ∧ ¬ vp_in p1 2
set_option maxHeartbeats 4000000 in
set_option maxRecDepth 100000 in
theorem c_X3_unpack_b1 (l : Launch) (hl0 : l.stackTraces = false) (D : va_G) (cR cI cJ cZ : ClassId) (t0 : Nat) (sv : Nat → Nat) (ax ar ao : Nat) (ad : Nat → Nat) (vrd : Int32) (vtr : Int32) (vsd : Int32) (vrn : Int32) (vom : Bool) (voh : Int64) (vol : Int64) (vop : Int32) (voe : Bool) (vow : Int32) (vok : Int64) (vos : Int32) (vso : Nat → Int32) (vmi : Nat → Bool) (vco : Nat → Int64) (vex : Nat → Int32) (p0 : Int32) (p1 : Int32) (p2 : Int64) (hs : S_X3_unpack_b1 p0 p1 p2) : XT l D (xty cR cI cJ cZ) t0 sv yX3_unpack cX3_unpack 5 none rm_X3_unpack 2 [.ref ax, .int p0, .int p1, .long p2] (some eIA) none (xw cR ax ar ao ad vrd vtr vsd vrn vom voh vol vop voe vow vok vos vso vmi vco vex) (xw cR ax ar ao ad vrd vtr vsd vrn vom voh vol vop voe vow vok vos vso vmi vco vex) := by
  refine XT.of (by decide) (Nat.le_of_ble_eq_true rfl) ?_
  intro p e s m args below meth c A Q F hnt hK hP hD hA hY hS hQ ls hl
  have hSt := hY.1
  obtain ⟨hx, hb, hr, hts, hown, hlocks, hml⟩ := F
  have hCF : CallFix p m c cX3_unpack 5 s args gW RX3 := ⟨hx, hb, hml, hown, hts⟩
  unfold S_X3_unpack_b1 at hs
  obtain ⟨H, eH⟩ : ∃ y9 : Heap, y9 = s.heap := ⟨_, rfl⟩
  obtain ⟨locs, eL⟩ : ∃ y9 : List Loc, y9 = [] := ⟨_, rfl⟩
  rw [← eL] at hS ⊢
  have hP : va_P D vwCl (xw cR ax ar ao ad vrd vtr vsd vrn vom voh vol vop voe vow vok vos vso vmi vco vex) H := by rw [eH]; exact hP
  have hS : va_S A s.heap H locs := by rw [eH]; exact hS
  suffices goal9 : W p l e rm_X3_unpack s m args below meth c H locs 0 0 Q (F0 m 0 ls []) from by rw [← eH]; exact goal9
  have hl : lv_has ls 5 [(0, .ref ax), (1, .int p0), (2, .int p1), (3, .long p2)] := hl
  refine lv_iload_n hx hb dX3_unpack_0 rfl (lv_at hl 1 rfl) ?_
  obtain ⟨h_101, hs⟩ := hs
  refine y_nok (As := [.int p0]) (rest := []) hCF (c_X3_needRegister_ok l hl0 D cR cI cJ cZ t0 sv p0 h_101) (y_cwS 1 hts (inW_4 _ (List.mem_of_getElem? (i := 32) rfl)) (inW_4 _ (List.mem_of_getElem? (i := 33) rfl)) (inW_1 _ (List.mem_of_getElem? (i := 25) rfl)) (inW_4 _ (List.mem_of_getElem? (i := 34) rfl)) rfl rfl (by decide +kernel) ⟨Nat.le_of_ble_eq_true rfl, Nat.le_of_ble_eq_true rfl⟩) hK hP hD hS hA hY rfl hl.1 rfl (Nat.le_of_ble_eq_true rfl) dX3_unpack_1 ⟨Nat.le_of_ble_eq_true rfl, Nat.le_of_ble_eq_true rfl⟩ (fun H locs hP hD hS => ?_)
  show W p l e _ s m args below meth c H locs 1 6 Q (F0 m 4 ls [])
  refine lv_iload_n hx hb dX3_unpack_4 rfl (lv_at hl 2 rfl) ?_
  have h_103 := hs
  exact y_nbad (As := [.int p1]) (rest := []) hCF (c_X3_needWay_bad l hl0 D cR cI cJ cZ t0 sv p1 h_103) (y_cwS 1 hts (inW_8 _ (List.mem_of_getElem? (i := 13) rfl)) (inW_8 _ (List.mem_of_getElem? (i := 14) rfl)) (inW_1 _ (List.mem_of_getElem? (i := 25) rfl)) (inW_8 _ (List.mem_of_getElem? (i := 15) rfl)) rfl rfl (by decide +kernel) ⟨Nat.le_of_ble_eq_true rfl, Nat.le_of_ble_eq_true rfl⟩) hK hP hD hS hA hY rfl hl.1 rfl (Nat.le_of_ble_eq_true rfl) dX3_unpack_5 ⟨Nat.le_of_ble_eq_true rfl, Nat.le_of_ble_eq_true rfl⟩ hnt hlocks hQ rfl (Nat.le_of_ble_eq_true rfl) (Nat.le_of_ble_eq_true rfl)

def Z_X3_unpack_ok_J_108 (p1 : Int32) : Bool := (if p1 = 1 then true else false)
def RZ_X3_unpack_ok_J_108 (p1 : Int32) (u9 : Bool) : Prop := (if p1 = 1 then u9 = true else u9 = false)
theorem rZ_X3_unpack_ok_J_108 (p1 : Int32) {u9 : Bool} (hu : u9 = Z_X3_unpack_ok_J_108 p1) : RZ_X3_unpack_ok_J_108 p1 u9 := by
  unfold RZ_X3_unpack_ok_J_108
  refine ite_P (fun c_105 => ?_) (fun c_105 => ?_)
  · have hu := hu.trans (if_pos c_105)
    exact hu
  · have hu := hu.trans (if_neg c_105)
    exact hu
def F_X3_unpack_ok (vso : Nat → Int32) (vmi : Nat → Bool) (vco : Nat → Int64) (vex : Nat → Int32) (p0 : Int32) (p1 : Int32) (p2 : Int64) : (Nat → Int32) × (Nat → Bool) × (Nat → Int64) × (Nat → Int32) := (bnd (Z_X3_unpack_ok_J_108 p1) (fun z107 : Bool => (bnd (F_X2_read vso vmi vco vex (p0.toNatClampNeg) z107 p2) (fun u110 : (Nat → Int32) × (Nat → Bool) × (Nat → Int64) × (Nat → Int32) => (u110.1, u110.2.1, u110.2.2.1, u110.2.2.2)))))
def RF_X3_unpack_ok (vso : Nat → Int32) (vmi : Nat → Bool) (vco : Nat → Int64) (vex : Nat → Int32) (p0 : Int32) (p1 : Int32) (p2 : Int64) (u9 : (Nat → Int32) × (Nat → Bool) × (Nat → Int64) × (Nat → Int32)) : Prop := (∀ z107 : Bool, z107 = Z_X3_unpack_ok_J_108 p1 → (∀ u110 : (Nat → Int32) × (Nat → Bool) × (Nat → Int64) × (Nat → Int32), u110 = F_X2_read vso vmi vco vex (p0.toNatClampNeg) z107 p2 → u9 = (u110.1, u110.2.1, u110.2.2.1, u110.2.2.2)))
theorem rF_X3_unpack_ok (vso : Nat → Int32) (vmi : Nat → Bool) (vco : Nat → Int64) (vex : Nat → Int32) (p0 : Int32) (p1 : Int32) (p2 : Int64) {u9 : (Nat → Int32) × (Nat → Bool) × (Nat → Int64) × (Nat → Int32)} (hu : u9 = F_X3_unpack_ok vso vmi vco vex p0 p1 p2) : RF_X3_unpack_ok vso vmi vco vex p0 p1 p2 u9 := by
  unfold RF_X3_unpack_ok
  intro z107 ez107
  have hu := bnd_n hu ez107
  intro u110 eu110
  have hu := bnd_n hu eu110
  exact hu
def S_X3_unpack_ok (vso : Nat → Int32) (vmi : Nat → Bool) (vco : Nat → Int64) (vex : Nat → Int32) (p0 : Int32) (p1 : Int32) (p2 : Int64) : Prop := (vp_in p0 8) ∧ (vp_in p1 2) ∧ (∀ z107 : Bool, z107 = Z_X3_unpack_ok_J_108 p1 → S_X2_read vso vmi vco vex (p0.toNatClampNeg) z107 p2)
set_option maxHeartbeats 4000000 in
set_option maxRecDepth 100000 in
theorem c_X3_unpack_ok (l : Launch) (hl0 : l.stackTraces = false) (D : va_G) (cR cI cJ cZ : ClassId) (t0 : Nat) (sv : Nat → Nat) (ax ar ao : Nat) (ad : Nat → Nat) (vrd : Int32) (vtr : Int32) (vsd : Int32) (vrn : Int32) (vom : Bool) (voh : Int64) (vol : Int64) (vop : Int32) (voe : Bool) (vow : Int32) (vok : Int64) (vos : Int32) (vso : Nat → Int32) (vmi : Nat → Bool) (vco : Nat → Int64) (vex : Nat → Int32) (p0 : Int32) (p1 : Int32) (p2 : Int64) (u : (Nat → Int32) × (Nat → Bool) × (Nat → Int64) × (Nat → Int32)) (hu : u = F_X3_unpack_ok vso vmi vco vex p0 p1 p2) (hs : S_X3_unpack_ok vso vmi vco vex p0 p1 p2) : XT l D (xty cR cI cJ cZ) t0 sv yX3_unpack cX3_unpack 5 none rm_X3_unpack 2 [.ref ax, .int p0, .int p1, .long p2] none none (xw cR ax ar ao ad vrd vtr vsd vrn vom voh vol vop voe vow vok vos vso vmi vco vex) (xw cR ax ar ao ad vrd vtr vsd vrn vom voh vol vop voe vow vok vos u.1 u.2.1 u.2.2.1 u.2.2.2) := by
  refine XT.of (by decide) (Nat.le_of_ble_eq_true rfl) ?_
  intro p e s m args below meth c A Q F hnt hK hP hD hA hY hS hQ ls hl
  have hSt := hY.1
  obtain ⟨hx, hb, hr, hts, hown, hlocks, hml⟩ := F
  have hCF : CallFix p m c cX3_unpack 5 s args gW RX3 := ⟨hx, hb, hml, hown, hts⟩
  unfold S_X3_unpack_ok at hs
  have hu := rF_X3_unpack_ok vso vmi vco vex p0 p1 p2 hu
  unfold RF_X3_unpack_ok at hu
  obtain ⟨H, eH⟩ : ∃ y9 : Heap, y9 = s.heap := ⟨_, rfl⟩
  obtain ⟨locs, eL⟩ : ∃ y9 : List Loc, y9 = [] := ⟨_, rfl⟩
  rw [← eL] at hS ⊢
  have hP : va_P D vwCl (xw cR ax ar ao ad vrd vtr vsd vrn vom voh vol vop voe vow vok vos vso vmi vco vex) H := by rw [eH]; exact hP
  have hS : va_S A s.heap H locs := by rw [eH]; exact hS
  suffices goal9 : W p l e rm_X3_unpack s m args below meth c H locs 0 0 Q (F0 m 0 ls []) from by rw [← eH]; exact goal9
  have hl : lv_has ls 5 [(0, .ref ax), (1, .int p0), (2, .int p1), (3, .long p2)] := hl
  have hi3 : ∀ w ∈ wsX30, w ∈ gW := inW_X3
  refine lv_iload_n hx hb dX3_unpack_0 rfl (lv_at hl 1 rfl) ?_
  obtain ⟨h_101, hs⟩ := hs
  refine y_nok (As := [.int p0]) (rest := []) hCF (c_X3_needRegister_ok l hl0 D cR cI cJ cZ t0 sv p0 h_101) (y_cwS 1 hts (inW_4 _ (List.mem_of_getElem? (i := 32) rfl)) (inW_4 _ (List.mem_of_getElem? (i := 33) rfl)) (inW_1 _ (List.mem_of_getElem? (i := 25) rfl)) (inW_4 _ (List.mem_of_getElem? (i := 34) rfl)) rfl rfl (by decide +kernel) ⟨Nat.le_of_ble_eq_true rfl, Nat.le_of_ble_eq_true rfl⟩) hK hP hD hS hA hY rfl hl.1 rfl (Nat.le_of_ble_eq_true rfl) dX3_unpack_1 ⟨Nat.le_of_ble_eq_true rfl, Nat.le_of_ble_eq_true rfl⟩ (fun H locs hP hD hS => ?_)
  show W p l e _ s m args below meth c H locs 1 6 Q (F0 m 4 ls [])
  refine lv_iload_n hx hb dX3_unpack_4 rfl (lv_at hl 2 rfl) ?_
  obtain ⟨h_103, hs⟩ := hs
  refine y_nok (As := [.int p1]) (rest := []) hCF (c_X3_needWay_ok l hl0 D cR cI cJ cZ t0 sv p1 h_103) (y_cwS 1 hts (inW_8 _ (List.mem_of_getElem? (i := 13) rfl)) (inW_8 _ (List.mem_of_getElem? (i := 14) rfl)) (inW_1 _ (List.mem_of_getElem? (i := 25) rfl)) (inW_8 _ (List.mem_of_getElem? (i := 15) rfl)) rfl rfl (by decide +kernel) ⟨Nat.le_of_ble_eq_true rfl, Nat.le_of_ble_eq_true rfl⟩) hK hP hD hS hA hY rfl hl.1 rfl (Nat.le_of_ble_eq_true rfl) dX3_unpack_5 ⟨Nat.le_of_ble_eq_true rfl, Nat.le_of_ble_eq_true rfl⟩ (fun H locs hP hD hS => ?_)
  show W p l e _ s m args below meth c H locs 2 12 Q (F0 m 8 ls [])
  refine lv_aload_n hx hb dX3_unpack_8 rfl (lv_at hl 0 rfl) ?_
  refine va_get (D := D) (ci := 4) (v := .ref ar) (C := RX3) (T := TX3) (N := 7) hx hb hts hi3 hown hK hP 0 rfl rfl 0 (by decide) (hts (.fieldLink RX3 11 "DecimalWords" "registers" "[LDecimalWords$Datum;") (inW_4 _ (List.mem_of_getElem? (i := 16) rfl))) (fun _ h9 => h9) rfl dX3_unpack_9 ?_
  refine lv_iload_n hx hb dX3_unpack_12 rfl (lv_at hl 1 rfl) ?_
  refine x_aald hx hb hK hP h_101 dX3_unpack_13 ?_
  refine lv_iload_n hx hb dX3_unpack_14 rfl (lv_at hl 2 rfl) ?_
  refine lv_iconst (v := 1) hx hb dX3_unpack_15 (by decide) ?_
  have J_108 : (∀ z107 : Bool, z107 = Z_X3_unpack_ok_J_108 p1 → ∀ (H : Heap) (locs : List Loc), va_P D vwCl (xw cR ax ar ao ad vrd vtr vsd vrn vom voh vol vop voe vow vok vos vso vmi vco vex) H → va_D A (xw cR ax ar ao ad vrd vtr vsd vrn vom voh vol vop voe vow vok vos vso vmi vco vex) → va_S A s.heap H locs → ∀ ls : Array Slot, lv_has ls 5 [(3, .long p2)] → W p l e rm_X3_unpack s m args below meth c H locs 2 12 Q (F0 m 24 ls [.int (bI z107), .ref (ad (p0.toNatClampNeg))])) := by
    intro z107 ez107 H locs hP hD hS ls hl
    have hs := hs _ ez107
    have hu := hu _ ez107
    refine lv_lload_n hx hb dX3_unpack_24 rfl (lv_at hl 0 rfl) ?_
    have h_109 := hs
    obtain ⟨u110, eu110⟩ : ∃ y9 : (Nat → Int32) × (Nat → Bool) × (Nat → Int64) × (Nat → Int32), y9 = F_X2_read vso vmi vco vex (p0.toNatClampNeg) z107 p2 := ⟨_, rfl⟩
    have hu := hu _ eu110
    refine x_S (As := [.ref (ad (p0.toNatClampNeg)), .int (bI z107), .long p2]) (rest := []) hCF (c_X2_read l D cR cI cJ cZ t0 ax ar ao ad vrd vtr vsd vrn vom voh vol vop voe vow vok vos vso vmi vco vex (p0.toNatClampNeg) z107 p2 u110 eu110 h_109 (vp_lt9 h_101)) (x_cwS 3 hts (inW_8 _ (List.mem_of_getElem? (i := 19) rfl)) (inW_8 _ (List.mem_of_getElem? (i := 20) rfl)) (inW_3 _ (List.mem_of_getElem? (i := 5) rfl)) (inW_3 _ (List.mem_of_getElem? (i := 20) rfl)) rfl rfl (by decide +kernel) ⟨Nat.le_of_ble_eq_true rfl, Nat.le_of_ble_eq_true rfl⟩) hK hP hD hS hA hSt rfl hl.1 rfl (Nat.le_of_ble_eq_true rfl) dX3_unpack_25 ⟨Nat.le_of_ble_eq_true rfl, Nat.le_of_ble_eq_true rfl⟩ (fun H locs hP hD hS => ?_)
    show W p l e _ s m args below meth c H locs 2 12 Q (F0 m 28 ls [])
    have e9 := Eq.symm hu; subst e9
    exact y_vret hx hb hr hlocks hQ hK hP hD hS rfl (Nat.le_of_ble_eq_true rfl) (Nat.le_of_ble_eq_true rfl) dX3_unpack_28
  obtain ⟨z9, ez9⟩ : ∃ y9 : Bool, y9 = Z_X3_unpack_ok_J_108 p1 := ⟨_, rfl⟩
  have hz := rZ_X3_unpack_ok_J_108 p1 ez9
  unfold RZ_X3_unpack_ok_J_108 at hz
  refine lv_icmp_ne (tgt := 23) hx hb dX3_unpack_16 (by decide) (fun c_105 => ?_) (fun c_105 => ?_)
  · rw [if_neg c_105] at hz
    refine lv_iconst (v := 0) hx hb dX3_unpack_23 (by decide) ?_
    have e9 := Eq.symm hz; subst e9
    exact J_108 _ ez9 H locs hP hD hS ls (lv_sub hl [3] rfl)
  · rw [if_pos c_105] at hz
    refine lv_iconst (v := 1) hx hb dX3_unpack_19 (by decide) ?_
    refine lv_goto (tgt := 24) hx hb dX3_unpack_20 (by decide) ?_
    have e9 := Eq.symm hz; subst e9
    exact J_108 _ ez9 H locs hP hD hS ls (lv_sub hl [3] rfl)
