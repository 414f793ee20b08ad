def S_X3_put_b0  (p0 : Int32) (p1 : Bool) (p2 : Int64) (p3 : Int32) : Prop := ¬ vp_in p0 8
def rm_X3_put : Room := { frames := 7, cells := 2, slots := 12, locals := 110 }
set_option maxHeartbeats 4000000 in
set_option maxRecDepth 100000 in
theorem c_X3_put_b0 (l : Launch) (hl0 : l.stackTraces = false) (D : va_G) (cR cI cJ cZ : ClassId) (t0 : Nat) (sv : Nat → Nat) (ax ar ao : Nat) (ad : Nat → Nat) (vrd : Int32) (vtr : Int32) (vsd : Int32) (vrn : Int32) (vom : Bool) (voh : Int64) (vol : Int64) (vop : Int32) (voe : Bool) (vow : Int32) (vok : Int64) (vos : Int32) (vso : Nat → Int32) (vmi : Nat → Bool) (vco : Nat → Int64) (vex : Nat → Int32) (p0 : Int32) (p1 : Bool) (p2 : Int64) (p3 : Int32) (hs : S_X3_put_b0 p0 p1 p2 p3) : XT l D (xty cR cI cJ cZ) t0 sv yX3_put cX3_put 6 none rm_X3_put 2 [.ref ax, .int p0, .int (bI p1), .long p2, .int p3] (some eIO) none (xw cR ax ar ao ad vrd vtr vsd vrn vom voh vol vop voe vow vok vos vso vmi vco vex) (xw cR ax ar ao ad vrd vtr vsd vrn vom voh vol vop voe vow vok vos vso vmi vco vex) := by
  refine XT.of (by decide) (Nat.le_of_ble_eq_true rfl) ?_
  intro p e s m args below meth c A Q F hnt hK hP hD hA hY hS hQ ls hl
  have hSt := hY.1
  obtain ⟨hx, hb, hr, hts, hown, hlocks, hml⟩ := F
  have hCF : CallFix p m c cX3_put 6 s args gW RX3 := ⟨hx, hb, hml, hown, hts⟩
  unfold S_X3_put_b0 at hs
  obtain ⟨H, eH⟩ : ∃ y9 : Heap, y9 = s.heap := ⟨_, rfl⟩
  obtain ⟨locs, eL⟩ : ∃ y9 : List Loc, y9 = [] := ⟨_, rfl⟩
  rw [← eL] at hS ⊢
  have hP : va_P D vwCl (xw cR ax ar ao ad vrd vtr vsd vrn vom voh vol vop voe vow vok vos vso vmi vco vex) H := by rw [eH]; exact hP
  have hS : va_S A s.heap H locs := by rw [eH]; exact hS
  suffices goal9 : W p l e rm_X3_put s m args below meth c H locs 0 0 Q (F0 m 0 ls []) from by rw [← eH]; exact goal9
  have hl : lv_has ls 6 [(0, .ref ax), (1, .int p0), (2, .int (bI p1)), (3, .long p2), (5, .int p3)] := hl
  refine lv_iload_n hx hb dX3_put_0 rfl (lv_at hl 1 rfl) ?_
  have h_101 := hs
  exact y_nbad (As := [.int p0]) (rest := []) hCF (c_X3_needRegister_bad l hl0 D cR cI cJ cZ t0 sv p0 h_101) (y_cwS 1 hts (inW_4 _ (List.mem_of_getElem? (i := 32) rfl)) (inW_4 _ (List.mem_of_getElem? (i := 33) rfl)) (inW_1 _ (List.mem_of_getElem? (i := 25) rfl)) (inW_4 _ (List.mem_of_getElem? (i := 34) rfl)) rfl rfl (by decide +kernel) ⟨Nat.le_of_ble_eq_true rfl, Nat.le_of_ble_eq_true rfl⟩) hK hP hD hS hA hY rfl hl.1 rfl (Nat.le_of_ble_eq_true rfl) dX3_put_1 ⟨Nat.le_of_ble_eq_true rfl, Nat.le_of_ble_eq_true rfl⟩ hnt hlocks hQ rfl (Nat.le_of_ble_eq_true rfl) (Nat.le_of_ble_eq_true rfl)

def S_X3_put_b1  (p0 : Int32) (p1 : Bool) (p2 : Int64) (p3 : Int32) : Prop := (vp_in p0 8) ∧ p2 < 0
set_option maxHeartbeats 4000000 in
set_option maxRecDepth 100000 in
theorem c_X3_put_b1 (l : Launch) (hl0 : l.stackTraces = false) (D : va_G) (cR cI cJ cZ : ClassId) (t0 : Nat) (sv : Nat → Nat) (ax ar ao : Nat) (ad : Nat → Nat) (vrd : Int32) (vtr : Int32) (vsd : Int32) (vrn : Int32) (vom : Bool) (voh : Int64) (vol : Int64) (vop : Int32) (voe : Bool) (vow : Int32) (vok : Int64) (vos : Int32) (vso : Nat → Int32) (vmi : Nat → Bool) (vco : Nat → Int64) (vex : Nat → Int32) (p0 : Int32) (p1 : Bool) (p2 : Int64) (p3 : Int32) (hs : S_X3_put_b1 p0 p1 p2 p3) : XT l D (xty cR cI cJ cZ) t0 sv yX3_put cX3_put 6 none rm_X3_put 2 [.ref ax, .int p0, .int (bI p1), .long p2, .int p3] (some eIA) none (xw cR ax ar ao ad vrd vtr vsd vrn vom voh vol vop voe vow vok vos vso vmi vco vex) (xw cR ax ar ao ad vrd vtr vsd vrn vom voh vol vop voe vow vok vos vso vmi vco vex) := by
  refine XT.of (by decide) (Nat.le_of_ble_eq_true rfl) ?_
  intro p e s m args below meth c A Q F hnt hK hP hD hA hY hS hQ ls hl
  have hSt := hY.1
  obtain ⟨hx, hb, hr, hts, hown, hlocks, hml⟩ := F
  have hCF : CallFix p m c cX3_put 6 s args gW RX3 := ⟨hx, hb, hml, hown, hts⟩
  unfold S_X3_put_b1 at hs
  obtain ⟨H, eH⟩ : ∃ y9 : Heap, y9 = s.heap := ⟨_, rfl⟩
  obtain ⟨locs, eL⟩ : ∃ y9 : List Loc, y9 = [] := ⟨_, rfl⟩
  rw [← eL] at hS ⊢
  have hP : va_P D vwCl (xw cR ax ar ao ad vrd vtr vsd vrn vom voh vol vop voe vow vok vos vso vmi vco vex) H := by rw [eH]; exact hP
  have hS : va_S A s.heap H locs := by rw [eH]; exact hS
  suffices goal9 : W p l e rm_X3_put s m args below meth c H locs 0 0 Q (F0 m 0 ls []) from by rw [← eH]; exact goal9
  have hl : lv_has ls 6 [(0, .ref ax), (1, .int p0), (2, .int (bI p1)), (3, .long p2), (5, .int p3)] := hl
  refine lv_iload_n hx hb dX3_put_0 rfl (lv_at hl 1 rfl) ?_
  obtain ⟨h_101, hs⟩ := hs
  refine y_nok (As := [.int p0]) (rest := []) hCF (c_X3_needRegister_ok l hl0 D cR cI cJ cZ t0 sv p0 h_101) (y_cwS 1 hts (inW_4 _ (List.mem_of_getElem? (i := 32) rfl)) (inW_4 _ (List.mem_of_getElem? (i := 33) rfl)) (inW_1 _ (List.mem_of_getElem? (i := 25) rfl)) (inW_4 _ (List.mem_of_getElem? (i := 34) rfl)) rfl rfl (by decide +kernel) ⟨Nat.le_of_ble_eq_true rfl, Nat.le_of_ble_eq_true rfl⟩) hK hP hD hS hA hY rfl hl.1 rfl (Nat.le_of_ble_eq_true rfl) dX3_put_1 ⟨Nat.le_of_ble_eq_true rfl, Nat.le_of_ble_eq_true rfl⟩ (fun H locs hP hD hS => ?_)
  show W p l e _ s m args below meth c H locs 1 6 Q (F0 m 4 ls [])
  refine lv_lload_n hx hb dX3_put_4 rfl (lv_at hl 3 rfl) ?_
  refine lv_lconst (v := 0) hx hb dX3_put_5 (by decide) ?_
  have h_103 := hs
  refine xl_lt (tgt := 18) hx hb dX3_put_6 dX3_put_7 (by decide) (fun _ => ?_) (fun c9 => absurd h_103 c9)
  exact y_throw hl0 ⟨hx, hb, hr, hts, hown, hlocks, hml⟩ hnt hK hP hD hS hY hQ hl.1 rfl (by decide +kernel) (inW_4 _ (List.mem_of_getElem? (i := 29) rfl)) (inW_4 _ (List.mem_of_getElem? (i := 30) rfl)) hY.2.2.2.1.1 yat_IA dX3_put_18 dX3_put_21 dX3_put_22 dX3_put_24 dX3_put_27 (Nat.le_of_ble_eq_true rfl) (Nat.le_of_ble_eq_true rfl) (Nat.le_of_ble_eq_true rfl) (Nat.le_of_ble_eq_true rfl) (Nat.le_of_ble_eq_true rfl) (Nat.le_of_ble_eq_true rfl)

def S_X3_put_b2  (p0 : Int32) (p1 : Bool) (p2 : Int64) (p3 : Int32) : Prop := (vp_in p0 8) ∧ (¬ (p2 < 0)) ∧ ¬ (p2 < 10000000000000000)
set_option maxHeartbeats 4000000 in
set_option maxRecDepth 100000 in
theorem c_X3_put_b2 (l : Launch) (hl0 : l.stackTraces = false) (D : va_G) (cR cI cJ cZ : ClassId) (t0 : Nat) (sv : Nat → Nat) (ax ar ao : Nat) (ad : Nat → Nat) (vrd : Int32) (vtr : Int32) (vsd : Int32) (vrn : Int32) (vom : Bool) (voh : Int64) (vol : Int64) (vop : Int32) (voe : Bool) (vow : Int32) (vok : Int64) (vos : Int32) (vso : Nat → Int32) (vmi : Nat → Bool) (vco : Nat → Int64) (vex : Nat → Int32) (p0 : Int32) (p1 : Bool) (p2 : Int64) (p3 : Int32) (hs : S_X3_put_b2 p0 p1 p2 p3) : XT l D (xty cR cI cJ cZ) t0 sv yX3_put cX3_put 6 none rm_X3_put 2 [.ref ax, .int p0, .int (bI p1), .long p2, .int p3] (some eIA) none (xw cR ax ar ao ad vrd vtr vsd vrn vom voh vol vop voe vow vok vos vso vmi vco vex) (xw cR ax ar ao ad vrd vtr vsd vrn vom voh vol vop voe vow vok vos vso vmi vco vex) := by
  refine XT.of (by decide) (Nat.le_of_ble_eq_true rfl) ?_
  intro p e s m args below meth c A Q F hnt hK hP hD hA hY hS hQ ls hl
  have hSt := hY.1
  obtain ⟨hx, hb, hr, hts, hown, hlocks, hml⟩ := F
  have hCF : CallFix p m c cX3_put 6 s args gW RX3 := ⟨hx, hb, hml, hown, hts⟩
  unfold S_X3_put_b2 at hs
  obtain ⟨H, eH⟩ : ∃ y9 : Heap, y9 = s.heap := ⟨_, rfl⟩
  obtain ⟨locs, eL⟩ : ∃ y9 : List Loc, y9 = [] := ⟨_, rfl⟩
  rw [← eL] at hS ⊢
  have hP : va_P D vwCl (xw cR ax ar ao ad vrd vtr vsd vrn vom voh vol vop voe vow vok vos vso vmi vco vex) H := by rw [eH]; exact hP
  have hS : va_S A s.heap H locs := by rw [eH]; exact hS
  suffices goal9 : W p l e rm_X3_put s m args below meth c H locs 0 0 Q (F0 m 0 ls []) from by rw [← eH]; exact goal9
  have hl : lv_has ls 6 [(0, .ref ax), (1, .int p0), (2, .int (bI p1)), (3, .long p2), (5, .int p3)] := hl
  refine lv_iload_n hx hb dX3_put_0 rfl (lv_at hl 1 rfl) ?_
  obtain ⟨h_101, hs⟩ := hs
  refine y_nok (As := [.int p0]) (rest := []) hCF (c_X3_needRegister_ok l hl0 D cR cI cJ cZ t0 sv p0 h_101) (y_cwS 1 hts (inW_4 _ (List.mem_of_getElem? (i := 32) rfl)) (inW_4 _ (List.mem_of_getElem? (i := 33) rfl)) (inW_1 _ (List.mem_of_getElem? (i := 25) rfl)) (inW_4 _ (List.mem_of_getElem? (i := 34) rfl)) rfl rfl (by decide +kernel) ⟨Nat.le_of_ble_eq_true rfl, Nat.le_of_ble_eq_true rfl⟩) hK hP hD hS hA hY rfl hl.1 rfl (Nat.le_of_ble_eq_true rfl) dX3_put_1 ⟨Nat.le_of_ble_eq_true rfl, Nat.le_of_ble_eq_true rfl⟩ (fun H locs hP hD hS => ?_)
  show W p l e _ s m args below meth c H locs 1 6 Q (F0 m 4 ls [])
  refine lv_lload_n hx hb dX3_put_4 rfl (lv_at hl 3 rfl) ?_
  refine lv_lconst (v := 0) hx hb dX3_put_5 (by decide) ?_
  obtain ⟨h_103, hs⟩ := hs
  refine xl_lt (tgt := 18) hx hb dX3_put_6 dX3_put_7 (by decide) (fun c9 => absurd c9 h_103) (fun _ => ?_)
  refine lv_lload_n hx hb dX3_put_10 rfl (lv_at hl 3 rfl) ?_
  refine lv_ldc2 (v := 10000000000000000) hx hb hown (hts (.constantLong RX3 44 (10000000000000000)) (inW_4 _ (List.mem_of_getElem? (i := 31) rfl))) dX3_put_11 ?_
  have h_104 := hs
  refine xl_lt (tgt := 28) hx hb dX3_put_14 dX3_put_15 (by decide) (fun c9 => absurd c9 h_104) (fun _ => ?_)
  exact y_throw hl0 ⟨hx, hb, hr, hts, hown, hlocks, hml⟩ hnt hK hP hD hS hY hQ hl.1 rfl (by decide +kernel) (inW_4 _ (List.mem_of_getElem? (i := 29) rfl)) (inW_4 _ (List.mem_of_getElem? (i := 30) rfl)) hY.2.2.2.1.1 yat_IA dX3_put_18 dX3_put_21 dX3_put_22 dX3_put_24 dX3_put_27 (Nat.le_of_ble_eq_true rfl) (Nat.le_of_ble_eq_true rfl) (Nat.le_of_ble_eq_true rfl) (Nat.le_of_ble_eq_true rfl) (Nat.le_of_ble_eq_true rfl) (Nat.le_of_ble_eq_true rfl)

def S_X3_put_b3  (p0 : Int32) (p1 : Bool) (p2 : Int64) (p3 : Int32) : Prop := (vp_in p0 8) ∧ (¬ (p2 < 0)) ∧ (p2 < 10000000000000000) ∧ p3 < (-398)
set_option maxHeartbeats 4000000 in
set_option maxRecDepth 100000 in
theorem c_X3_put_b3 (l : Launch) (hl0 : l.stackTraces = false) (D : va_G) (cR cI cJ cZ : ClassId) (t0 : Nat) (sv : Nat → Nat) (ax ar ao : Nat) (ad : Nat → Nat) (vrd : Int32) (vtr : Int32) (vsd : Int32) (vrn : Int32) (vom : Bool) (voh : Int64) (vol : Int64) (vop : Int32) (voe : Bool) (vow : Int32) (vok : Int64) (vos : Int32) (vso : Nat → Int32) (vmi : Nat → Bool) (vco : Nat → Int64) (vex : Nat → Int32) (p0 : Int32) (p1 : Bool) (p2 : Int64) (p3 : Int32) (hs : S_X3_put_b3 p0 p1 p2 p3) : XT l D (xty cR cI cJ cZ) t0 sv yX3_put cX3_put 6 none rm_X3_put 2 [.ref ax, .int p0, .int (bI p1), .long p2, .int p3] (some eIA) none (xw cR ax ar ao ad vrd vtr vsd vrn vom voh vol vop voe vow vok vos vso vmi vco vex) (xw cR ax ar ao ad vrd vtr vsd vrn vom voh vol vop voe vow vok vos vso vmi vco vex) := by
  refine XT.of (by decide) (Nat.le_of_ble_eq_true rfl) ?_
  intro p e s m args below meth c A Q F hnt hK hP hD hA hY hS hQ ls hl
  have hSt := hY.1
  obtain ⟨hx, hb, hr, hts, hown, hlocks, hml⟩ := F
  have hCF : CallFix p m c cX3_put 6 s args gW RX3 := ⟨hx, hb, hml, hown, hts⟩
  unfold S_X3_put_b3 at hs
  obtain ⟨H, eH⟩ : ∃ y9 : Heap, y9 = s.heap := ⟨_, rfl⟩
  obtain ⟨locs, eL⟩ : ∃ y9 : List Loc, y9 = [] := ⟨_, rfl⟩
  rw [← eL] at hS ⊢
  have hP : va_P D vwCl (xw cR ax ar ao ad vrd vtr vsd vrn vom voh vol vop voe vow vok vos vso vmi vco vex) H := by rw [eH]; exact hP
  have hS : va_S A s.heap H locs := by rw [eH]; exact hS
  suffices goal9 : W p l e rm_X3_put s m args below meth c H locs 0 0 Q (F0 m 0 ls []) from by rw [← eH]; exact goal9
  have hl : lv_has ls 6 [(0, .ref ax), (1, .int p0), (2, .int (bI p1)), (3, .long p2), (5, .int p3)] := hl
  refine lv_iload_n hx hb dX3_put_0 rfl (lv_at hl 1 rfl) ?_
  obtain ⟨h_101, hs⟩ := hs
  refine y_nok (As := [.int p0]) (rest := []) hCF (c_X3_needRegister_ok l hl0 D cR cI cJ cZ t0 sv p0 h_101) (y_cwS 1 hts (inW_4 _ (List.mem_of_getElem? (i := 32) rfl)) (inW_4 _ (List.mem_of_getElem? (i := 33) rfl)) (inW_1 _ (List.mem_of_getElem? (i := 25) rfl)) (inW_4 _ (List.mem_of_getElem? (i := 34) rfl)) rfl rfl (by decide +kernel) ⟨Nat.le_of_ble_eq_true rfl, Nat.le_of_ble_eq_true rfl⟩) hK hP hD hS hA hY rfl hl.1 rfl (Nat.le_of_ble_eq_true rfl) dX3_put_1 ⟨Nat.le_of_ble_eq_true rfl, Nat.le_of_ble_eq_true rfl⟩ (fun H locs hP hD hS => ?_)
  show W p l e _ s m args below meth c H locs 1 6 Q (F0 m 4 ls [])
  refine lv_lload_n hx hb dX3_put_4 rfl (lv_at hl 3 rfl) ?_
  refine lv_lconst (v := 0) hx hb dX3_put_5 (by decide) ?_
  obtain ⟨h_103, hs⟩ := hs
  refine xl_lt (tgt := 18) hx hb dX3_put_6 dX3_put_7 (by decide) (fun c9 => absurd c9 h_103) (fun _ => ?_)
  refine lv_lload_n hx hb dX3_put_10 rfl (lv_at hl 3 rfl) ?_
  refine lv_ldc2 (v := 10000000000000000) hx hb hown (hts (.constantLong RX3 44 (10000000000000000)) (inW_4 _ (List.mem_of_getElem? (i := 31) rfl))) dX3_put_11 ?_
  obtain ⟨h_104, hs⟩ := hs
  refine xl_lt (tgt := 28) hx hb dX3_put_14 dX3_put_15 (by decide) (fun _ => ?_) (fun c9 => absurd h_104 c9)
  refine lv_iload hx hb dX3_put_28 (lv_at hl 4 rfl) ?_
  refine lv_sipush (v := (-398)) hx hb dX3_put_30 (by decide) ?_
  have h_105 := hs
  refine lv_icmp_lt (tgt := 44) hx hb dX3_put_33 (by decide) (fun _ => ?_) (fun c9 => absurd h_105 c9)
  exact y_throw hl0 ⟨hx, hb, hr, hts, hown, hlocks, hml⟩ hnt hK hP hD hS hY hQ hl.1 rfl (by decide +kernel) (inW_4 _ (List.mem_of_getElem? (i := 29) rfl)) (inW_4 _ (List.mem_of_getElem? (i := 30) rfl)) hY.2.2.2.1.2.1 yat_IA dX3_put_44 dX3_put_47 dX3_put_48 dX3_put_50 dX3_put_53 (Nat.le_of_ble_eq_true rfl) (Nat.le_of_ble_eq_true rfl) (Nat.le_of_ble_eq_true rfl) (Nat.le_of_ble_eq_true rfl) (Nat.le_of_ble_eq_true rfl) (Nat.le_of_ble_eq_true rfl)

def S_X3_put_b4  (p0 : Int32) (p1 : Bool) (p2 : Int64) (p3 : Int32) : Prop := (vp_in p0 8) ∧ (¬ (p2 < 0)) ∧ (p2 < 10000000000000000) ∧ (¬ (p3 < (-398))) ∧ ¬ (p3 ≤ 369)
set_option maxHeartbeats 4000000 in
set_option maxRecDepth 100000 in
theorem c_X3_put_b4 (l : Launch) (hl0 : l.stackTraces = false) (D : va_G) (cR cI cJ cZ : ClassId) (t0 : Nat) (sv : Nat → Nat) (ax ar ao : Nat) (ad : Nat → Nat) (vrd : Int32) (vtr : Int32) (vsd : Int32) (vrn : Int32) (vom : Bool) (voh : Int64) (vol : Int64) (vop : Int32) (voe : Bool) (vow : Int32) (vok : Int64) (vos : Int32) (vso : Nat → Int32) (vmi : Nat → Bool) (vco : Nat → Int64) (vex : Nat → Int32) (p0 : Int32) (p1 : Bool) (p2 : Int64) (p3 : Int32) (hs : S_X3_put_b4 p0 p1 p2 p3) : XT l D (xty cR cI cJ cZ) t0 sv yX3_put cX3_put 6 none rm_X3_put 2 [.ref ax, .int p0, .int (bI p1), .long p2, .int p3] (some eIA) none (xw cR ax ar ao ad vrd vtr vsd vrn vom voh vol vop voe vow vok vos vso vmi vco vex) (xw cR ax ar ao ad vrd vtr vsd vrn vom voh vol vop voe vow vok vos vso vmi vco vex) := by
  refine XT.of (by decide) (Nat.le_of_ble_eq_true rfl) ?_
  intro p e s m args below meth c A Q F hnt hK hP hD hA hY hS hQ ls hl
  have hSt := hY.1
  obtain ⟨hx, hb, hr, hts, hown, hlocks, hml⟩ := F
  have hCF : CallFix p m c cX3_put 6 s args gW RX3 := ⟨hx, hb, hml, hown, hts⟩
  unfold S_X3_put_b4 at hs
  obtain ⟨H, eH⟩ : ∃ y9 : Heap, y9 = s.heap := ⟨_, rfl⟩
  obtain ⟨locs, eL⟩ : ∃ y9 : List Loc, y9 = [] := ⟨_, rfl⟩
  rw [← eL] at hS ⊢
  have hP : va_P D vwCl (xw cR ax ar ao ad vrd vtr vsd vrn vom voh vol vop voe vow vok vos vso vmi vco vex) H := by rw [eH]; exact hP
  have hS : va_S A s.heap H locs := by rw [eH]; exact hS
  suffices goal9 : W p l e rm_X3_put s m args below meth c H locs 0 0 Q (F0 m 0 ls []) from by rw [← eH]; exact goal9
  have hl : lv_has ls 6 [(0, .ref ax), (1, .int p0), (2, .int (bI p1)), (3, .long p2), (5, .int p3)] := hl
  refine lv_iload_n hx hb dX3_put_0 rfl (lv_at hl 1 rfl) ?_
  obtain ⟨h_101, hs⟩ := hs
  refine y_nok (As := [.int p0]) (rest := []) hCF (c_X3_needRegister_ok l hl0 D cR cI cJ cZ t0 sv p0 h_101) (y_cwS 1 hts (inW_4 _ (List.mem_of_getElem? (i := 32) rfl)) (inW_4 _ (List.mem_of_getElem? (i := 33) rfl)) (inW_1 _ (List.mem_of_getElem? (i := 25) rfl)) (inW_4 _ (List.mem_of_getElem? (i := 34) rfl)) rfl rfl (by decide +kernel) ⟨Nat.le_of_ble_eq_true rfl, Nat.le_of_ble_eq_true rfl⟩) hK hP hD hS hA hY rfl hl.1 rfl (Nat.le_of_ble_eq_true rfl) dX3_put_1 ⟨Nat.le_of_ble_eq_true rfl, Nat.le_of_ble_eq_true rfl⟩ (fun H locs hP hD hS => ?_)
  show W p l e _ s m args below meth c H locs 1 6 Q (F0 m 4 ls [])
  refine lv_lload_n hx hb dX3_put_4 rfl (lv_at hl 3 rfl) ?_
  refine lv_lconst (v := 0) hx hb dX3_put_5 (by decide) ?_
  obtain ⟨h_103, hs⟩ := hs
  refine xl_lt (tgt := 18) hx hb dX3_put_6 dX3_put_7 (by decide) (fun c9 => absurd c9 h_103) (fun _ => ?_)
  refine lv_lload_n hx hb dX3_put_10 rfl (lv_at hl 3 rfl) ?_
  refine lv_ldc2 (v := 10000000000000000) hx hb hown (hts (.constantLong RX3 44 (10000000000000000)) (inW_4 _ (List.mem_of_getElem? (i := 31) rfl))) dX3_put_11 ?_
  obtain ⟨h_104, hs⟩ := hs
  refine xl_lt (tgt := 28) hx hb dX3_put_14 dX3_put_15 (by decide) (fun _ => ?_) (fun c9 => absurd h_104 c9)
  refine lv_iload hx hb dX3_put_28 (lv_at hl 4 rfl) ?_
  refine lv_sipush (v := (-398)) hx hb dX3_put_30 (by decide) ?_
  obtain ⟨h_105, hs⟩ := hs
  refine lv_icmp_lt (tgt := 44) hx hb dX3_put_33 (by decide) (fun c9 => absurd c9 h_105) (fun _ => ?_)
  refine lv_iload hx hb dX3_put_36 (lv_at hl 4 rfl) ?_
  refine lv_sipush (v := 369) hx hb dX3_put_38 (by decide) ?_
  have h_106 := hs
  refine lv_icmp_le (tgt := 54) hx hb dX3_put_41 (by decide) (fun c9 => absurd c9 h_106) (fun _ => ?_)
  exact y_throw hl0 ⟨hx, hb, hr, hts, hown, hlocks, hml⟩ hnt hK hP hD hS hY hQ hl.1 rfl (by decide +kernel) (inW_4 _ (List.mem_of_getElem? (i := 29) rfl)) (inW_4 _ (List.mem_of_getElem? (i := 30) rfl)) hY.2.2.2.1.2.1 yat_IA dX3_put_44 dX3_put_47 dX3_put_48 dX3_put_50 dX3_put_53 (Nat.le_of_ble_eq_true rfl) (Nat.le_of_ble_eq_true rfl) (Nat.le_of_ble_eq_true rfl) (Nat.le_of_ble_eq_true rfl) (Nat.le_of_ble_eq_true rfl) (Nat.le_of_ble_eq_true rfl)

def F_X3_put_ok (vso : Nat → Int32) (vmi : Nat → Bool) (vco : Nat → Int64) (vex : Nat → Int32) (p0 : Int32) (p1 : Bool) (p2 : Int64) (p3 : Int32) : (Nat → Int32) × (Nat → Bool) × (Nat → Int64) × (Nat → Int32) := (bnd (F_X0_setFinite vso vmi vco vex (p0.toNatClampNeg) p1 p2 p3) (fun u107 : (Nat → Int32) × (Nat → Bool) × (Nat → Int64) × (Nat → Int32) => (u107.1, u107.2.1, u107.2.2.1, u107.2.2.2)))
def RF_X3_put_ok (vso : Nat → Int32) (vmi : Nat → Bool) (vco : Nat → Int64) (vex : Nat → Int32) (p0 : Int32) (p1 : Bool) (p2 : Int64) (p3 : Int32) (u9 : (Nat → Int32) × (Nat → Bool) × (Nat → Int64) × (Nat → Int32)) : Prop := (∀ u107 : (Nat → Int32) × (Nat → Bool) × (Nat → Int64) × (Nat → Int32), u107 = F_X0_setFinite vso vmi vco vex (p0.toNatClampNeg) p1 p2 p3 → u9 = (u107.1, u107.2.1, u107.2.2.1, u107.2.2.2))
theorem rF_X3_put_ok (vso : Nat → Int32) (vmi : Nat → Bool) (vco : Nat → Int64) (vex : Nat → Int32) (p0 : Int32) (p1 : Bool) (p2 : Int64) (p3 : Int32) {u9 : (Nat → Int32) × (Nat → Bool) × (Nat → Int64) × (Nat → Int32)} (hu : u9 = F_X3_put_ok vso vmi vco vex p0 p1 p2 p3) : RF_X3_put_ok vso vmi vco vex p0 p1 p2 p3 u9 := by
  unfold RF_X3_put_ok
  intro u107 eu107
  have hu := bnd_n hu eu107
  exact hu
def S_X3_put_ok (vso : Nat → Int32) (vmi : Nat → Bool) (vco : Nat → Int64) (vex : Nat → Int32) (p0 : Int32) (p1 : Bool) (p2 : Int64) (p3 : Int32) : Prop := (vp_in p0 8) ∧ (¬ (p2 < 0)) ∧ (p2 < 10000000000000000) ∧ (¬ (p3 < (-398))) ∧ p3 ≤ 369
set_option maxHeartbeats 4000000 in
set_option maxRecDepth 100000 in
theorem c_X3_put_ok (l : Launch) (hl0 : l.stackTraces = false) (D : va_G) (cR cI cJ cZ : ClassId) (t0 : Nat) (sv : Nat → Nat) (ax ar ao : Nat) (ad : Nat → Nat) (vrd : Int32) (vtr : Int32) (vsd : Int32) (vrn : Int32) (vom : Bool) (voh : Int64) (vol : Int64) (vop : Int32) (voe : Bool) (vow : Int32) (vok : Int64) (vos : Int32) (vso : Nat → Int32) (vmi : Nat → Bool) (vco : Nat → Int64) (vex : Nat → Int32) (p0 : Int32) (p1 : Bool) (p2 : Int64) (p3 : Int32) (u : (Nat → Int32) × (Nat → Bool) × (Nat → Int64) × (Nat → Int32)) (hu : u = F_X3_put_ok vso vmi vco vex p0 p1 p2 p3) (hs : S_X3_put_ok vso vmi vco vex p0 p1 p2 p3) : XT l D (xty cR cI cJ cZ) t0 sv yX3_put cX3_put 6 none rm_X3_put 2 [.ref ax, .int p0, .int (bI p1), .long p2, .int p3] none none (xw cR ax ar ao ad vrd vtr vsd vrn vom voh vol vop voe vow vok vos vso vmi vco vex) (xw cR ax ar ao ad vrd vtr vsd vrn vom voh vol vop voe vow vok vos u.1 u.2.1 u.2.2.1 u.2.2.2) := by
  refine XT.of (by decide) (Nat.le_of_ble_eq_true rfl) ?_
  intro p e s m args below meth c A Q F hnt hK hP hD hA hY hS hQ ls hl
  have hSt := hY.1
  obtain ⟨hx, hb, hr, hts, hown, hlocks, hml⟩ := F
  have hCF : CallFix p m c cX3_put 6 s args gW RX3 := ⟨hx, hb, hml, hown, hts⟩
  unfold S_X3_put_ok at hs
  have hu := rF_X3_put_ok vso vmi vco vex p0 p1 p2 p3 hu
  unfold RF_X3_put_ok at hu
  obtain ⟨H, eH⟩ : ∃ y9 : Heap, y9 = s.heap := ⟨_, rfl⟩
  obtain ⟨locs, eL⟩ : ∃ y9 : List Loc, y9 = [] := ⟨_, rfl⟩
  rw [← eL] at hS ⊢
  have hP : va_P D vwCl (xw cR ax ar ao ad vrd vtr vsd vrn vom voh vol vop voe vow vok vos vso vmi vco vex) H := by rw [eH]; exact hP
  have hS : va_S A s.heap H locs := by rw [eH]; exact hS
  suffices goal9 : W p l e rm_X3_put s m args below meth c H locs 0 0 Q (F0 m 0 ls []) from by rw [← eH]; exact goal9
  have hl : lv_has ls 6 [(0, .ref ax), (1, .int p0), (2, .int (bI p1)), (3, .long p2), (5, .int p3)] := hl
  have hi3 : ∀ w ∈ wsX30, w ∈ gW := inW_X3
  refine lv_iload_n hx hb dX3_put_0 rfl (lv_at hl 1 rfl) ?_
  obtain ⟨h_101, hs⟩ := hs
  refine y_nok (As := [.int p0]) (rest := []) hCF (c_X3_needRegister_ok l hl0 D cR cI cJ cZ t0 sv p0 h_101) (y_cwS 1 hts (inW_4 _ (List.mem_of_getElem? (i := 32) rfl)) (inW_4 _ (List.mem_of_getElem? (i := 33) rfl)) (inW_1 _ (List.mem_of_getElem? (i := 25) rfl)) (inW_4 _ (List.mem_of_getElem? (i := 34) rfl)) rfl rfl (by decide +kernel) ⟨Nat.le_of_ble_eq_true rfl, Nat.le_of_ble_eq_true rfl⟩) hK hP hD hS hA hY rfl hl.1 rfl (Nat.le_of_ble_eq_true rfl) dX3_put_1 ⟨Nat.le_of_ble_eq_true rfl, Nat.le_of_ble_eq_true rfl⟩ (fun H locs hP hD hS => ?_)
  show W p l e _ s m args below meth c H locs 1 6 Q (F0 m 4 ls [])
  refine lv_lload_n hx hb dX3_put_4 rfl (lv_at hl 3 rfl) ?_
  refine lv_lconst (v := 0) hx hb dX3_put_5 (by decide) ?_
  obtain ⟨h_103, hs⟩ := hs
  refine xl_lt (tgt := 18) hx hb dX3_put_6 dX3_put_7 (by decide) (fun c9 => absurd c9 h_103) (fun _ => ?_)
  refine lv_lload_n hx hb dX3_put_10 rfl (lv_at hl 3 rfl) ?_
  refine lv_ldc2 (v := 10000000000000000) hx hb hown (hts (.constantLong RX3 44 (10000000000000000)) (inW_4 _ (List.mem_of_getElem? (i := 31) rfl))) dX3_put_11 ?_
  obtain ⟨h_104, hs⟩ := hs
  refine xl_lt (tgt := 28) hx hb dX3_put_14 dX3_put_15 (by decide) (fun _ => ?_) (fun c9 => absurd h_104 c9)
  refine lv_iload hx hb dX3_put_28 (lv_at hl 4 rfl) ?_
  refine lv_sipush (v := (-398)) hx hb dX3_put_30 (by decide) ?_
  obtain ⟨h_105, hs⟩ := hs
  refine lv_icmp_lt (tgt := 44) hx hb dX3_put_33 (by decide) (fun c9 => absurd c9 h_105) (fun _ => ?_)
  refine lv_iload hx hb dX3_put_36 (lv_at hl 4 rfl) ?_
  refine lv_sipush (v := 369) hx hb dX3_put_38 (by decide) ?_
  have h_106 := hs
  refine lv_icmp_le (tgt := 54) hx hb dX3_put_41 (by decide) (fun _ => ?_) (fun c9 => absurd h_106 c9)
  refine lv_aload_n hx hb dX3_put_54 rfl (lv_at hl 0 rfl) ?_
  refine va_get (D := D) (ci := 4) (v := .ref ar) (C := RX3) (T := TX3) (N := 7) hx hb hts hi3 hown hK hP 0 rfl rfl 0 (by decide) (hts (.fieldLink RX3 11 "DecimalWords" "registers" "[LDecimalWords$Datum;") (inW_4 _ (List.mem_of_getElem? (i := 16) rfl))) (fun _ h9 => h9) rfl dX3_put_55 ?_
  refine lv_iload_n hx hb dX3_put_58 rfl (lv_at hl 1 rfl) ?_
  refine x_aald hx hb hK hP h_101 dX3_put_59 ?_
  refine lv_iload_n hx hb dX3_put_60 rfl (lv_at hl 2 rfl) ?_
  refine lv_lload_n hx hb dX3_put_61 rfl (lv_at hl 3 rfl) ?_
  refine lv_iload hx hb dX3_put_62 (lv_at hl 4 rfl) ?_
  obtain ⟨u107, eu107⟩ : ∃ y9 : (Nat → Int32) × (Nat → Bool) × (Nat → Int64) × (Nat → Int32), y9 = F_X0_setFinite vso vmi vco vex (p0.toNatClampNeg) p1 p2 p3 := ⟨_, rfl⟩
  have hu := hu _ eu107
  refine x_V (As := [.int (bI p1), .long p2, .int p3]) (rest := []) hCF (c_X0_setFinite l D cR cI cJ cZ t0 ax ar ao ad vrd vtr vsd vrn vom voh vol vop voe vow vok vos vso vmi vco vex (p0.toNatClampNeg) p1 p2 p3 u107 eu107 (vp_lt9 h_101)) (x_cwV 3 hts (inW_4 _ (List.mem_of_getElem? (i := 37) rfl)) (inW_4 _ (List.mem_of_getElem? (i := 5) rfl)) (inW_4 _ (List.mem_of_getElem? (i := 6) rfl)) (inW_1 _ (List.mem_of_getElem? (i := 16) rfl)) (inW_1 _ (List.mem_of_getElem? (i := 3) rfl)) rfl rfl (by decide +kernel) ⟨Nat.le_of_ble_eq_true rfl, Nat.le_of_ble_eq_true rfl⟩) hK hP hD hS hA hSt (3 + (p0.toNatClampNeg)) (xw_dat (vp_lt9 h_101)) rfl rfl hl.1 rfl (Nat.le_of_ble_eq_true rfl) dX3_put_64 ⟨Nat.le_of_ble_eq_true rfl, Nat.le_of_ble_eq_true rfl⟩ (fun H locs hP hD hS => ?_)
  show W p l e _ s m args below meth c H locs 1 6 Q (F0 m 67 ls [])
  have e9 := Eq.symm hu; subst e9
  exact y_vret hx hb hr hlocks hQ hK hP hD hS rfl (Nat.le_of_ble_eq_true rfl) (Nat.le_of_ble_eq_true rfl) dX3_put_67

def S_X3_mode_b1  (p0 : Int32) : Prop := p0 < 0
def rm_X3_mode : Room := { frames := 6, cells := 1, slots := 6, locals := 82 }
set_option maxHeartbeats 4000000 in
set_option maxRecDepth 100000 in
theorem c_X3_mode_b1 (l : Launch) (hl0 : l.stackTraces = false) (D : va_G) (cR cI cJ cZ : ClassId) (t0 : Nat) (sv : Nat → Nat) (ax ar ao : Nat) (ad : Nat → Nat) (vrd : Int32) (vtr : Int32) (vsd : Int32) (vrn : Int32) (vom : Bool) (voh : Int64) (vol : Int64) (vop : Int32) (voe : Bool) (vow : Int32) (vok : Int64) (vos : Int32) (vso : Nat → Int32) (vmi : Nat → Bool) (vco : Nat → Int64) (vex : Nat → Int32) (p0 : Int32) (hs : S_X3_mode_b1 p0) : XT l D (xty cR cI cJ cZ) t0 sv yX3_mode cX3_mode 2 none rm_X3_mode 1 [.ref ax, .int p0] (some eIA) none (xw cR ax ar ao ad vrd vtr vsd vrn vom voh vol vop voe vow vok vos vso vmi vco vex) (xw cR ax ar ao ad vrd vtr vsd vrn vom voh vol vop voe vow vok vos vso vmi vco vex) := by
  refine XT.of (by decide) (Nat.le_of_ble_eq_true rfl) ?_
  intro p e s m args below meth c A Q F hnt hK hP hD hA hY hS hQ ls hl
  have hSt := hY.1
  obtain ⟨hx, hb, hr, hts, hown, hlocks, hml⟩ := F
  have hCF : CallFix p m c cX3_mode 2 s args gW RX3 := ⟨hx, hb, hml, hown, hts⟩
  unfold S_X3_mode_b1 at hs
  obtain ⟨H, eH⟩ : ∃ y9 : Heap, y9 = s.heap := ⟨_, rfl⟩
  obtain ⟨locs, eL⟩ : ∃ y9 : List Loc, y9 = [] := ⟨_, rfl⟩
  rw [← eL] at hS ⊢
  have hP : va_P D vwCl (xw cR ax ar ao ad vrd vtr vsd vrn vom voh vol vop voe vow vok vos vso vmi vco vex) H := by rw [eH]; exact hP
  have hS : va_S A s.heap H locs := by rw [eH]; exact hS
  suffices goal9 : W p l e rm_X3_mode s m args below meth c H locs 0 0 Q (F0 m 0 ls []) from by rw [← eH]; exact goal9
  have hl : lv_has ls 2 [(0, .ref ax), (1, .int p0)] := hl
  refine lv_iload_n hx hb dX3_mode_0 rfl (lv_at hl 1 rfl) ?_
  have h_101 := hs
  refine lv_if_lt (tgt := 9) hx hb dX3_mode_1 (by decide) (fun _ => ?_) (fun c9 => absurd h_101 c9)
  exact y_throw hl0 ⟨hx, hb, hr, hts, hown, hlocks, hml⟩ hnt hK hP hD hS hY hQ hl.1 rfl (by decide +kernel) (inW_4 _ (List.mem_of_getElem? (i := 29) rfl)) (inW_4 _ (List.mem_of_getElem? (i := 30) rfl)) hY.2.2.2.1.2.2.2.2.1 yat_IA dX3_mode_9 dX3_mode_12 dX3_mode_13 dX3_mode_15 dX3_mode_18 (Nat.le_of_ble_eq_true rfl) (Nat.le_of_ble_eq_true rfl) (Nat.le_of_ble_eq_true rfl) (Nat.le_of_ble_eq_true rfl) (Nat.le_of_ble_eq_true rfl) (Nat.le_of_ble_eq_true rfl)

def S_X3_mode_b2  (p0 : Int32) : Prop := (¬ (p0 < 0)) ∧ ¬ (p0 ≤ 4)
set_option maxHeartbeats 4000000 in
set_option maxRecDepth 100000 in
theorem c_X3_mode_b2 (l : Launch) (hl0 : l.stackTraces = false) (D : va_G) (cR cI cJ cZ : ClassId) (t0 : Nat) (sv : Nat → Nat) (ax ar ao : Nat) (ad : Nat → Nat) (vrd : Int32) (vtr : Int32) (vsd : Int32) (vrn : Int32) (vom : Bool) (voh : Int64) (vol : Int64) (vop : Int32) (voe : Bool) (vow : Int32) (vok : Int64) (vos : Int32) (vso : Nat → Int32) (vmi : Nat → Bool) (vco : Nat → Int64) (vex : Nat → Int32) (p0 : Int32) (hs : S_X3_mode_b2 p0) : XT l D (xty cR cI cJ cZ) t0 sv yX3_mode cX3_mode 2 none rm_X3_mode 1 [.ref ax, .int p0] (some eIA) none (xw cR ax ar ao ad vrd vtr vsd vrn vom voh vol vop voe vow vok vos vso vmi vco vex) (xw cR ax ar ao ad vrd vtr vsd vrn vom voh vol vop voe vow vok vos vso vmi vco vex) := by
  refine XT.of (by decide) (Nat.le_of_ble_eq_true rfl) ?_
  intro p e s m args below meth c A Q F hnt hK hP hD hA hY hS hQ ls hl
  have hSt := hY.1
  obtain ⟨hx, hb, hr, hts, hown, hlocks, hml⟩ := F
  have hCF : CallFix p m c cX3_mode 2 s args gW RX3 := ⟨hx, hb, hml, hown, hts⟩
  unfold S_X3_mode_b2 at hs
  obtain ⟨H, eH⟩ : ∃ y9 : Heap, y9 = s.heap := ⟨_, rfl⟩
  obtain ⟨locs, eL⟩ : ∃ y9 : List Loc, y9 = [] := ⟨_, rfl⟩
  rw [← eL] at hS ⊢
  have hP : va_P D vwCl (xw cR ax ar ao ad vrd vtr vsd vrn vom voh vol vop voe vow vok vos vso vmi vco vex) H := by rw [eH]; exact hP
  have hS : va_S A s.heap H locs := by rw [eH]; exact hS
  suffices goal9 : W p l e rm_X3_mode s m args below meth c H locs 0 0 Q (F0 m 0 ls []) from by rw [← eH]; exact goal9
  have hl : lv_has ls 2 [(0, .ref ax), (1, .int p0)] := hl
  refine lv_iload_n hx hb dX3_mode_0 rfl (lv_at hl 1 rfl) ?_
  obtain ⟨h_101, hs⟩ := hs
  refine lv_if_lt (tgt := 9) hx hb dX3_mode_1 (by decide) (fun c9 => absurd c9 h_101) (fun _ => ?_)
  refine lv_iload_n hx hb dX3_mode_4 rfl (lv_at hl 1 rfl) ?_
  refine lv_iconst (v := 4) hx hb dX3_mode_5 (by decide) ?_
  have h_102 := hs
  refine lv_icmp_le (tgt := 19) hx hb dX3_mode_6 (by decide) (fun c9 => absurd c9 h_102) (fun _ => ?_)
  exact y_throw hl0 ⟨hx, hb, hr, hts, hown, hlocks, hml⟩ hnt hK hP hD hS hY hQ hl.1 rfl (by decide +kernel) (inW_4 _ (List.mem_of_getElem? (i := 29) rfl)) (inW_4 _ (List.mem_of_getElem? (i := 30) rfl)) hY.2.2.2.1.2.2.2.2.1 yat_IA dX3_mode_9 dX3_mode_12 dX3_mode_13 dX3_mode_15 dX3_mode_18 (Nat.le_of_ble_eq_true rfl) (Nat.le_of_ble_eq_true rfl) (Nat.le_of_ble_eq_true rfl) (Nat.le_of_ble_eq_true rfl) (Nat.le_of_ble_eq_true rfl) (Nat.le_of_ble_eq_true rfl)

def F_X3_mode_ok  (p0 : Int32) : Int32 := p0
def RF_X3_mode_ok  (p0 : Int32) (u9 : Int32) : Prop := u9 = p0
theorem rF_X3_mode_ok  (p0 : Int32) {u9 : Int32} (hu : u9 = F_X3_mode_ok p0) : RF_X3_mode_ok p0 u9 := by
  unfold RF_X3_mode_ok
  exact hu
def S_X3_mode_ok  (p0 : Int32) : Prop := (¬ (p0 < 0)) ∧ p0 ≤ 4
set_option maxHeartbeats 4000000 in
set_option maxRecDepth 100000 in
theorem c_X3_mode_ok (l : Launch) (hl0 : l.stackTraces = false) (D : va_G) (cR cI cJ cZ : ClassId) (t0 : Nat) (sv : Nat → Nat) (ax ar ao : Nat) (ad : Nat → Nat) (vrd : Int32) (vtr : Int32) (vsd : Int32) (vrn : Int32) (vom : Bool) (voh : Int64) (vol : Int64) (vop : Int32) (voe : Bool) (vow : Int32) (vok : Int64) (vos : Int32) (vso : Nat → Int32) (vmi : Nat → Bool) (vco : Nat → Int64) (vex : Nat → Int32) (p0 : Int32) (u : Int32) (hu : u = F_X3_mode_ok p0) (hs : S_X3_mode_ok p0) : XT l D (xty cR cI cJ cZ) t0 sv yX3_mode cX3_mode 2 none rm_X3_mode 1 [.ref ax, .int p0] none none (xw cR ax ar ao ad vrd vtr vsd vrn vom voh vol vop voe vow vok vos vso vmi vco vex) (xw cR ax ar ao ad u vtr vsd vrn vom voh vol vop voe vow vok vos vso vmi vco vex) := by
  refine XT.of (by decide) (Nat.le_of_ble_eq_true rfl) ?_
  intro p e s m args below meth c A Q F hnt hK hP hD hA hY hS hQ ls hl
  have hSt := hY.1
  obtain ⟨hx, hb, hr, hts, hown, hlocks, hml⟩ := F
  have hCF : CallFix p m c cX3_mode 2 s args gW RX3 := ⟨hx, hb, hml, hown, hts⟩
  unfold S_X3_mode_ok at hs
  have hu := rF_X3_mode_ok p0 hu
  unfold RF_X3_mode_ok at hu
  obtain ⟨H, eH⟩ : ∃ y9 : Heap, y9 = s.heap := ⟨_, rfl⟩
  obtain ⟨locs, eL⟩ : ∃ y9 : List Loc, y9 = [] := ⟨_, rfl⟩
  rw [← eL] at hS ⊢
  have hP : va_P D vwCl (xw cR ax ar ao ad vrd vtr vsd vrn vom voh vol vop voe vow vok vos vso vmi vco vex) H := by rw [eH]; exact hP
  have hS : va_S A s.heap H locs := by rw [eH]; exact hS
  suffices goal9 : W p l e rm_X3_mode s m args below meth c H locs 0 0 Q (F0 m 0 ls []) from by rw [← eH]; exact goal9
  have hl : lv_has ls 2 [(0, .ref ax), (1, .int p0)] := hl
  have hi3 : ∀ w ∈ wsX30, w ∈ gW := inW_X3
  refine lv_iload_n hx hb dX3_mode_0 rfl (lv_at hl 1 rfl) ?_
  obtain ⟨h_101, hs⟩ := hs
  refine lv_if_lt (tgt := 9) hx hb dX3_mode_1 (by decide) (fun c9 => absurd c9 h_101) (fun _ => ?_)
  refine lv_iload_n hx hb dX3_mode_4 rfl (lv_at hl 1 rfl) ?_
  refine lv_iconst (v := 4) hx hb dX3_mode_5 (by decide) ?_
  have h_102 := hs
  refine lv_icmp_le (tgt := 19) hx hb dX3_mode_6 (by decide) (fun _ => ?_) (fun c9 => absurd h_102 c9)
  refine lv_aload_n hx hb dX3_mode_19 rfl (lv_at hl 0 rfl) ?_
  refine lv_iload_n hx hb dX3_mode_20 rfl (lv_at hl 1 rfl) ?_
  refine va_put (D := D) (ci := 4) (v := .int p0) (ty := .int) (C := RX3) (T := TX3) (N := 7) hx hb hts hi3 tyX3 tyX3_ok nmX3 hown hK hP hD hS 0 rfl rfl 3 (by decide) (hts (.fieldLink RX3 27 "DecimalWords" "rounding" "I") (inW_4 _ (List.mem_of_getElem? (i := 22) rfl))) (fun _ h9 => h9) rfl (by decide +kernel) rfl rfl (Nat.le_of_ble_eq_true rfl) dX3_mode_21 (fun H locs hP hD hS => ?_)
  have hP : va_P D vwCl (xw cR ax ar ao ad p0 vtr vsd vrn vom voh vol vop voe vow vok vos vso vmi vco vex) H := hP
  have hD : va_D A (xw cR ax ar ao ad p0 vtr vsd vrn vom voh vol vop voe vow vok vos vso vmi vco vex) := hD
  have e9 := Eq.symm hu; subst e9
  exact y_vret hx hb hr hlocks hQ hK hP hD hS rfl (Nat.le_of_ble_eq_true rfl) (Nat.le_of_ble_eq_true rfl) dX3_mode_24

def S_X3_trap_b1  (p0 : Int32) : Prop := p0 < 0
def rm_X3_trap : Room := { frames := 6, cells := 1, slots := 6, locals := 82 }
set_option maxHeartbeats 4000000 in
set_option maxRecDepth 100000 in
theorem c_X3_trap_b1 (l : Launch) (hl0 : l.stackTraces = false) (D : va_G) (cR cI cJ cZ : ClassId) (t0 : Nat) (sv : Nat → Nat) (ax ar ao : Nat) (ad : Nat → Nat) (vrd : Int32) (vtr : Int32) (vsd : Int32) (vrn : Int32) (vom : Bool) (voh : Int64) (vol : Int64) (vop : Int32) (voe : Bool) (vow : Int32) (vok : Int64) (vos : Int32) (vso : Nat → Int32) (vmi : Nat → Bool) (vco : Nat → Int64) (vex : Nat → Int32) (p0 : Int32) (hs : S_X3_trap_b1 p0) : XT l D (xty cR cI cJ cZ) t0 sv yX3_trap cX3_trap 2 none rm_X3_trap 1 [.ref ax, .int p0] (some eIA) none (xw cR ax ar ao ad vrd vtr vsd vrn vom voh vol vop voe vow vok vos vso vmi vco vex) (xw cR ax ar ao ad vrd vtr vsd vrn vom voh vol vop voe vow vok vos vso vmi vco vex) := by
  refine XT.of (by decide) (Nat.le_of_ble_eq_true rfl) ?_
  intro p e s m args below meth c A Q F hnt hK hP hD hA hY hS hQ ls hl
  have hSt := hY.1
  obtain ⟨hx, hb, hr, hts, hown, hlocks, hml⟩ := F
  have hCF : CallFix p m c cX3_trap 2 s args gW RX3 := ⟨hx, hb, hml, hown, hts⟩
  unfold S_X3_trap_b1 at hs
  obtain ⟨H, eH⟩ : ∃ y9 : Heap, y9 = s.heap := ⟨_, rfl⟩
  obtain ⟨locs, eL⟩ : ∃ y9 : List Loc, y9 = [] := ⟨_, rfl⟩
  rw [← eL] at hS ⊢
  have hP : va_P D vwCl (xw cR ax ar ao ad vrd vtr vsd vrn vom voh vol vop voe vow vok vos vso vmi vco vex) H := by rw [eH]; exact hP
  have hS : va_S A s.heap H locs := by rw [eH]; exact hS
  suffices goal9 : W p l e rm_X3_trap s m args below meth c H locs 0 0 Q (F0 m 0 ls []) from by rw [← eH]; exact goal9
  have hl : lv_has ls 2 [(0, .ref ax), (1, .int p0)] := hl
  refine lv_iload_n hx hb dX3_trap_0 rfl (lv_at hl 1 rfl) ?_
  have h_101 := hs
  refine lv_if_lt (tgt := 10) hx hb dX3_trap_1 (by decide) (fun _ => ?_) (fun c9 => absurd h_101 c9)
  exact y_throw hl0 ⟨hx, hb, hr, hts, hown, hlocks, hml⟩ hnt hK hP hD hS hY hQ hl.1 rfl (by decide +kernel) (inW_4 _ (List.mem_of_getElem? (i := 29) rfl)) (inW_4 _ (List.mem_of_getElem? (i := 30) rfl)) hY.2.2.2.1.2.2.2.2.2.1 yat_IA dX3_trap_10 dX3_trap_13 dX3_trap_14 dX3_trap_16 dX3_trap_19 (Nat.le_of_ble_eq_true rfl) (Nat.le_of_ble_eq_true rfl) (Nat.le_of_ble_eq_true rfl) (Nat.le_of_ble_eq_true rfl) (Nat.le_of_ble_eq_true rfl) (Nat.le_of_ble_eq_true rfl)

def S_X3_trap_b2  (p0 : Int32) : Prop := (¬ (p0 < 0)) ∧ ¬ (p0 ≤ 31)
set_option maxHeartbeats 4000000 in
set_option maxRecDepth 100000 in
theorem c_X3_trap_b2 (l : Launch) (hl0 : l.stackTraces = false) (D : va_G) (cR cI cJ cZ : ClassId) (t0 : Nat) (sv : Nat → Nat) (ax ar ao : Nat) (ad : Nat → Nat) (vrd : Int32) (vtr : Int32) (vsd : Int32) (vrn : Int32) (vom : Bool) (voh : Int64) (vol : Int64) (vop : Int32) (voe : Bool) (vow : Int32) (vok : Int64) (vos : Int32) (vso : Nat → Int32) (vmi : Nat → Bool) (vco : Nat → Int64) (vex : Nat → Int32) (p0 : Int32) (hs : S_X3_trap_b2 p0) : XT l D (xty cR cI cJ cZ) t0 sv yX3_trap cX3_trap 2 none rm_X3_trap 1 [.ref ax, .int p0] (some eIA) none (xw cR ax ar ao ad vrd vtr vsd vrn vom voh vol vop voe vow vok vos vso vmi vco vex) (xw cR ax ar ao ad vrd vtr vsd vrn vom voh vol vop voe vow vok vos vso vmi vco vex) := by
  refine XT.of (by decide) (Nat.le_of_ble_eq_true rfl) ?_
  intro p e s m args below meth c A Q F hnt hK hP hD hA hY hS hQ ls hl
  have hSt := hY.1
  obtain ⟨hx, hb, hr, hts, hown, hlocks, hml⟩ := F
  have hCF : CallFix p m c cX3_trap 2 s args gW RX3 := ⟨hx, hb, hml, hown, hts⟩
  unfold S_X3_trap_b2 at hs
  obtain ⟨H, eH⟩ : ∃ y9 : Heap, y9 = s.heap := ⟨_, rfl⟩
  obtain ⟨locs, eL⟩ : ∃ y9 : List Loc, y9 = [] := ⟨_, rfl⟩
  rw [← eL] at hS ⊢
  have hP : va_P D vwCl (xw cR ax ar ao ad vrd vtr vsd vrn vom voh vol vop voe vow vok vos vso vmi vco vex) H := by rw [eH]; exact hP
  have hS : va_S A s.heap H locs := by rw [eH]; exact hS
  suffices goal9 : W p l e rm_X3_trap s m args below meth c H locs 0 0 Q (F0 m 0 ls []) from by rw [← eH]; exact goal9
  have hl : lv_has ls 2 [(0, .ref ax), (1, .int p0)] := hl
  refine lv_iload_n hx hb dX3_trap_0 rfl (lv_at hl 1 rfl) ?_
  obtain ⟨h_101, hs⟩ := hs
  refine lv_if_lt (tgt := 10) hx hb dX3_trap_1 (by decide) (fun c9 => absurd c9 h_101) (fun _ => ?_)
  refine lv_iload_n hx hb dX3_trap_4 rfl (lv_at hl 1 rfl) ?_
  refine lv_bipush (v := 31) hx hb dX3_trap_5 (by decide) ?_
  have h_102 := hs
  refine lv_icmp_le (tgt := 20) hx hb dX3_trap_7 (by decide) (fun c9 => absurd c9 h_102) (fun _ => ?_)
  exact y_throw hl0 ⟨hx, hb, hr, hts, hown, hlocks, hml⟩ hnt hK hP hD hS hY hQ hl.1 rfl (by decide +kernel) (inW_4 _ (List.mem_of_getElem? (i := 29) rfl)) (inW_4 _ (List.mem_of_getElem? (i := 30) rfl)) hY.2.2.2.1.2.2.2.2.2.1 yat_IA dX3_trap_10 dX3_trap_13 dX3_trap_14 dX3_trap_16 dX3_trap_19 (Nat.le_of_ble_eq_true rfl) (Nat.le_of_ble_eq_true rfl) (Nat.le_of_ble_eq_true rfl) (Nat.le_of_ble_eq_true rfl) (Nat.le_of_ble_eq_true rfl) (Nat.le_of_ble_eq_true rfl)

def F_X3_trap_ok  (p0 : Int32) : Int32 := p0
def RF_X3_trap_ok  (p0 : Int32) (u9 : Int32) : Prop := u9 = p0
theorem rF_X3_trap_ok  (p0 : Int32) {u9 : Int32} (hu : u9 = F_X3_trap_ok p0) : RF_X3_trap_ok p0 u9 := by
  unfold RF_X3_trap_ok
  exact hu
def S_X3_trap_ok  (p0 : Int32) : Prop := (¬ (p0 < 0)) ∧ p0 ≤ 31
set_option maxHeartbeats 4000000 in
set_option maxRecDepth 100000 in
theorem c_X3_trap_ok (l : Launch) (hl0 : l.stackTraces = false) (D : va_G) (cR cI cJ cZ : ClassId) (t0 : Nat) (sv : Nat → Nat) (ax ar ao : Nat) (ad : Nat → Nat) (vrd : Int32) (vtr : Int32) (vsd : Int32) (vrn : Int32) (vom : Bool) (voh : Int64) (vol : Int64) (vop : Int32) (voe : Bool) (vow : Int32) (vok : Int64) (vos : Int32) (vso : Nat → Int32) (vmi : Nat → Bool) (vco : Nat → Int64) (vex : Nat → Int32) (p0 : Int32) (u : Int32) (hu : u = F_X3_trap_ok p0) (hs : S_X3_trap_ok p0) : XT l D (xty cR cI cJ cZ) t0 sv yX3_trap cX3_trap 2 none rm_X3_trap 1 [.ref ax, .int p0] none none (xw cR ax ar ao ad vrd vtr vsd vrn vom voh vol vop voe vow vok vos vso vmi vco vex) (xw cR ax ar ao ad vrd u vsd vrn vom voh vol vop voe vow vok vos vso vmi vco vex) := by
  refine XT.of (by decide) (Nat.le_of_ble_eq_true rfl) ?_
  intro p e s m args below meth c A Q F hnt hK hP hD hA hY hS hQ ls hl
  have hSt := hY.1
  obtain ⟨hx, hb, hr, hts, hown, hlocks, hml⟩ := F
  have hCF : CallFix p m c cX3_trap 2 s args gW RX3 := ⟨hx, hb, hml, hown, hts⟩
  unfold S_X3_trap_ok at hs
  have hu := rF_X3_trap_ok p0 hu
  unfold RF_X3_trap_ok at hu
  obtain ⟨H, eH⟩ : ∃ y9 : Heap, y9 = s.heap := ⟨_, rfl⟩
  obtain ⟨locs, eL⟩ : ∃ y9 : List Loc, y9 = [] := ⟨_, rfl⟩
  rw [← eL] at hS ⊢
  have hP : va_P D vwCl (xw cR ax ar ao ad vrd vtr vsd vrn vom voh vol vop voe vow vok vos vso vmi vco vex) H := by rw [eH]; exact hP
  have hS : va_S A s.heap H locs := by rw [eH]; exact hS
  suffices goal9 : W p l e rm_X3_trap s m args below meth c H locs 0 0 Q (F0 m 0 ls []) from by rw [← eH]; exact goal9
  have hl : lv_has ls 2 [(0, .ref ax), (1, .int p0)] := hl
  have hi3 : ∀ w ∈ wsX30, w ∈ gW := inW_X3
  refine lv_iload_n hx hb dX3_trap_0 rfl (lv_at hl 1 rfl) ?_
  obtain ⟨h_101, hs⟩ := hs
  refine lv_if_lt (tgt := 10) hx hb dX3_trap_1 (by decide) (fun c9 => absurd c9 h_101) (fun _ => ?_)
  refine lv_iload_n hx hb dX3_trap_4 rfl (lv_at hl 1 rfl) ?_
  refine lv_bipush (v := 31) hx hb dX3_trap_5 (by decide) ?_
  have h_102 := hs
  refine lv_icmp_le (tgt := 20) hx hb dX3_trap_7 (by decide) (fun _ => ?_) (fun c9 => absurd h_102 c9)
  refine lv_aload_n hx hb dX3_trap_20 rfl (lv_at hl 0 rfl) ?_
  refine lv_iload_n hx hb dX3_trap_21 rfl (lv_at hl 1 rfl) ?_
  refine va_put (D := D) (ci := 4) (v := .int p0) (ty := .int) (C := RX3) (T := TX3) (N := 7) hx hb hts hi3 tyX3 tyX3_ok nmX3 hown hK hP hD hS 0 rfl rfl 4 (by decide) (hts (.fieldLink RX3 31 "DecimalWords" "traps" "I") (inW_4 _ (List.mem_of_getElem? (i := 23) rfl))) (fun _ h9 => h9) rfl (by decide +kernel) rfl rfl (Nat.le_of_ble_eq_true rfl) dX3_trap_22 (fun H locs hP hD hS => ?_)
  have hP : va_P D vwCl (xw cR ax ar ao ad vrd p0 vsd vrn vom voh vol vop voe vow vok vos vso vmi vco vex) H := hP
  have hD : va_D A (xw cR ax ar ao ad vrd p0 vsd vrn vom voh vol vop voe vow vok vos vso vmi vco vex) := hD
  have e9 := Eq.symm hu; subst e9
  exact y_vret hx hb hr hlocks hQ hK hP hD hS rfl (Nat.le_of_ble_eq_true rfl) (Nat.le_of_ble_eq_true rfl) dX3_trap_25

def S_X3_kind_b0  (p0 : Int32) : Prop := ¬ vp_in p0 8
def rm_X3_kind : Room := { frames := 7, cells := 1, slots := 6, locals := 110 }
set_option maxHeartbeats 4000000 in
set_option maxRecDepth 100000 in
theorem c_X3_kind_b0 (l : Launch) (hl0 : l.stackTraces = false) (D : va_G) (cR cI cJ cZ : ClassId) (t0 : Nat) (sv : Nat → Nat) (ax ar ao : Nat) (ad : Nat → Nat) (vrd : Int32) (vtr : Int32) (vsd : Int32) (vrn : Int32) (vom : Bool) (voh : Int64) (vol : Int64) (vop : Int32) (voe : Bool) (vow : Int32) (vok : Int64) (vos : Int32) (vso : Nat → Int32) (vmi : Nat → Bool) (vco : Nat → Int64) (vex : Nat → Int32) (p0 : Int32) (hs : S_X3_kind_b0 p0) : XT l D (xty cR cI cJ cZ) t0 sv yX3_kind cX3_kind 2 (some .int) rm_X3_kind 1 [.ref ax, .int p0] (some eIO) none (xw cR ax ar ao ad vrd vtr vsd vrn vom voh vol vop voe vow vok vos vso vmi vco vex) (xw cR ax ar ao ad vrd vtr vsd vrn vom voh vol vop voe vow vok vos vso vmi vco vex) := by
  refine XT.of (by decide) (Nat.le_of_ble_eq_true rfl) ?_
  intro p e s m args below meth c A Q F hnt hK hP hD hA hY hS hQ ls hl
  have hSt := hY.1
  obtain ⟨hx, hb, hr, hts, hown, hlocks, hml⟩ := F
  have hCF : CallFix p m c cX3_kind 2 s args gW RX3 := ⟨hx, hb, hml, hown, hts⟩
  unfold S_X3_kind_b0 at hs
  obtain ⟨H, eH⟩ : ∃ y9 : Heap, y9 = s.heap := ⟨_, rfl⟩
  obtain ⟨locs, eL⟩ : ∃ y9 : List Loc, y9 = [] := ⟨_, rfl⟩
  rw [← eL] at hS ⊢
  have hP : va_P D vwCl (xw cR ax ar ao ad vrd vtr vsd vrn vom voh vol vop voe vow vok vos vso vmi vco vex) H := by rw [eH]; exact hP
  have hS : va_S A s.heap H locs := by rw [eH]; exact hS
  suffices goal9 : W p l e rm_X3_kind s m args below meth c H locs 0 0 Q (F0 m 0 ls []) from by rw [← eH]; exact goal9
  have hl : lv_has ls 2 [(0, .ref ax), (1, .int p0)] := hl
  refine lv_iload_n hx hb dX3_kind_0 rfl (lv_at hl 1 rfl) ?_
  have h_101 := hs
  exact y_nbad (As := [.int p0]) (rest := []) hCF (c_X3_needRegister_bad l hl0 D cR cI cJ cZ t0 sv p0 h_101) (y_cwS 1 hts (inW_4 _ (List.mem_of_getElem? (i := 32) rfl)) (inW_4 _ (List.mem_of_getElem? (i := 33) rfl)) (inW_1 _ (List.mem_of_getElem? (i := 25) rfl)) (inW_4 _ (List.mem_of_getElem? (i := 34) rfl)) rfl rfl (by decide +kernel) ⟨Nat.le_of_ble_eq_true rfl, Nat.le_of_ble_eq_true rfl⟩) hK hP hD hS hA hY rfl hl.1 rfl (Nat.le_of_ble_eq_true rfl) dX3_kind_1 ⟨Nat.le_of_ble_eq_true rfl, Nat.le_of_ble_eq_true rfl⟩ hnt hlocks hQ rfl (Nat.le_of_ble_eq_true rfl) (Nat.le_of_ble_eq_true rfl)

def Z_X3_kind_ok_J_106 (vmi : Nat → Bool) (p0 : Int32) : Int32 := (if vmi (p0.toNatClampNeg) = true then 4 else 0)
def RZ_X3_kind_ok_J_106 (vmi : Nat → Bool) (p0 : Int32) (u9 : Int32) : Prop := (if vmi (p0.toNatClampNeg) = true then u9 = 4 else u9 = 0)
theorem rZ_X3_kind_ok_J_106 (vmi : Nat → Bool) (p0 : Int32) {u9 : Int32} (hu : u9 = Z_X3_kind_ok_J_106 vmi p0) : RZ_X3_kind_ok_J_106 vmi p0 u9 := by
  unfold RZ_X3_kind_ok_J_106
  refine ite_P (fun c_103 => ?_) (fun c_103 => ?_)
  · have hu := hu.trans (if_pos c_103)
    exact hu
  · have hu := hu.trans (if_neg c_103)
    exact hu
def F_X3_kind_ok (vso : Nat → Int32) (vmi : Nat → Bool) (p0 : Int32) : Int32 := (bnd (Z_X3_kind_ok_J_106 vmi p0) (fun z105 : Int32 => (vso (p0.toNatClampNeg)) + z105))
def RF_X3_kind_ok (vso : Nat → Int32) (vmi : Nat → Bool) (p0 : Int32) (u9 : Int32) : Prop := (∀ z105 : Int32, z105 = Z_X3_kind_ok_J_106 vmi p0 → u9 = (vso (p0.toNatClampNeg)) + z105)
theorem rF_X3_kind_ok (vso : Nat → Int32) (vmi : Nat → Bool) (p0 : Int32) {u9 : Int32} (hu : u9 = F_X3_kind_ok vso vmi p0) : RF_X3_kind_ok vso vmi p0 u9 := by
  unfold RF_X3_kind_ok
  intro z105 ez105
  have hu := bnd_n hu ez105
  exact hu
def S_X3_kind_ok (vso : Nat → Int32) (vmi : Nat → Bool) (p0 : Int32) : Prop := vp_in p0 8
set_option maxHeartbeats 4000000 in
set_option maxRecDepth 100000 in
theorem c_X3_kind_ok (l : Launch) (hl0 : l.stackTraces = false) (D : va_G) (cR cI cJ cZ : ClassId) (t0 : Nat) (sv : Nat → Nat) (ax ar ao : Nat) (ad : Nat → Nat) (vrd : Int32) (vtr : Int32) (vsd : Int32) (vrn : Int32) (vom : Bool) (voh : Int64) (vol : Int64) (vop : Int32) (voe : Bool) (vow : Int32) (vok : Int64) (vos : Int32) (vso : Nat → Int32) (vmi : Nat → Bool) (vco : Nat → Int64) (vex : Nat → Int32) (p0 : Int32) (u : Int32) (hu : u = F_X3_kind_ok vso vmi p0) (hs : S_X3_kind_ok vso vmi p0) : XT l D (xty cR cI cJ cZ) t0 sv yX3_kind cX3_kind 2 (some .int) rm_X3_kind 1 [.ref ax, .int p0] none (some (.int u)) (xw cR ax ar ao ad vrd vtr vsd vrn vom voh vol vop voe vow vok vos vso vmi vco vex) (xw cR ax ar ao ad vrd vtr vsd vrn vom voh vol vop voe vow vok vos vso vmi vco vex) := by
  refine XT.of (by decide) (Nat.le_of_ble_eq_true rfl) ?_
  intro p e s m args below meth c A Q F hnt hK hP hD hA hY hS hQ ls hl
  have hSt := hY.1
  obtain ⟨hx, hb, hr, hts, hown, hlocks, hml⟩ := F
  have hCF : CallFix p m c cX3_kind 2 s args gW RX3 := ⟨hx, hb, hml, hown, hts⟩
  unfold S_X3_kind_ok at hs
  have hu := rF_X3_kind_ok vso vmi p0 hu
  unfold RF_X3_kind_ok at hu
  obtain ⟨H, eH⟩ : ∃ y9 : Heap, y9 = s.heap := ⟨_, rfl⟩
  obtain ⟨locs, eL⟩ : ∃ y9 : List Loc, y9 = [] := ⟨_, rfl⟩
  rw [← eL] at hS ⊢
  have hP : va_P D vwCl (xw cR ax ar ao ad vrd vtr vsd vrn vom voh vol vop voe vow vok vos vso vmi vco vex) H := by rw [eH]; exact hP
  have hS : va_S A s.heap H locs := by rw [eH]; exact hS
  suffices goal9 : W p l e rm_X3_kind s m args below meth c H locs 0 0 Q (F0 m 0 ls []) from by rw [← eH]; exact goal9
  have hl : lv_has ls 2 [(0, .ref ax), (1, .int p0)] := hl
  have hi0 : ∀ w ∈ wsX00, w ∈ gW := inW_X0
  have hi3 : ∀ w ∈ wsX30, w ∈ gW := inW_X3
  refine lv_iload_n hx hb dX3_kind_0 rfl (lv_at hl 1 rfl) ?_
  have h_101 := hs
  refine y_nok (As := [.int p0]) (rest := []) hCF (c_X3_needRegister_ok l hl0 D cR cI cJ cZ t0 sv p0 h_101) (y_cwS 1 hts (inW_4 _ (List.mem_of_getElem? (i := 32) rfl)) (inW_4 _ (List.mem_of_getElem? (i := 33) rfl)) (inW_1 _ (List.mem_of_getElem? (i := 25) rfl)) (inW_4 _ (List.mem_of_getElem? (i := 34) rfl)) rfl rfl (by decide +kernel) ⟨Nat.le_of_ble_eq_true rfl, Nat.le_of_ble_eq_true rfl⟩) hK hP hD hS hA hY rfl hl.1 rfl (Nat.le_of_ble_eq_true rfl) dX3_kind_1 ⟨Nat.le_of_ble_eq_true rfl, Nat.le_of_ble_eq_true rfl⟩ (fun H locs hP hD hS => ?_)
  show W p l e _ s m args below meth c H locs 1 6 Q (F0 m 4 ls [])
  refine lv_aload_n hx hb dX3_kind_4 rfl (lv_at hl 0 rfl) ?_
  refine va_get (D := D) (ci := 4) (v := .ref ar) (C := RX3) (T := TX3) (N := 7) hx hb hts hi3 hown hK hP 0 rfl rfl 0 (by decide) (hts (.fieldLink RX3 11 "DecimalWords" "registers" "[LDecimalWords$Datum;") (inW_4 _ (List.mem_of_getElem? (i := 16) rfl))) (fun _ h9 => h9) rfl dX3_kind_5 ?_
  refine lv_iload_n hx hb dX3_kind_8 rfl (lv_at hl 1 rfl) ?_
  refine x_aald hx hb hK hP h_101 dX3_kind_9 ?_
  refine g_so (i := p0.toNatClampNeg) hx hb hts hi0 hown hK hP (vp_lt9 h_101) (hts (.fieldLink RX3 70 "DecimalWords$Datum" "sort" "I") (inW_5 _ (List.mem_of_getElem? (i := 9) rfl))) dX3_kind_10 ?_
  refine lv_aload_n hx hb dX3_kind_13 rfl (lv_at hl 0 rfl) ?_
  refine va_get (D := D) (ci := 4) (v := .ref ar) (C := RX3) (T := TX3) (N := 7) hx hb hts hi3 hown hK hP 0 rfl rfl 0 (by decide) (hts (.fieldLink RX3 11 "DecimalWords" "registers" "[LDecimalWords$Datum;") (inW_4 _ (List.mem_of_getElem? (i := 16) rfl))) (fun _ h9 => h9) rfl dX3_kind_14 ?_
  refine lv_iload_n hx hb dX3_kind_17 rfl (lv_at hl 1 rfl) ?_
  refine x_aald hx hb hK hP h_101 dX3_kind_18 ?_
  refine g_mi (i := p0.toNatClampNeg) hx hb hts hi0 hown hK hP (vp_lt9 h_101) (hts (.fieldLink RX3 77 "DecimalWords$Datum" "minus" "Z") (inW_5 _ (List.mem_of_getElem? (i := 14) rfl))) dX3_kind_19 ?_
  have J_106 : (∀ z105 : Int32, z105 = Z_X3_kind_ok_J_106 vmi p0 → ∀ (H : Heap) (locs : List Loc), va_P D vwCl (xw cR ax ar ao ad vrd vtr vsd vrn vom voh vol vop voe vow vok vos vso vmi vco vex) H → va_D A (xw cR ax ar ao ad vrd vtr vsd vrn vom voh vol vop voe vow vok vos vso vmi vco vex) → va_S A s.heap H locs → ∀ ls : Array Slot, lv_has ls 2 [] → W p l e rm_X3_kind s m args below meth c H locs 1 6 Q (F0 m 30 ls [.int z105, .int (vso (p0.toNatClampNeg))])) := by
    intro z105 ez105 H locs hP hD hS ls hl
    have hu := hu _ ez105
    refine lv_iadd hx hb dX3_kind_30 ?_
    have e9 := Eq.symm hu; subst e9
    exact y_iret hx hb hr hlocks hQ hK hP hD hS rfl (Nat.le_of_ble_eq_true rfl) (Nat.le_of_ble_eq_true rfl) rfl dX3_kind_31
  obtain ⟨z9, ez9⟩ : ∃ y9 : Int32, y9 = Z_X3_kind_ok_J_106 vmi p0 := ⟨_, rfl⟩
  have hz := rZ_X3_kind_ok_J_106 vmi p0 ez9
  unfold RZ_X3_kind_ok_J_106 at hz
  refine xb_eq (tgt := 29) hx hb dX3_kind_22 (by decide) (fun c_103 => ?_) (fun c_103 => ?_)
  · rw [if_neg c_103] at hz
    refine lv_iconst (v := 0) hx hb dX3_kind_29 (by decide) ?_
    have e9 := Eq.symm hz; subst e9
    exact J_106 _ ez9 H locs hP hD hS ls (lv_sub hl [] rfl)
  · rw [if_pos c_103] at hz
    refine lv_iconst (v := 4) hx hb dX3_kind_25 (by decide) ?_
    refine lv_goto (tgt := 30) hx hb dX3_kind_26 (by decide) ?_
    have e9 := Eq.symm hz; subst e9
    exact J_106 _ ez9 H locs hP hD hS ls (lv_sub hl [] rfl)

def S_X3_coefficient_b0  (p0 : Int32) : Prop := ¬ vp_in p0 8
def rm_X3_coefficient : Room := { frames := 7, cells := 1, slots := 6, locals := 110 }
set_option maxHeartbeats 4000000 in
set_option maxRecDepth 100000 in
theorem c_X3_coefficient_b0 (l : Launch) (hl0 : l.stackTraces = false) (D : va_G) (cR cI cJ cZ : ClassId) (t0 : Nat) (sv : Nat → Nat) (ax ar ao : Nat) (ad : Nat → Nat) (vrd : Int32) (vtr : Int32) (vsd : Int32) (vrn : Int32) (vom : Bool) (voh : Int64) (vol : Int64) (vop : Int32) (voe : Bool) (vow : Int32) (vok : Int64) (vos : Int32) (vso : Nat → Int32) (vmi : Nat → Bool) (vco : Nat → Int64) (vex : Nat → Int32) (p0 : Int32) (hs : S_X3_coefficient_b0 p0) : XT l D (xty cR cI cJ cZ) t0 sv yX3_coefficient cX3_coefficient 2 (some .long) rm_X3_coefficient 1 [.ref ax, .int p0] (some eIO) none (xw cR ax ar ao ad vrd vtr vsd vrn vom voh vol vop voe vow vok vos vso vmi vco vex) (xw cR ax ar ao ad vrd vtr vsd vrn vom voh vol vop voe vow vok vos vso vmi vco vex) := by
  refine XT.of (by decide) (Nat.le_of_ble_eq_true rfl) ?_
  intro p e s m args below meth c A Q F hnt hK hP hD hA hY hS hQ ls hl
  have hSt := hY.1
  obtain ⟨hx, hb, hr, hts, hown, hlocks, hml⟩ := F
  have hCF : CallFix p m c cX3_coefficient 2 s args gW RX3 := ⟨hx, hb, hml, hown, hts⟩
  unfold S_X3_coefficient_b0 at hs
  obtain ⟨H, eH⟩ : ∃ y9 : Heap, y9 = s.heap := ⟨_, rfl⟩
  obtain ⟨locs, eL⟩ : ∃ y9 : List Loc, y9 = [] := ⟨_, rfl⟩
  rw [← eL] at hS ⊢
  have hP : va_P D vwCl (xw cR ax ar ao ad vrd vtr vsd vrn vom voh vol vop voe vow vok vos vso vmi vco vex) H := by rw [eH]; exact hP
  have hS : va_S A s.heap H locs := by rw [eH]; exact hS
  suffices goal9 : W p l e rm_X3_coefficient s m args below meth c H locs 0 0 Q (F0 m 0 ls []) from by rw [← eH]; exact goal9
  have hl : lv_has ls 2 [(0, .ref ax), (1, .int p0)] := hl
  refine lv_iload_n hx hb dX3_coefficient_0 rfl (lv_at hl 1 rfl) ?_
  have h_101 := hs
  exact y_nbad (As := [.int p0]) (rest := []) hCF (c_X3_needRegister_bad l hl0 D cR cI cJ cZ t0 sv p0 h_101) (y_cwS 1 hts (inW_4 _ (List.mem_of_getElem? (i := 32) rfl)) (inW_4 _ (List.mem_of_getElem? (i := 33) rfl)) (inW_1 _ (List.mem_of_getElem? (i := 25) rfl)) (inW_4 _ (List.mem_of_getElem? (i := 34) rfl)) rfl rfl (by decide +kernel) ⟨Nat.le_of_ble_eq_true rfl, Nat.le_of_ble_eq_true rfl⟩) hK hP hD hS hA hY rfl hl.1 rfl (Nat.le_of_ble_eq_true rfl) dX3_coefficient_1 ⟨Nat.le_of_ble_eq_true rfl, Nat.le_of_ble_eq_true rfl⟩ hnt hlocks hQ rfl (Nat.le_of_ble_eq_true rfl) (Nat.le_of_ble_eq_true rfl)

def F_X3_coefficient_ok (vco : Nat → Int64) (p0 : Int32) : Int64 := vco (p0.toNatClampNeg)
def RF_X3_coefficient_ok (vco : Nat → Int64) (p0 : Int32) (u9 : Int64) : Prop := u9 = vco (p0.toNatClampNeg)
theorem rF_X3_coefficient_ok (vco : Nat → Int64) (p0 : Int32) {u9 : Int64} (hu : u9 = F_X3_coefficient_ok vco p0) : RF_X3_coefficient_ok vco p0 u9 := by
  unfold RF_X3_coefficient_ok
  exact hu
def S_X3_coefficient_ok (vco : Nat → Int64) (p0 : Int32) : Prop := vp_in p0 8
set_option maxHeartbeats 4000000 in
set_option maxRecDepth 100000 in
theorem c_X3_coefficient_ok (l : Launch) (hl0 : l.stackTraces = false) (D : va_G) (cR cI cJ cZ : ClassId) (t0 : Nat) (sv : Nat → Nat) (ax ar ao : Nat) (ad : Nat → Nat) (vrd : Int32) (vtr : Int32) (vsd : Int32) (vrn : Int32) (vom : Bool) (voh : Int64) (vol : Int64) (vop : Int32) (voe : Bool) (vow : Int32) (vok : Int64) (vos : Int32) (vso : Nat → Int32) (vmi : Nat → Bool) (vco : Nat → Int64) (vex : Nat → Int32) (p0 : Int32) (u : Int64) (hu : u = F_X3_coefficient_ok vco p0) (hs : S_X3_coefficient_ok vco p0) : XT l D (xty cR cI cJ cZ) t0 sv yX3_coefficient cX3_coefficient 2 (some .long) rm_X3_coefficient 1 [.ref ax, .int p0] none (some (.long u)) (xw cR ax ar ao ad vrd vtr vsd vrn vom voh vol vop voe vow vok vos vso vmi vco vex) (xw cR ax ar ao ad vrd vtr vsd vrn vom voh vol vop voe vow vok vos vso vmi vco vex) := by
  refine XT.of (by decide) (Nat.le_of_ble_eq_true rfl) ?_
  intro p e s m args below meth c A Q F hnt hK hP hD hA hY hS hQ ls hl
  have hSt := hY.1
  obtain ⟨hx, hb, hr, hts, hown, hlocks, hml⟩ := F
  have hCF : CallFix p m c cX3_coefficient 2 s args gW RX3 := ⟨hx, hb, hml, hown, hts⟩
  unfold S_X3_coefficient_ok at hs
  have hu := rF_X3_coefficient_ok vco p0 hu
  unfold RF_X3_coefficient_ok at hu
  obtain ⟨H, eH⟩ : ∃ y9 : Heap, y9 = s.heap := ⟨_, rfl⟩
  obtain ⟨locs, eL⟩ : ∃ y9 : List Loc, y9 = [] := ⟨_, rfl⟩
  rw [← eL] at hS ⊢
  have hP : va_P D vwCl (xw cR ax ar ao ad vrd vtr vsd vrn vom voh vol vop voe vow vok vos vso vmi vco vex) H := by rw [eH]; exact hP
  have hS : va_S A s.heap H locs := by rw [eH]; exact hS
  suffices goal9 : W p l e rm_X3_coefficient s m args below meth c H locs 0 0 Q (F0 m 0 ls []) from by rw [← eH]; exact goal9
  have hl : lv_has ls 2 [(0, .ref ax), (1, .int p0)] := hl
  have hi0 : ∀ w ∈ wsX00, w ∈ gW := inW_X0
  have hi3 : ∀ w ∈ wsX30, w ∈ gW := inW_X3
  refine lv_iload_n hx hb dX3_coefficient_0 rfl (lv_at hl 1 rfl) ?_
  have h_101 := hs
  refine y_nok (As := [.int p0]) (rest := []) hCF (c_X3_needRegister_ok l hl0 D cR cI cJ cZ t0 sv p0 h_101) (y_cwS 1 hts (inW_4 _ (List.mem_of_getElem? (i := 32) rfl)) (inW_4 _ (List.mem_of_getElem? (i := 33) rfl)) (inW_1 _ (List.mem_of_getElem? (i := 25) rfl)) (inW_4 _ (List.mem_of_getElem? (i := 34) rfl)) rfl rfl (by decide +kernel) ⟨Nat.le_of_ble_eq_true rfl, Nat.le_of_ble_eq_true rfl⟩) hK hP hD hS hA hY rfl hl.1 rfl (Nat.le_of_ble_eq_true rfl) dX3_coefficient_1 ⟨Nat.le_of_ble_eq_true rfl, Nat.le_of_ble_eq_true rfl⟩ (fun H locs hP hD hS => ?_)
  show W p l e _ s m args below meth c H locs 1 6 Q (F0 m 4 ls [])
  refine lv_aload_n hx hb dX3_coefficient_4 rfl (lv_at hl 0 rfl) ?_
  refine va_get (D := D) (ci := 4) (v := .ref ar) (C := RX3) (T := TX3) (N := 7) hx hb hts hi3 hown hK hP 0 rfl rfl 0 (by decide) (hts (.fieldLink RX3 11 "DecimalWords" "registers" "[LDecimalWords$Datum;") (inW_4 _ (List.mem_of_getElem? (i := 16) rfl))) (fun _ h9 => h9) rfl dX3_coefficient_5 ?_
  refine lv_iload_n hx hb dX3_coefficient_8 rfl (lv_at hl 1 rfl) ?_
  refine x_aald hx hb hK hP h_101 dX3_coefficient_9 ?_
  refine g_co (i := p0.toNatClampNeg) hx hb hts hi0 hown hK hP (vp_lt9 h_101) (hts (.fieldLink RX3 81 "DecimalWords$Datum" "coefficient" "J") (inW_5 _ (List.mem_of_getElem? (i := 16) rfl))) dX3_coefficient_10 ?_
  have e9 := Eq.symm hu; subst e9
  exact y_lret hx hb hr hlocks hQ hK hP hD hS rfl (Nat.le_of_ble_eq_true rfl) (Nat.le_of_ble_eq_true rfl) rfl dX3_coefficient_13

def S_X3_exponent_b0  (p0 : Int32) : Prop := ¬ vp_in p0 8
def rm_X3_exponent : Room := { frames := 7, cells := 1, slots := 6, locals := 110 }
set_option maxHeartbeats 4000000 in
set_option maxRecDepth 100000 in
theorem c_X3_exponent_b0 (l : Launch) (hl0 : l.stackTraces = false) (D : va_G) (cR cI cJ cZ : ClassId) (t0 : Nat) (sv : Nat → Nat) (ax ar ao : Nat) (ad : Nat → Nat) (vrd : Int32) (vtr : Int32) (vsd : Int32) (vrn : Int32) (vom : Bool) (voh : Int64) (vol : Int64) (vop : Int32) (voe : Bool) (vow : Int32) (vok : Int64) (vos : Int32) (vso : Nat → Int32) (vmi : Nat → Bool) (vco : Nat → Int64) (vex : Nat → Int32) (p0 : Int32) (hs : S_X3_exponent_b0 p0) : XT l D (xty cR cI cJ cZ) t0 sv yX3_exponent cX3_exponent 2 (some .int) rm_X3_exponent 1 [.ref ax, .int p0] (some eIO) none (xw cR ax ar ao ad vrd vtr vsd vrn vom voh vol vop voe vow vok vos vso vmi vco vex) (xw cR ax ar ao ad vrd vtr vsd vrn vom voh vol vop voe vow vok vos vso vmi vco vex) := by
  refine XT.of (by decide) (Nat.le_of_ble_eq_true rfl) ?_
  intro p e s m args below meth c A Q F hnt hK hP hD hA hY hS hQ ls hl
  have hSt := hY.1
  obtain ⟨hx, hb, hr, hts, hown, hlocks, hml⟩ := F
  have hCF : CallFix p m c cX3_exponent 2 s args gW RX3 := ⟨hx, hb, hml, hown, hts⟩
  unfold S_X3_exponent_b0 at hs
  obtain ⟨H, eH⟩ : ∃ y9 : Heap, y9 = s.heap := ⟨_, rfl⟩
  obtain ⟨locs, eL⟩ : ∃ y9 : List Loc, y9 = [] := ⟨_, rfl⟩
  rw [← eL] at hS ⊢
  have hP : va_P D vwCl (xw cR ax ar ao ad vrd vtr vsd vrn vom voh vol vop voe vow vok vos vso vmi vco vex) H := by rw [eH]; exact hP
  have hS : va_S A s.heap H locs := by rw [eH]; exact hS
  suffices goal9 : W p l e rm_X3_exponent s m args below meth c H locs 0 0 Q (F0 m 0 ls []) from by rw [← eH]; exact goal9
  have hl : lv_has ls 2 [(0, .ref ax), (1, .int p0)] := hl
  refine lv_iload_n hx hb dX3_exponent_0 rfl (lv_at hl 1 rfl) ?_
  have h_101 := hs
  exact y_nbad (As := [.int p0]) (rest := []) hCF (c_X3_needRegister_bad l hl0 D cR cI cJ cZ t0 sv p0 h_101) (y_cwS 1 hts (inW_4 _ (List.mem_of_getElem? (i := 32) rfl)) (inW_4 _ (List.mem_of_getElem? (i := 33) rfl)) (inW_1 _ (List.mem_of_getElem? (i := 25) rfl)) (inW_4 _ (List.mem_of_getElem? (i := 34) rfl)) rfl rfl (by decide +kernel) ⟨Nat.le_of_ble_eq_true rfl, Nat.le_of_ble_eq_true rfl⟩) hK hP hD hS hA hY rfl hl.1 rfl (Nat.le_of_ble_eq_true rfl) dX3_exponent_1 ⟨Nat.le_of_ble_eq_true rfl, Nat.le_of_ble_eq_true rfl⟩ hnt hlocks hQ rfl (Nat.le_of_ble_eq_true rfl) (Nat.le_of_ble_eq_true rfl)

def F_X3_exponent_ok (vex : Nat → Int32) (p0 : Int32) : Int32 := vex (p0.toNatClampNeg)
def RF_X3_exponent_ok (vex : Nat → Int32) (p0 : Int32) (u9 : Int32) : Prop := u9 = vex (p0.toNatClampNeg)
theorem rF_X3_exponent_ok (vex : Nat → Int32) (p0 : Int32) {u9 : Int32} (hu : u9 = F_X3_exponent_ok vex p0) : RF_X3_exponent_ok vex p0 u9 := by
  unfold RF_X3_exponent_ok
  exact hu
def S_X3_exponent_ok (vex : Nat → Int32) (p0 : Int32) : Prop := vp_in p0 8
set_option maxHeartbeats 4000000 in
set_option maxRecDepth 100000 in
theorem c_X3_exponent_ok (l : Launch) (hl0 : l.stackTraces = false) (D : va_G) (cR cI cJ cZ : ClassId) (t0 : Nat) (sv : Nat → Nat) (ax ar ao : Nat) (ad : Nat → Nat) (vrd : Int32) (vtr : Int32) (vsd : Int32) (vrn : Int32) (vom : Bool) (voh : Int64) (vol : Int64) (vop : Int32) (voe : Bool) (vow : Int32) (vok : Int64) (vos : Int32) (vso : Nat → Int32) (vmi : Nat → Bool) (vco : Nat → Int64) (vex : Nat → Int32) (p0 : Int32) (u : Int32) (hu : u = F_X3_exponent_ok vex p0) (hs : S_X3_exponent_ok vex p0) : XT l D (xty cR cI cJ cZ) t0 sv yX3_exponent cX3_exponent 2 (some .int) rm_X3_exponent 1 [.ref ax, .int p0] none (some (.int u)) (xw cR ax ar ao ad vrd vtr vsd vrn vom voh vol vop voe vow vok vos vso vmi vco vex) (xw cR ax ar ao ad vrd vtr vsd vrn vom voh vol vop voe vow vok vos vso vmi vco vex) := by
  refine XT.of (by decide) (Nat.le_of_ble_eq_true rfl) ?_
  intro p e s m args below meth c A Q F hnt hK hP hD hA hY hS hQ ls hl
  have hSt := hY.1
  obtain ⟨hx, hb, hr, hts, hown, hlocks, hml⟩ := F
  have hCF : CallFix p m c cX3_exponent 2 s args gW RX3 := ⟨hx, hb, hml, hown, hts⟩
  unfold S_X3_exponent_ok at hs
  have hu := rF_X3_exponent_ok vex p0 hu
  unfold RF_X3_exponent_ok at hu
  obtain ⟨H, eH⟩ : ∃ y9 : Heap, y9 = s.heap := ⟨_, rfl⟩
  obtain ⟨locs, eL⟩ : ∃ y9 : List Loc, y9 = [] := ⟨_, rfl⟩
  rw [← eL] at hS ⊢
  have hP : va_P D vwCl (xw cR ax ar ao ad vrd vtr vsd vrn vom voh vol vop voe vow vok vos vso vmi vco vex) H := by rw [eH]; exact hP
  have hS : va_S A s.heap H locs := by rw [eH]; exact hS
  suffices goal9 : W p l e rm_X3_exponent s m args below meth c H locs 0 0 Q (F0 m 0 ls []) from by rw [← eH]; exact goal9
  have hl : lv_has ls 2 [(0, .ref ax), (1, .int p0)] := hl
  have hi0 : ∀ w ∈ wsX00, w ∈ gW := inW_X0
  have hi3 : ∀ w ∈ wsX30, w ∈ gW := inW_X3
  refine lv_iload_n hx hb dX3_exponent_0 rfl (lv_at hl 1 rfl) ?_
  have h_101 := hs
  refine y_nok (As := [.int p0]) (rest := []) hCF (c_X3_needRegister_ok l hl0 D cR cI cJ cZ t0 sv p0 h_101) (y_cwS 1 hts (inW_4 _ (List.mem_of_getElem? (i := 32) rfl)) (inW_4 _ (List.mem_of_getElem? (i := 33) rfl)) (inW_1 _ (List.mem_of_getElem? (i := 25) rfl)) (inW_4 _ (List.mem_of_getElem? (i := 34) rfl)) rfl rfl (by decide +kernel) ⟨Nat.le_of_ble_eq_true rfl, Nat.le_of_ble_eq_true rfl⟩) hK hP hD hS hA hY rfl hl.1 rfl (Nat.le_of_ble_eq_true rfl) dX3_exponent_1 ⟨Nat.le_of_ble_eq_true rfl, Nat.le_of_ble_eq_true rfl⟩ (fun H locs hP hD hS => ?_)
  show W p l e _ s m args below meth c H locs 1 6 Q (F0 m 4 ls [])
  refine lv_aload_n hx hb dX3_exponent_4 rfl (lv_at hl 0 rfl) ?_
  refine va_get (D := D) (ci := 4) (v := .ref ar) (C := RX3) (T := TX3) (N := 7) hx hb hts hi3 hown hK hP 0 rfl rfl 0 (by decide) (hts (.fieldLink RX3 11 "DecimalWords" "registers" "[LDecimalWords$Datum;") (inW_4 _ (List.mem_of_getElem? (i := 16) rfl))) (fun _ h9 => h9) rfl dX3_exponent_5 ?_
  refine lv_iload_n hx hb dX3_exponent_8 rfl (lv_at hl 1 rfl) ?_
  refine x_aald hx hb hK hP h_101 dX3_exponent_9 ?_
  refine g_ex (i := p0.toNatClampNeg) hx hb hts hi0 hown hK hP (vp_lt9 h_101) (hts (.fieldLink RX3 85 "DecimalWords$Datum" "exponent" "I") (inW_5 _ (List.mem_of_getElem? (i := 17) rfl))) dX3_exponent_10 ?_
  have e9 := Eq.symm hu; subst e9
  exact y_iret hx hb hr hlocks hQ hK hP hD hS rfl (Nat.le_of_ble_eq_true rfl) (Nat.le_of_ble_eq_true rfl) rfl dX3_exponent_13

def S_X3_compare_b0  (p0 : Int32) (p1 : Int32) : Prop := ¬ vp_in p0 8
def rm_X3_compare : Room := { frames := 7, cells := 2, slots := 12, locals := 110 }
set_option maxHeartbeats 4000000 in
set_option maxRecDepth 100000 in
theorem c_X3_compare_b0 (l : Launch) (hl0 : l.stackTraces = false) (D : va_G) (cR cI cJ cZ : ClassId) (t0 : Nat) (sv : Nat → Nat) (ax ar ao : Nat) (ad : Nat → Nat) (vrd : Int32) (vtr : Int32) (vsd : Int32) (vrn : Int32) (vom : Bool) (voh : Int64) (vol : Int64) (vop : Int32) (voe : Bool) (vow : Int32) (vok : Int64) (vos : Int32) (vso : Nat → Int32) (vmi : Nat → Bool) (vco : Nat → Int64) (vex : Nat → Int32) (p0 : Int32) (p1 : Int32) (hs : S_X3_compare_b0 p0 p1) : XT l D (xty cR cI cJ cZ) t0 sv yX3_compare cX3_compare 3 (some .int) rm_X3_compare 2 [.ref ax, .int p0, .int p1] (some eIO) none (xw cR ax ar ao ad vrd vtr vsd vrn vom voh vol vop voe vow vok vos vso vmi vco vex) (xw cR ax ar ao ad vrd vtr vsd vrn vom voh vol vop voe vow vok vos vso vmi vco vex) := by
  refine XT.of (by decide) (Nat.le_of_ble_eq_true rfl) ?_
  intro p e s m args below meth c A Q F hnt hK hP hD hA hY hS hQ ls hl
  have hSt := hY.1
  obtain ⟨hx, hb, hr, hts, hown, hlocks, hml⟩ := F
  have hCF : CallFix p m c cX3_compare 3 s args gW RX3 := ⟨hx, hb, hml, hown, hts⟩
  unfold S_X3_compare_b0 at hs
  obtain ⟨H, eH⟩ : ∃ y9 : Heap, y9 = s.heap := ⟨_, rfl⟩
  obtain ⟨locs, eL⟩ : ∃ y9 : List Loc, y9 = [] := ⟨_, rfl⟩
  rw [← eL] at hS ⊢
  have hP : va_P D vwCl (xw cR ax ar ao ad vrd vtr vsd vrn vom voh vol vop voe vow vok vos vso vmi vco vex) H := by rw [eH]; exact hP
  have hS : va_S A s.heap H locs := by rw [eH]; exact hS
  suffices goal9 : W p l e rm_X3_compare s m args below meth c H locs 0 0 Q (F0 m 0 ls []) from by rw [← eH]; exact goal9
  have hl : lv_has ls 3 [(0, .ref ax), (1, .int p0), (2, .int p1)] := hl
  refine lv_iload_n hx hb dX3_compare_0 rfl (lv_at hl 1 rfl) ?_
  have h_101 := hs
  exact y_nbad (As := [.int p0]) (rest := []) hCF (c_X3_needRegister_bad l hl0 D cR cI cJ cZ t0 sv p0 h_101) (y_cwS 1 hts (inW_4 _ (List.mem_of_getElem? (i := 32) rfl)) (inW_4 _ (List.mem_of_getElem? (i := 33) rfl)) (inW_1 _ (List.mem_of_getElem? (i := 25) rfl)) (inW_4 _ (List.mem_of_getElem? (i := 34) rfl)) rfl rfl (by decide +kernel) ⟨Nat.le_of_ble_eq_true rfl, Nat.le_of_ble_eq_true rfl⟩) hK hP hD hS hA hY rfl hl.1 rfl (Nat.le_of_ble_eq_true rfl) dX3_compare_1 ⟨Nat.le_of_ble_eq_true rfl, Nat.le_of_ble_eq_true rfl⟩ hnt hlocks hQ rfl (Nat.le_of_ble_eq_true rfl) (Nat.le_of_ble_eq_true rfl)

def S_X3_compare_b1  (p0 : Int32) (p1 : Int32) : Prop := (vp_in p0 8) ∧ ¬ vp_in p1 8
set_option maxHeartbeats 4000000 in
set_option maxRecDepth 100000 in
theorem c_X3_compare_b1 (l : Launch) (hl0 : l.stackTraces = false) (D : va_G) (cR cI cJ cZ : ClassId) (t0 : Nat) (sv : Nat → Nat) (ax ar ao : Nat) (ad : Nat → Nat) (vrd : Int32) (vtr : Int32) (vsd : Int32) (vrn : Int32) (vom : Bool) (voh : Int64) (vol : Int64) (vop : Int32) (voe : Bool) (vow : Int32) (vok : Int64) (vos : Int32) (vso : Nat → Int32) (vmi : Nat → Bool) (vco : Nat → Int64) (vex : Nat → Int32) (p0 : Int32) (p1 : Int32) (hs : S_X3_compare_b1 p0 p1) : XT l D (xty cR cI cJ cZ) t0 sv yX3_compare cX3_compare 3 (some .int) rm_X3_compare 2 [.ref ax, .int p0, .int p1] (some eIO) none (xw cR ax ar ao ad vrd vtr vsd vrn vom voh vol vop voe vow vok vos vso vmi vco vex) (xw cR ax ar ao ad vrd vtr vsd vrn vom voh vol vop voe vow vok vos vso vmi vco vex) := by
  refine XT.of (by decide) (Nat.le_of_ble_eq_true rfl) ?_
  intro p e s m args below meth c A Q F hnt hK hP hD hA hY hS hQ ls hl
  have hSt := hY.1
  obtain ⟨hx, hb, hr, hts, hown, hlocks, hml⟩ := F
  have hCF : CallFix p m c cX3_compare 3 s args gW RX3 := ⟨hx, hb, hml, hown, hts⟩
  unfold S_X3_compare_b1 at hs
  obtain ⟨H, eH⟩ : ∃ y9 : Heap, y9 = s.heap := ⟨_, rfl⟩
  obtain ⟨locs, eL⟩ : ∃ y9 : List Loc, y9 = [] := ⟨_, rfl⟩
  rw [← eL] at hS ⊢
  have hP : va_P D vwCl (xw cR ax ar ao ad vrd vtr vsd vrn vom voh vol vop voe vow vok vos vso vmi vco vex) H := by rw [eH]; exact hP
  have hS : va_S A s.heap H locs := by rw [eH]; exact hS
  suffices goal9 : W p l e rm_X3_compare s m args below meth c H locs 0 0 Q (F0 m 0 ls []) from by rw [← eH]; exact goal9
  have hl : lv_has ls 3 [(0, .ref ax), (1, .int p0), (2, .int p1)] := hl
  refine lv_iload_n hx hb dX3_compare_0 rfl (lv_at hl 1 rfl) ?_
  obtain ⟨h_101, hs⟩ := hs
  refine y_nok (As := [.int p0]) (rest := []) hCF (c_X3_needRegister_ok l hl0 D cR cI cJ cZ t0 sv p0 h_101) (y_cwS 1 hts (inW_4 _ (List.mem_of_getElem? (i := 32) rfl)) (inW_4 _ (List.mem_of_getElem? (i := 33) rfl)) (inW_1 _ (List.mem_of_getElem? (i := 25) rfl)) (inW_4 _ (List.mem_of_getElem? (i := 34) rfl)) rfl rfl (by decide +kernel) ⟨Nat.le_of_ble_eq_true rfl, Nat.le_of_ble_eq_true rfl⟩) hK hP hD hS hA hY rfl hl.1 rfl (Nat.le_of_ble_eq_true rfl) dX3_compare_1 ⟨Nat.le_of_ble_eq_true rfl, Nat.le_of_ble_eq_true rfl⟩ (fun H locs hP hD hS => ?_)
  show W p l e _ s m args below meth c H locs 1 6 Q (F0 m 4 ls [])
  refine lv_iload_n hx hb dX3_compare_4 rfl (lv_at hl 2 rfl) ?_
  have h_103 := hs
  exact y_nbad (As := [.int p1]) (rest := []) hCF (c_X3_needRegister_bad l hl0 D cR cI cJ cZ t0 sv p1 h_103) (y_cwS 1 hts (inW_4 _ (List.mem_of_getElem? (i := 32) rfl)) (inW_4 _ (List.mem_of_getElem? (i := 33) rfl)) (inW_1 _ (List.mem_of_getElem? (i := 25) rfl)) (inW_4 _ (List.mem_of_getElem? (i := 34) rfl)) rfl rfl (by decide +kernel) ⟨Nat.le_of_ble_eq_true rfl, Nat.le_of_ble_eq_true rfl⟩) hK hP hD hS hA hY rfl hl.1 rfl (Nat.le_of_ble_eq_true rfl) dX3_compare_5 ⟨Nat.le_of_ble_eq_true rfl, Nat.le_of_ble_eq_true rfl⟩ hnt hlocks hQ rfl (Nat.le_of_ble_eq_true rfl) (Nat.le_of_ble_eq_true rfl)

def F_X3_compare_ok (vso : Nat → Int32) (vmi : Nat → Bool) (vco : Nat → Int64) (vex : Nat → Int32) (p0 : Int32) (p1 : Int32) : Int32 := (if vso (p0.toNatClampNeg) = 2 then 2 else (if vso (p1.toNatClampNeg) = 2 then 2 else F_X3_order vso vmi vco vex (p0.toNatClampNeg) (p1.toNatClampNeg)))
def RF_X3_compare_ok (vso : Nat → Int32) (vmi : Nat → Bool) (vco : Nat → Int64) (vex : Nat → Int32) (p0 : Int32) (p1 : Int32) (u9 : Int32) : Prop := (if vso (p0.toNatClampNeg) = 2 then u9 = 2 else (if vso (p1.toNatClampNeg) = 2 then u9 = 2 else u9 = F_X3_order vso vmi vco vex (p0.toNatClampNeg) (p1.toNatClampNeg)))
theorem rF_X3_compare_ok (vso : Nat → Int32) (vmi : Nat → Bool) (vco : Nat → Int64) (vex : Nat → Int32) (p0 : Int32) (p1 : Int32) {u9 : Int32} (hu : u9 = F_X3_compare_ok vso vmi vco vex p0 p1) : RF_X3_compare_ok vso vmi vco vex p0 p1 u9 := by
  unfold RF_X3_compare_ok
  refine ite_P (fun c_105 => ?_) (fun c_105 => ?_)
  · have hu := hu.trans (if_pos c_105)
    exact hu
  · have hu := hu.trans (if_neg c_105)
    refine ite_P (fun c_106 => ?_) (fun c_106 => ?_)
    · have hu := hu.trans (if_pos c_106)
      exact hu
    · have hu := hu.trans (if_neg c_106)
      exact hu
def S_X3_compare_ok (vso : Nat → Int32) (vmi : Nat → Bool) (vco : Nat → Int64) (vex : Nat → Int32) (p0 : Int32) (p1 : Int32) : Prop := (vp_in p0 8) ∧ (vp_in p1 8) ∧ (if vso (p0.toNatClampNeg) = 2 then True else (if vso (p1.toNatClampNeg) = 2 then True else S_X3_order vso vmi vco vex (p0.toNatClampNeg) (p1.toNatClampNeg)))
set_option maxHeartbeats 4000000 in
set_option maxRecDepth 100000 in
theorem c_X3_compare_ok (l : Launch) (hl0 : l.stackTraces = false) (D : va_G) (cR cI cJ cZ : ClassId) (t0 : Nat) (sv : Nat → Nat) (ax ar ao : Nat) (ad : Nat → Nat) (vrd : Int32) (vtr : Int32) (vsd : Int32) (vrn : Int32) (vom : Bool) (voh : Int64) (vol : Int64) (vop : Int32) (voe : Bool) (vow : Int32) (vok : Int64) (vos : Int32) (vso : Nat → Int32) (vmi : Nat → Bool) (vco : Nat → Int64) (vex : Nat → Int32) (p0 : Int32) (p1 : Int32) (u : Int32) (hu : u = F_X3_compare_ok vso vmi vco vex p0 p1) (hs : S_X3_compare_ok vso vmi vco vex p0 p1) : XT l D (xty cR cI cJ cZ) t0 sv yX3_compare cX3_compare 3 (some .int) rm_X3_compare 2 [.ref ax, .int p0, .int p1] none (some (.int u)) (xw cR ax ar ao ad vrd vtr vsd vrn vom voh vol vop voe vow vok vos vso vmi vco vex) (xw cR ax ar ao ad vrd vtr vsd vrn vom voh vol vop voe vow vok vos vso vmi vco vex) := by
  refine XT.of (by decide) (Nat.le_of_ble_eq_true rfl) ?_
  intro p e s m args below meth c A Q F hnt hK hP hD hA hY hS hQ ls hl
  have hSt := hY.1
  obtain ⟨hx, hb, hr, hts, hown, hlocks, hml⟩ := F
  have hCF : CallFix p m c cX3_compare 3 s args gW RX3 := ⟨hx, hb, hml, hown, hts⟩
  unfold S_X3_compare_ok at hs
  have hu := rF_X3_compare_ok vso vmi vco vex p0 p1 hu
  unfold RF_X3_compare_ok at hu
  obtain ⟨H, eH⟩ : ∃ y9 : Heap, y9 = s.heap := ⟨_, rfl⟩
  obtain ⟨locs, eL⟩ : ∃ y9 : List Loc, y9 = [] := ⟨_, rfl⟩
  rw [← eL] at hS ⊢
  have hP : va_P D vwCl (xw cR ax ar ao ad vrd vtr vsd vrn vom voh vol vop voe vow vok vos vso vmi vco vex) H := by rw [eH]; exact hP
  have hS : va_S A s.heap H locs := by rw [eH]; exact hS
  suffices goal9 : W p l e rm_X3_compare s m args below meth c H locs 0 0 Q (F0 m 0 ls []) from by rw [← eH]; exact goal9
  have hl : lv_has ls 3 [(0, .ref ax), (1, .int p0), (2, .int p1)] := hl
  have hi0 : ∀ w ∈ wsX00, w ∈ gW := inW_X0
  have hi3 : ∀ w ∈ wsX30, w ∈ gW := inW_X3
  refine lv_iload_n hx hb dX3_compare_0 rfl (lv_at hl 1 rfl) ?_
  obtain ⟨h_101, hs⟩ := hs
  refine y_nok (As := [.int p0]) (rest := []) hCF (c_X3_needRegister_ok l hl0 D cR cI cJ cZ t0 sv p0 h_101) (y_cwS 1 hts (inW_4 _ (List.mem_of_getElem? (i := 32) rfl)) (inW_4 _ (List.mem_of_getElem? (i := 33) rfl)) (inW_1 _ (List.mem_of_getElem? (i := 25) rfl)) (inW_4 _ (List.mem_of_getElem? (i := 34) rfl)) rfl rfl (by decide +kernel) ⟨Nat.le_of_ble_eq_true rfl, Nat.le_of_ble_eq_true rfl⟩) hK hP hD hS hA hY rfl hl.1 rfl (Nat.le_of_ble_eq_true rfl) dX3_compare_1 ⟨Nat.le_of_ble_eq_true rfl, Nat.le_of_ble_eq_true rfl⟩ (fun H locs hP hD hS => ?_)
  show W p l e _ s m args below meth c H locs 1 6 Q (F0 m 4 ls [])
  refine lv_iload_n hx hb dX3_compare_4 rfl (lv_at hl 2 rfl) ?_
  obtain ⟨h_103, hs⟩ := hs
  refine y_nok (As := [.int p1]) (rest := []) hCF (c_X3_needRegister_ok l hl0 D cR cI cJ cZ t0 sv p1 h_103) (y_cwS 1 hts (inW_4 _ (List.mem_of_getElem? (i := 32) rfl)) (inW_4 _ (List.mem_of_getElem? (i := 33) rfl)) (inW_1 _ (List.mem_of_getElem? (i := 25) rfl)) (inW_4 _ (List.mem_of_getElem? (i := 34) rfl)) rfl rfl (by decide +kernel) ⟨Nat.le_of_ble_eq_true rfl, Nat.le_of_ble_eq_true rfl⟩) hK hP hD hS hA hY rfl hl.1 rfl (Nat.le_of_ble_eq_true rfl) dX3_compare_5 ⟨Nat.le_of_ble_eq_true rfl, Nat.le_of_ble_eq_true rfl⟩ (fun H locs hP hD hS => ?_)
  show W p l e _ s m args below meth c H locs 2 12 Q (F0 m 8 ls [])
  refine lv_aload_n hx hb dX3_compare_8 rfl (lv_at hl 0 rfl) ?_
  refine va_get (D := D) (ci := 4) (v := .ref ar) (C := RX3) (T := TX3) (N := 7) hx hb hts hi3 hown hK hP 0 rfl rfl 0 (by decide) (hts (.fieldLink RX3 11 "DecimalWords" "registers" "[LDecimalWords$Datum;") (inW_4 _ (List.mem_of_getElem? (i := 16) rfl))) (fun _ h9 => h9) rfl dX3_compare_9 ?_
  refine lv_iload_n hx hb dX3_compare_12 rfl (lv_at hl 1 rfl) ?_
  refine x_aald hx hb hK hP h_101 dX3_compare_13 ?_
  refine g_so (i := p0.toNatClampNeg) hx hb hts hi0 hown hK hP (vp_lt9 h_101) (hts (.fieldLink RX3 70 "DecimalWords$Datum" "sort" "I") (inW_5 _ (List.mem_of_getElem? (i := 9) rfl))) dX3_compare_14 ?_
  refine lv_iconst (v := 2) hx hb dX3_compare_17 (by decide) ?_
  refine lv_icmp_eq (tgt := 34) hx hb dX3_compare_18 (by decide) (fun c_105 => ?_) (fun c_105 => ?_)
  · rw [if_pos c_105] at hu
    refine lv_iconst (v := 2) hx hb dX3_compare_34 (by decide) ?_
    have e9 := Eq.symm hu; subst e9
    exact y_iret hx hb hr hlocks hQ hK hP hD hS rfl (Nat.le_of_ble_eq_true rfl) (Nat.le_of_ble_eq_true rfl) rfl dX3_compare_35
  · rw [if_neg c_105] at hs
    rw [if_neg c_105] at hu
    refine lv_aload_n hx hb dX3_compare_21 rfl (lv_at hl 0 rfl) ?_
    refine va_get (D := D) (ci := 4) (v := .ref ar) (C := RX3) (T := TX3) (N := 7) hx hb hts hi3 hown hK hP 0 rfl rfl 0 (by decide) (hts (.fieldLink RX3 11 "DecimalWords" "registers" "[LDecimalWords$Datum;") (inW_4 _ (List.mem_of_getElem? (i := 16) rfl))) (fun _ h9 => h9) rfl dX3_compare_22 ?_
    refine lv_iload_n hx hb dX3_compare_25 rfl (lv_at hl 2 rfl) ?_
    refine x_aald hx hb hK hP h_103 dX3_compare_26 ?_
    refine g_so (i := p1.toNatClampNeg) hx hb hts hi0 hown hK hP (vp_lt9 h_103) (hts (.fieldLink RX3 70 "DecimalWords$Datum" "sort" "I") (inW_5 _ (List.mem_of_getElem? (i := 9) rfl))) dX3_compare_27 ?_
    refine lv_iconst (v := 2) hx hb dX3_compare_30 (by decide) ?_
    refine lv_icmp_ne (tgt := 36) hx hb dX3_compare_31 (by decide) (fun c_106 => ?_) (fun c_106 => ?_)
    · rw [if_neg c_106] at hs
      rw [if_neg c_106] at hu
      refine lv_aload_n hx hb dX3_compare_36 rfl (lv_at hl 0 rfl) ?_
      refine va_get (D := D) (ci := 4) (v := .ref ar) (C := RX3) (T := TX3) (N := 7) hx hb hts hi3 hown hK hP 0 rfl rfl 0 (by decide) (hts (.fieldLink RX3 11 "DecimalWords" "registers" "[LDecimalWords$Datum;") (inW_4 _ (List.mem_of_getElem? (i := 16) rfl))) (fun _ h9 => h9) rfl dX3_compare_37 ?_
      refine lv_iload_n hx hb dX3_compare_40 rfl (lv_at hl 1 rfl) ?_
      refine x_aald hx hb hK hP h_101 dX3_compare_41 ?_
      refine lv_aload_n hx hb dX3_compare_42 rfl (lv_at hl 0 rfl) ?_
      refine va_get (D := D) (ci := 4) (v := .ref ar) (C := RX3) (T := TX3) (N := 7) hx hb hts hi3 hown hK hP 0 rfl rfl 0 (by decide) (hts (.fieldLink RX3 11 "DecimalWords" "registers" "[LDecimalWords$Datum;") (inW_4 _ (List.mem_of_getElem? (i := 16) rfl))) (fun _ h9 => h9) rfl dX3_compare_43 ?_
      refine lv_iload_n hx hb dX3_compare_46 rfl (lv_at hl 2 rfl) ?_
      refine x_aald hx hb hK hP h_103 dX3_compare_47 ?_
      have h_107 := hs
      refine x_S (As := [.ref (ad (p0.toNatClampNeg)), .ref (ad (p1.toNatClampNeg))]) (rest := []) hCF (c_X3_order l D cR cI cJ cZ t0 ax ar ao ad vrd vtr vsd vrn vom voh vol vop voe vow vok vos vso vmi vco vex (p0.toNatClampNeg) (p1.toNatClampNeg) _ rfl h_107 (vp_lt9 h_101) (vp_lt9 h_103)) (x_cwS 2 hts (inW_5 _ (List.mem_of_getElem? (i := 36) rfl)) (inW_5 _ (List.mem_of_getElem? (i := 37) rfl)) (inW_1 _ (List.mem_of_getElem? (i := 25) rfl)) (inW_5 _ (List.mem_of_getElem? (i := 38) rfl)) rfl rfl (by decide +kernel) ⟨Nat.le_of_ble_eq_true rfl, Nat.le_of_ble_eq_true rfl⟩) hK hP hD hS hA hSt rfl hl.1 rfl (Nat.le_of_ble_eq_true rfl) dX3_compare_48 ⟨Nat.le_of_ble_eq_true rfl, Nat.le_of_ble_eq_true rfl⟩ (fun H locs hP hD hS => ?_)
      show W p l e _ s m args below meth c H locs 2 12 Q (F0 m 51 ls (.int (F_X3_order vso vmi vco vex (p0.toNatClampNeg) (p1.toNatClampNeg)) :: []))
      have e9 := Eq.symm hu; subst e9
      exact y_iret hx hb hr hlocks hQ hK hP hD hS rfl (Nat.le_of_ble_eq_true rfl) (Nat.le_of_ble_eq_true rfl) rfl dX3_compare_51
    · rw [if_pos c_106] at hu
      refine lv_iconst (v := 2) hx hb dX3_compare_34 (by decide) ?_
      have e9 := Eq.symm hu; subst e9
      exact y_iret hx hb hr hlocks hQ hK hP hD hS rfl (Nat.le_of_ble_eq_true rfl) (Nat.le_of_ble_eq_true rfl) rfl dX3_compare_35
