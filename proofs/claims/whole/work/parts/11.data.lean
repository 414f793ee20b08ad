def F_X0_setFinite (vso : Nat → Int32) (vmi : Nat → Bool) (vco : Nat → Int64) (vex : Nat → Int32) (i0 : Nat) (p0 : Bool) (p1 : Int64) (p2 : Int32) : (Nat → Int32) × (Nat → Bool) × (Nat → Int64) × (Nat → Int32) := (let w1 : Nat → Int32 := va_up vso i0 0; (let w3 : Nat → Bool := va_up vmi i0 p0; (let w5 : Nat → Int64 := va_up vco i0 p1; (let w7 : Nat → Int32 := va_up vex i0 p2; (w1, w3, w5, w7)))))
def rm_X0_setFinite : Room := { frames := 0, cells := 0, slots := 0, locals := 0 }
set_option maxHeartbeats 4000000 in
set_option maxRecDepth 100000 in
theorem c_X0_setFinite (l : Launch) (D : va_G) (cR cI cJ cZ : ClassId) (t0 : Nat) (ax ar ao : Nat) (ad : Nat → Nat) (vrd : Int32) (vtr : Int32) (vsd : Int32) (vrn : Int32) (vom : Bool) (voh : Int64) (vol : Int64) (vop : Int32) (voe : Bool) (vow : Int32) (vok : Int64) (vos : Int32) (vso : Nat → Int32) (vmi : Nat → Bool) (vco : Nat → Int64) (vex : Nat → Int32) (i0 : Nat) (p0 : Bool) (p1 : Int64) (p2 : Int32) (u : (Nat → Int32) × (Nat → Bool) × (Nat → Int64) × (Nat → Int32)) (hu : u = F_X0_setFinite vso vmi vco vex i0 p0 p1 p2) (hb0 : i0 < 9) : XM l D (xty cR cI cJ cZ) t0 yX0_setFinite cX0_setFinite 5 none rm_X0_setFinite [.ref (ad i0), .int (bI p0), .long p1, .int p2] none (xw cR ax ar ao ad vrd vtr vsd vrn vom voh vol vop voe vow vok vos vso vmi vco vex) (xw cR ax ar ao ad vrd vtr vsd vrn vom voh vol vop voe vow vok vos u.1 u.2.1 u.2.2.1 u.2.2.2) := by
  refine XM.of (by decide) (Nat.le_of_ble_eq_true rfl) ?_
  intro p e s m args below meth c A Q F hK hP hD hA hSt hS hQ ls hl
  obtain ⟨hx, hb, hr, hts, hown, hlocks, hml⟩ := F
  have hCF : CallFix p m c cX0_setFinite 5 s args gW RX0 := ⟨hx, hb, hml, hown, hts⟩
  obtain ⟨H, eH⟩ : ∃ y9 : Heap, y9 = s.heap := ⟨_, rfl⟩
  obtain ⟨locs, eL⟩ : ∃ y9 : List Loc, y9 = [] := ⟨_, rfl⟩
  rw [← eL] at hS ⊢
  have hP : va_P D vwCl (xw cR ax ar ao ad vrd vtr vsd vrn vom voh vol vop voe vow vok vos vso vmi vco vex) H := by rw [eH]; exact hP
  have hS : va_S A s.heap H locs := by rw [eH]; exact hS
  suffices goal9 : W p l e rm_X0_setFinite s m args below meth c H locs 0 0 Q (F0 m 0 ls []) from by rw [← eH]; exact goal9
  have hl : lv_has ls 5 [(0, .ref (ad i0)), (1, .int (bI p0)), (2, .long p1), (4, .int p2)] := hl
  have hi0 : ∀ w ∈ wsX00, w ∈ gW := inW_X0
  refine lv_aload_n hx hb dX0_setFinite_0 rfl (lv_at hl 0 rfl) ?_
  refine lv_iconst (v := 0) hx hb dX0_setFinite_1 (by decide) ?_
  refine p_so (i := i0) hx hb hts hi0 hown hK hP hD hS hb0 (hts (.fieldLink RX0 9 "DecimalWords$Datum" "sort" "I") (inW_1 _ (List.mem_of_getElem? (i := 4) rfl))) 0 dX0_setFinite_2 (fun H locs hP hD hS => ?_)
  obtain ⟨w1, ew1⟩ : ∃ y9 : Nat → Int32, y9 = va_up vso i0 0 := ⟨_, rfl⟩
  have hP : va_P D vwCl (xw cR ax ar ao ad vrd vtr vsd vrn vom voh vol vop voe vow vok vos w1 vmi vco vex) H := by rw [ew1]; exact hP
  have hD : va_D A (xw cR ax ar ao ad vrd vtr vsd vrn vom voh vol vop voe vow vok vos w1 vmi vco vex) := by rw [ew1]; exact hD
  refine lv_aload_n hx hb dX0_setFinite_5 rfl (lv_at hl 0 rfl) ?_
  refine lv_iload_n hx hb dX0_setFinite_6 rfl (lv_at hl 1 rfl) ?_
  refine p_mi (i := i0) hx hb hts hi0 hown hK hP hD hS hb0 (hts (.fieldLink RX0 15 "DecimalWords$Datum" "minus" "Z") (inW_1 _ (List.mem_of_getElem? (i := 5) rfl))) p0 dX0_setFinite_7 (fun H locs hP hD hS => ?_)
  obtain ⟨w3, ew3⟩ : ∃ y9 : Nat → Bool, y9 = va_up vmi i0 p0 := ⟨_, rfl⟩
  have hP : va_P D vwCl (xw cR ax ar ao ad vrd vtr vsd vrn vom voh vol vop voe vow vok vos w1 w3 vco vex) H := by rw [ew3]; exact hP
  have hD : va_D A (xw cR ax ar ao ad vrd vtr vsd vrn vom voh vol vop voe vow vok vos w1 w3 vco vex) := by rw [ew3]; exact hD
  refine lv_aload_n hx hb dX0_setFinite_10 rfl (lv_at hl 0 rfl) ?_
  refine lv_lload_n hx hb dX0_setFinite_11 rfl (lv_at hl 2 rfl) ?_
  refine p_co (i := i0) hx hb hts hi0 hown hK hP hD hS hb0 (hts (.fieldLink RX0 19 "DecimalWords$Datum" "coefficient" "J") (inW_1 _ (List.mem_of_getElem? (i := 6) rfl))) p1 dX0_setFinite_12 (fun H locs hP hD hS => ?_)
  obtain ⟨w5, ew5⟩ : ∃ y9 : Nat → Int64, y9 = va_up vco i0 p1 := ⟨_, rfl⟩
  have hP : va_P D vwCl (xw cR ax ar ao ad vrd vtr vsd vrn vom voh vol vop voe vow vok vos w1 w3 w5 vex) H := by rw [ew5]; exact hP
  have hD : va_D A (xw cR ax ar ao ad vrd vtr vsd vrn vom voh vol vop voe vow vok vos w1 w3 w5 vex) := by rw [ew5]; exact hD
  refine lv_aload_n hx hb dX0_setFinite_15 rfl (lv_at hl 0 rfl) ?_
  refine lv_iload hx hb dX0_setFinite_16 (lv_at hl 3 rfl) ?_
  refine p_ex (i := i0) hx hb hts hi0 hown hK hP hD hS hb0 (hts (.fieldLink RX0 23 "DecimalWords$Datum" "exponent" "I") (inW_1 _ (List.mem_of_getElem? (i := 7) rfl))) p2 dX0_setFinite_18 (fun H locs hP hD hS => ?_)
  obtain ⟨w7, ew7⟩ : ∃ y9 : Nat → Int32, y9 = va_up vex i0 p2 := ⟨_, rfl⟩
  have hP : va_P D vwCl (xw cR ax ar ao ad vrd vtr vsd vrn vom voh vol vop voe vow vok vos w1 w3 w5 w7) H := by rw [ew7]; exact hP
  have hD : va_D A (xw cR ax ar ao ad vrd vtr vsd vrn vom voh vol vop voe vow vok vos w1 w3 w5 w7) := by rw [ew7]; exact hD
  have e9 := Eq.symm ew1; subst e9
  have e9 := Eq.symm ew3; subst e9
  have e9 := Eq.symm ew5; subst e9
  have e9 := Eq.symm ew7; subst e9
  have hu9 := Eq.symm (hu.trans rfl)
  subst hu9
  exact x_vret hx hb hr hlocks hQ hK hP hD hS rfl dX0_setFinite_21

def F_X0_setInfinity (vso : Nat → Int32) (vmi : Nat → Bool) (vco : Nat → Int64) (vex : Nat → Int32) (i0 : Nat) (p0 : Bool) : (Nat → Int32) × (Nat → Bool) × (Nat → Int64) × (Nat → Int32) := (let w1 : Nat → Int32 := va_up vso i0 1; (let w3 : Nat → Bool := va_up vmi i0 p0; (let w5 : Nat → Int64 := va_up vco i0 0; (let w7 : Nat → Int32 := va_up vex i0 0; (w1, w3, w5, w7)))))
def rm_X0_setInfinity : Room := { frames := 0, cells := 0, slots := 0, locals := 0 }
set_option maxHeartbeats 4000000 in
set_option maxRecDepth 100000 in
theorem c_X0_setInfinity (l : Launch) (D : va_G) (cR cI cJ cZ : ClassId) (t0 : Nat) (ax ar ao : Nat) (ad : Nat → Nat) (vrd : Int32) (vtr : Int32) (vsd : Int32) (vrn : Int32) (vom : Bool) (voh : Int64) (vol : Int64) (vop : Int32) (voe : Bool) (vow : Int32) (vok : Int64) (vos : Int32) (vso : Nat → Int32) (vmi : Nat → Bool) (vco : Nat → Int64) (vex : Nat → Int32) (i0 : Nat) (p0 : Bool) (u : (Nat → Int32) × (Nat → Bool) × (Nat → Int64) × (Nat → Int32)) (hu : u = F_X0_setInfinity vso vmi vco vex i0 p0) (hb0 : i0 < 9) : XM l D (xty cR cI cJ cZ) t0 yX0_setInfinity cX0_setInfinity 2 none rm_X0_setInfinity [.ref (ad i0), .int (bI p0)] none (xw cR ax ar ao ad vrd vtr vsd vrn vom voh vol vop voe vow vok vos vso vmi vco vex) (xw cR ax ar ao ad vrd vtr vsd vrn vom voh vol vop voe vow vok vos u.1 u.2.1 u.2.2.1 u.2.2.2) := by
  refine XM.of (by decide) (Nat.le_of_ble_eq_true rfl) ?_
  intro p e s m args below meth c A Q F hK hP hD hA hSt hS hQ ls hl
  obtain ⟨hx, hb, hr, hts, hown, hlocks, hml⟩ := F
  have hCF : CallFix p m c cX0_setInfinity 2 s args gW RX0 := ⟨hx, hb, hml, hown, hts⟩
  obtain ⟨H, eH⟩ : ∃ y9 : Heap, y9 = s.heap := ⟨_, rfl⟩
  obtain ⟨locs, eL⟩ : ∃ y9 : List Loc, y9 = [] := ⟨_, rfl⟩
  rw [← eL] at hS ⊢
  have hP : va_P D vwCl (xw cR ax ar ao ad vrd vtr vsd vrn vom voh vol vop voe vow vok vos vso vmi vco vex) H := by rw [eH]; exact hP
  have hS : va_S A s.heap H locs := by rw [eH]; exact hS
  suffices goal9 : W p l e rm_X0_setInfinity s m args below meth c H locs 0 0 Q (F0 m 0 ls []) from by rw [← eH]; exact goal9
  have hl : lv_has ls 2 [(0, .ref (ad i0)), (1, .int (bI p0))] := hl
  have hi0 : ∀ w ∈ wsX00, w ∈ gW := inW_X0
  refine lv_aload_n hx hb dX0_setInfinity_0 rfl (lv_at hl 0 rfl) ?_
  refine lv_iconst (v := 1) hx hb dX0_setInfinity_1 (by decide) ?_
  refine p_so (i := i0) hx hb hts hi0 hown hK hP hD hS hb0 (hts (.fieldLink RX0 9 "DecimalWords$Datum" "sort" "I") (inW_1 _ (List.mem_of_getElem? (i := 4) rfl))) 1 dX0_setInfinity_2 (fun H locs hP hD hS => ?_)
  obtain ⟨w1, ew1⟩ : ∃ y9 : Nat → Int32, y9 = va_up vso i0 1 := ⟨_, rfl⟩
  have hP : va_P D vwCl (xw cR ax ar ao ad vrd vtr vsd vrn vom voh vol vop voe vow vok vos w1 vmi vco vex) H := by rw [ew1]; exact hP
  have hD : va_D A (xw cR ax ar ao ad vrd vtr vsd vrn vom voh vol vop voe vow vok vos w1 vmi vco vex) := by rw [ew1]; exact hD
  refine lv_aload_n hx hb dX0_setInfinity_5 rfl (lv_at hl 0 rfl) ?_
  refine lv_iload_n hx hb dX0_setInfinity_6 rfl (lv_at hl 1 rfl) ?_
  refine p_mi (i := i0) hx hb hts hi0 hown hK hP hD hS hb0 (hts (.fieldLink RX0 15 "DecimalWords$Datum" "minus" "Z") (inW_1 _ (List.mem_of_getElem? (i := 5) rfl))) p0 dX0_setInfinity_7 (fun H locs hP hD hS => ?_)
  obtain ⟨w3, ew3⟩ : ∃ y9 : Nat → Bool, y9 = va_up vmi i0 p0 := ⟨_, rfl⟩
  have hP : va_P D vwCl (xw cR ax ar ao ad vrd vtr vsd vrn vom voh vol vop voe vow vok vos w1 w3 vco vex) H := by rw [ew3]; exact hP
  have hD : va_D A (xw cR ax ar ao ad vrd vtr vsd vrn vom voh vol vop voe vow vok vos w1 w3 vco vex) := by rw [ew3]; exact hD
  refine lv_aload_n hx hb dX0_setInfinity_10 rfl (lv_at hl 0 rfl) ?_
  refine lv_lconst (v := 0) hx hb dX0_setInfinity_11 (by decide) ?_
  refine p_co (i := i0) hx hb hts hi0 hown hK hP hD hS hb0 (hts (.fieldLink RX0 19 "DecimalWords$Datum" "coefficient" "J") (inW_1 _ (List.mem_of_getElem? (i := 6) rfl))) 0 dX0_setInfinity_12 (fun H locs hP hD hS => ?_)
  obtain ⟨w5, ew5⟩ : ∃ y9 : Nat → Int64, y9 = va_up vco i0 0 := ⟨_, rfl⟩
  have hP : va_P D vwCl (xw cR ax ar ao ad vrd vtr vsd vrn vom voh vol vop voe vow vok vos w1 w3 w5 vex) H := by rw [ew5]; exact hP
  have hD : va_D A (xw cR ax ar ao ad vrd vtr vsd vrn vom voh vol vop voe vow vok vos w1 w3 w5 vex) := by rw [ew5]; exact hD
  refine lv_aload_n hx hb dX0_setInfinity_15 rfl (lv_at hl 0 rfl) ?_
  refine lv_iconst (v := 0) hx hb dX0_setInfinity_16 (by decide) ?_
  refine p_ex (i := i0) hx hb hts hi0 hown hK hP hD hS hb0 (hts (.fieldLink RX0 23 "DecimalWords$Datum" "exponent" "I") (inW_1 _ (List.mem_of_getElem? (i := 7) rfl))) 0 dX0_setInfinity_17 (fun H locs hP hD hS => ?_)
  obtain ⟨w7, ew7⟩ : ∃ y9 : Nat → Int32, y9 = va_up vex i0 0 := ⟨_, rfl⟩
  have hP : va_P D vwCl (xw cR ax ar ao ad vrd vtr vsd vrn vom voh vol vop voe vow vok vos w1 w3 w5 w7) H := by rw [ew7]; exact hP
  have hD : va_D A (xw cR ax ar ao ad vrd vtr vsd vrn vom voh vol vop voe vow vok vos w1 w3 w5 w7) := by rw [ew7]; exact hD
  have e9 := Eq.symm ew1; subst e9
  have e9 := Eq.symm ew3; subst e9
  have e9 := Eq.symm ew5; subst e9
  have e9 := Eq.symm ew7; subst e9
  have hu9 := Eq.symm (hu.trans rfl)
  subst hu9
  exact x_vret hx hb hr hlocks hQ hK hP hD hS rfl dX0_setInfinity_20

def F_X0_setNothing (vso : Nat → Int32) (vmi : Nat → Bool) (vco : Nat → Int64) (vex : Nat → Int32) (i0 : Nat) : (Nat → Int32) × (Nat → Bool) × (Nat → Int64) × (Nat → Int32) := (let w1 : Nat → Int32 := va_up vso i0 2; (let w3 : Nat → Bool := va_up vmi i0 false; (let w5 : Nat → Int64 := va_up vco i0 0; (let w7 : Nat → Int32 := va_up vex i0 0; (w1, w3, w5, w7)))))
def rm_X0_setNothing : Room := { frames := 0, cells := 0, slots := 0, locals := 0 }
set_option maxHeartbeats 4000000 in
set_option maxRecDepth 100000 in
theorem c_X0_setNothing (l : Launch) (D : va_G) (cR cI cJ cZ : ClassId) (t0 : Nat) (ax ar ao : Nat) (ad : Nat → Nat) (vrd : Int32) (vtr : Int32) (vsd : Int32) (vrn : Int32) (vom : Bool) (voh : Int64) (vol : Int64) (vop : Int32) (voe : Bool) (vow : Int32) (vok : Int64) (vos : Int32) (vso : Nat → Int32) (vmi : Nat → Bool) (vco : Nat → Int64) (vex : Nat → Int32) (i0 : Nat) (u : (Nat → Int32) × (Nat → Bool) × (Nat → Int64) × (Nat → Int32)) (hu : u = F_X0_setNothing vso vmi vco vex i0) (hb0 : i0 < 9) : XM l D (xty cR cI cJ cZ) t0 yX0_setNothing cX0_setNothing 1 none rm_X0_setNothing [.ref (ad i0)] none (xw cR ax ar ao ad vrd vtr vsd vrn vom voh vol vop voe vow vok vos vso vmi vco vex) (xw cR ax ar ao ad vrd vtr vsd vrn vom voh vol vop voe vow vok vos u.1 u.2.1 u.2.2.1 u.2.2.2) := by
  refine XM.of (by decide) (Nat.le_of_ble_eq_true rfl) ?_
  intro p e s m args below meth c A Q F hK hP hD hA hSt hS hQ ls hl
  obtain ⟨hx, hb, hr, hts, hown, hlocks, hml⟩ := F
  have hCF : CallFix p m c cX0_setNothing 1 s args gW RX0 := ⟨hx, hb, hml, hown, hts⟩
  obtain ⟨H, eH⟩ : ∃ y9 : Heap, y9 = s.heap := ⟨_, rfl⟩
  obtain ⟨locs, eL⟩ : ∃ y9 : List Loc, y9 = [] := ⟨_, rfl⟩
  rw [← eL] at hS ⊢
  have hP : va_P D vwCl (xw cR ax ar ao ad vrd vtr vsd vrn vom voh vol vop voe vow vok vos vso vmi vco vex) H := by rw [eH]; exact hP
  have hS : va_S A s.heap H locs := by rw [eH]; exact hS
  suffices goal9 : W p l e rm_X0_setNothing s m args below meth c H locs 0 0 Q (F0 m 0 ls []) from by rw [← eH]; exact goal9
  have hl : lv_has ls 1 [(0, .ref (ad i0))] := hl
  have hi0 : ∀ w ∈ wsX00, w ∈ gW := inW_X0
  refine lv_aload_n hx hb dX0_setNothing_0 rfl (lv_at hl 0 rfl) ?_
  refine lv_iconst (v := 2) hx hb dX0_setNothing_1 (by decide) ?_
  refine p_so (i := i0) hx hb hts hi0 hown hK hP hD hS hb0 (hts (.fieldLink RX0 9 "DecimalWords$Datum" "sort" "I") (inW_1 _ (List.mem_of_getElem? (i := 4) rfl))) 2 dX0_setNothing_2 (fun H locs hP hD hS => ?_)
  obtain ⟨w1, ew1⟩ : ∃ y9 : Nat → Int32, y9 = va_up vso i0 2 := ⟨_, rfl⟩
  have hP : va_P D vwCl (xw cR ax ar ao ad vrd vtr vsd vrn vom voh vol vop voe vow vok vos w1 vmi vco vex) H := by rw [ew1]; exact hP
  have hD : va_D A (xw cR ax ar ao ad vrd vtr vsd vrn vom voh vol vop voe vow vok vos w1 vmi vco vex) := by rw [ew1]; exact hD
  refine lv_aload_n hx hb dX0_setNothing_5 rfl (lv_at hl 0 rfl) ?_
  refine lv_iconst (v := 0) hx hb dX0_setNothing_6 (by decide) ?_
  refine p_mi (i := i0) hx hb hts hi0 hown hK hP hD hS hb0 (hts (.fieldLink RX0 15 "DecimalWords$Datum" "minus" "Z") (inW_1 _ (List.mem_of_getElem? (i := 5) rfl))) false dX0_setNothing_7 (fun H locs hP hD hS => ?_)
  obtain ⟨w3, ew3⟩ : ∃ y9 : Nat → Bool, y9 = va_up vmi i0 false := ⟨_, rfl⟩
  have hP : va_P D vwCl (xw cR ax ar ao ad vrd vtr vsd vrn vom voh vol vop voe vow vok vos w1 w3 vco vex) H := by rw [ew3]; exact hP
  have hD : va_D A (xw cR ax ar ao ad vrd vtr vsd vrn vom voh vol vop voe vow vok vos w1 w3 vco vex) := by rw [ew3]; exact hD
  refine lv_aload_n hx hb dX0_setNothing_10 rfl (lv_at hl 0 rfl) ?_
  refine lv_lconst (v := 0) hx hb dX0_setNothing_11 (by decide) ?_
  refine p_co (i := i0) hx hb hts hi0 hown hK hP hD hS hb0 (hts (.fieldLink RX0 19 "DecimalWords$Datum" "coefficient" "J") (inW_1 _ (List.mem_of_getElem? (i := 6) rfl))) 0 dX0_setNothing_12 (fun H locs hP hD hS => ?_)
  obtain ⟨w5, ew5⟩ : ∃ y9 : Nat → Int64, y9 = va_up vco i0 0 := ⟨_, rfl⟩
  have hP : va_P D vwCl (xw cR ax ar ao ad vrd vtr vsd vrn vom voh vol vop voe vow vok vos w1 w3 w5 vex) H := by rw [ew5]; exact hP
  have hD : va_D A (xw cR ax ar ao ad vrd vtr vsd vrn vom voh vol vop voe vow vok vos w1 w3 w5 vex) := by rw [ew5]; exact hD
  refine lv_aload_n hx hb dX0_setNothing_15 rfl (lv_at hl 0 rfl) ?_
  refine lv_iconst (v := 0) hx hb dX0_setNothing_16 (by decide) ?_
  refine p_ex (i := i0) hx hb hts hi0 hown hK hP hD hS hb0 (hts (.fieldLink RX0 23 "DecimalWords$Datum" "exponent" "I") (inW_1 _ (List.mem_of_getElem? (i := 7) rfl))) 0 dX0_setNothing_17 (fun H locs hP hD hS => ?_)
  obtain ⟨w7, ew7⟩ : ∃ y9 : Nat → Int32, y9 = va_up vex i0 0 := ⟨_, rfl⟩
  have hP : va_P D vwCl (xw cR ax ar ao ad vrd vtr vsd vrn vom voh vol vop voe vow vok vos w1 w3 w5 w7) H := by rw [ew7]; exact hP
  have hD : va_D A (xw cR ax ar ao ad vrd vtr vsd vrn vom voh vol vop voe vow vok vos w1 w3 w5 w7) := by rw [ew7]; exact hD
  have e9 := Eq.symm ew1; subst e9
  have e9 := Eq.symm ew3; subst e9
  have e9 := Eq.symm ew5; subst e9
  have e9 := Eq.symm ew7; subst e9
  have hu9 := Eq.symm (hu.trans rfl)
  subst hu9
  exact x_vret hx hb hr hlocks hQ hK hP hD hS rfl dX0_setNothing_20

def F_X0_take (vso : Nat → Int32) (vmi : Nat → Bool) (vco : Nat → Int64) (vex : Nat → Int32) (i0 : Nat) (i1 : Nat) : (Nat → Int32) × (Nat → Bool) × (Nat → Int64) × (Nat → Int32) := (let f1 : Int32 := vso i1; (let w2 : Nat → Int32 := va_up vso i0 f1; (let f4 : Bool := vmi i1; (let w5 : Nat → Bool := va_up vmi i0 f4; (let f7 : Int64 := vco i1; (let w8 : Nat → Int64 := va_up vco i0 f7; (let f10 : Int32 := vex i1; (let w11 : Nat → Int32 := va_up vex i0 f10; (w2, w5, w8, w11)))))))))
def rm_X0_take : Room := { frames := 0, cells := 0, slots := 0, locals := 0 }
set_option maxHeartbeats 4000000 in
set_option maxRecDepth 100000 in
theorem c_X0_take (l : Launch) (D : va_G) (cR cI cJ cZ : ClassId) (t0 : Nat) (ax ar ao : Nat) (ad : Nat → Nat) (vrd : Int32) (vtr : Int32) (vsd : Int32) (vrn : Int32) (vom : Bool) (voh : Int64) (vol : Int64) (vop : Int32) (voe : Bool) (vow : Int32) (vok : Int64) (vos : Int32) (vso : Nat → Int32) (vmi : Nat → Bool) (vco : Nat → Int64) (vex : Nat → Int32) (i0 : Nat) (i1 : Nat) (u : (Nat → Int32) × (Nat → Bool) × (Nat → Int64) × (Nat → Int32)) (hu : u = F_X0_take vso vmi vco vex i0 i1) (hb0 : i0 < 9) (hb1 : i1 < 9) : XM l D (xty cR cI cJ cZ) t0 yX0_take cX0_take 2 none rm_X0_take [.ref (ad i0), .ref (ad i1)] none (xw cR ax ar ao ad vrd vtr vsd vrn vom voh vol vop voe vow vok vos vso vmi vco vex) (xw cR ax ar ao ad vrd vtr vsd vrn vom voh vol vop voe vow vok vos u.1 u.2.1 u.2.2.1 u.2.2.2) := by
  refine XM.of (by decide) (Nat.le_of_ble_eq_true rfl) ?_
  intro p e s m args below meth c A Q F hK hP hD hA hSt hS hQ ls hl
  obtain ⟨hx, hb, hr, hts, hown, hlocks, hml⟩ := F
  have hCF : CallFix p m c cX0_take 2 s args gW RX0 := ⟨hx, hb, hml, hown, hts⟩
  obtain ⟨H, eH⟩ : ∃ y9 : Heap, y9 = s.heap := ⟨_, rfl⟩
  obtain ⟨locs, eL⟩ : ∃ y9 : List Loc, y9 = [] := ⟨_, rfl⟩
  rw [← eL] at hS ⊢
  have hP : va_P D vwCl (xw cR ax ar ao ad vrd vtr vsd vrn vom voh vol vop voe vow vok vos vso vmi vco vex) H := by rw [eH]; exact hP
  have hS : va_S A s.heap H locs := by rw [eH]; exact hS
  suffices goal9 : W p l e rm_X0_take s m args below meth c H locs 0 0 Q (F0 m 0 ls []) from by rw [← eH]; exact goal9
  have hl : lv_has ls 2 [(0, .ref (ad i0)), (1, .ref (ad i1))] := hl
  have hi0 : ∀ w ∈ wsX00, w ∈ gW := inW_X0
  refine lv_aload_n hx hb dX0_take_0 rfl (lv_at hl 0 rfl) ?_
  refine lv_aload_n hx hb dX0_take_1 rfl (lv_at hl 1 rfl) ?_
  refine g_so (i := i1) hx hb hts hi0 hown hK hP hb1 (hts (.fieldLink RX0 9 "DecimalWords$Datum" "sort" "I") (inW_1 _ (List.mem_of_getElem? (i := 4) rfl))) dX0_take_2 ?_
  refine lv_topi (fun f1 ef1 => ?_)
  refine p_so (i := i0) hx hb hts hi0 hown hK hP hD hS hb0 (hts (.fieldLink RX0 9 "DecimalWords$Datum" "sort" "I") (inW_1 _ (List.mem_of_getElem? (i := 4) rfl))) f1 dX0_take_5 (fun H locs hP hD hS => ?_)
  obtain ⟨w2, ew2⟩ : ∃ y9 : Nat → Int32, y9 = va_up vso i0 f1 := ⟨_, rfl⟩
  have hP : va_P D vwCl (xw cR ax ar ao ad vrd vtr vsd vrn vom voh vol vop voe vow vok vos w2 vmi vco vex) H := by rw [ew2]; exact hP
  have hD : va_D A (xw cR ax ar ao ad vrd vtr vsd vrn vom voh vol vop voe vow vok vos w2 vmi vco vex) := by rw [ew2]; exact hD
  refine lv_aload_n hx hb dX0_take_8 rfl (lv_at hl 0 rfl) ?_
  refine lv_aload_n hx hb dX0_take_9 rfl (lv_at hl 1 rfl) ?_
  refine g_mi (i := i1) hx hb hts hi0 hown hK hP hb1 (hts (.fieldLink RX0 15 "DecimalWords$Datum" "minus" "Z") (inW_1 _ (List.mem_of_getElem? (i := 5) rfl))) dX0_take_10 ?_
  refine x_topb (fun f4 ef4 => ?_)
  refine p_mi (i := i0) hx hb hts hi0 hown hK hP hD hS hb0 (hts (.fieldLink RX0 15 "DecimalWords$Datum" "minus" "Z") (inW_1 _ (List.mem_of_getElem? (i := 5) rfl))) f4 dX0_take_13 (fun H locs hP hD hS => ?_)
  obtain ⟨w5, ew5⟩ : ∃ y9 : Nat → Bool, y9 = va_up vmi i0 f4 := ⟨_, rfl⟩
  have hP : va_P D vwCl (xw cR ax ar ao ad vrd vtr vsd vrn vom voh vol vop voe vow vok vos w2 w5 vco vex) H := by rw [ew5]; exact hP
  have hD : va_D A (xw cR ax ar ao ad vrd vtr vsd vrn vom voh vol vop voe vow vok vos w2 w5 vco vex) := by rw [ew5]; exact hD
  refine lv_aload_n hx hb dX0_take_16 rfl (lv_at hl 0 rfl) ?_
  refine lv_aload_n hx hb dX0_take_17 rfl (lv_at hl 1 rfl) ?_
  refine g_co (i := i1) hx hb hts hi0 hown hK hP hb1 (hts (.fieldLink RX0 19 "DecimalWords$Datum" "coefficient" "J") (inW_1 _ (List.mem_of_getElem? (i := 6) rfl))) dX0_take_18 ?_
  refine lv_topl (fun f7 ef7 => ?_)
  refine p_co (i := i0) hx hb hts hi0 hown hK hP hD hS hb0 (hts (.fieldLink RX0 19 "DecimalWords$Datum" "coefficient" "J") (inW_1 _ (List.mem_of_getElem? (i := 6) rfl))) f7 dX0_take_21 (fun H locs hP hD hS => ?_)
  obtain ⟨w8, ew8⟩ : ∃ y9 : Nat → Int64, y9 = va_up vco i0 f7 := ⟨_, rfl⟩
  have hP : va_P D vwCl (xw cR ax ar ao ad vrd vtr vsd vrn vom voh vol vop voe vow vok vos w2 w5 w8 vex) H := by rw [ew8]; exact hP
  have hD : va_D A (xw cR ax ar ao ad vrd vtr vsd vrn vom voh vol vop voe vow vok vos w2 w5 w8 vex) := by rw [ew8]; exact hD
  refine lv_aload_n hx hb dX0_take_24 rfl (lv_at hl 0 rfl) ?_
  refine lv_aload_n hx hb dX0_take_25 rfl (lv_at hl 1 rfl) ?_
  refine g_ex (i := i1) hx hb hts hi0 hown hK hP hb1 (hts (.fieldLink RX0 23 "DecimalWords$Datum" "exponent" "I") (inW_1 _ (List.mem_of_getElem? (i := 7) rfl))) dX0_take_26 ?_
  refine lv_topi (fun f10 ef10 => ?_)
  refine p_ex (i := i0) hx hb hts hi0 hown hK hP hD hS hb0 (hts (.fieldLink RX0 23 "DecimalWords$Datum" "exponent" "I") (inW_1 _ (List.mem_of_getElem? (i := 7) rfl))) f10 dX0_take_29 (fun H locs hP hD hS => ?_)
  obtain ⟨w11, ew11⟩ : ∃ y9 : Nat → Int32, y9 = va_up vex i0 f10 := ⟨_, rfl⟩
  have hP : va_P D vwCl (xw cR ax ar ao ad vrd vtr vsd vrn vom voh vol vop voe vow vok vos w2 w5 w8 w11) H := by rw [ew11]; exact hP
  have hD : va_D A (xw cR ax ar ao ad vrd vtr vsd vrn vom voh vol vop voe vow vok vos w2 w5 w8 w11) := by rw [ew11]; exact hD
  have e9 := Eq.symm ef1; subst e9
  have e9 := Eq.symm ew2; subst e9
  have e9 := Eq.symm ef4; subst e9
  have e9 := Eq.symm ew5; subst e9
  have e9 := Eq.symm ef7; subst e9
  have e9 := Eq.symm ew8; subst e9
  have e9 := Eq.symm ef10; subst e9
  have e9 := Eq.symm ew11; subst e9
  have hu9 := Eq.symm (hu.trans rfl)
  subst hu9
  exact x_vret hx hb hr hlocks hQ hK hP hD hS rfl dX0_take_32

def F_X0_isZero (vso : Nat → Int32) (vco : Nat → Int64) (i0 : Nat) : Bool := (if vso i0 = 0 then (if vco i0 = 0 then true else false) else false)
def rm_X0_isZero : Room := { frames := 0, cells := 0, slots := 0, locals := 0 }
set_option maxHeartbeats 4000000 in
set_option maxRecDepth 100000 in
theorem c_X0_isZero (l : Launch) (D : va_G) (cR cI cJ cZ : ClassId) (t0 : Nat) (ax ar ao : Nat) (ad : Nat → Nat) (vrd : Int32) (vtr : Int32) (vsd : Int32) (vrn : Int32) (vom : Bool) (voh : Int64) (vol : Int64) (vop : Int32) (voe : Bool) (vow : Int32) (vok : Int64) (vos : Int32) (vso : Nat → Int32) (vmi : Nat → Bool) (vco : Nat → Int64) (vex : Nat → Int32) (i0 : Nat) (u : Bool) (hu : u = F_X0_isZero vso vco i0) (hb0 : i0 < 9) : XM l D (xty cR cI cJ cZ) t0 yX0_isZero cX0_isZero 1 (some .boolean) rm_X0_isZero [.ref (ad i0)] (some (.int (bI u))) (xw cR ax ar ao ad vrd vtr vsd vrn vom voh vol vop voe vow vok vos vso vmi vco vex) (xw cR ax ar ao ad vrd vtr vsd vrn vom voh vol vop voe vow vok vos vso vmi vco vex) := by
  refine XM.of (by decide) (Nat.le_of_ble_eq_true rfl) ?_
  intro p e s m args below meth c A Q F hK hP hD hA hSt hS hQ ls hl
  obtain ⟨hx, hb, hr, hts, hown, hlocks, hml⟩ := F
  have hCF : CallFix p m c cX0_isZero 1 s args gW RX0 := ⟨hx, hb, hml, hown, hts⟩
  obtain ⟨H, eH⟩ : ∃ y9 : Heap, y9 = s.heap := ⟨_, rfl⟩
  obtain ⟨locs, eL⟩ : ∃ y9 : List Loc, y9 = [] := ⟨_, rfl⟩
  rw [← eL] at hS ⊢
  have hP : va_P D vwCl (xw cR ax ar ao ad vrd vtr vsd vrn vom voh vol vop voe vow vok vos vso vmi vco vex) H := by rw [eH]; exact hP
  have hS : va_S A s.heap H locs := by rw [eH]; exact hS
  suffices goal9 : W p l e rm_X0_isZero s m args below meth c H locs 0 0 Q (F0 m 0 ls []) from by rw [← eH]; exact goal9
  have hl : lv_has ls 1 [(0, .ref (ad i0))] := hl
  have hi0 : ∀ w ∈ wsX00, w ∈ gW := inW_X0
  refine lv_aload_n hx hb dX0_isZero_0 rfl (lv_at hl 0 rfl) ?_
  refine g_so (i := i0) hx hb hts hi0 hown hK hP hb0 (hts (.fieldLink RX0 9 "DecimalWords$Datum" "sort" "I") (inW_1 _ (List.mem_of_getElem? (i := 4) rfl))) dX0_isZero_1 ?_
  refine lv_if_ne (tgt := 20) hx hb dX0_isZero_4 (by decide) (fun c_1 => ?_) (fun c_1 => ?_)
  · refine lv_iconst (v := 0) hx hb dX0_isZero_20 (by decide) ?_
    have hu9 := Eq.symm (hu.trans (if_neg c_1))
    subst hu9
    exact x_zret (v := false) hx hb hr hlocks hQ hK hP hD hS rfl rfl dX0_isZero_21
  · refine lv_aload_n hx hb dX0_isZero_7 rfl (lv_at hl 0 rfl) ?_
    refine g_co (i := i0) hx hb hts hi0 hown hK hP hb0 (hts (.fieldLink RX0 19 "DecimalWords$Datum" "coefficient" "J") (inW_1 _ (List.mem_of_getElem? (i := 6) rfl))) dX0_isZero_8 ?_
    refine lv_lconst (v := 0) hx hb dX0_isZero_11 (by decide) ?_
    refine xl_ne (tgt := 20) hx hb dX0_isZero_12 dX0_isZero_13 (by decide) (fun c_2 => ?_) (fun c_2 => ?_)
    · refine lv_iconst (v := 0) hx hb dX0_isZero_20 (by decide) ?_
      have hu9 := Eq.symm (hu.trans ((if_pos c_1).trans (if_neg c_2)))
      subst hu9
      exact x_zret (v := false) hx hb hr hlocks hQ hK hP hD hS rfl rfl dX0_isZero_21
    · refine lv_iconst (v := 1) hx hb dX0_isZero_16 (by decide) ?_
      refine lv_goto (tgt := 21) hx hb dX0_isZero_17 (by decide) ?_
      have hu9 := Eq.symm (hu.trans ((if_pos c_1).trans (if_pos c_2)))
      subst hu9
      exact x_zret (v := true) hx hb hr hlocks hQ hK hP hD hS rfl rfl dX0_isZero_21

def F_X0_side (vso : Nat → Int32) (vmi : Nat → Bool) (vco : Nat → Int64) (i0 : Nat) : Int32 := (if F_X0_isZero vso vco i0 = true then 0 else (if vmi i0 = true then (-1) else 1))
def rm_X0_side : Room := { frames := 1, cells := 0, slots := 0, locals := 20 }
set_option maxHeartbeats 4000000 in
set_option maxRecDepth 100000 in
theorem c_X0_side (l : Launch) (D : va_G) (cR cI cJ cZ : ClassId) (t0 : Nat) (ax ar ao : Nat) (ad : Nat → Nat) (vrd : Int32) (vtr : Int32) (vsd : Int32) (vrn : Int32) (vom : Bool) (voh : Int64) (vol : Int64) (vop : Int32) (voe : Bool) (vow : Int32) (vok : Int64) (vos : Int32) (vso : Nat → Int32) (vmi : Nat → Bool) (vco : Nat → Int64) (vex : Nat → Int32) (i0 : Nat) (u : Int32) (hu : u = F_X0_side vso vmi vco i0) (hb0 : i0 < 9) : XM l D (xty cR cI cJ cZ) t0 yX0_side cX0_side 1 (some .int) rm_X0_side [.ref (ad i0)] (some (.int u)) (xw cR ax ar ao ad vrd vtr vsd vrn vom voh vol vop voe vow vok vos vso vmi vco vex) (xw cR ax ar ao ad vrd vtr vsd vrn vom voh vol vop voe vow vok vos vso vmi vco vex) := by
  refine XM.of (by decide) (Nat.le_of_ble_eq_true rfl) ?_
  intro p e s m args below meth c A Q F hK hP hD hA hSt hS hQ ls hl
  obtain ⟨hx, hb, hr, hts, hown, hlocks, hml⟩ := F
  have hCF : CallFix p m c cX0_side 1 s args gW RX0 := ⟨hx, hb, hml, hown, hts⟩
  obtain ⟨H, eH⟩ : ∃ y9 : Heap, y9 = s.heap := ⟨_, rfl⟩
  obtain ⟨locs, eL⟩ : ∃ y9 : List Loc, y9 = [] := ⟨_, rfl⟩
  rw [← eL] at hS ⊢
  have hP : va_P D vwCl (xw cR ax ar ao ad vrd vtr vsd vrn vom voh vol vop voe vow vok vos vso vmi vco vex) H := by rw [eH]; exact hP
  have hS : va_S A s.heap H locs := by rw [eH]; exact hS
  suffices goal9 : W p l e rm_X0_side s m args below meth c H locs 0 0 Q (F0 m 0 ls []) from by rw [← eH]; exact goal9
  have hl : lv_has ls 1 [(0, .ref (ad i0))] := hl
  have hi0 : ∀ w ∈ wsX00, w ∈ gW := inW_X0
  refine lv_aload_n hx hb dX0_side_0 rfl (lv_at hl 0 rfl) ?_
  refine x_V (As := []) (rest := []) hCF (c_X0_isZero l D cR cI cJ cZ t0 ax ar ao ad vrd vtr vsd vrn vom voh vol vop voe vow vok vos vso vmi vco vex i0 _ rfl hb0) (x_cwV 0 hts (inW_1 _ (List.mem_of_getElem? (i := 13) rfl)) (inW_1 _ (List.mem_of_getElem? (i := 14) rfl)) (inW_1 _ (List.mem_of_getElem? (i := 15) rfl)) (inW_1 _ (List.mem_of_getElem? (i := 16) rfl)) (inW_1 _ (List.mem_of_getElem? (i := 11) rfl)) rfl rfl (by decide +kernel) ⟨Nat.le_of_ble_eq_true rfl, Nat.le_of_ble_eq_true rfl⟩) hK hP hD hS hA hSt (3 + i0) (xw_dat hb0) rfl rfl hl.1 rfl (Nat.le_of_ble_eq_true rfl) dX0_side_1 ⟨Nat.le_of_ble_eq_true rfl, Nat.le_of_ble_eq_true rfl⟩ (fun H locs hP hD hS => ?_)
  show W p l e _ s m args below meth c H locs 0 0 Q (F0 m 4 ls (.int (bI (F_X0_isZero vso vco i0)) :: []))
  refine xb_eq (tgt := 9) hx hb dX0_side_4 (by decide) (fun c_2 => ?_) (fun c_2 => ?_)
  · refine lv_aload_n hx hb dX0_side_9 rfl (lv_at hl 0 rfl) ?_
    refine g_mi (i := i0) hx hb hts hi0 hown hK hP hb0 (hts (.fieldLink RX0 15 "DecimalWords$Datum" "minus" "Z") (inW_1 _ (List.mem_of_getElem? (i := 5) rfl))) dX0_side_10 ?_
    refine xb_eq (tgt := 20) hx hb dX0_side_13 (by decide) (fun c_3 => ?_) (fun c_3 => ?_)
    · refine lv_iconst (v := 1) hx hb dX0_side_20 (by decide) ?_
      have hu9 := Eq.symm (hu.trans ((if_neg c_2).trans (if_neg c_3)))
      subst hu9
      exact x_iret hx hb hr hlocks hQ hK hP hD hS rfl rfl dX0_side_21
    · refine lv_iconst (v := (-1)) hx hb dX0_side_16 (by decide) ?_
      refine lv_goto (tgt := 21) hx hb dX0_side_17 (by decide) ?_
      have hu9 := Eq.symm (hu.trans ((if_neg c_2).trans (if_pos c_3)))
      subst hu9
      exact x_iret hx hb hr hlocks hQ hK hP hD hS rfl rfl dX0_side_21
  · refine lv_iconst (v := 0) hx hb dX0_side_7 (by decide) ?_
    have hu9 := Eq.symm (hu.trans (if_pos c_2))
    subst hu9
    exact x_iret hx hb hr hlocks hQ hK hP hD hS rfl rfl dX0_side_8
