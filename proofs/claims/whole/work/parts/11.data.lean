def F_X0_setFinite (vso : Nat → Int32) (vmi : Nat → Bool) (vco : Nat → Int64) (vex : Nat → Int32) (i0 : Nat) (p0 : Bool) (p1 : Int64) (p2 : Int32) : (Nat → Int32) × (Nat → Bool) × (Nat → Int64) × (Nat → Int32) := (bnd (va_up vso i0 0) (fun w1 : Nat → Int32 => (bnd (va_up vmi i0 p0) (fun w3 : Nat → Bool => (bnd (va_up vco i0 p1) (fun w5 : Nat → Int64 => (bnd (va_up vex i0 p2) (fun w7 : Nat → Int32 => (w1, w3, w5, w7)))))))))
def RF_X0_setFinite (vso : Nat → Int32) (vmi : Nat → Bool) (vco : Nat → Int64) (vex : Nat → Int32) (i0 : Nat) (p0 : Bool) (p1 : Int64) (p2 : Int32) (u9 : (Nat → Int32) × (Nat → Bool) × (Nat → Int64) × (Nat → Int32)) : Prop := (∀ w1 : Nat → Int32, w1 = va_up vso i0 0 → (∀ w3 : Nat → Bool, w3 = va_up vmi i0 p0 → (∀ w5 : Nat → Int64, w5 = va_up vco i0 p1 → (∀ w7 : Nat → Int32, w7 = va_up vex i0 p2 → u9 = (w1, w3, w5, w7)))))
theorem rF_X0_setFinite (vso : Nat → Int32) (vmi : Nat → Bool) (vco : Nat → Int64) (vex : Nat → Int32) (i0 : Nat) (p0 : Bool) (p1 : Int64) (p2 : Int32) {u9 : (Nat → Int32) × (Nat → Bool) × (Nat → Int64) × (Nat → Int32)} (hu : u9 = F_X0_setFinite vso vmi vco vex i0 p0 p1 p2) : RF_X0_setFinite vso vmi vco vex i0 p0 p1 p2 u9 := by
  unfold RF_X0_setFinite
  intro w1 ew1
  have hu := bnd_n hu ew1
  intro w3 ew3
  have hu := bnd_n hu ew3
  intro w5 ew5
  have hu := bnd_n hu ew5
  intro w7 ew7
  have hu := bnd_n hu ew7
  exact hu
def rm_X0_setFinite : Room := { frames := 0, cells := 0, slots := 0, locals := 0 }
set_option maxHeartbeats 4000000 in
set_option maxRecDepth 100000 in
theorem c_X0_setFinite (l : Launch) (D : va_G) (cR cI cJ cZ : ClassId) (t0 : Nat) (ax ar ao : Nat) (ad : Nat → Nat) (vrd : Int32) (vtr : Int32) (vsd : Int32) (vrn : Int32) (vom : Bool) (voh : Int64) (vol : Int64) (vop : Int32) (voe : Bool) (vow : Int32) (vok : Int64) (vos : Int32) (vso : Nat → Int32) (vmi : Nat → Bool) (vco : Nat → Int64) (vex : Nat → Int32) (i0 : Nat) (p0 : Bool) (p1 : Int64) (p2 : Int32) (u : (Nat → Int32) × (Nat → Bool) × (Nat → Int64) × (Nat → Int32)) (hu : u = F_X0_setFinite vso vmi vco vex i0 p0 p1 p2) (hb0 : i0 < 9) : XM l D (xty cR cI cJ cZ) t0 yX0_setFinite cX0_setFinite 5 none rm_X0_setFinite [.ref (ad i0), .int (bI p0), .long p1, .int p2] none (xw cR ax ar ao ad vrd vtr vsd vrn vom voh vol vop voe vow vok vos vso vmi vco vex) (xw cR ax ar ao ad vrd vtr vsd vrn vom voh vol vop voe vow vok vos u.1 u.2.1 u.2.2.1 u.2.2.2) := by
  refine XM.of (by decide) (Nat.le_of_ble_eq_true rfl) ?_
  intro p e s m args below meth c A Q F hK hP hD hA hSt hS hQ ls hl
  obtain ⟨hx, hb, hr, hts, hown, hlocks, hml⟩ := F
  have hCF : CallFix p m c cX0_setFinite 5 s args gW RX0 := ⟨hx, hb, hml, hown, hts⟩
  have hu := rF_X0_setFinite vso vmi vco vex i0 p0 p1 p2 hu
  unfold RF_X0_setFinite at hu
  obtain ⟨H, eH⟩ : ∃ y9 : Heap, y9 = s.heap := ⟨_, rfl⟩
  obtain ⟨locs, eL⟩ : ∃ y9 : List Loc, y9 = [] := ⟨_, rfl⟩
  rw [← eL] at hS ⊢
  have hP : va_P D vwCl (xw cR ax ar ao ad vrd vtr vsd vrn vom voh vol vop voe vow vok vos vso vmi vco vex) H := by rw [eH]; exact hP
  have hS : va_S A s.heap H locs := by rw [eH]; exact hS
  suffices goal9 : W p l e rm_X0_setFinite s m args below meth c H locs 0 0 Q (F0 m 0 ls []) from by rw [← eH]; exact goal9
  have hl : lv_has ls 5 [(0, .ref (ad i0)), (1, .int (bI p0)), (2, .long p1), (4, .int p2)] := hl
  have hi0 : ∀ w ∈ wsX00, w ∈ gW := inW_X0
  refine lv_aload_n hx hb dX0_setFinite_0 rfl (lv_at hl 0 rfl) ?_
  refine lv_iconst (v := 0) hx hb dX0_setFinite_1 (by decide) ?_
  refine p_so (i := i0) hx hb hts hi0 hown hK hP hD hS hb0 (hts (.fieldLink RX0 9 "DecimalWords$Datum" "sort" "I") (inW_1 _ (List.mem_of_getElem? (i := 4) rfl))) 0 dX0_setFinite_2 (fun H locs hP hD hS => ?_)
  obtain ⟨w1, ew1⟩ : ∃ y9 : Nat → Int32, y9 = va_up vso i0 0 := ⟨_, rfl⟩
  have hu := hu _ ew1
  have hP : va_P D vwCl (xw cR ax ar ao ad vrd vtr vsd vrn vom voh vol vop voe vow vok vos w1 vmi vco vex) H := by rw [ew1]; exact hP
  have hD : va_D A (xw cR ax ar ao ad vrd vtr vsd vrn vom voh vol vop voe vow vok vos w1 vmi vco vex) := by rw [ew1]; exact hD
  refine lv_aload_n hx hb dX0_setFinite_5 rfl (lv_at hl 0 rfl) ?_
  refine lv_iload_n hx hb dX0_setFinite_6 rfl (lv_at hl 1 rfl) ?_
  refine p_mi (i := i0) hx hb hts hi0 hown hK hP hD hS hb0 (hts (.fieldLink RX0 15 "DecimalWords$Datum" "minus" "Z") (inW_1 _ (List.mem_of_getElem? (i := 5) rfl))) p0 dX0_setFinite_7 (fun H locs hP hD hS => ?_)
  obtain ⟨w3, ew3⟩ : ∃ y9 : Nat → Bool, y9 = va_up vmi i0 p0 := ⟨_, rfl⟩
  have hu := hu _ ew3
  have hP : va_P D vwCl (xw cR ax ar ao ad vrd vtr vsd vrn vom voh vol vop voe vow vok vos w1 w3 vco vex) H := by rw [ew3]; exact hP
  have hD : va_D A (xw cR ax ar ao ad vrd vtr vsd vrn vom voh vol vop voe vow vok vos w1 w3 vco vex) := by rw [ew3]; exact hD
  refine lv_aload_n hx hb dX0_setFinite_10 rfl (lv_at hl 0 rfl) ?_
  refine lv_lload_n hx hb dX0_setFinite_11 rfl (lv_at hl 2 rfl) ?_
  refine p_co (i := i0) hx hb hts hi0 hown hK hP hD hS hb0 (hts (.fieldLink RX0 19 "DecimalWords$Datum" "coefficient" "J") (inW_1 _ (List.mem_of_getElem? (i := 6) rfl))) p1 dX0_setFinite_12 (fun H locs hP hD hS => ?_)
  obtain ⟨w5, ew5⟩ : ∃ y9 : Nat → Int64, y9 = va_up vco i0 p1 := ⟨_, rfl⟩
  have hu := hu _ ew5
  have hP : va_P D vwCl (xw cR ax ar ao ad vrd vtr vsd vrn vom voh vol vop voe vow vok vos w1 w3 w5 vex) H := by rw [ew5]; exact hP
  have hD : va_D A (xw cR ax ar ao ad vrd vtr vsd vrn vom voh vol vop voe vow vok vos w1 w3 w5 vex) := by rw [ew5]; exact hD
  refine lv_aload_n hx hb dX0_setFinite_15 rfl (lv_at hl 0 rfl) ?_
  refine lv_iload hx hb dX0_setFinite_16 (lv_at hl 3 rfl) ?_
  refine p_ex (i := i0) hx hb hts hi0 hown hK hP hD hS hb0 (hts (.fieldLink RX0 23 "DecimalWords$Datum" "exponent" "I") (inW_1 _ (List.mem_of_getElem? (i := 7) rfl))) p2 dX0_setFinite_18 (fun H locs hP hD hS => ?_)
  obtain ⟨w7, ew7⟩ : ∃ y9 : Nat → Int32, y9 = va_up vex i0 p2 := ⟨_, rfl⟩
  have hu := hu _ ew7
  have hP : va_P D vwCl (xw cR ax ar ao ad vrd vtr vsd vrn vom voh vol vop voe vow vok vos w1 w3 w5 w7) H := by rw [ew7]; exact hP
  have hD : va_D A (xw cR ax ar ao ad vrd vtr vsd vrn vom voh vol vop voe vow vok vos w1 w3 w5 w7) := by rw [ew7]; exact hD
  have e9 := Eq.symm hu; subst e9
  exact x_vret hx hb hr hlocks hQ hK hP hD hS rfl dX0_setFinite_21

def F_X0_setInfinity (vso : Nat → Int32) (vmi : Nat → Bool) (vco : Nat → Int64) (vex : Nat → Int32) (i0 : Nat) (p0 : Bool) : (Nat → Int32) × (Nat → Bool) × (Nat → Int64) × (Nat → Int32) := (bnd (va_up vso i0 1) (fun w1 : Nat → Int32 => (bnd (va_up vmi i0 p0) (fun w3 : Nat → Bool => (bnd (va_up vco i0 0) (fun w5 : Nat → Int64 => (bnd (va_up vex i0 0) (fun w7 : Nat → Int32 => (w1, w3, w5, w7)))))))))
def RF_X0_setInfinity (vso : Nat → Int32) (vmi : Nat → Bool) (vco : Nat → Int64) (vex : Nat → Int32) (i0 : Nat) (p0 : Bool) (u9 : (Nat → Int32) × (Nat → Bool) × (Nat → Int64) × (Nat → Int32)) : Prop := (∀ w1 : Nat → Int32, w1 = va_up vso i0 1 → (∀ w3 : Nat → Bool, w3 = va_up vmi i0 p0 → (∀ w5 : Nat → Int64, w5 = va_up vco i0 0 → (∀ w7 : Nat → Int32, w7 = va_up vex i0 0 → u9 = (w1, w3, w5, w7)))))
theorem rF_X0_setInfinity (vso : Nat → Int32) (vmi : Nat → Bool) (vco : Nat → Int64) (vex : Nat → Int32) (i0 : Nat) (p0 : Bool) {u9 : (Nat → Int32) × (Nat → Bool) × (Nat → Int64) × (Nat → Int32)} (hu : u9 = F_X0_setInfinity vso vmi vco vex i0 p0) : RF_X0_setInfinity vso vmi vco vex i0 p0 u9 := by
  unfold RF_X0_setInfinity
  intro w1 ew1
  have hu := bnd_n hu ew1
  intro w3 ew3
  have hu := bnd_n hu ew3
  intro w5 ew5
  have hu := bnd_n hu ew5
  intro w7 ew7
  have hu := bnd_n hu ew7
  exact hu
def rm_X0_setInfinity : Room := { frames := 0, cells := 0, slots := 0, locals := 0 }
set_option maxHeartbeats 4000000 in
set_option maxRecDepth 100000 in
theorem c_X0_setInfinity (l : Launch) (D : va_G) (cR cI cJ cZ : ClassId) (t0 : Nat) (ax ar ao : Nat) (ad : Nat → Nat) (vrd : Int32) (vtr : Int32) (vsd : Int32) (vrn : Int32) (vom : Bool) (voh : Int64) (vol : Int64) (vop : Int32) (voe : Bool) (vow : Int32) (vok : Int64) (vos : Int32) (vso : Nat → Int32) (vmi : Nat → Bool) (vco : Nat → Int64) (vex : Nat → Int32) (i0 : Nat) (p0 : Bool) (u : (Nat → Int32) × (Nat → Bool) × (Nat → Int64) × (Nat → Int32)) (hu : u = F_X0_setInfinity vso vmi vco vex i0 p0) (hb0 : i0 < 9) : XM l D (xty cR cI cJ cZ) t0 yX0_setInfinity cX0_setInfinity 2 none rm_X0_setInfinity [.ref (ad i0), .int (bI p0)] none (xw cR ax ar ao ad vrd vtr vsd vrn vom voh vol vop voe vow vok vos vso vmi vco vex) (xw cR ax ar ao ad vrd vtr vsd vrn vom voh vol vop voe vow vok vos u.1 u.2.1 u.2.2.1 u.2.2.2) := by
  refine XM.of (by decide) (Nat.le_of_ble_eq_true rfl) ?_
  intro p e s m args below meth c A Q F hK hP hD hA hSt hS hQ ls hl
  obtain ⟨hx, hb, hr, hts, hown, hlocks, hml⟩ := F
  have hCF : CallFix p m c cX0_setInfinity 2 s args gW RX0 := ⟨hx, hb, hml, hown, hts⟩
  have hu := rF_X0_setInfinity vso vmi vco vex i0 p0 hu
  unfold RF_X0_setInfinity at hu
  obtain ⟨H, eH⟩ : ∃ y9 : Heap, y9 = s.heap := ⟨_, rfl⟩
  obtain ⟨locs, eL⟩ : ∃ y9 : List Loc, y9 = [] := ⟨_, rfl⟩
  rw [← eL] at hS ⊢
  have hP : va_P D vwCl (xw cR ax ar ao ad vrd vtr vsd vrn vom voh vol vop voe vow vok vos vso vmi vco vex) H := by rw [eH]; exact hP
  have hS : va_S A s.heap H locs := by rw [eH]; exact hS
  suffices goal9 : W p l e rm_X0_setInfinity s m args below meth c H locs 0 0 Q (F0 m 0 ls []) from by rw [← eH]; exact goal9
  have hl : lv_has ls 2 [(0, .ref (ad i0)), (1, .int (bI p0))] := hl
  have hi0 : ∀ w ∈ wsX00, w ∈ gW := inW_X0
  refine lv_aload_n hx hb dX0_setInfinity_0 rfl (lv_at hl 0 rfl) ?_
  refine lv_iconst (v := 1) hx hb dX0_setInfinity_1 (by decide) ?_
  refine p_so (i := i0) hx hb hts hi0 hown hK hP hD hS hb0 (hts (.fieldLink RX0 9 "DecimalWords$Datum" "sort" "I") (inW_1 _ (List.mem_of_getElem? (i := 4) rfl))) 1 dX0_setInfinity_2 (fun H locs hP hD hS => ?_)
  obtain ⟨w1, ew1⟩ : ∃ y9 : Nat → Int32, y9 = va_up vso i0 1 := ⟨_, rfl⟩
  have hu := hu _ ew1
  have hP : va_P D vwCl (xw cR ax ar ao ad vrd vtr vsd vrn vom voh vol vop voe vow vok vos w1 vmi vco vex) H := by rw [ew1]; exact hP
  have hD : va_D A (xw cR ax ar ao ad vrd vtr vsd vrn vom voh vol vop voe vow vok vos w1 vmi vco vex) := by rw [ew1]; exact hD
  refine lv_aload_n hx hb dX0_setInfinity_5 rfl (lv_at hl 0 rfl) ?_
  refine lv_iload_n hx hb dX0_setInfinity_6 rfl (lv_at hl 1 rfl) ?_
  refine p_mi (i := i0) hx hb hts hi0 hown hK hP hD hS hb0 (hts (.fieldLink RX0 15 "DecimalWords$Datum" "minus" "Z") (inW_1 _ (List.mem_of_getElem? (i := 5) rfl))) p0 dX0_setInfinity_7 (fun H locs hP hD hS => ?_)
  obtain ⟨w3, ew3⟩ : ∃ y9 : Nat → Bool, y9 = va_up vmi i0 p0 := ⟨_, rfl⟩
  have hu := hu _ ew3
  have hP : va_P D vwCl (xw cR ax ar ao ad vrd vtr vsd vrn vom voh vol vop voe vow vok vos w1 w3 vco vex) H := by rw [ew3]; exact hP
  have hD : va_D A (xw cR ax ar ao ad vrd vtr vsd vrn vom voh vol vop voe vow vok vos w1 w3 vco vex) := by rw [ew3]; exact hD
  refine lv_aload_n hx hb dX0_setInfinity_10 rfl (lv_at hl 0 rfl) ?_
  refine lv_lconst (v := 0) hx hb dX0_setInfinity_11 (by decide) ?_
  refine p_co (i := i0) hx hb hts hi0 hown hK hP hD hS hb0 (hts (.fieldLink RX0 19 "DecimalWords$Datum" "coefficient" "J") (inW_1 _ (List.mem_of_getElem? (i := 6) rfl))) 0 dX0_setInfinity_12 (fun H locs hP hD hS => ?_)
  obtain ⟨w5, ew5⟩ : ∃ y9 : Nat → Int64, y9 = va_up vco i0 0 := ⟨_, rfl⟩
  have hu := hu _ ew5
  have hP : va_P D vwCl (xw cR ax ar ao ad vrd vtr vsd vrn vom voh vol vop voe vow vok vos w1 w3 w5 vex) H := by rw [ew5]; exact hP
  have hD : va_D A (xw cR ax ar ao ad vrd vtr vsd vrn vom voh vol vop voe vow vok vos w1 w3 w5 vex) := by rw [ew5]; exact hD
  refine lv_aload_n hx hb dX0_setInfinity_15 rfl (lv_at hl 0 rfl) ?_
  refine lv_iconst (v := 0) hx hb dX0_setInfinity_16 (by decide) ?_
  refine p_ex (i := i0) hx hb hts hi0 hown hK hP hD hS hb0 (hts (.fieldLink RX0 23 "DecimalWords$Datum" "exponent" "I") (inW_1 _ (List.mem_of_getElem? (i := 7) rfl))) 0 dX0_setInfinity_17 (fun H locs hP hD hS => ?_)
  obtain ⟨w7, ew7⟩ : ∃ y9 : Nat → Int32, y9 = va_up vex i0 0 := ⟨_, rfl⟩
  have hu := hu _ ew7
  have hP : va_P D vwCl (xw cR ax ar ao ad vrd vtr vsd vrn vom voh vol vop voe vow vok vos w1 w3 w5 w7) H := by rw [ew7]; exact hP
  have hD : va_D A (xw cR ax ar ao ad vrd vtr vsd vrn vom voh vol vop voe vow vok vos w1 w3 w5 w7) := by rw [ew7]; exact hD
  have e9 := Eq.symm hu; subst e9
  exact x_vret hx hb hr hlocks hQ hK hP hD hS rfl dX0_setInfinity_20

def F_X0_setNothing (vso : Nat → Int32) (vmi : Nat → Bool) (vco : Nat → Int64) (vex : Nat → Int32) (i0 : Nat) : (Nat → Int32) × (Nat → Bool) × (Nat → Int64) × (Nat → Int32) := (bnd (va_up vso i0 2) (fun w1 : Nat → Int32 => (bnd (va_up vmi i0 false) (fun w3 : Nat → Bool => (bnd (va_up vco i0 0) (fun w5 : Nat → Int64 => (bnd (va_up vex i0 0) (fun w7 : Nat → Int32 => (w1, w3, w5, w7)))))))))
def RF_X0_setNothing (vso : Nat → Int32) (vmi : Nat → Bool) (vco : Nat → Int64) (vex : Nat → Int32) (i0 : Nat) (u9 : (Nat → Int32) × (Nat → Bool) × (Nat → Int64) × (Nat → Int32)) : Prop := (∀ w1 : Nat → Int32, w1 = va_up vso i0 2 → (∀ w3 : Nat → Bool, w3 = va_up vmi i0 false → (∀ w5 : Nat → Int64, w5 = va_up vco i0 0 → (∀ w7 : Nat → Int32, w7 = va_up vex i0 0 → u9 = (w1, w3, w5, w7)))))
theorem rF_X0_setNothing (vso : Nat → Int32) (vmi : Nat → Bool) (vco : Nat → Int64) (vex : Nat → Int32) (i0 : Nat) {u9 : (Nat → Int32) × (Nat → Bool) × (Nat → Int64) × (Nat → Int32)} (hu : u9 = F_X0_setNothing vso vmi vco vex i0) : RF_X0_setNothing vso vmi vco vex i0 u9 := by
  unfold RF_X0_setNothing
  intro w1 ew1
  have hu := bnd_n hu ew1
  intro w3 ew3
  have hu := bnd_n hu ew3
  intro w5 ew5
  have hu := bnd_n hu ew5
  intro w7 ew7
  have hu := bnd_n hu ew7
  exact hu
def rm_X0_setNothing : Room := { frames := 0, cells := 0, slots := 0, locals := 0 }
set_option maxHeartbeats 4000000 in
set_option maxRecDepth 100000 in
theorem c_X0_setNothing (l : Launch) (D : va_G) (cR cI cJ cZ : ClassId) (t0 : Nat) (ax ar ao : Nat) (ad : Nat → Nat) (vrd : Int32) (vtr : Int32) (vsd : Int32) (vrn : Int32) (vom : Bool) (voh : Int64) (vol : Int64) (vop : Int32) (voe : Bool) (vow : Int32) (vok : Int64) (vos : Int32) (vso : Nat → Int32) (vmi : Nat → Bool) (vco : Nat → Int64) (vex : Nat → Int32) (i0 : Nat) (u : (Nat → Int32) × (Nat → Bool) × (Nat → Int64) × (Nat → Int32)) (hu : u = F_X0_setNothing vso vmi vco vex i0) (hb0 : i0 < 9) : XM l D (xty cR cI cJ cZ) t0 yX0_setNothing cX0_setNothing 1 none rm_X0_setNothing [.ref (ad i0)] none (xw cR ax ar ao ad vrd vtr vsd vrn vom voh vol vop voe vow vok vos vso vmi vco vex) (xw cR ax ar ao ad vrd vtr vsd vrn vom voh vol vop voe vow vok vos u.1 u.2.1 u.2.2.1 u.2.2.2) := by
  refine XM.of (by decide) (Nat.le_of_ble_eq_true rfl) ?_
  intro p e s m args below meth c A Q F hK hP hD hA hSt hS hQ ls hl
  obtain ⟨hx, hb, hr, hts, hown, hlocks, hml⟩ := F
  have hCF : CallFix p m c cX0_setNothing 1 s args gW RX0 := ⟨hx, hb, hml, hown, hts⟩
  have hu := rF_X0_setNothing vso vmi vco vex i0 hu
  unfold RF_X0_setNothing at hu
  obtain ⟨H, eH⟩ : ∃ y9 : Heap, y9 = s.heap := ⟨_, rfl⟩
  obtain ⟨locs, eL⟩ : ∃ y9 : List Loc, y9 = [] := ⟨_, rfl⟩
  rw [← eL] at hS ⊢
  have hP : va_P D vwCl (xw cR ax ar ao ad vrd vtr vsd vrn vom voh vol vop voe vow vok vos vso vmi vco vex) H := by rw [eH]; exact hP
  have hS : va_S A s.heap H locs := by rw [eH]; exact hS
  suffices goal9 : W p l e rm_X0_setNothing s m args below meth c H locs 0 0 Q (F0 m 0 ls []) from by rw [← eH]; exact goal9
  have hl : lv_has ls 1 [(0, .ref (ad i0))] := hl
  have hi0 : ∀ w ∈ wsX00, w ∈ gW := inW_X0
  refine lv_aload_n hx hb dX0_setNothing_0 rfl (lv_at hl 0 rfl) ?_
  refine lv_iconst (v := 2) hx hb dX0_setNothing_1 (by decide) ?_
  refine p_so (i := i0) hx hb hts hi0 hown hK hP hD hS hb0 (hts (.fieldLink RX0 9 "DecimalWords$Datum" "sort" "I") (inW_1 _ (List.mem_of_getElem? (i := 4) rfl))) 2 dX0_setNothing_2 (fun H locs hP hD hS => ?_)
  obtain ⟨w1, ew1⟩ : ∃ y9 : Nat → Int32, y9 = va_up vso i0 2 := ⟨_, rfl⟩
  have hu := hu _ ew1
  have hP : va_P D vwCl (xw cR ax ar ao ad vrd vtr vsd vrn vom voh vol vop voe vow vok vos w1 vmi vco vex) H := by rw [ew1]; exact hP
  have hD : va_D A (xw cR ax ar ao ad vrd vtr vsd vrn vom voh vol vop voe vow vok vos w1 vmi vco vex) := by rw [ew1]; exact hD
  refine lv_aload_n hx hb dX0_setNothing_5 rfl (lv_at hl 0 rfl) ?_
  refine lv_iconst (v := 0) hx hb dX0_setNothing_6 (by decide) ?_
  refine p_mi (i := i0) hx hb hts hi0 hown hK hP hD hS hb0 (hts (.fieldLink RX0 15 "DecimalWords$Datum" "minus" "Z") (inW_1 _ (List.mem_of_getElem? (i := 5) rfl))) false dX0_setNothing_7 (fun H locs hP hD hS => ?_)
  obtain ⟨w3, ew3⟩ : ∃ y9 : Nat → Bool, y9 = va_up vmi i0 false := ⟨_, rfl⟩
  have hu := hu _ ew3
  have hP : va_P D vwCl (xw cR ax ar ao ad vrd vtr vsd vrn vom voh vol vop voe vow vok vos w1 w3 vco vex) H := by rw [ew3]; exact hP
  have hD : va_D A (xw cR ax ar ao ad vrd vtr vsd vrn vom voh vol vop voe vow vok vos w1 w3 vco vex) := by rw [ew3]; exact hD
  refine lv_aload_n hx hb dX0_setNothing_10 rfl (lv_at hl 0 rfl) ?_
  refine lv_lconst (v := 0) hx hb dX0_setNothing_11 (by decide) ?_
  refine p_co (i := i0) hx hb hts hi0 hown hK hP hD hS hb0 (hts (.fieldLink RX0 19 "DecimalWords$Datum" "coefficient" "J") (inW_1 _ (List.mem_of_getElem? (i := 6) rfl))) 0 dX0_setNothing_12 (fun H locs hP hD hS => ?_)
  obtain ⟨w5, ew5⟩ : ∃ y9 : Nat → Int64, y9 = va_up vco i0 0 := ⟨_, rfl⟩
  have hu := hu _ ew5
  have hP : va_P D vwCl (xw cR ax ar ao ad vrd vtr vsd vrn vom voh vol vop voe vow vok vos w1 w3 w5 vex) H := by rw [ew5]; exact hP
  have hD : va_D A (xw cR ax ar ao ad vrd vtr vsd vrn vom voh vol vop voe vow vok vos w1 w3 w5 vex) := by rw [ew5]; exact hD
  refine lv_aload_n hx hb dX0_setNothing_15 rfl (lv_at hl 0 rfl) ?_
  refine lv_iconst (v := 0) hx hb dX0_setNothing_16 (by decide) ?_
  refine p_ex (i := i0) hx hb hts hi0 hown hK hP hD hS hb0 (hts (.fieldLink RX0 23 "DecimalWords$Datum" "exponent" "I") (inW_1 _ (List.mem_of_getElem? (i := 7) rfl))) 0 dX0_setNothing_17 (fun H locs hP hD hS => ?_)
  obtain ⟨w7, ew7⟩ : ∃ y9 : Nat → Int32, y9 = va_up vex i0 0 := ⟨_, rfl⟩
  have hu := hu _ ew7
  have hP : va_P D vwCl (xw cR ax ar ao ad vrd vtr vsd vrn vom voh vol vop voe vow vok vos w1 w3 w5 w7) H := by rw [ew7]; exact hP
  have hD : va_D A (xw cR ax ar ao ad vrd vtr vsd vrn vom voh vol vop voe vow vok vos w1 w3 w5 w7) := by rw [ew7]; exact hD
  have e9 := Eq.symm hu; subst e9
  exact x_vret hx hb hr hlocks hQ hK hP hD hS rfl dX0_setNothing_20

def F_X0_take (vso : Nat → Int32) (vmi : Nat → Bool) (vco : Nat → Int64) (vex : Nat → Int32) (i0 : Nat) (i1 : Nat) : (Nat → Int32) × (Nat → Bool) × (Nat → Int64) × (Nat → Int32) := (bnd (vso i1) (fun f1 : Int32 => (bnd (va_up vso i0 f1) (fun w2 : Nat → Int32 => (bnd (vmi i1) (fun f4 : Bool => (bnd (va_up vmi i0 f4) (fun w5 : Nat → Bool => (bnd (vco i1) (fun f7 : Int64 => (bnd (va_up vco i0 f7) (fun w8 : Nat → Int64 => (bnd (vex i1) (fun f10 : Int32 => (bnd (va_up vex i0 f10) (fun w11 : Nat → Int32 => (w2, w5, w8, w11)))))))))))))))))
def RF_X0_take (vso : Nat → Int32) (vmi : Nat → Bool) (vco : Nat → Int64) (vex : Nat → Int32) (i0 : Nat) (i1 : Nat) (u9 : (Nat → Int32) × (Nat → Bool) × (Nat → Int64) × (Nat → Int32)) : Prop := (∀ f1 : Int32, f1 = vso i1 → (∀ w2 : Nat → Int32, w2 = va_up vso i0 f1 → (∀ f4 : Bool, f4 = vmi i1 → (∀ w5 : Nat → Bool, w5 = va_up vmi i0 f4 → (∀ f7 : Int64, f7 = vco i1 → (∀ w8 : Nat → Int64, w8 = va_up vco i0 f7 → (∀ f10 : Int32, f10 = vex i1 → (∀ w11 : Nat → Int32, w11 = va_up vex i0 f10 → u9 = (w2, w5, w8, w11)))))))))
theorem rF_X0_take (vso : Nat → Int32) (vmi : Nat → Bool) (vco : Nat → Int64) (vex : Nat → Int32) (i0 : Nat) (i1 : Nat) {u9 : (Nat → Int32) × (Nat → Bool) × (Nat → Int64) × (Nat → Int32)} (hu : u9 = F_X0_take vso vmi vco vex i0 i1) : RF_X0_take vso vmi vco vex i0 i1 u9 := by
  unfold RF_X0_take
  intro f1 ef1
  have hu := bnd_n hu ef1
  intro w2 ew2
  have hu := bnd_n hu ew2
  intro f4 ef4
  have hu := bnd_n hu ef4
  intro w5 ew5
  have hu := bnd_n hu ew5
  intro f7 ef7
  have hu := bnd_n hu ef7
  intro w8 ew8
  have hu := bnd_n hu ew8
  intro f10 ef10
  have hu := bnd_n hu ef10
  intro w11 ew11
  have hu := bnd_n hu ew11
  exact hu
def rm_X0_take : Room := { frames := 0, cells := 0, slots := 0, locals := 0 }
set_option maxHeartbeats 4000000 in
set_option maxRecDepth 100000 in
theorem c_X0_take (l : Launch) (D : va_G) (cR cI cJ cZ : ClassId) (t0 : Nat) (ax ar ao : Nat) (ad : Nat → Nat) (vrd : Int32) (vtr : Int32) (vsd : Int32) (vrn : Int32) (vom : Bool) (voh : Int64) (vol : Int64) (vop : Int32) (voe : Bool) (vow : Int32) (vok : Int64) (vos : Int32) (vso : Nat → Int32) (vmi : Nat → Bool) (vco : Nat → Int64) (vex : Nat → Int32) (i0 : Nat) (i1 : Nat) (u : (Nat → Int32) × (Nat → Bool) × (Nat → Int64) × (Nat → Int32)) (hu : u = F_X0_take vso vmi vco vex i0 i1) (hb0 : i0 < 9) (hb1 : i1 < 9) : XM l D (xty cR cI cJ cZ) t0 yX0_take cX0_take 2 none rm_X0_take [.ref (ad i0), .ref (ad i1)] none (xw cR ax ar ao ad vrd vtr vsd vrn vom voh vol vop voe vow vok vos vso vmi vco vex) (xw cR ax ar ao ad vrd vtr vsd vrn vom voh vol vop voe vow vok vos u.1 u.2.1 u.2.2.1 u.2.2.2) := by
  refine XM.of (by decide) (Nat.le_of_ble_eq_true rfl) ?_
  intro p e s m args below meth c A Q F hK hP hD hA hSt hS hQ ls hl
  obtain ⟨hx, hb, hr, hts, hown, hlocks, hml⟩ := F
  have hCF : CallFix p m c cX0_take 2 s args gW RX0 := ⟨hx, hb, hml, hown, hts⟩
  have hu := rF_X0_take vso vmi vco vex i0 i1 hu
  unfold RF_X0_take at hu
  obtain ⟨H, eH⟩ : ∃ y9 : Heap, y9 = s.heap := ⟨_, rfl⟩
  obtain ⟨locs, eL⟩ : ∃ y9 : List Loc, y9 = [] := ⟨_, rfl⟩
  rw [← eL] at hS ⊢
  have hP : va_P D vwCl (xw cR ax ar ao ad vrd vtr vsd vrn vom voh vol vop voe vow vok vos vso vmi vco vex) H := by rw [eH]; exact hP
  have hS : va_S A s.heap H locs := by rw [eH]; exact hS
  suffices goal9 : W p l e rm_X0_take s m args below meth c H locs 0 0 Q (F0 m 0 ls []) from by rw [← eH]; exact goal9
  have hl : lv_has ls 2 [(0, .ref (ad i0)), (1, .ref (ad i1))] := hl
  have hi0 : ∀ w ∈ wsX00, w ∈ gW := inW_X0
  refine lv_aload_n hx hb dX0_take_0 rfl (lv_at hl 0 rfl) ?_
  refine lv_aload_n hx hb dX0_take_1 rfl (lv_at hl 1 rfl) ?_
  refine g_so (i := i1) hx hb hts hi0 hown hK hP hb1 (hts (.fieldLink RX0 9 "DecimalWords$Datum" "sort" "I") (inW_1 _ (List.mem_of_getElem? (i := 4) rfl))) dX0_take_2 ?_
  refine lv_topi (fun f1 ef1 => ?_)
  have hu := hu _ ef1
  refine p_so (i := i0) hx hb hts hi0 hown hK hP hD hS hb0 (hts (.fieldLink RX0 9 "DecimalWords$Datum" "sort" "I") (inW_1 _ (List.mem_of_getElem? (i := 4) rfl))) f1 dX0_take_5 (fun H locs hP hD hS => ?_)
  obtain ⟨w2, ew2⟩ : ∃ y9 : Nat → Int32, y9 = va_up vso i0 f1 := ⟨_, rfl⟩
  have hu := hu _ ew2
  have hP : va_P D vwCl (xw cR ax ar ao ad vrd vtr vsd vrn vom voh vol vop voe vow vok vos w2 vmi vco vex) H := by rw [ew2]; exact hP
  have hD : va_D A (xw cR ax ar ao ad vrd vtr vsd vrn vom voh vol vop voe vow vok vos w2 vmi vco vex) := by rw [ew2]; exact hD
  refine lv_aload_n hx hb dX0_take_8 rfl (lv_at hl 0 rfl) ?_
  refine lv_aload_n hx hb dX0_take_9 rfl (lv_at hl 1 rfl) ?_
  refine g_mi (i := i1) hx hb hts hi0 hown hK hP hb1 (hts (.fieldLink RX0 15 "DecimalWords$Datum" "minus" "Z") (inW_1 _ (List.mem_of_getElem? (i := 5) rfl))) dX0_take_10 ?_
  refine x_topb (fun f4 ef4 => ?_)
  have hu := hu _ ef4
  refine p_mi (i := i0) hx hb hts hi0 hown hK hP hD hS hb0 (hts (.fieldLink RX0 15 "DecimalWords$Datum" "minus" "Z") (inW_1 _ (List.mem_of_getElem? (i := 5) rfl))) f4 dX0_take_13 (fun H locs hP hD hS => ?_)
  obtain ⟨w5, ew5⟩ : ∃ y9 : Nat → Bool, y9 = va_up vmi i0 f4 := ⟨_, rfl⟩
  have hu := hu _ ew5
  have hP : va_P D vwCl (xw cR ax ar ao ad vrd vtr vsd vrn vom voh vol vop voe vow vok vos w2 w5 vco vex) H := by rw [ew5]; exact hP
  have hD : va_D A (xw cR ax ar ao ad vrd vtr vsd vrn vom voh vol vop voe vow vok vos w2 w5 vco vex) := by rw [ew5]; exact hD
  refine lv_aload_n hx hb dX0_take_16 rfl (lv_at hl 0 rfl) ?_
  refine lv_aload_n hx hb dX0_take_17 rfl (lv_at hl 1 rfl) ?_
  refine g_co (i := i1) hx hb hts hi0 hown hK hP hb1 (hts (.fieldLink RX0 19 "DecimalWords$Datum" "coefficient" "J") (inW_1 _ (List.mem_of_getElem? (i := 6) rfl))) dX0_take_18 ?_
  refine lv_topl (fun f7 ef7 => ?_)
  have hu := hu _ ef7
  refine p_co (i := i0) hx hb hts hi0 hown hK hP hD hS hb0 (hts (.fieldLink RX0 19 "DecimalWords$Datum" "coefficient" "J") (inW_1 _ (List.mem_of_getElem? (i := 6) rfl))) f7 dX0_take_21 (fun H locs hP hD hS => ?_)
  obtain ⟨w8, ew8⟩ : ∃ y9 : Nat → Int64, y9 = va_up vco i0 f7 := ⟨_, rfl⟩
  have hu := hu _ ew8
  have hP : va_P D vwCl (xw cR ax ar ao ad vrd vtr vsd vrn vom voh vol vop voe vow vok vos w2 w5 w8 vex) H := by rw [ew8]; exact hP
  have hD : va_D A (xw cR ax ar ao ad vrd vtr vsd vrn vom voh vol vop voe vow vok vos w2 w5 w8 vex) := by rw [ew8]; exact hD
  refine lv_aload_n hx hb dX0_take_24 rfl (lv_at hl 0 rfl) ?_
  refine lv_aload_n hx hb dX0_take_25 rfl (lv_at hl 1 rfl) ?_
  refine g_ex (i := i1) hx hb hts hi0 hown hK hP hb1 (hts (.fieldLink RX0 23 "DecimalWords$Datum" "exponent" "I") (inW_1 _ (List.mem_of_getElem? (i := 7) rfl))) dX0_take_26 ?_
  refine lv_topi (fun f10 ef10 => ?_)
  have hu := hu _ ef10
  refine p_ex (i := i0) hx hb hts hi0 hown hK hP hD hS hb0 (hts (.fieldLink RX0 23 "DecimalWords$Datum" "exponent" "I") (inW_1 _ (List.mem_of_getElem? (i := 7) rfl))) f10 dX0_take_29 (fun H locs hP hD hS => ?_)
  obtain ⟨w11, ew11⟩ : ∃ y9 : Nat → Int32, y9 = va_up vex i0 f10 := ⟨_, rfl⟩
  have hu := hu _ ew11
  have hP : va_P D vwCl (xw cR ax ar ao ad vrd vtr vsd vrn vom voh vol vop voe vow vok vos w2 w5 w8 w11) H := by rw [ew11]; exact hP
  have hD : va_D A (xw cR ax ar ao ad vrd vtr vsd vrn vom voh vol vop voe vow vok vos w2 w5 w8 w11) := by rw [ew11]; exact hD
  have e9 := Eq.symm hu; subst e9
  exact x_vret hx hb hr hlocks hQ hK hP hD hS rfl dX0_take_32

def F_X0_isZero (vso : Nat → Int32) (vco : Nat → Int64) (i0 : Nat) : Bool := (if vso i0 = 0 then (if vco i0 = 0 then true else false) else false)
def RF_X0_isZero (vso : Nat → Int32) (vco : Nat → Int64) (i0 : Nat) (u9 : Bool) : Prop := (if vso i0 = 0 then (if vco i0 = 0 then u9 = true else u9 = false) else u9 = false)
theorem rF_X0_isZero (vso : Nat → Int32) (vco : Nat → Int64) (i0 : Nat) {u9 : Bool} (hu : u9 = F_X0_isZero vso vco i0) : RF_X0_isZero vso vco i0 u9 := by
  unfold RF_X0_isZero
  refine ite_P (fun c_1 => ?_) (fun c_1 => ?_)
  · have hu := hu.trans (if_pos c_1)
    refine ite_P (fun c_2 => ?_) (fun c_2 => ?_)
    · have hu := hu.trans (if_pos c_2)
      exact hu
    · have hu := hu.trans (if_neg c_2)
      exact hu
  · have hu := hu.trans (if_neg c_1)
    exact hu
def rm_X0_isZero : Room := { frames := 0, cells := 0, slots := 0, locals := 0 }
set_option maxHeartbeats 4000000 in
set_option maxRecDepth 100000 in
theorem c_X0_isZero (l : Launch) (D : va_G) (cR cI cJ cZ : ClassId) (t0 : Nat) (ax ar ao : Nat) (ad : Nat → Nat) (vrd : Int32) (vtr : Int32) (vsd : Int32) (vrn : Int32) (vom : Bool) (voh : Int64) (vol : Int64) (vop : Int32) (voe : Bool) (vow : Int32) (vok : Int64) (vos : Int32) (vso : Nat → Int32) (vmi : Nat → Bool) (vco : Nat → Int64) (vex : Nat → Int32) (i0 : Nat) (u : Bool) (hu : u = F_X0_isZero vso vco i0) (hb0 : i0 < 9) : XM l D (xty cR cI cJ cZ) t0 yX0_isZero cX0_isZero 1 (some .boolean) rm_X0_isZero [.ref (ad i0)] (some (.int (bI u))) (xw cR ax ar ao ad vrd vtr vsd vrn vom voh vol vop voe vow vok vos vso vmi vco vex) (xw cR ax ar ao ad vrd vtr vsd vrn vom voh vol vop voe vow vok vos vso vmi vco vex) := by
  refine XM.of (by decide) (Nat.le_of_ble_eq_true rfl) ?_
  intro p e s m args below meth c A Q F hK hP hD hA hSt hS hQ ls hl
  obtain ⟨hx, hb, hr, hts, hown, hlocks, hml⟩ := F
  have hCF : CallFix p m c cX0_isZero 1 s args gW RX0 := ⟨hx, hb, hml, hown, hts⟩
  have hu := rF_X0_isZero vso vco i0 hu
  unfold RF_X0_isZero at hu
  obtain ⟨H, eH⟩ : ∃ y9 : Heap, y9 = s.heap := ⟨_, rfl⟩
  obtain ⟨locs, eL⟩ : ∃ y9 : List Loc, y9 = [] := ⟨_, rfl⟩
  rw [← eL] at hS ⊢
  have hP : va_P D vwCl (xw cR ax ar ao ad vrd vtr vsd vrn vom voh vol vop voe vow vok vos vso vmi vco vex) H := by rw [eH]; exact hP
  have hS : va_S A s.heap H locs := by rw [eH]; exact hS
  suffices goal9 : W p l e rm_X0_isZero s m args below meth c H locs 0 0 Q (F0 m 0 ls []) from by rw [← eH]; exact goal9
  have hl : lv_has ls 1 [(0, .ref (ad i0))] := hl
  have hi0 : ∀ w ∈ wsX00, w ∈ gW := inW_X0
  refine lv_aload_n hx hb dX0_isZero_0 rfl (lv_at hl 0 rfl) ?_
  refine g_so (i := i0) hx hb hts hi0 hown hK hP hb0 (hts (.fieldLink RX0 9 "DecimalWords$Datum" "sort" "I") (inW_1 _ (List.mem_of_getElem? (i := 4) rfl))) dX0_isZero_1 ?_
  refine lv_if_ne (tgt := 20) hx hb dX0_isZero_4 (by decide) (fun c_1 => ?_) (fun c_1 => ?_)
  · rw [if_neg c_1] at hu
    refine lv_iconst (v := 0) hx hb dX0_isZero_20 (by decide) ?_
    have e9 := Eq.symm hu; subst e9
    exact x_zret (v := false) hx hb hr hlocks hQ hK hP hD hS rfl rfl dX0_isZero_21
  · rw [if_pos c_1] at hu
    refine lv_aload_n hx hb dX0_isZero_7 rfl (lv_at hl 0 rfl) ?_
    refine g_co (i := i0) hx hb hts hi0 hown hK hP hb0 (hts (.fieldLink RX0 19 "DecimalWords$Datum" "coefficient" "J") (inW_1 _ (List.mem_of_getElem? (i := 6) rfl))) dX0_isZero_8 ?_
    refine lv_lconst (v := 0) hx hb dX0_isZero_11 (by decide) ?_
    refine xl_ne (tgt := 20) hx hb dX0_isZero_12 dX0_isZero_13 (by decide) (fun c_2 => ?_) (fun c_2 => ?_)
    · rw [if_neg c_2] at hu
      refine lv_iconst (v := 0) hx hb dX0_isZero_20 (by decide) ?_
      have e9 := Eq.symm hu; subst e9
      exact x_zret (v := false) hx hb hr hlocks hQ hK hP hD hS rfl rfl dX0_isZero_21
    · rw [if_pos c_2] at hu
      refine lv_iconst (v := 1) hx hb dX0_isZero_16 (by decide) ?_
      refine lv_goto (tgt := 21) hx hb dX0_isZero_17 (by decide) ?_
      have e9 := Eq.symm hu; subst e9
      exact x_zret (v := true) hx hb hr hlocks hQ hK hP hD hS rfl rfl dX0_isZero_21

def F_X0_side (vso : Nat → Int32) (vmi : Nat → Bool) (vco : Nat → Int64) (i0 : Nat) : Int32 := (if F_X0_isZero vso vco i0 = true then 0 else (if vmi i0 = true then (-1) else 1))
def RF_X0_side (vso : Nat → Int32) (vmi : Nat → Bool) (vco : Nat → Int64) (i0 : Nat) (u9 : Int32) : Prop := (if F_X0_isZero vso vco i0 = true then u9 = 0 else (if vmi i0 = true then u9 = (-1) else u9 = 1))
theorem rF_X0_side (vso : Nat → Int32) (vmi : Nat → Bool) (vco : Nat → Int64) (i0 : Nat) {u9 : Int32} (hu : u9 = F_X0_side vso vmi vco i0) : RF_X0_side vso vmi vco i0 u9 := by
  unfold RF_X0_side
  refine ite_P (fun c_2 => ?_) (fun c_2 => ?_)
  · have hu := hu.trans (if_pos c_2)
    exact hu
  · have hu := hu.trans (if_neg c_2)
    refine ite_P (fun c_3 => ?_) (fun c_3 => ?_)
    · have hu := hu.trans (if_pos c_3)
      exact hu
    · have hu := hu.trans (if_neg c_3)
      exact hu
def rm_X0_side : Room := { frames := 1, cells := 0, slots := 0, locals := 20 }
set_option maxHeartbeats 4000000 in
set_option maxRecDepth 100000 in
theorem c_X0_side (l : Launch) (D : va_G) (cR cI cJ cZ : ClassId) (t0 : Nat) (ax ar ao : Nat) (ad : Nat → Nat) (vrd : Int32) (vtr : Int32) (vsd : Int32) (vrn : Int32) (vom : Bool) (voh : Int64) (vol : Int64) (vop : Int32) (voe : Bool) (vow : Int32) (vok : Int64) (vos : Int32) (vso : Nat → Int32) (vmi : Nat → Bool) (vco : Nat → Int64) (vex : Nat → Int32) (i0 : Nat) (u : Int32) (hu : u = F_X0_side vso vmi vco i0) (hb0 : i0 < 9) : XM l D (xty cR cI cJ cZ) t0 yX0_side cX0_side 1 (some .int) rm_X0_side [.ref (ad i0)] (some (.int u)) (xw cR ax ar ao ad vrd vtr vsd vrn vom voh vol vop voe vow vok vos vso vmi vco vex) (xw cR ax ar ao ad vrd vtr vsd vrn vom voh vol vop voe vow vok vos vso vmi vco vex) := by
  refine XM.of (by decide) (Nat.le_of_ble_eq_true rfl) ?_
  intro p e s m args below meth c A Q F hK hP hD hA hSt hS hQ ls hl
  obtain ⟨hx, hb, hr, hts, hown, hlocks, hml⟩ := F
  have hCF : CallFix p m c cX0_side 1 s args gW RX0 := ⟨hx, hb, hml, hown, hts⟩
  have hu := rF_X0_side vso vmi vco i0 hu
  unfold RF_X0_side at hu
  obtain ⟨H, eH⟩ : ∃ y9 : Heap, y9 = s.heap := ⟨_, rfl⟩
  obtain ⟨locs, eL⟩ : ∃ y9 : List Loc, y9 = [] := ⟨_, rfl⟩
  rw [← eL] at hS ⊢
  have hP : va_P D vwCl (xw cR ax ar ao ad vrd vtr vsd vrn vom voh vol vop voe vow vok vos vso vmi vco vex) H := by rw [eH]; exact hP
  have hS : va_S A s.heap H locs := by rw [eH]; exact hS
  suffices goal9 : W p l e rm_X0_side s m args below meth c H locs 0 0 Q (F0 m 0 ls []) from by rw [← eH]; exact goal9
  have hl : lv_has ls 1 [(0, .ref (ad i0))] := hl
  have hi0 : ∀ w ∈ wsX00, w ∈ gW := inW_X0
  refine lv_aload_n hx hb dX0_side_0 rfl (lv_at hl 0 rfl) ?_
  refine x_V (As := []) (rest := []) hCF (c_X0_isZero l D cR cI cJ cZ t0 ax ar ao ad vrd vtr vsd vrn vom voh vol vop voe vow vok vos vso vmi vco vex i0 _ rfl hb0) (x_cwV 0 hts (inW_1 _ (List.mem_of_getElem? (i := 13) rfl)) (inW_1 _ (List.mem_of_getElem? (i := 14) rfl)) (inW_1 _ (List.mem_of_getElem? (i := 15) rfl)) (inW_1 _ (List.mem_of_getElem? (i := 16) rfl)) (inW_1 _ (List.mem_of_getElem? (i := 11) rfl)) rfl rfl (by decide +kernel) ⟨Nat.le_of_ble_eq_true rfl, Nat.le_of_ble_eq_true rfl⟩) hK hP hD hS hA hSt (3 + i0) (xw_dat hb0) rfl rfl hl.1 rfl (Nat.le_of_ble_eq_true rfl) dX0_side_1 ⟨Nat.le_of_ble_eq_true rfl, Nat.le_of_ble_eq_true rfl⟩ (fun H locs hP hD hS => ?_)
  show W p l e _ s m args below meth c H locs 0 0 Q (F0 m 4 ls (.int (bI (F_X0_isZero vso vco i0)) :: []))
  refine xb_eq (tgt := 9) hx hb dX0_side_4 (by decide) (fun c_2 => ?_) (fun c_2 => ?_)
  · rw [if_neg c_2] at hu
    refine lv_aload_n hx hb dX0_side_9 rfl (lv_at hl 0 rfl) ?_
    refine g_mi (i := i0) hx hb hts hi0 hown hK hP hb0 (hts (.fieldLink RX0 15 "DecimalWords$Datum" "minus" "Z") (inW_1 _ (List.mem_of_getElem? (i := 5) rfl))) dX0_side_10 ?_
    refine xb_eq (tgt := 20) hx hb dX0_side_13 (by decide) (fun c_3 => ?_) (fun c_3 => ?_)
    · rw [if_neg c_3] at hu
      refine lv_iconst (v := 1) hx hb dX0_side_20 (by decide) ?_
      have e9 := Eq.symm hu; subst e9
      exact x_iret hx hb hr hlocks hQ hK hP hD hS rfl rfl dX0_side_21
    · rw [if_pos c_3] at hu
      refine lv_iconst (v := (-1)) hx hb dX0_side_16 (by decide) ?_
      refine lv_goto (tgt := 21) hx hb dX0_side_17 (by decide) ?_
      have e9 := Eq.symm hu; subst e9
      exact x_iret hx hb hr hlocks hQ hK hP hD hS rfl rfl dX0_side_21
  · rw [if_pos c_2] at hu
    refine lv_iconst (v := 0) hx hb dX0_side_7 (by decide) ?_
    have e9 := Eq.symm hu; subst e9
    exact x_iret hx hb hr hlocks hQ hK hP hD hS rfl rfl dX0_side_8
