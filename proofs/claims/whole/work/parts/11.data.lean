def F_X0_setFinite (vso : Nat → Int32) (vmi : Nat → Bool) (vco : Nat → Int64) (vex : Nat → Int32) (i0 : Nat) (p0 : Bool) (p1 : Int64) (p2 : Int32) : (Nat → Int32) × (Nat → Bool) × (Nat → Int64) × (Nat → Int32) := (bnd (va_up vso i0 0) (fun w101 : Nat → Int32 => (bnd (va_up vmi i0 p0) (fun w103 : Nat → Bool => (bnd (va_up vco i0 p1) (fun w105 : Nat → Int64 => (bnd (va_up vex i0 p2) (fun w107 : Nat → Int32 => (w101, w103, w105, w107)))))))))
def RF_X0_setFinite (vso : Nat → Int32) (vmi : Nat → Bool) (vco : Nat → Int64) (vex : Nat → Int32) (i0 : Nat) (p0 : Bool) (p1 : Int64) (p2 : Int32) (u9 : (Nat → Int32) × (Nat → Bool) × (Nat → Int64) × (Nat → Int32)) : Prop := (∀ w101 : Nat → Int32, w101 = va_up vso i0 0 → (∀ w103 : Nat → Bool, w103 = va_up vmi i0 p0 → (∀ w105 : Nat → Int64, w105 = va_up vco i0 p1 → (∀ w107 : Nat → Int32, w107 = va_up vex i0 p2 → u9 = (w101, w103, w105, w107)))))
theorem rF_X0_setFinite (vso : Nat → Int32) (vmi : Nat → Bool) (vco : Nat → Int64) (vex : Nat → Int32) (i0 : Nat) (p0 : Bool) (p1 : Int64) (p2 : Int32) {u9 : (Nat → Int32) × (Nat → Bool) × (Nat → Int64) × (Nat → Int32)} (hu : u9 = F_X0_setFinite vso vmi vco vex i0 p0 p1 p2) : RF_X0_setFinite vso vmi vco vex i0 p0 p1 p2 u9 := by
  unfold RF_X0_setFinite
  intro w101 ew101
  have hu := bnd_n hu ew101
  intro w103 ew103
  have hu := bnd_n hu ew103
  intro w105 ew105
  have hu := bnd_n hu ew105
  intro w107 ew107
  have hu := bnd_n hu ew107
  exact hu
def rm_X0_setFinite : Room := { frames := 0, cells := 0, slots := 0, locals := 0 }
set_option maxHeartbeats 4000000 in
set_option maxRecDepth 100000 in
theorem c_X0_setFinite (l : Launch) (D : va_G) (cR cI cJ cZ : ClassId) (t0 : Nat) (ax ar ao : Nat) (ad : Nat → Nat) (vrd : Int32) (vtr : Int32) (vsd : Int32) (vrn : Int32) (vom : Bool) (voh : Int64) (vol : Int64) (vop : Int32) (voe : Bool) (vow : Int32) (vok : Int64) (vos : Int32) (vso : Nat → Int32) (vmi : Nat → Bool) (vco : Nat → Int64) (vex : Nat → Int32) (i0 : Nat) (p0 : Bool) (p1 : Int64) (p2 : Int32) (u : (Nat → Int32) × (Nat → Bool) × (Nat → Int64) × (Nat → Int32)) (hu : u = F_X0_setFinite vso vmi vco vex i0 p0 p1 p2) (hb0 : i0 < 9) : XM l D (xty cR cI cJ cZ) t0 yX0_setFinite cX0_setFinite 5 none rm_X0_setFinite [.ref (ad i0), .int (bI p0), .long p1, .int p2] none (xw cR ax ar ao ad vrd vtr vsd vrn vom voh vol vop voe vow vok vos vso vmi vco vex) (xw cR ax ar ao ad vrd vtr vsd vrn vom voh vol vop voe vow vok vos u.1 u.2.1 u.2.2.1 u.2.2.2) := by
  refine XM.of (by decide) (Nat.le_of_ble_eq_true rfl) ?_
  intro p e s m args below meth c A Q F hK hP hD hA hSt hS hQ ls hl
  obtain ⟨hx, hb, hr, hts, hown, hlocks, hml⟩ := F
  have hCF : CallFix p m c cX0_setFinite 5 s args gW RX0 := ⟨hx, hb, hml, hown, hts⟩
  have hu := rF_X0_setFinite vso vmi vco vex i0 p0 p1 p2 hu
  unfold RF_X0_setFinite at hu
  obtain ⟨H, eH⟩ : ∃ y9 : Heap, y9 = s.heap := ⟨_, rfl⟩
  obtain ⟨locs, eL⟩ : ∃ y9 : List Loc, y9 = [] := ⟨_, rfl⟩
  rw [← eL] at hS ⊢
  have hP : va_P D vwCl (xw cR ax ar ao ad vrd vtr vsd vrn vom voh vol vop voe vow vok vos vso vmi vco vex) H := by rw [eH]; exact hP
  have hS : va_S A s.heap H locs := by rw [eH]; exact hS
  suffices goal9 : W p l e rm_X0_setFinite s m args below meth c H locs 0 0 Q (F0 m 0 ls []) from by rw [← eH]; exact goal9
  have hl : lv_has ls 5 [(0, .ref (ad i0)), (1, .int (bI p0)), (2, .long p1), (4, .int p2)] := hl
  have hi0 : ∀ w ∈ wsX00, w ∈ gW := inW_X0
  refine lv_aload_n hx hb dX0_setFinite_0 rfl (lv_at hl 0 rfl) ?_
  refine lv_iconst (v := 0) hx hb dX0_setFinite_1 (by decide) ?_
  refine p_so (i := i0) hx hb hts hi0 hown hK hP hD hS hb0 (hts (.fieldLink RX0 9 "DecimalWords$Datum" "sort" "I") (inW_1 _ (List.mem_of_getElem? (i := 4) rfl))) 0 dX0_setFinite_2 (fun H locs hP hD hS => ?_)
  obtain ⟨w101, ew101⟩ : ∃ y9 : Nat → Int32, y9 = va_up vso i0 0 := ⟨_, rfl⟩
  have hu := hu _ ew101
  have hP : va_P D vwCl (xw cR ax ar ao ad vrd vtr vsd vrn vom voh vol vop voe vow vok vos w101 vmi vco vex) H := by rw [ew101]; exact hP
  have hD : va_D A (xw cR ax ar ao ad vrd vtr vsd vrn vom voh vol vop voe vow vok vos w101 vmi vco vex) := by rw [ew101]; exact hD
  refine lv_aload_n hx hb dX0_setFinite_5 rfl (lv_at hl 0 rfl) ?_
  refine lv_iload_n hx hb dX0_setFinite_6 rfl (lv_at hl 1 rfl) ?_
  refine p_mi (i := i0) hx hb hts hi0 hown hK hP hD hS hb0 (hts (.fieldLink RX0 15 "DecimalWords$Datum" "minus" "Z") (inW_1 _ (List.mem_of_getElem? (i := 5) rfl))) p0 dX0_setFinite_7 (fun H locs hP hD hS => ?_)
  obtain ⟨w103, ew103⟩ : ∃ y9 : Nat → Bool, y9 = va_up vmi i0 p0 := ⟨_, rfl⟩
  have hu := hu _ ew103
  have hP : va_P D vwCl (xw cR ax ar ao ad vrd vtr vsd vrn vom voh vol vop voe vow vok vos w101 w103 vco vex) H := by rw [ew103]; exact hP
  have hD : va_D A (xw cR ax ar ao ad vrd vtr vsd vrn vom voh vol vop voe vow vok vos w101 w103 vco vex) := by rw [ew103]; exact hD
  refine lv_aload_n hx hb dX0_setFinite_10 rfl (lv_at hl 0 rfl) ?_
  refine lv_lload_n hx hb dX0_setFinite_11 rfl (lv_at hl 2 rfl) ?_
  refine p_co (i := i0) hx hb hts hi0 hown hK hP hD hS hb0 (hts (.fieldLink RX0 19 "DecimalWords$Datum" "coefficient" "J") (inW_1 _ (List.mem_of_getElem? (i := 6) rfl))) p1 dX0_setFinite_12 (fun H locs hP hD hS => ?_)
  obtain ⟨w105, ew105⟩ : ∃ y9 : Nat → Int64, y9 = va_up vco i0 p1 := ⟨_, rfl⟩
  have hu := hu _ ew105
  have hP : va_P D vwCl (xw cR ax ar ao ad vrd vtr vsd vrn vom voh vol vop voe vow vok vos w101 w103 w105 vex) H := by rw [ew105]; exact hP
  have hD : va_D A (xw cR ax ar ao ad vrd vtr vsd vrn vom voh vol vop voe vow vok vos w101 w103 w105 vex) := by rw [ew105]; exact hD
  refine lv_aload_n hx hb dX0_setFinite_15 rfl (lv_at hl 0 rfl) ?_
  refine lv_iload hx hb dX0_setFinite_16 (lv_at hl 3 rfl) ?_
  refine p_ex (i := i0) hx hb hts hi0 hown hK hP hD hS hb0 (hts (.fieldLink RX0 23 "DecimalWords$Datum" "exponent" "I") (inW_1 _ (List.mem_of_getElem? (i := 7) rfl))) p2 dX0_setFinite_18 (fun H locs hP hD hS => ?_)
  obtain ⟨w107, ew107⟩ : ∃ y9 : Nat → Int32, y9 = va_up vex i0 p2 := ⟨_, rfl⟩
  have hu := hu _ ew107
  have hP : va_P D vwCl (xw cR ax ar ao ad vrd vtr vsd vrn vom voh vol vop voe vow vok vos w101 w103 w105 w107) H := by rw [ew107]; exact hP
  have hD : va_D A (xw cR ax ar ao ad vrd vtr vsd vrn vom voh vol vop voe vow vok vos w101 w103 w105 w107) := by rw [ew107]; exact hD
  have e9 := Eq.symm hu; subst e9
  exact x_vret hx hb hr hlocks hQ hK hP hD hS rfl dX0_setFinite_21

def F_X0_setInfinity (vso : Nat → Int32) (vmi : Nat → Bool) (vco : Nat → Int64) (vex : Nat → Int32) (i0 : Nat) (p0 : Bool) : (Nat → Int32) × (Nat → Bool) × (Nat → Int64) × (Nat → Int32) := (bnd (va_up vso i0 1) (fun w101 : Nat → Int32 => (bnd (va_up vmi i0 p0) (fun w103 : Nat → Bool => (bnd (va_up vco i0 0) (fun w105 : Nat → Int64 => (bnd (va_up vex i0 0) (fun w107 : Nat → Int32 => (w101, w103, w105, w107)))))))))
def RF_X0_setInfinity (vso : Nat → Int32) (vmi : Nat → Bool) (vco : Nat → Int64) (vex : Nat → Int32) (i0 : Nat) (p0 : Bool) (u9 : (Nat → Int32) × (Nat → Bool) × (Nat → Int64) × (Nat → Int32)) : Prop := (∀ w101 : Nat → Int32, w101 = va_up vso i0 1 → (∀ w103 : Nat → Bool, w103 = va_up vmi i0 p0 → (∀ w105 : Nat → Int64, w105 = va_up vco i0 0 → (∀ w107 : Nat → Int32, w107 = va_up vex i0 0 → u9 = (w101, w103, w105, w107)))))
theorem rF_X0_setInfinity (vso : Nat → Int32) (vmi : Nat → Bool) (vco : Nat → Int64) (vex : Nat → Int32) (i0 : Nat) (p0 : Bool) {u9 : (Nat → Int32) × (Nat → Bool) × (Nat → Int64) × (Nat → Int32)} (hu : u9 = F_X0_setInfinity vso vmi vco vex i0 p0) : RF_X0_setInfinity vso vmi vco vex i0 p0 u9 := by
  unfold RF_X0_setInfinity
  intro w101 ew101
  have hu := bnd_n hu ew101
  intro w103 ew103
  have hu := bnd_n hu ew103
  intro w105 ew105
  have hu := bnd_n hu ew105
  intro w107 ew107
  have hu := bnd_n hu ew107
  exact hu
def rm_X0_setInfinity : Room := { frames := 0, cells := 0, slots := 0, locals := 0 }
set_option maxHeartbeats 4000000 in
set_option maxRecDepth 100000 in
theorem c_X0_setInfinity (l : Launch) (D : va_G) (cR cI cJ cZ : ClassId) (t0 : Nat) (ax ar ao : Nat) (ad : Nat → Nat) (vrd : Int32) (vtr : Int32) (vsd : Int32) (vrn : Int32) (vom : Bool) (voh : Int64) (vol : Int64) (vop : Int32) (voe : Bool) (vow : Int32) (vok : Int64) (vos : Int32) (vso : Nat → Int32) (vmi : Nat → Bool) (vco : Nat → Int64) (vex : Nat → Int32) (i0 : Nat) (p0 : Bool) (u : (Nat → Int32) × (Nat → Bool) × (Nat → Int64) × (Nat → Int32)) (hu : u = F_X0_setInfinity vso vmi vco vex i0 p0) (hb0 : i0 < 9) : XM l D (xty cR cI cJ cZ) t0 yX0_setInfinity cX0_setInfinity 2 none rm_X0_setInfinity [.ref (ad i0), .int (bI p0)] none (xw cR ax ar ao ad vrd vtr vsd vrn vom voh vol vop voe vow vok vos vso vmi vco vex) (xw cR ax ar ao ad vrd vtr vsd vrn vom voh vol vop voe vow vok vos u.1 u.2.1 u.2.2.1 u.2.2.2) := by
  refine XM.of (by decide) (Nat.le_of_ble_eq_true rfl) ?_
  intro p e s m args below meth c A Q F hK hP hD hA hSt hS hQ ls hl
  obtain ⟨hx, hb, hr, hts, hown, hlocks, hml⟩ := F
  have hCF : CallFix p m c cX0_setInfinity 2 s args gW RX0 := ⟨hx, hb, hml, hown, hts⟩
  have hu := rF_X0_setInfinity vso vmi vco vex i0 p0 hu
  unfold RF_X0_setInfinity at hu
  obtain ⟨H, eH⟩ : ∃ y9 : Heap, y9 = s.heap := ⟨_, rfl⟩
  obtain ⟨locs, eL⟩ : ∃ y9 : List Loc, y9 = [] := ⟨_, rfl⟩
  rw [← eL] at hS ⊢
  have hP : va_P D vwCl (xw cR ax ar ao ad vrd vtr vsd vrn vom voh vol vop voe vow vok vos vso vmi vco vex) H := by rw [eH]; exact hP
  have hS : va_S A s.heap H locs := by rw [eH]; exact hS
  suffices goal9 : W p l e rm_X0_setInfinity s m args below meth c H locs 0 0 Q (F0 m 0 ls []) from by rw [← eH]; exact goal9
  have hl : lv_has ls 2 [(0, .ref (ad i0)), (1, .int (bI p0))] := hl
  have hi0 : ∀ w ∈ wsX00, w ∈ gW := inW_X0
  refine lv_aload_n hx hb dX0_setInfinity_0 rfl (lv_at hl 0 rfl) ?_
  refine lv_iconst (v := 1) hx hb dX0_setInfinity_1 (by decide) ?_
  refine p_so (i := i0) hx hb hts hi0 hown hK hP hD hS hb0 (hts (.fieldLink RX0 9 "DecimalWords$Datum" "sort" "I") (inW_1 _ (List.mem_of_getElem? (i := 4) rfl))) 1 dX0_setInfinity_2 (fun H locs hP hD hS => ?_)
  obtain ⟨w101, ew101⟩ : ∃ y9 : Nat → Int32, y9 = va_up vso i0 1 := ⟨_, rfl⟩
  have hu := hu _ ew101
  have hP : va_P D vwCl (xw cR ax ar ao ad vrd vtr vsd vrn vom voh vol vop voe vow vok vos w101 vmi vco vex) H := by rw [ew101]; exact hP
  have hD : va_D A (xw cR ax ar ao ad vrd vtr vsd vrn vom voh vol vop voe vow vok vos w101 vmi vco vex) := by rw [ew101]; exact hD
  refine lv_aload_n hx hb dX0_setInfinity_5 rfl (lv_at hl 0 rfl) ?_
  refine lv_iload_n hx hb dX0_setInfinity_6 rfl (lv_at hl 1 rfl) ?_
  refine p_mi (i := i0) hx hb hts hi0 hown hK hP hD hS hb0 (hts (.fieldLink RX0 15 "DecimalWords$Datum" "minus" "Z") (inW_1 _ (List.mem_of_getElem? (i := 5) rfl))) p0 dX0_setInfinity_7 (fun H locs hP hD hS => ?_)
  obtain ⟨w103, ew103⟩ : ∃ y9 : Nat → Bool, y9 = va_up vmi i0 p0 := ⟨_, rfl⟩
  have hu := hu _ ew103
  have hP : va_P D vwCl (xw cR ax ar ao ad vrd vtr vsd vrn vom voh vol vop voe vow vok vos w101 w103 vco vex) H := by rw [ew103]; exact hP
  have hD : va_D A (xw cR ax ar ao ad vrd vtr vsd vrn vom voh vol vop voe vow vok vos w101 w103 vco vex) := by rw [ew103]; exact hD
  refine lv_aload_n hx hb dX0_setInfinity_10 rfl (lv_at hl 0 rfl) ?_
  refine lv_lconst (v := 0) hx hb dX0_setInfinity_11 (by decide) ?_
  refine p_co (i := i0) hx hb hts hi0 hown hK hP hD hS hb0 (hts (.fieldLink RX0 19 "DecimalWords$Datum" "coefficient" "J") (inW_1 _ (List.mem_of_getElem? (i := 6) rfl))) 0 dX0_setInfinity_12 (fun H locs hP hD hS => ?_)
  obtain ⟨w105, ew105⟩ : ∃ y9 : Nat → Int64, y9 = va_up vco i0 0 := ⟨_, rfl⟩
  have hu := hu _ ew105
  have hP : va_P D vwCl (xw cR ax ar ao ad vrd vtr vsd vrn vom voh vol vop voe vow vok vos w101 w103 w105 vex) H := by rw [ew105]; exact hP
  have hD : va_D A (xw cR ax ar ao ad vrd vtr vsd vrn vom voh vol vop voe vow vok vos w101 w103 w105 vex) := by rw [ew105]; exact hD
  refine lv_aload_n hx hb dX0_setInfinity_15 rfl (lv_at hl 0 rfl) ?_
  refine lv_iconst (v := 0) hx hb dX0_setInfinity_16 (by decide) ?_
  refine p_ex (i := i0) hx hb hts hi0 hown hK hP hD hS hb0 (hts (.fieldLink RX0 23 "DecimalWords$Datum" "exponent" "I") (inW_1 _ (List.mem_of_getElem? (i := 7) rfl))) 0 dX0_setInfinity_17 (fun H locs hP hD hS => ?_)
  obtain ⟨w107, ew107⟩ : ∃ y9 : Nat → Int32, y9 = va_up vex i0 0 := ⟨_, rfl⟩
  have hu := hu _ ew107
  have hP : va_P D vwCl (xw cR ax ar ao ad vrd vtr vsd vrn vom voh vol vop voe vow vok vos w101 w103 w105 w107) H := by rw [ew107]; exact hP
  have hD : va_D A (xw cR ax ar ao ad vrd vtr vsd vrn vom voh vol vop voe vow vok vos w101 w103 w105 w107) := by rw [ew107]; exact hD
  have e9 := Eq.symm hu; subst e9
  exact x_vret hx hb hr hlocks hQ hK hP hD hS rfl dX0_setInfinity_20

def F_X0_setNothing (vso : Nat → Int32) (vmi : Nat → Bool) (vco : Nat → Int64) (vex : Nat → Int32) (i0 : Nat) : (Nat → Int32) × (Nat → Bool) × (Nat → Int64) × (Nat → Int32) := (bnd (va_up vso i0 2) (fun w101 : Nat → Int32 => (bnd (va_up vmi i0 false) (fun w103 : Nat → Bool => (bnd (va_up vco i0 0) (fun w105 : Nat → Int64 => (bnd (va_up vex i0 0) (fun w107 : Nat → Int32 => (w101, w103, w105, w107)))))))))
def RF_X0_setNothing (vso : Nat → Int32) (vmi : Nat → Bool) (vco : Nat → Int64) (vex : Nat → Int32) (i0 : Nat) (u9 : (Nat → Int32) × (Nat → Bool) × (Nat → Int64) × (Nat → Int32)) : Prop := (∀ w101 : Nat → Int32, w101 = va_up vso i0 2 → (∀ w103 : Nat → Bool, w103 = va_up vmi i0 false → (∀ w105 : Nat → Int64, w105 = va_up vco i0 0 → (∀ w107 : Nat → Int32, w107 = va_up vex i0 0 → u9 = (w101, w103, w105, w107)))))
theorem rF_X0_setNothing (vso : Nat → Int32) (vmi : Nat → Bool) (vco : Nat → Int64) (vex : Nat → Int32) (i0 : Nat) {u9 : (Nat → Int32) × (Nat → Bool) × (Nat → Int64) × (Nat → Int32)} (hu : u9 = F_X0_setNothing vso vmi vco vex i0) : RF_X0_setNothing vso vmi vco vex i0 u9 := by
  unfold RF_X0_setNothing
  intro w101 ew101
  have hu := bnd_n hu ew101
  intro w103 ew103
  have hu := bnd_n hu ew103
  intro w105 ew105
  have hu := bnd_n hu ew105
  intro w107 ew107
  have hu := bnd_n hu ew107
  exact hu
def rm_X0_setNothing : Room := { frames := 0, cells := 0, slots := 0, locals := 0 }
set_option maxHeartbeats 4000000 in
set_option maxRecDepth 100000 in
theorem c_X0_setNothing (l : Launch) (D : va_G) (cR cI cJ cZ : ClassId) (t0 : Nat) (ax ar ao : Nat) (ad : Nat → Nat) (vrd : Int32) (vtr : Int32) (vsd : Int32) (vrn : Int32) (vom : Bool) (voh : Int64) (vol : Int64) (vop : Int32) (voe : Bool) (vow : Int32) (vok : Int64) (vos : Int32) (vso : Nat → Int32) (vmi : Nat → Bool) (vco : Nat → Int64) (vex : Nat → Int32) (i0 : Nat) (u : (Nat → Int32) × (Nat → Bool) × (Nat → Int64) × (Nat → Int32)) (hu : u = F_X0_setNothing vso vmi vco vex i0) (hb0 : i0 < 9) : XM l D (xty cR cI cJ cZ) t0 yX0_setNothing cX0_setNothing 1 none rm_X0_setNothing [.ref (ad i0)] none (xw cR ax ar ao ad vrd vtr vsd vrn vom voh vol vop voe vow vok vos vso vmi vco vex) (xw cR ax ar ao ad vrd vtr vsd vrn vom voh vol vop voe vow vok vos u.1 u.2.1 u.2.2.1 u.2.2.2) := by
  refine XM.of (by decide) (Nat.le_of_ble_eq_true rfl) ?_
  intro p e s m args below meth c A Q F hK hP hD hA hSt hS hQ ls hl
  obtain ⟨hx, hb, hr, hts, hown, hlocks, hml⟩ := F
  have hCF : CallFix p m c cX0_setNothing 1 s args gW RX0 := ⟨hx, hb, hml, hown, hts⟩
  have hu := rF_X0_setNothing vso vmi vco vex i0 hu
  unfold RF_X0_setNothing at hu
  obtain ⟨H, eH⟩ : ∃ y9 : Heap, y9 = s.heap := ⟨_, rfl⟩
  obtain ⟨locs, eL⟩ : ∃ y9 : List Loc, y9 = [] := ⟨_, rfl⟩
  rw [← eL] at hS ⊢
  have hP : va_P D vwCl (xw cR ax ar ao ad vrd vtr vsd vrn vom voh vol vop voe vow vok vos vso vmi vco vex) H := by rw [eH]; exact hP
  have hS : va_S A s.heap H locs := by rw [eH]; exact hS
  suffices goal9 : W p l e rm_X0_setNothing s m args below meth c H locs 0 0 Q (F0 m 0 ls []) from by rw [← eH]; exact goal9
  have hl : lv_has ls 1 [(0, .ref (ad i0))] := hl
  have hi0 : ∀ w ∈ wsX00, w ∈ gW := inW_X0
  refine lv_aload_n hx hb dX0_setNothing_0 rfl (lv_at hl 0 rfl) ?_
  refine lv_iconst (v := 2) hx hb dX0_setNothing_1 (by decide) ?_
  refine p_so (i := i0) hx hb hts hi0 hown hK hP hD hS hb0 (hts (.fieldLink RX0 9 "DecimalWords$Datum" "sort" "I") (inW_1 _ (List.mem_of_getElem? (i := 4) rfl))) 2 dX0_setNothing_2 (fun H locs hP hD hS => ?_)
  obtain ⟨w101, ew101⟩ : ∃ y9 : Nat → Int32, y9 = va_up vso i0 2 := ⟨_, rfl⟩
  have hu := hu _ ew101
  have hP : va_P D vwCl (xw cR ax ar ao ad vrd vtr vsd vrn vom voh vol vop voe vow vok vos w101 vmi vco vex) H := by rw [ew101]; exact hP
  have hD : va_D A (xw cR ax ar ao ad vrd vtr vsd vrn vom voh vol vop voe vow vok vos w101 vmi vco vex) := by rw [ew101]; exact hD
  refine lv_aload_n hx hb dX0_setNothing_5 rfl (lv_at hl 0 rfl) ?_
  refine lv_iconst (v := 0) hx hb dX0_setNothing_6 (by decide) ?_
  refine p_mi (i := i0) hx hb hts hi0 hown hK hP hD hS hb0 (hts (.fieldLink RX0 15 "DecimalWords$Datum" "minus" "Z") (inW_1 _ (List.mem_of_getElem? (i := 5) rfl))) false dX0_setNothing_7 (fun H locs hP hD hS => ?_)
  obtain ⟨w103, ew103⟩ : ∃ y9 : Nat → Bool, y9 = va_up vmi i0 false := ⟨_, rfl⟩
  have hu := hu _ ew103
  have hP : va_P D vwCl (xw cR ax ar ao ad vrd vtr vsd vrn vom voh vol vop voe vow vok vos w101 w103 vco vex) H := by rw [ew103]; exact hP
  have hD : va_D A (xw cR ax ar ao ad vrd vtr vsd vrn vom voh vol vop voe vow vok vos w101 w103 vco vex) := by rw [ew103]; exact hD
  refine lv_aload_n hx hb dX0_setNothing_10 rfl (lv_at hl 0 rfl) ?_
  refine lv_lconst (v := 0) hx hb dX0_setNothing_11 (by decide) ?_
  refine p_co (i := i0) hx hb hts hi0 hown hK hP hD hS hb0 (hts (.fieldLink RX0 19 "DecimalWords$Datum" "coefficient" "J") (inW_1 _ (List.mem_of_getElem? (i := 6) rfl))) 0 dX0_setNothing_12 (fun H locs hP hD hS => ?_)
  obtain ⟨w105, ew105⟩ : ∃ y9 : Nat → Int64, y9 = va_up vco i0 0 := ⟨_, rfl⟩
  have hu := hu _ ew105
  have hP : va_P D vwCl (xw cR ax ar ao ad vrd vtr vsd vrn vom voh vol vop voe vow vok vos w101 w103 w105 vex) H := by rw [ew105]; exact hP
  have hD : va_D A (xw cR ax ar ao ad vrd vtr vsd vrn vom voh vol vop voe vow vok vos w101 w103 w105 vex) := by rw [ew105]; exact hD
  refine lv_aload_n hx hb dX0_setNothing_15 rfl (lv_at hl 0 rfl) ?_
  refine lv_iconst (v := 0) hx hb dX0_setNothing_16 (by decide) ?_
  refine p_ex (i := i0) hx hb hts hi0 hown hK hP hD hS hb0 (hts (.fieldLink RX0 23 "DecimalWords$Datum" "exponent" "I") (inW_1 _ (List.mem_of_getElem? (i := 7) rfl))) 0 dX0_setNothing_17 (fun H locs hP hD hS => ?_)
  obtain ⟨w107, ew107⟩ : ∃ y9 : Nat → Int32, y9 = va_up vex i0 0 := ⟨_, rfl⟩
  have hu := hu _ ew107
  have hP : va_P D vwCl (xw cR ax ar ao ad vrd vtr vsd vrn vom voh vol vop voe vow vok vos w101 w103 w105 w107) H := by rw [ew107]; exact hP
  have hD : va_D A (xw cR ax ar ao ad vrd vtr vsd vrn vom voh vol vop voe vow vok vos w101 w103 w105 w107) := by rw [ew107]; exact hD
  have e9 := Eq.symm hu; subst e9
  exact x_vret hx hb hr hlocks hQ hK hP hD hS rfl dX0_setNothing_20

def F_X0_take (vso : Nat → Int32) (vmi : Nat → Bool) (vco : Nat → Int64) (vex : Nat → Int32) (i0 : Nat) (i1 : Nat) : (Nat → Int32) × (Nat → Bool) × (Nat → Int64) × (Nat → Int32) := (bnd (vso i1) (fun f101 : Int32 => (bnd (va_up vso i0 f101) (fun w102 : Nat → Int32 => (bnd (vmi i1) (fun f104 : Bool => (bnd (va_up vmi i0 f104) (fun w105 : Nat → Bool => (bnd (vco i1) (fun f107 : Int64 => (bnd (va_up vco i0 f107) (fun w108 : Nat → Int64 => (bnd (vex i1) (fun f110 : Int32 => (bnd (va_up vex i0 f110) (fun w111 : Nat → Int32 => (w102, w105, w108, w111)))))))))))))))))
def RF_X0_take (vso : Nat → Int32) (vmi : Nat → Bool) (vco : Nat → Int64) (vex : Nat → Int32) (i0 : Nat) (i1 : Nat) (u9 : (Nat → Int32) × (Nat → Bool) × (Nat → Int64) × (Nat → Int32)) : Prop := (∀ f101 : Int32, f101 = vso i1 → (∀ w102 : Nat → Int32, w102 = va_up vso i0 f101 → (∀ f104 : Bool, f104 = vmi i1 → (∀ w105 : Nat → Bool, w105 = va_up vmi i0 f104 → (∀ f107 : Int64, f107 = vco i1 → (∀ w108 : Nat → Int64, w108 = va_up vco i0 f107 → (∀ f110 : Int32, f110 = vex i1 → (∀ w111 : Nat → Int32, w111 = va_up vex i0 f110 → u9 = (w102, w105, w108, w111)))))))))
theorem rF_X0_take (vso : Nat → Int32) (vmi : Nat → Bool) (vco : Nat → Int64) (vex : Nat → Int32) (i0 : Nat) (i1 : Nat) {u9 : (Nat → Int32) × (Nat → Bool) × (Nat → Int64) × (Nat → Int32)} (hu : u9 = F_X0_take vso vmi vco vex i0 i1) : RF_X0_take vso vmi vco vex i0 i1 u9 := by
  unfold RF_X0_take
  intro f101 ef101
  have hu := bnd_n hu ef101
  intro w102 ew102
  have hu := bnd_n hu ew102
  intro f104 ef104
  have hu := bnd_n hu ef104
  intro w105 ew105
  have hu := bnd_n hu ew105
  intro f107 ef107
  have hu := bnd_n hu ef107
  intro w108 ew108
  have hu := bnd_n hu ew108
  intro f110 ef110
  have hu := bnd_n hu ef110
  intro w111 ew111
  have hu := bnd_n hu ew111
  exact hu
def rm_X0_take : Room := { frames := 0, cells := 0, slots := 0, locals := 0 }
set_option maxHeartbeats 4000000 in
set_option maxRecDepth 100000 in
theorem c_X0_take (l : Launch) (D : va_G) (cR cI cJ cZ : ClassId) (t0 : Nat) (ax ar ao : Nat) (ad : Nat → Nat) (vrd : Int32) (vtr : Int32) (vsd : Int32) (vrn : Int32) (vom : Bool) (voh : Int64) (vol : Int64) (vop : Int32) (voe : Bool) (vow : Int32) (vok : Int64) (vos : Int32) (vso : Nat → Int32) (vmi : Nat → Bool) (vco : Nat → Int64) (vex : Nat → Int32) (i0 : Nat) (i1 : Nat) (u : (Nat → Int32) × (Nat → Bool) × (Nat → Int64) × (Nat → Int32)) (hu : u = F_X0_take vso vmi vco vex i0 i1) (hb0 : i0 < 9) (hb1 : i1 < 9) : XM l D (xty cR cI cJ cZ) t0 yX0_take cX0_take 2 none rm_X0_take [.ref (ad i0), .ref (ad i1)] none (xw cR ax ar ao ad vrd vtr vsd vrn vom voh vol vop voe vow vok vos vso vmi vco vex) (xw cR ax ar ao ad vrd vtr vsd vrn vom voh vol vop voe vow vok vos u.1 u.2.1 u.2.2.1 u.2.2.2) := by
  refine XM.of (by decide) (Nat.le_of_ble_eq_true rfl) ?_
  intro p e s m args below meth c A Q F hK hP hD hA hSt hS hQ ls hl
  obtain ⟨hx, hb, hr, hts, hown, hlocks, hml⟩ := F
  have hCF : CallFix p m c cX0_take 2 s args gW RX0 := ⟨hx, hb, hml, hown, hts⟩
  have hu := rF_X0_take vso vmi vco vex i0 i1 hu
  unfold RF_X0_take at hu
  obtain ⟨H, eH⟩ : ∃ y9 : Heap, y9 = s.heap := ⟨_, rfl⟩
  obtain ⟨locs, eL⟩ : ∃ y9 : List Loc, y9 = [] := ⟨_, rfl⟩
  rw [← eL] at hS ⊢
  have hP : va_P D vwCl (xw cR ax ar ao ad vrd vtr vsd vrn vom voh vol vop voe vow vok vos vso vmi vco vex) H := by rw [eH]; exact hP
  have hS : va_S A s.heap H locs := by rw [eH]; exact hS
  suffices goal9 : W p l e rm_X0_take s m args below meth c H locs 0 0 Q (F0 m 0 ls []) from by rw [← eH]; exact goal9
  have hl : lv_has ls 2 [(0, .ref (ad i0)), (1, .ref (ad i1))] := hl
  have hi0 : ∀ w ∈ wsX00, w ∈ gW := inW_X0
  refine lv_aload_n hx hb dX0_take_0 rfl (lv_at hl 0 rfl) ?_
  refine lv_aload_n hx hb dX0_take_1 rfl (lv_at hl 1 rfl) ?_
  refine g_so (i := i1) hx hb hts hi0 hown hK hP hb1 (hts (.fieldLink RX0 9 "DecimalWords$Datum" "sort" "I") (inW_1 _ (List.mem_of_getElem? (i := 4) rfl))) dX0_take_2 ?_
  refine lv_topi (fun f101 ef101 => ?_)
  have hu := hu _ ef101
  refine p_so (i := i0) hx hb hts hi0 hown hK hP hD hS hb0 (hts (.fieldLink RX0 9 "DecimalWords$Datum" "sort" "I") (inW_1 _ (List.mem_of_getElem? (i := 4) rfl))) f101 dX0_take_5 (fun H locs hP hD hS => ?_)
  obtain ⟨w102, ew102⟩ : ∃ y9 : Nat → Int32, y9 = va_up vso i0 f101 := ⟨_, rfl⟩
  have hu := hu _ ew102
  have hP : va_P D vwCl (xw cR ax ar ao ad vrd vtr vsd vrn vom voh vol vop voe vow vok vos w102 vmi vco vex) H := by rw [ew102]; exact hP
  have hD : va_D A (xw cR ax ar ao ad vrd vtr vsd vrn vom voh vol vop voe vow vok vos w102 vmi vco vex) := by rw [ew102]; exact hD
  refine lv_aload_n hx hb dX0_take_8 rfl (lv_at hl 0 rfl) ?_
  refine lv_aload_n hx hb dX0_take_9 rfl (lv_at hl 1 rfl) ?_
  refine g_mi (i := i1) hx hb hts hi0 hown hK hP hb1 (hts (.fieldLink RX0 15 "DecimalWords$Datum" "minus" "Z") (inW_1 _ (List.mem_of_getElem? (i := 5) rfl))) dX0_take_10 ?_
  refine x_topb (fun f104 ef104 => ?_)
  have hu := hu _ ef104
  refine p_mi (i := i0) hx hb hts hi0 hown hK hP hD hS hb0 (hts (.fieldLink RX0 15 "DecimalWords$Datum" "minus" "Z") (inW_1 _ (List.mem_of_getElem? (i := 5) rfl))) f104 dX0_take_13 (fun H locs hP hD hS => ?_)
  obtain ⟨w105, ew105⟩ : ∃ y9 : Nat → Bool, y9 = va_up vmi i0 f104 := ⟨_, rfl⟩
  have hu := hu _ ew105
  have hP : va_P D vwCl (xw cR ax ar ao ad vrd vtr vsd vrn vom voh vol vop voe vow vok vos w102 w105 vco vex) H := by rw [ew105]; exact hP
  have hD : va_D A (xw cR ax ar ao ad vrd vtr vsd vrn vom voh vol vop voe vow vok vos w102 w105 vco vex) := by rw [ew105]; exact hD
  refine lv_aload_n hx hb dX0_take_16 rfl (lv_at hl 0 rfl) ?_
  refine lv_aload_n hx hb dX0_take_17 rfl (lv_at hl 1 rfl) ?_
  refine g_co (i := i1) hx hb hts hi0 hown hK hP hb1 (hts (.fieldLink RX0 19 "DecimalWords$Datum" "coefficient" "J") (inW_1 _ (List.mem_of_getElem? (i := 6) rfl))) dX0_take_18 ?_
  refine lv_topl (fun f107 ef107 => ?_)
  have hu := hu _ ef107
  refine p_co (i := i0) hx hb hts hi0 hown hK hP hD hS hb0 (hts (.fieldLink RX0 19 "DecimalWords$Datum" "coefficient" "J") (inW_1 _ (List.mem_of_getElem? (i := 6) rfl))) f107 dX0_take_21 (fun H locs hP hD hS => ?_)
  obtain ⟨w108, ew108⟩ : ∃ y9 : Nat → Int64, y9 = va_up vco i0 f107 := ⟨_, rfl⟩
  have hu := hu _ ew108
  have hP : va_P D vwCl (xw cR ax ar ao ad vrd vtr vsd vrn vom voh vol vop voe vow vok vos w102 w105 w108 vex) H := by rw [ew108]; exact hP
  have hD : va_D A (xw cR ax ar ao ad vrd vtr vsd vrn vom voh vol vop voe vow vok vos w102 w105 w108 vex) := by rw [ew108]; exact hD
  refine lv_aload_n hx hb dX0_take_24 rfl (lv_at hl 0 rfl) ?_
  refine lv_aload_n hx hb dX0_take_25 rfl (lv_at hl 1 rfl) ?_
  refine g_ex (i := i1) hx hb hts hi0 hown hK hP hb1 (hts (.fieldLink RX0 23 "DecimalWords$Datum" "exponent" "I") (inW_1 _ (List.mem_of_getElem? (i := 7) rfl))) dX0_take_26 ?_
  refine lv_topi (fun f110 ef110 => ?_)
  have hu := hu _ ef110
  refine p_ex (i := i0) hx hb hts hi0 hown hK hP hD hS hb0 (hts (.fieldLink RX0 23 "DecimalWords$Datum" "exponent" "I") (inW_1 _ (List.mem_of_getElem? (i := 7) rfl))) f110 dX0_take_29 (fun H locs hP hD hS => ?_)
  obtain ⟨w111, ew111⟩ : ∃ y9 : Nat → Int32, y9 = va_up vex i0 f110 := ⟨_, rfl⟩
  have hu := hu _ ew111
  have hP : va_P D vwCl (xw cR ax ar ao ad vrd vtr vsd vrn vom voh vol vop voe vow vok vos w102 w105 w108 w111) H := by rw [ew111]; exact hP
  have hD : va_D A (xw cR ax ar ao ad vrd vtr vsd vrn vom voh vol vop voe vow vok vos w102 w105 w108 w111) := by rw [ew111]; exact hD
  have e9 := Eq.symm hu; subst e9
  exact x_vret hx hb hr hlocks hQ hK hP hD hS rfl dX0_take_32

def F_X0_isZero (vso : Nat → Int32) (vco : Nat → Int64) (i0 : Nat) : Bool := (if vso i0 = 0 then (if vco i0 = 0 then true else false) else false)
def RF_X0_isZero (vso : Nat → Int32) (vco : Nat → Int64) (i0 : Nat) (u9 : Bool) : Prop := (if vso i0 = 0 then (if vco i0 = 0 then u9 = true else u9 = false) else u9 = false)
theorem rF_X0_isZero (vso : Nat → Int32) (vco : Nat → Int64) (i0 : Nat) {u9 : Bool} (hu : u9 = F_X0_isZero vso vco i0) : RF_X0_isZero vso vco i0 u9 := by
  unfold RF_X0_isZero
  refine ite_P (fun c_101 => ?_) (fun c_101 => ?_)
  · have hu := hu.trans (if_pos c_101)
    refine ite_P (fun c_102 => ?_) (fun c_102 => ?_)
    · have hu := hu.trans (if_pos c_102)
      exact hu
    · have hu := hu.trans (if_neg c_102)
      exact hu
  · have hu := hu.trans (if_neg c_101)
    exact hu
def rm_X0_isZero : Room := { frames := 0, cells := 0, slots := 0, locals := 0 }
set_option maxHeartbeats 4000000 in
set_option maxRecDepth 100000 in
theorem c_X0_isZero (l : Launch) (D : va_G) (cR cI cJ cZ : ClassId) (t0 : Nat) (ax ar ao : Nat) (ad : Nat → Nat) (vrd : Int32) (vtr : Int32) (vsd : Int32) (vrn : Int32) (vom : Bool) (voh : Int64) (vol : Int64) (vop : Int32) (voe : Bool) (vow : Int32) (vok : Int64) (vos : Int32) (vso : Nat → Int32) (vmi : Nat → Bool) (vco : Nat → Int64) (vex : Nat → Int32) (i0 : Nat) (u : Bool) (hu : u = F_X0_isZero vso vco i0) (hb0 : i0 < 9) : XM l D (xty cR cI cJ cZ) t0 yX0_isZero cX0_isZero 1 (some .boolean) rm_X0_isZero [.ref (ad i0)] (some (.int (bI u))) (xw cR ax ar ao ad vrd vtr vsd vrn vom voh vol vop voe vow vok vos vso vmi vco vex) (xw cR ax ar ao ad vrd vtr vsd vrn vom voh vol vop voe vow vok vos vso vmi vco vex) := by
  refine XM.of (by decide) (Nat.le_of_ble_eq_true rfl) ?_
  intro p e s m args below meth c A Q F hK hP hD hA hSt hS hQ ls hl
  obtain ⟨hx, hb, hr, hts, hown, hlocks, hml⟩ := F
  have hCF : CallFix p m c cX0_isZero 1 s args gW RX0 := ⟨hx, hb, hml, hown, hts⟩
  have hu := rF_X0_isZero vso vco i0 hu
  unfold RF_X0_isZero at hu
  obtain ⟨H, eH⟩ : ∃ y9 : Heap, y9 = s.heap := ⟨_, rfl⟩
  obtain ⟨locs, eL⟩ : ∃ y9 : List Loc, y9 = [] := ⟨_, rfl⟩
  rw [← eL] at hS ⊢
  have hP : va_P D vwCl (xw cR ax ar ao ad vrd vtr vsd vrn vom voh vol vop voe vow vok vos vso vmi vco vex) H := by rw [eH]; exact hP
  have hS : va_S A s.heap H locs := by rw [eH]; exact hS
  suffices goal9 : W p l e rm_X0_isZero s m args below meth c H locs 0 0 Q (F0 m 0 ls []) from by rw [← eH]; exact goal9
  have hl : lv_has ls 1 [(0, .ref (ad i0))] := hl
  have hi0 : ∀ w ∈ wsX00, w ∈ gW := inW_X0
  refine lv_aload_n hx hb dX0_isZero_0 rfl (lv_at hl 0 rfl) ?_
  refine g_so (i := i0) hx hb hts hi0 hown hK hP hb0 (hts (.fieldLink RX0 9 "DecimalWords$Datum" "sort" "I") (inW_1 _ (List.mem_of_getElem? (i := 4) rfl))) dX0_isZero_1 ?_
  refine lv_if_ne (tgt := 20) hx hb dX0_isZero_4 (by decide) (fun c_101 => ?_) (fun c_101 => ?_)
  · rw [if_neg c_101] at hu
    refine lv_iconst (v := 0) hx hb dX0_isZero_20 (by decide) ?_
    have e9 := Eq.symm hu; subst e9
    exact x_zret (v := false) hx hb hr hlocks hQ hK hP hD hS rfl rfl dX0_isZero_21
  · rw [if_pos c_101] at hu
    refine lv_aload_n hx hb dX0_isZero_7 rfl (lv_at hl 0 rfl) ?_
    refine g_co (i := i0) hx hb hts hi0 hown hK hP hb0 (hts (.fieldLink RX0 19 "DecimalWords$Datum" "coefficient" "J") (inW_1 _ (List.mem_of_getElem? (i := 6) rfl))) dX0_isZero_8 ?_
    refine lv_lconst (v := 0) hx hb dX0_isZero_11 (by decide) ?_
    refine xl_ne (tgt := 20) hx hb dX0_isZero_12 dX0_isZero_13 (by decide) (fun c_102 => ?_) (fun c_102 => ?_)
    · rw [if_neg c_102] at hu
      refine lv_iconst (v := 0) hx hb dX0_isZero_20 (by decide) ?_
      have e9 := Eq.symm hu; subst e9
      exact x_zret (v := false) hx hb hr hlocks hQ hK hP hD hS rfl rfl dX0_isZero_21
    · rw [if_pos c_102] at hu
      refine lv_iconst (v := 1) hx hb dX0_isZero_16 (by decide) ?_
      refine lv_goto (tgt := 21) hx hb dX0_isZero_17 (by decide) ?_
      have e9 := Eq.symm hu; subst e9
      exact x_zret (v := true) hx hb hr hlocks hQ hK hP hD hS rfl rfl dX0_isZero_21

def F_X0_side (vso : Nat → Int32) (vmi : Nat → Bool) (vco : Nat → Int64) (i0 : Nat) : Int32 := (if F_X0_isZero vso vco i0 = true then 0 else (if vmi i0 = true then (-1) else 1))
def RF_X0_side (vso : Nat → Int32) (vmi : Nat → Bool) (vco : Nat → Int64) (i0 : Nat) (u9 : Int32) : Prop := (if F_X0_isZero vso vco i0 = true then u9 = 0 else (if vmi i0 = true then u9 = (-1) else u9 = 1))
theorem rF_X0_side (vso : Nat → Int32) (vmi : Nat → Bool) (vco : Nat → Int64) (i0 : Nat) {u9 : Int32} (hu : u9 = F_X0_side vso vmi vco i0) : RF_X0_side vso vmi vco i0 u9 := by
  unfold RF_X0_side
  refine ite_P (fun c_102 => ?_) (fun c_102 => ?_)
  · have hu := hu.trans (if_pos c_102)
    exact hu
  · have hu := hu.trans (if_neg c_102)
    refine ite_P (fun c_103 => ?_) (fun c_103 => ?_)
    · have hu := hu.trans (if_pos c_103)
      exact hu
    · have hu := hu.trans (if_neg c_103)
      exact hu
def rm_X0_side : Room := { frames := 1, cells := 0, slots := 0, locals := 20 }
set_option maxHeartbeats 4000000 in
set_option maxRecDepth 100000 in
theorem c_X0_side (l : Launch) (D : va_G) (cR cI cJ cZ : ClassId) (t0 : Nat) (ax ar ao : Nat) (ad : Nat → Nat) (vrd : Int32) (vtr : Int32) (vsd : Int32) (vrn : Int32) (vom : Bool) (voh : Int64) (vol : Int64) (vop : Int32) (voe : Bool) (vow : Int32) (vok : Int64) (vos : Int32) (vso : Nat → Int32) (vmi : Nat → Bool) (vco : Nat → Int64) (vex : Nat → Int32) (i0 : Nat) (u : Int32) (hu : u = F_X0_side vso vmi vco i0) (hb0 : i0 < 9) : XM l D (xty cR cI cJ cZ) t0 yX0_side cX0_side 1 (some .int) rm_X0_side [.ref (ad i0)] (some (.int u)) (xw cR ax ar ao ad vrd vtr vsd vrn vom voh vol vop voe vow vok vos vso vmi vco vex) (xw cR ax ar ao ad vrd vtr vsd vrn vom voh vol vop voe vow vok vos vso vmi vco vex) := by
  refine XM.of (by decide) (Nat.le_of_ble_eq_true rfl) ?_
  intro p e s m args below meth c A Q F hK hP hD hA hSt hS hQ ls hl
  obtain ⟨hx, hb, hr, hts, hown, hlocks, hml⟩ := F
  have hCF : CallFix p m c cX0_side 1 s args gW RX0 := ⟨hx, hb, hml, hown, hts⟩
  have hu := rF_X0_side vso vmi vco i0 hu
  unfold RF_X0_side at hu
  obtain ⟨H, eH⟩ : ∃ y9 : Heap, y9 = s.heap := ⟨_, rfl⟩
  obtain ⟨locs, eL⟩ : ∃ y9 : List Loc, y9 = [] := ⟨_, rfl⟩
  rw [← eL] at hS ⊢
  have hP : va_P D vwCl (xw cR ax ar ao ad vrd vtr vsd vrn vom voh vol vop voe vow vok vos vso vmi vco vex) H := by rw [eH]; exact hP
  have hS : va_S A s.heap H locs := by rw [eH]; exact hS
  suffices goal9 : W p l e rm_X0_side s m args below meth c H locs 0 0 Q (F0 m 0 ls []) from by rw [← eH]; exact goal9
  have hl : lv_has ls 1 [(0, .ref (ad i0))] := hl
  have hi0 : ∀ w ∈ wsX00, w ∈ gW := inW_X0
  refine lv_aload_n hx hb dX0_side_0 rfl (lv_at hl 0 rfl) ?_
  refine x_V (As := []) (rest := []) hCF (c_X0_isZero l D cR cI cJ cZ t0 ax ar ao ad vrd vtr vsd vrn vom voh vol vop voe vow vok vos vso vmi vco vex i0 _ rfl hb0) (x_cwV 0 hts (inW_1 _ (List.mem_of_getElem? (i := 13) rfl)) (inW_1 _ (List.mem_of_getElem? (i := 14) rfl)) (inW_1 _ (List.mem_of_getElem? (i := 15) rfl)) (inW_1 _ (List.mem_of_getElem? (i := 16) rfl)) (inW_1 _ (List.mem_of_getElem? (i := 11) rfl)) rfl rfl (by decide +kernel) ⟨Nat.le_of_ble_eq_true rfl, Nat.le_of_ble_eq_true rfl⟩) hK hP hD hS hA hSt (3 + i0) (xw_dat hb0) rfl rfl hl.1 rfl (Nat.le_of_ble_eq_true rfl) dX0_side_1 ⟨Nat.le_of_ble_eq_true rfl, Nat.le_of_ble_eq_true rfl⟩ (fun H locs hP hD hS => ?_)
  show W p l e _ s m args below meth c H locs 0 0 Q (F0 m 4 ls (.int (bI (F_X0_isZero vso vco i0)) :: []))
  refine xb_eq (tgt := 9) hx hb dX0_side_4 (by decide) (fun c_102 => ?_) (fun c_102 => ?_)
  · rw [if_neg c_102] at hu
    refine lv_aload_n hx hb dX0_side_9 rfl (lv_at hl 0 rfl) ?_
    refine g_mi (i := i0) hx hb hts hi0 hown hK hP hb0 (hts (.fieldLink RX0 15 "DecimalWords$Datum" "minus" "Z") (inW_1 _ (List.mem_of_getElem? (i := 5) rfl))) dX0_side_10 ?_
    refine xb_eq (tgt := 20) hx hb dX0_side_13 (by decide) (fun c_103 => ?_) (fun c_103 => ?_)
    · rw [if_neg c_103] at hu
      refine lv_iconst (v := 1) hx hb dX0_side_20 (by decide) ?_
      have e9 := Eq.symm hu; subst e9
      exact x_iret hx hb hr hlocks hQ hK hP hD hS rfl rfl dX0_side_21
    · rw [if_pos c_103] at hu
      refine lv_iconst (v := (-1)) hx hb dX0_side_16 (by decide) ?_
      refine lv_goto (tgt := 21) hx hb dX0_side_17 (by decide) ?_
      have e9 := Eq.symm hu; subst e9
      exact x_iret hx hb hr hlocks hQ hK hP hD hS rfl rfl dX0_side_21
  · rw [if_pos c_102] at hu
    refine lv_iconst (v := 0) hx hb dX0_side_7 (by decide) ?_
    have e9 := Eq.symm hu; subst e9
    exact x_iret hx hb hr hlocks hQ hK hP hD hS rfl rfl dX0_side_8
