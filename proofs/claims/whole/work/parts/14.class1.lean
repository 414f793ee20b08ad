def F_X3_raise (vrn : Int32) (p0 : Int32) : Int32 := (bnd (vrn ||| p0) (fun f1 : Int32 => f1))
def RF_X3_raise (vrn : Int32) (p0 : Int32) (u9 : Int32) : Prop := (∀ f1 : Int32, f1 = vrn ||| p0 → u9 = f1)
theorem rF_X3_raise (vrn : Int32) (p0 : Int32) {u9 : Int32} (hu : u9 = F_X3_raise vrn p0) : RF_X3_raise vrn p0 u9 := by
  unfold RF_X3_raise
  intro f1 ef1
  have hu := bnd_n hu ef1
  exact hu
def rm_X3_raise : Room := { frames := 0, cells := 0, slots := 0, locals := 0 }
set_option maxHeartbeats 4000000 in
set_option maxRecDepth 100000 in
theorem c_X3_raise (l : Launch) (D : va_G) (cR cI cJ cZ : ClassId) (t0 : Nat) (ax ar ao : Nat) (ad : Nat → Nat) (vrd : Int32) (vtr : Int32) (vsd : Int32) (vrn : Int32) (vom : Bool) (voh : Int64) (vol : Int64) (vop : Int32) (voe : Bool) (vow : Int32) (vok : Int64) (vos : Int32) (vso : Nat → Int32) (vmi : Nat → Bool) (vco : Nat → Int64) (vex : Nat → Int32) (p0 : Int32) (u : Int32) (hu : u = F_X3_raise vrn p0) : XM l D (xty cR cI cJ cZ) t0 yX3_raise cX3_raise 2 none rm_X3_raise [.ref ax, .int p0] none (xw cR ax ar ao ad vrd vtr vsd vrn vom voh vol vop voe vow vok vos vso vmi vco vex) (xw cR ax ar ao ad vrd vtr vsd u vom voh vol vop voe vow vok vos vso vmi vco vex) := by
  refine XM.of (by decide) (Nat.le_of_ble_eq_true rfl) ?_
  intro p e s m args below meth c A Q F hK hP hD hA hSt hS hQ ls hl
  obtain ⟨hx, hb, hr, hts, hown, hlocks, hml⟩ := F
  have hCF : CallFix p m c cX3_raise 2 s args gW RX3 := ⟨hx, hb, hml, hown, hts⟩
  have hu := rF_X3_raise vrn p0 hu
  unfold RF_X3_raise at hu
  obtain ⟨H, eH⟩ : ∃ y9 : Heap, y9 = s.heap := ⟨_, rfl⟩
  obtain ⟨locs, eL⟩ : ∃ y9 : List Loc, y9 = [] := ⟨_, rfl⟩
  rw [← eL] at hS ⊢
  have hP : va_P D vwCl (xw cR ax ar ao ad vrd vtr vsd vrn vom voh vol vop voe vow vok vos vso vmi vco vex) H := by rw [eH]; exact hP
  have hS : va_S A s.heap H locs := by rw [eH]; exact hS
  suffices goal9 : W p l e rm_X3_raise s m args below meth c H locs 0 0 Q (F0 m 0 ls []) from by rw [← eH]; exact goal9
  have hl : lv_has ls 2 [(0, .ref ax), (1, .int p0)] := hl
  have hi3 : ∀ w ∈ wsX30, w ∈ gW := inW_X3
  refine lv_aload_n hx hb dX3_raise_0 rfl (lv_at hl 0 rfl) ?_
  refine lv_dup hx hb dX3_raise_1 rfl ?_
  refine va_get (D := D) (ci := 4) (v := .int vrn) (C := RX3) (T := TX3) (N := 7) hx hb hts hi3 hown hK hP 0 rfl rfl 6 (by decide) (hts (.fieldLink RX3 37 "DecimalWords" "raisedNow" "I") (inW_4 _ (List.mem_of_getElem? (i := 29) rfl))) (fun _ h9 => h9) rfl dX3_raise_2 ?_
  refine lv_iload_n hx hb dX3_raise_5 rfl (lv_at hl 1 rfl) ?_
  refine lv_ior hx hb dX3_raise_6 ?_
  refine lv_topi (fun f1 ef1 => ?_)
  have hu := hu _ ef1
  refine va_put (D := D) (ci := 4) (v := .int f1) (ty := .int) (C := RX3) (T := TX3) (N := 7) hx hb hts hi3 tyX3 tyX3_ok nmX3 hown hK hP hD hS 0 rfl rfl 6 (by decide) (hts (.fieldLink RX3 37 "DecimalWords" "raisedNow" "I") (inW_4 _ (List.mem_of_getElem? (i := 29) rfl))) (fun _ h9 => h9) rfl (by decide +kernel) rfl rfl (Nat.le_of_ble_eq_true rfl) dX3_raise_7 (fun H locs hP hD hS => ?_)
  have hP : va_P D vwCl (xw cR ax ar ao ad vrd vtr vsd f1 vom voh vol vop voe vow vok vos vso vmi vco vex) H := hP
  have hD : va_D A (xw cR ax ar ao ad vrd vtr vsd f1 vom voh vol vop voe vow vok vos vso vmi vco vex) := hD
  have e9 := Eq.symm hu; subst e9
  exact x_vret hx hb hr hlocks hQ hK hP hD hS rfl dX3_raise_10

def F_X3_setInvalid (vrn : Int32) (vso : Nat → Int32) (vmi : Nat → Bool) (vco : Nat → Int64) (vex : Nat → Int32)  : Int32 × (Nat → Int32) × (Nat → Bool) × (Nat → Int64) × (Nat → Int32) := (bnd (F_X3_raise vrn (1 : Int32)) (fun u1 : Int32 => (bnd (F_X0_setNothing vso vmi vco vex 8) (fun u3 : (Nat → Int32) × (Nat → Bool) × (Nat → Int64) × (Nat → Int32) => (u1, u3.1, u3.2.1, u3.2.2.1, u3.2.2.2)))))
def RF_X3_setInvalid (vrn : Int32) (vso : Nat → Int32) (vmi : Nat → Bool) (vco : Nat → Int64) (vex : Nat → Int32)  (u9 : Int32 × (Nat → Int32) × (Nat → Bool) × (Nat → Int64) × (Nat → Int32)) : Prop := (∀ u1 : Int32, u1 = F_X3_raise vrn (1 : Int32) → (∀ u3 : (Nat → Int32) × (Nat → Bool) × (Nat → Int64) × (Nat → Int32), u3 = F_X0_setNothing vso vmi vco vex 8 → u9 = (u1, u3.1, u3.2.1, u3.2.2.1, u3.2.2.2)))
theorem rF_X3_setInvalid (vrn : Int32) (vso : Nat → Int32) (vmi : Nat → Bool) (vco : Nat → Int64) (vex : Nat → Int32)  {u9 : Int32 × (Nat → Int32) × (Nat → Bool) × (Nat → Int64) × (Nat → Int32)} (hu : u9 = F_X3_setInvalid vrn vso vmi vco vex) : RF_X3_setInvalid vrn vso vmi vco vex u9 := by
  unfold RF_X3_setInvalid
  intro u1 eu1
  have hu := bnd_n hu eu1
  intro u3 eu3
  have hu := bnd_n hu eu3
  exact hu
def rm_X3_setInvalid : Room := { frames := 1, cells := 0, slots := 0, locals := 21 }
set_option maxHeartbeats 4000000 in
set_option maxRecDepth 100000 in
theorem c_X3_setInvalid (l : Launch) (D : va_G) (cR cI cJ cZ : ClassId) (t0 : Nat) (ax ar ao : Nat) (ad : Nat → Nat) (vrd : Int32) (vtr : Int32) (vsd : Int32) (vrn : Int32) (vom : Bool) (voh : Int64) (vol : Int64) (vop : Int32) (voe : Bool) (vow : Int32) (vok : Int64) (vos : Int32) (vso : Nat → Int32) (vmi : Nat → Bool) (vco : Nat → Int64) (vex : Nat → Int32)  (u : Int32 × (Nat → Int32) × (Nat → Bool) × (Nat → Int64) × (Nat → Int32)) (hu : u = F_X3_setInvalid vrn vso vmi vco vex) : XM l D (xty cR cI cJ cZ) t0 yX3_setInvalid cX3_setInvalid 1 none rm_X3_setInvalid [.ref ax] none (xw cR ax ar ao ad vrd vtr vsd vrn vom voh vol vop voe vow vok vos vso vmi vco vex) (xw cR ax ar ao ad vrd vtr vsd u.1 vom voh vol vop voe vow vok vos u.2.1 u.2.2.1 u.2.2.2.1 u.2.2.2.2) := by
  refine XM.of (by decide) (Nat.le_of_ble_eq_true rfl) ?_
  intro p e s m args below meth c A Q F hK hP hD hA hSt hS hQ ls hl
  obtain ⟨hx, hb, hr, hts, hown, hlocks, hml⟩ := F
  have hCF : CallFix p m c cX3_setInvalid 1 s args gW RX3 := ⟨hx, hb, hml, hown, hts⟩
  have hu := rF_X3_setInvalid vrn vso vmi vco vex hu
  unfold RF_X3_setInvalid at hu
  obtain ⟨H, eH⟩ : ∃ y9 : Heap, y9 = s.heap := ⟨_, rfl⟩
  obtain ⟨locs, eL⟩ : ∃ y9 : List Loc, y9 = [] := ⟨_, rfl⟩
  rw [← eL] at hS ⊢
  have hP : va_P D vwCl (xw cR ax ar ao ad vrd vtr vsd vrn vom voh vol vop voe vow vok vos vso vmi vco vex) H := by rw [eH]; exact hP
  have hS : va_S A s.heap H locs := by rw [eH]; exact hS
  suffices goal9 : W p l e rm_X3_setInvalid s m args below meth c H locs 0 0 Q (F0 m 0 ls []) from by rw [← eH]; exact goal9
  have hl : lv_has ls 1 [(0, .ref ax)] := hl
  have hi3 : ∀ w ∈ wsX30, w ∈ gW := inW_X3
  refine lv_aload_n hx hb dX3_setInvalid_0 rfl (lv_at hl 0 rfl) ?_
  refine lv_iconst (v := 1) hx hb dX3_setInvalid_1 (by decide) ?_
  obtain ⟨u1, eu1⟩ : ∃ y9 : Int32, y9 = F_X3_raise vrn (1 : Int32) := ⟨_, rfl⟩
  have hu := hu _ eu1
  refine x_V (As := [.int 1]) (rest := []) hCF (c_X3_raise l D cR cI cJ cZ t0 ax ar ao ad vrd vtr vsd vrn vom voh vol vop voe vow vok vos vso vmi vco vex (1 : Int32) u1 eu1) (x_cwV 1 hts (inW_6 _ (List.mem_of_getElem? (i := 23) rfl)) (inW_6 _ (List.mem_of_getElem? (i := 24) rfl)) (inW_6 _ (List.mem_of_getElem? (i := 25) rfl)) (inW_1 _ (List.mem_of_getElem? (i := 25) rfl)) (inW_6 _ (List.mem_of_getElem? (i := 26) rfl)) rfl rfl (by decide +kernel) ⟨Nat.le_of_ble_eq_true rfl, Nat.le_of_ble_eq_true rfl⟩) hK hP hD hS hA hSt 0 rfl rfl rfl hl.1 rfl (Nat.le_of_ble_eq_true rfl) dX3_setInvalid_2 ⟨Nat.le_of_ble_eq_true rfl, Nat.le_of_ble_eq_true rfl⟩ (fun H locs hP hD hS => ?_)
  show W p l e _ s m args below meth c H locs 0 0 Q (F0 m 5 ls [])
  refine lv_aload_n hx hb dX3_setInvalid_5 rfl (lv_at hl 0 rfl) ?_
  refine va_get (D := D) (ci := 4) (v := .ref (ad 8)) (C := RX3) (T := TX3) (N := 7) hx hb hts hi3 hown hK hP 0 rfl rfl 1 (by decide) (hts (.fieldLink RX3 16 "DecimalWords" "result" "LDecimalWords$Datum;") (inW_4 _ (List.mem_of_getElem? (i := 22) rfl))) (fun _ h9 => h9) rfl dX3_setInvalid_6 ?_
  obtain ⟨u3, eu3⟩ : ∃ y9 : (Nat → Int32) × (Nat → Bool) × (Nat → Int64) × (Nat → Int32), y9 = F_X0_setNothing vso vmi vco vex 8 := ⟨_, rfl⟩
  have hu := hu _ eu3
  refine x_V (As := []) (rest := []) hCF (c_X0_setNothing l D cR cI cJ cZ t0 ax ar ao ad vrd vtr vsd u1 vom voh vol vop voe vow vok vos vso vmi vco vex 8 u3 eu3 (by decide)) (x_cwV 0 hts (inW_5 _ (List.mem_of_getElem? (i := 38) rfl)) (inW_3 _ (List.mem_of_getElem? (i := 31) rfl)) (inW_3 _ (List.mem_of_getElem? (i := 32) rfl)) (inW_1 _ (List.mem_of_getElem? (i := 16) rfl)) (inW_1 _ (List.mem_of_getElem? (i := 9) rfl)) rfl rfl (by decide +kernel) ⟨Nat.le_of_ble_eq_true rfl, Nat.le_of_ble_eq_true rfl⟩) hK hP hD hS hA hSt (3 + 8) (xw_dat (by decide)) rfl rfl hl.1 rfl (Nat.le_of_ble_eq_true rfl) dX3_setInvalid_9 ⟨Nat.le_of_ble_eq_true rfl, Nat.le_of_ble_eq_true rfl⟩ (fun H locs hP hD hS => ?_)
  show W p l e _ s m args below meth c H locs 0 0 Q (F0 m 12 ls [])
  have e9 := Eq.symm hu; subst e9
  exact x_vret hx hb hr hlocks hQ hK hP hD hS rfl dX3_setInvalid_12

def Z_X3_addInfinity_J_12 (vso : Nat → Int32) (vmi : Nat → Bool) (i1 : Nat) (p2 : Bool) : Bool := (if vso i1 = 1 then vmi i1 else p2)
def RZ_X3_addInfinity_J_12 (vso : Nat → Int32) (vmi : Nat → Bool) (i1 : Nat) (p2 : Bool) (u9 : Bool) : Prop := (if vso i1 = 1 then u9 = vmi i1 else u9 = p2)
theorem rZ_X3_addInfinity_J_12 (vso : Nat → Int32) (vmi : Nat → Bool) (i1 : Nat) (p2 : Bool) {u9 : Bool} (hu : u9 = Z_X3_addInfinity_J_12 vso vmi i1 p2) : RZ_X3_addInfinity_J_12 vso vmi i1 p2 u9 := by
  unfold RZ_X3_addInfinity_J_12
  refine ite_P (fun c_9 => ?_) (fun c_9 => ?_)
  · have hu := hu.trans (if_pos c_9)
    exact hu
  · have hu := hu.trans (if_neg c_9)
    exact hu
def Z_X3_addInfinity_J_5 (vso : Nat → Int32) (vmi : Nat → Bool) (i1 : Nat) (p2 : Bool) : Bool := (if vso i1 = 1 then vmi i1 else p2)
def RZ_X3_addInfinity_J_5 (vso : Nat → Int32) (vmi : Nat → Bool) (i1 : Nat) (p2 : Bool) (u9 : Bool) : Prop := (if vso i1 = 1 then u9 = vmi i1 else u9 = p2)
theorem rZ_X3_addInfinity_J_5 (vso : Nat → Int32) (vmi : Nat → Bool) (i1 : Nat) (p2 : Bool) {u9 : Bool} (hu : u9 = Z_X3_addInfinity_J_5 vso vmi i1 p2) : RZ_X3_addInfinity_J_5 vso vmi i1 p2 u9 := by
  unfold RZ_X3_addInfinity_J_5
  refine ite_P (fun c_2 => ?_) (fun c_2 => ?_)
  · have hu := hu.trans (if_pos c_2)
    exact hu
  · have hu := hu.trans (if_neg c_2)
    exact hu
def F_X3_addInfinity (vrn : Int32) (vso : Nat → Int32) (vmi : Nat → Bool) (vco : Nat → Int64) (vex : Nat → Int32) (i1 : Nat) (i2 : Nat) (p2 : Bool) : Int32 × (Nat → Int32) × (Nat → Bool) × (Nat → Int64) × (Nat → Int32) := (if vso i1 = vso i2 then (if vmi i1 = p2 then (bnd (Z_X3_addInfinity_J_12 vso vmi i1 p2) (fun z11 : Bool => (bnd (F_X0_setInfinity vso vmi vco vex 8 z11) (fun u13 : (Nat → Int32) × (Nat → Bool) × (Nat → Int64) × (Nat → Int32) => (vrn, u13.1, u13.2.1, u13.2.2.1, u13.2.2.2))))) else (bnd (F_X3_setInvalid vrn vso vmi vco vex) (fun u15 : Int32 × (Nat → Int32) × (Nat → Bool) × (Nat → Int64) × (Nat → Int32) => (u15.1, u15.2.1, u15.2.2.1, u15.2.2.2.1, u15.2.2.2.2)))) else (bnd (Z_X3_addInfinity_J_5 vso vmi i1 p2) (fun z4 : Bool => (bnd (F_X0_setInfinity vso vmi vco vex 8 z4) (fun u6 : (Nat → Int32) × (Nat → Bool) × (Nat → Int64) × (Nat → Int32) => (vrn, u6.1, u6.2.1, u6.2.2.1, u6.2.2.2))))))
def RF_X3_addInfinity (vrn : Int32) (vso : Nat → Int32) (vmi : Nat → Bool) (vco : Nat → Int64) (vex : Nat → Int32) (i1 : Nat) (i2 : Nat) (p2 : Bool) (u9 : Int32 × (Nat → Int32) × (Nat → Bool) × (Nat → Int64) × (Nat → Int32)) : Prop := (if vso i1 = vso i2 then (if vmi i1 = p2 then (∀ z11 : Bool, z11 = Z_X3_addInfinity_J_12 vso vmi i1 p2 → (∀ u13 : (Nat → Int32) × (Nat → Bool) × (Nat → Int64) × (Nat → Int32), u13 = F_X0_setInfinity vso vmi vco vex 8 z11 → u9 = (vrn, u13.1, u13.2.1, u13.2.2.1, u13.2.2.2))) else (∀ u15 : Int32 × (Nat → Int32) × (Nat → Bool) × (Nat → Int64) × (Nat → Int32), u15 = F_X3_setInvalid vrn vso vmi vco vex → u9 = (u15.1, u15.2.1, u15.2.2.1, u15.2.2.2.1, u15.2.2.2.2))) else (∀ z4 : Bool, z4 = Z_X3_addInfinity_J_5 vso vmi i1 p2 → (∀ u6 : (Nat → Int32) × (Nat → Bool) × (Nat → Int64) × (Nat → Int32), u6 = F_X0_setInfinity vso vmi vco vex 8 z4 → u9 = (vrn, u6.1, u6.2.1, u6.2.2.1, u6.2.2.2))))
theorem rF_X3_addInfinity (vrn : Int32) (vso : Nat → Int32) (vmi : Nat → Bool) (vco : Nat → Int64) (vex : Nat → Int32) (i1 : Nat) (i2 : Nat) (p2 : Bool) {u9 : Int32 × (Nat → Int32) × (Nat → Bool) × (Nat → Int64) × (Nat → Int32)} (hu : u9 = F_X3_addInfinity vrn vso vmi vco vex i1 i2 p2) : RF_X3_addInfinity vrn vso vmi vco vex i1 i2 p2 u9 := by
  unfold RF_X3_addInfinity
  refine ite_P (fun c_1 => ?_) (fun c_1 => ?_)
  · have hu := hu.trans (if_pos c_1)
    refine ite_P (fun c_8 => ?_) (fun c_8 => ?_)
    · have hu := hu.trans (if_pos c_8)
      intro z11 ez11
      have hu := bnd_n hu ez11
      intro u13 eu13
      have hu := bnd_n hu eu13
      exact hu
    · have hu := hu.trans (if_neg c_8)
      intro u15 eu15
      have hu := bnd_n hu eu15
      exact hu
  · have hu := hu.trans (if_neg c_1)
    intro z4 ez4
    have hu := bnd_n hu ez4
    intro u6 eu6
    have hu := bnd_n hu eu6
    exact hu
def rm_X3_addInfinity : Room := { frames := 2, cells := 0, slots := 0, locals := 41 }
set_option maxHeartbeats 4000000 in
set_option maxRecDepth 100000 in
theorem c_X3_addInfinity (l : Launch) (D : va_G) (cR cI cJ cZ : ClassId) (t0 : Nat) (ax ar ao : Nat) (ad : Nat → Nat) (vrd : Int32) (vtr : Int32) (vsd : Int32) (vrn : Int32) (vom : Bool) (voh : Int64) (vol : Int64) (vop : Int32) (voe : Bool) (vow : Int32) (vok : Int64) (vos : Int32) (vso : Nat → Int32) (vmi : Nat → Bool) (vco : Nat → Int64) (vex : Nat → Int32) (i1 : Nat) (i2 : Nat) (p2 : Bool) (u : Int32 × (Nat → Int32) × (Nat → Bool) × (Nat → Int64) × (Nat → Int32)) (hu : u = F_X3_addInfinity vrn vso vmi vco vex i1 i2 p2) (hb1 : i1 < 9) (hb2 : i2 < 9) : XM l D (xty cR cI cJ cZ) t0 yX3_addInfinity cX3_addInfinity 4 none rm_X3_addInfinity [.ref ax, .ref (ad i1), .ref (ad i2), .int (bI p2)] none (xw cR ax ar ao ad vrd vtr vsd vrn vom voh vol vop voe vow vok vos vso vmi vco vex) (xw cR ax ar ao ad vrd vtr vsd u.1 vom voh vol vop voe vow vok vos u.2.1 u.2.2.1 u.2.2.2.1 u.2.2.2.2) := by
  refine XM.of (by decide) (Nat.le_of_ble_eq_true rfl) ?_
  intro p e s m args below meth c A Q F hK hP hD hA hSt hS hQ ls hl
  obtain ⟨hx, hb, hr, hts, hown, hlocks, hml⟩ := F
  have hCF : CallFix p m c cX3_addInfinity 4 s args gW RX3 := ⟨hx, hb, hml, hown, hts⟩
  have hu := rF_X3_addInfinity vrn vso vmi vco vex i1 i2 p2 hu
  unfold RF_X3_addInfinity at hu
  obtain ⟨H, eH⟩ : ∃ y9 : Heap, y9 = s.heap := ⟨_, rfl⟩
  obtain ⟨locs, eL⟩ : ∃ y9 : List Loc, y9 = [] := ⟨_, rfl⟩
  rw [← eL] at hS ⊢
  have hP : va_P D vwCl (xw cR ax ar ao ad vrd vtr vsd vrn vom voh vol vop voe vow vok vos vso vmi vco vex) H := by rw [eH]; exact hP
  have hS : va_S A s.heap H locs := by rw [eH]; exact hS
  suffices goal9 : W p l e rm_X3_addInfinity s m args below meth c H locs 0 0 Q (F0 m 0 ls []) from by rw [← eH]; exact goal9
  have hl : lv_has ls 4 [(0, .ref ax), (1, .ref (ad i1)), (2, .ref (ad i2)), (3, .int (bI p2))] := hl
  have hi0 : ∀ w ∈ wsX00, w ∈ gW := inW_X0
  have hi3 : ∀ w ∈ wsX30, w ∈ gW := inW_X3
  refine lv_aload_n hx hb dX3_addInfinity_0 rfl (lv_at hl 1 rfl) ?_
  refine g_so (i := i1) hx hb hts hi0 hown hK hP hb1 (hts (.fieldLink RX3 70 "DecimalWords$Datum" "sort" "I") (inW_5 _ (List.mem_of_getElem? (i := 13) rfl))) dX3_addInfinity_1 ?_
  refine lv_aload_n hx hb dX3_addInfinity_4 rfl (lv_at hl 2 rfl) ?_
  refine g_so (i := i2) hx hb hts hi0 hown hK hP hb2 (hts (.fieldLink RX3 70 "DecimalWords$Datum" "sort" "I") (inW_5 _ (List.mem_of_getElem? (i := 13) rfl))) dX3_addInfinity_5 ?_
  refine lv_icmp_ne (tgt := 26) hx hb dX3_addInfinity_8 (by decide) (fun c_1 => ?_) (fun c_1 => ?_)
  · rw [if_neg c_1] at hu
    refine lv_aload_n hx hb dX3_addInfinity_26 rfl (lv_at hl 0 rfl) ?_
    refine va_get (D := D) (ci := 4) (v := .ref (ad 8)) (C := RX3) (T := TX3) (N := 7) hx hb hts hi3 hown hK hP 0 rfl rfl 1 (by decide) (hts (.fieldLink RX3 16 "DecimalWords" "result" "LDecimalWords$Datum;") (inW_4 _ (List.mem_of_getElem? (i := 22) rfl))) (fun _ h9 => h9) rfl dX3_addInfinity_27 ?_
    refine lv_aload_n hx hb dX3_addInfinity_30 rfl (lv_at hl 1 rfl) ?_
    refine g_so (i := i1) hx hb hts hi0 hown hK hP hb1 (hts (.fieldLink RX3 70 "DecimalWords$Datum" "sort" "I") (inW_5 _ (List.mem_of_getElem? (i := 13) rfl))) dX3_addInfinity_31 ?_
    refine lv_iconst (v := 1) hx hb dX3_addInfinity_34 (by decide) ?_
    have J_5 : (∀ z4 : Bool, z4 = Z_X3_addInfinity_J_5 vso vmi i1 p2 → ∀ (H : Heap) (locs : List Loc), va_P D vwCl (xw cR ax ar ao ad vrd vtr vsd vrn vom voh vol vop voe vow vok vos vso vmi vco vex) H → va_D A (xw cR ax ar ao ad vrd vtr vsd vrn vom voh vol vop voe vow vok vos vso vmi vco vex) → va_S A s.heap H locs → ∀ ls : Array Slot, lv_has ls 4 [] → W p l e rm_X3_addInfinity s m args below meth c H locs 0 0 Q (F0 m 46 ls [.int (bI z4), .ref (ad 8)])) := by
      intro z4 ez4 H locs hP hD hS ls hl
      have hu := hu _ ez4
      obtain ⟨u6, eu6⟩ : ∃ y9 : (Nat → Int32) × (Nat → Bool) × (Nat → Int64) × (Nat → Int32), y9 = F_X0_setInfinity vso vmi vco vex 8 z4 := ⟨_, rfl⟩
      have hu := hu _ eu6
      refine x_V (As := [.int (bI z4)]) (rest := []) hCF (c_X0_setInfinity l D cR cI cJ cZ t0 ax ar ao ad vrd vtr vsd vrn vom voh vol vop voe vow vok vos vso vmi vco vex 8 z4 u6 eu6 (by decide)) (x_cwV 1 hts (inW_5 _ (List.mem_of_getElem? (i := 37) rfl)) (inW_3 _ (List.mem_of_getElem? (i := 28) rfl)) (inW_3 _ (List.mem_of_getElem? (i := 29) rfl)) (inW_1 _ (List.mem_of_getElem? (i := 16) rfl)) (inW_1 _ (List.mem_of_getElem? (i := 8) rfl)) rfl rfl (by decide +kernel) ⟨Nat.le_of_ble_eq_true rfl, Nat.le_of_ble_eq_true rfl⟩) hK hP hD hS hA hSt (3 + 8) (xw_dat (by decide)) rfl rfl hl.1 rfl (Nat.le_of_ble_eq_true rfl) dX3_addInfinity_46 ⟨Nat.le_of_ble_eq_true rfl, Nat.le_of_ble_eq_true rfl⟩ (fun H locs hP hD hS => ?_)
      show W p l e _ s m args below meth c H locs 0 0 Q (F0 m 49 ls [])
      have e9 := Eq.symm hu; subst e9
      exact x_vret hx hb hr hlocks hQ hK hP hD hS rfl dX3_addInfinity_49
    obtain ⟨z9, ez9⟩ : ∃ y9 : Bool, y9 = Z_X3_addInfinity_J_5 vso vmi i1 p2 := ⟨_, rfl⟩
    have hz := rZ_X3_addInfinity_J_5 vso vmi i1 p2 ez9
    unfold RZ_X3_addInfinity_J_5 at hz
    refine lv_icmp_ne (tgt := 45) hx hb dX3_addInfinity_35 (by decide) (fun c_2 => ?_) (fun c_2 => ?_)
    · rw [if_neg c_2] at hz
      refine lv_iload_n hx hb dX3_addInfinity_45 rfl (lv_at hl 3 rfl) ?_
      have e9 := Eq.symm hz; subst e9
      exact J_5 _ ez9 H locs hP hD hS ls (lv_sub hl [] rfl)
    · rw [if_pos c_2] at hz
      refine lv_aload_n hx hb dX3_addInfinity_38 rfl (lv_at hl 1 rfl) ?_
      refine g_mi (i := i1) hx hb hts hi0 hown hK hP hb1 (hts (.fieldLink RX3 77 "DecimalWords$Datum" "minus" "Z") (inW_5 _ (List.mem_of_getElem? (i := 18) rfl))) dX3_addInfinity_39 ?_
      refine lv_goto (tgt := 46) hx hb dX3_addInfinity_42 (by decide) ?_
      have e9 := Eq.symm hz; subst e9
      exact J_5 _ ez9 H locs hP hD hS ls (lv_sub hl [] rfl)
  · rw [if_pos c_1] at hu
    refine lv_aload_n hx hb dX3_addInfinity_11 rfl (lv_at hl 1 rfl) ?_
    refine g_mi (i := i1) hx hb hts hi0 hown hK hP hb1 (hts (.fieldLink RX3 77 "DecimalWords$Datum" "minus" "Z") (inW_5 _ (List.mem_of_getElem? (i := 18) rfl))) dX3_addInfinity_12 ?_
    refine lv_iload_n hx hb dX3_addInfinity_15 rfl (lv_at hl 3 rfl) ?_
    refine xbb_eq (tgt := 26) hx hb dX3_addInfinity_16 (by decide) (fun c_8 => ?_) (fun c_8 => ?_)
    · rw [if_pos c_8] at hu
      refine lv_aload_n hx hb dX3_addInfinity_26 rfl (lv_at hl 0 rfl) ?_
      refine va_get (D := D) (ci := 4) (v := .ref (ad 8)) (C := RX3) (T := TX3) (N := 7) hx hb hts hi3 hown hK hP 0 rfl rfl 1 (by decide) (hts (.fieldLink RX3 16 "DecimalWords" "result" "LDecimalWords$Datum;") (inW_4 _ (List.mem_of_getElem? (i := 22) rfl))) (fun _ h9 => h9) rfl dX3_addInfinity_27 ?_
      refine lv_aload_n hx hb dX3_addInfinity_30 rfl (lv_at hl 1 rfl) ?_
      refine g_so (i := i1) hx hb hts hi0 hown hK hP hb1 (hts (.fieldLink RX3 70 "DecimalWords$Datum" "sort" "I") (inW_5 _ (List.mem_of_getElem? (i := 13) rfl))) dX3_addInfinity_31 ?_
      refine lv_iconst (v := 1) hx hb dX3_addInfinity_34 (by decide) ?_
      have J_12 : (∀ z11 : Bool, z11 = Z_X3_addInfinity_J_12 vso vmi i1 p2 → ∀ (H : Heap) (locs : List Loc), va_P D vwCl (xw cR ax ar ao ad vrd vtr vsd vrn vom voh vol vop voe vow vok vos vso vmi vco vex) H → va_D A (xw cR ax ar ao ad vrd vtr vsd vrn vom voh vol vop voe vow vok vos vso vmi vco vex) → va_S A s.heap H locs → ∀ ls : Array Slot, lv_has ls 4 [] → W p l e rm_X3_addInfinity s m args below meth c H locs 0 0 Q (F0 m 46 ls [.int (bI z11), .ref (ad 8)])) := by
        intro z11 ez11 H locs hP hD hS ls hl
        have hu := hu _ ez11
        obtain ⟨u13, eu13⟩ : ∃ y9 : (Nat → Int32) × (Nat → Bool) × (Nat → Int64) × (Nat → Int32), y9 = F_X0_setInfinity vso vmi vco vex 8 z11 := ⟨_, rfl⟩
        have hu := hu _ eu13
        refine x_V (As := [.int (bI z11)]) (rest := []) hCF (c_X0_setInfinity l D cR cI cJ cZ t0 ax ar ao ad vrd vtr vsd vrn vom voh vol vop voe vow vok vos vso vmi vco vex 8 z11 u13 eu13 (by decide)) (x_cwV 1 hts (inW_5 _ (List.mem_of_getElem? (i := 37) rfl)) (inW_3 _ (List.mem_of_getElem? (i := 28) rfl)) (inW_3 _ (List.mem_of_getElem? (i := 29) rfl)) (inW_1 _ (List.mem_of_getElem? (i := 16) rfl)) (inW_1 _ (List.mem_of_getElem? (i := 8) rfl)) rfl rfl (by decide +kernel) ⟨Nat.le_of_ble_eq_true rfl, Nat.le_of_ble_eq_true rfl⟩) hK hP hD hS hA hSt (3 + 8) (xw_dat (by decide)) rfl rfl hl.1 rfl (Nat.le_of_ble_eq_true rfl) dX3_addInfinity_46 ⟨Nat.le_of_ble_eq_true rfl, Nat.le_of_ble_eq_true rfl⟩ (fun H locs hP hD hS => ?_)
        show W p l e _ s m args below meth c H locs 0 0 Q (F0 m 49 ls [])
        have e9 := Eq.symm hu; subst e9
        exact x_vret hx hb hr hlocks hQ hK hP hD hS rfl dX3_addInfinity_49
      obtain ⟨z9, ez9⟩ : ∃ y9 : Bool, y9 = Z_X3_addInfinity_J_12 vso vmi i1 p2 := ⟨_, rfl⟩
      have hz := rZ_X3_addInfinity_J_12 vso vmi i1 p2 ez9
      unfold RZ_X3_addInfinity_J_12 at hz
      refine lv_icmp_ne (tgt := 45) hx hb dX3_addInfinity_35 (by decide) (fun c_9 => ?_) (fun c_9 => ?_)
      · rw [if_neg c_9] at hz
        refine lv_iload_n hx hb dX3_addInfinity_45 rfl (lv_at hl 3 rfl) ?_
        have e9 := Eq.symm hz; subst e9
        exact J_12 _ ez9 H locs hP hD hS ls (lv_sub hl [] rfl)
      · rw [if_pos c_9] at hz
        refine lv_aload_n hx hb dX3_addInfinity_38 rfl (lv_at hl 1 rfl) ?_
        refine g_mi (i := i1) hx hb hts hi0 hown hK hP hb1 (hts (.fieldLink RX3 77 "DecimalWords$Datum" "minus" "Z") (inW_5 _ (List.mem_of_getElem? (i := 18) rfl))) dX3_addInfinity_39 ?_
        refine lv_goto (tgt := 46) hx hb dX3_addInfinity_42 (by decide) ?_
        have e9 := Eq.symm hz; subst e9
        exact J_12 _ ez9 H locs hP hD hS ls (lv_sub hl [] rfl)
    · rw [if_neg c_8] at hu
      refine lv_aload_n hx hb dX3_addInfinity_19 rfl (lv_at hl 0 rfl) ?_
      obtain ⟨u15, eu15⟩ : ∃ y9 : Int32 × (Nat → Int32) × (Nat → Bool) × (Nat → Int64) × (Nat → Int32), y9 = F_X3_setInvalid vrn vso vmi vco vex := ⟨_, rfl⟩
      have hu := hu _ eu15
      refine x_V (As := []) (rest := []) hCF (c_X3_setInvalid l D cR cI cJ cZ t0 ax ar ao ad vrd vtr vsd vrn vom voh vol vop voe vow vok vos vso vmi vco vex u15 eu15) (x_cwV 0 hts (inW_6 _ (List.mem_of_getElem? (i := 19) rfl)) (inW_6 _ (List.mem_of_getElem? (i := 20) rfl)) (inW_6 _ (List.mem_of_getElem? (i := 21) rfl)) (inW_1 _ (List.mem_of_getElem? (i := 25) rfl)) (inW_6 _ (List.mem_of_getElem? (i := 22) rfl)) rfl rfl (by decide +kernel) ⟨Nat.le_of_ble_eq_true rfl, Nat.le_of_ble_eq_true rfl⟩) hK hP hD hS hA hSt 0 rfl rfl rfl hl.1 rfl (Nat.le_of_ble_eq_true rfl) dX3_addInfinity_20 ⟨Nat.le_of_ble_eq_true rfl, Nat.le_of_ble_eq_true rfl⟩ (fun H locs hP hD hS => ?_)
      show W p l e _ s m args below meth c H locs 0 0 Q (F0 m 23 ls [])
      refine lv_goto (tgt := 49) hx hb dX3_addInfinity_23 (by decide) ?_
      have e9 := Eq.symm hu; subst e9
      exact x_vret hx hb hr hlocks hQ hK hP hD hS rfl dX3_addInfinity_49

def Z_X3_setFromInfinity_J_19 (vmi : Nat → Bool) (i3 : Nat) : Bool := (if vmi i3 = true then false else true)
def RZ_X3_setFromInfinity_J_19 (vmi : Nat → Bool) (i3 : Nat) (u9 : Bool) : Prop := (if vmi i3 = true then u9 = false else u9 = true)
theorem rZ_X3_setFromInfinity_J_19 (vmi : Nat → Bool) (i3 : Nat) {u9 : Bool} (hu : u9 = Z_X3_setFromInfinity_J_19 vmi i3) : RZ_X3_setFromInfinity_J_19 vmi i3 u9 := by
  unfold RZ_X3_setFromInfinity_J_19
  refine ite_P (fun c_16 => ?_) (fun c_16 => ?_)
  · have hu := hu.trans (if_pos c_16)
    exact hu
  · have hu := hu.trans (if_neg c_16)
    exact hu
def Z_X3_setFromInfinity_J_8 (vso : Nat → Int32) (i2 : Nat) (i3 : Nat) : Bool := (if vso i2 = vso i3 then true else false)
def RZ_X3_setFromInfinity_J_8 (vso : Nat → Int32) (i2 : Nat) (i3 : Nat) (u9 : Bool) : Prop := (if vso i2 = vso i3 then u9 = true else u9 = false)
theorem rZ_X3_setFromInfinity_J_8 (vso : Nat → Int32) (i2 : Nat) (i3 : Nat) {u9 : Bool} (hu : u9 = Z_X3_setFromInfinity_J_8 vso i2 i3) : RZ_X3_setFromInfinity_J_8 vso i2 i3 u9 := by
  unfold RZ_X3_setFromInfinity_J_8
  refine ite_P (fun c_5 => ?_) (fun c_5 => ?_)
  · have hu := hu.trans (if_pos c_5)
    exact hu
  · have hu := hu.trans (if_neg c_5)
    exact hu
def Z_X3_setFromInfinity_J_4 (vmi : Nat → Bool) (i2 : Nat) (i3 : Nat) : Bool := (if vmi i2 = vmi i3 then false else true)
def RZ_X3_setFromInfinity_J_4 (vmi : Nat → Bool) (i2 : Nat) (i3 : Nat) (u9 : Bool) : Prop := (if vmi i2 = vmi i3 then u9 = false else u9 = true)
theorem rZ_X3_setFromInfinity_J_4 (vmi : Nat → Bool) (i2 : Nat) (i3 : Nat) {u9 : Bool} (hu : u9 = Z_X3_setFromInfinity_J_4 vmi i2 i3) : RZ_X3_setFromInfinity_J_4 vmi i2 i3 u9 := by
  unfold RZ_X3_setFromInfinity_J_4
  refine ite_P (fun c_1 => ?_) (fun c_1 => ?_)
  · have hu := hu.trans (if_pos c_1)
    exact hu
  · have hu := hu.trans (if_neg c_1)
    exact hu
def F_X3_setFromInfinity (vrn : Int32) (vso : Nat → Int32) (vmi : Nat → Bool) (vco : Nat → Int64) (vex : Nat → Int32) (p0 : Int32) (i2 : Nat) (i3 : Nat) : Int32 × (Nat → Int32) × (Nat → Bool) × (Nat → Int64) × (Nat → Int32) := (bnd (Z_X3_setFromInfinity_J_4 vmi i2 i3) (fun z3 : Bool => (bnd (Z_X3_setFromInfinity_J_8 vso i2 i3) (fun z7 : Bool => (if p0 = 0 then (bnd (F_X3_addInfinity vrn vso vmi vco vex i2 i3 (vmi i3)) (fun u14 : Int32 × (Nat → Int32) × (Nat → Bool) × (Nat → Int64) × (Nat → Int32) => (u14.1, u14.2.1, u14.2.2.1, u14.2.2.2.1, u14.2.2.2.2))) else (if p0 = 1 then (bnd (Z_X3_setFromInfinity_J_19 vmi i3) (fun z18 : Bool => (bnd (F_X3_addInfinity vrn vso vmi vco vex i2 i3 z18) (fun u20 : Int32 × (Nat → Int32) × (Nat → Bool) × (Nat → Int64) × (Nat → Int32) => (u20.1, u20.2.1, u20.2.2.1, u20.2.2.2.1, u20.2.2.2.2))))) else (if p0 = 2 then (if F_X0_isZero vso vco i2 = true then (bnd (F_X3_setInvalid vrn vso vmi vco vex) (fun u24 : Int32 × (Nat → Int32) × (Nat → Bool) × (Nat → Int64) × (Nat → Int32) => (u24.1, u24.2.1, u24.2.2.1, u24.2.2.2.1, u24.2.2.2.2))) else (if F_X0_isZero vso vco i3 = true then (bnd (F_X3_setInvalid vrn vso vmi vco vex) (fun u30 : Int32 × (Nat → Int32) × (Nat → Bool) × (Nat → Int64) × (Nat → Int32) => (u30.1, u30.2.1, u30.2.2.1, u30.2.2.2.1, u30.2.2.2.2))) else (bnd (F_X0_setInfinity vso vmi vco vex 8 z3) (fun u28 : (Nat → Int32) × (Nat → Bool) × (Nat → Int64) × (Nat → Int32) => (vrn, u28.1, u28.2.1, u28.2.2.1, u28.2.2.2))))) else (if p0 = 3 then (if z7 = true then (bnd (F_X3_setInvalid vrn vso vmi vco vex) (fun u38 : Int32 × (Nat → Int32) × (Nat → Bool) × (Nat → Int64) × (Nat → Int32) => (u38.1, u38.2.1, u38.2.2.1, u38.2.2.2.1, u38.2.2.2.2))) else (if vso i2 = 1 then (bnd (F_X0_setInfinity vso vmi vco vex 8 z3) (fun u36 : (Nat → Int32) × (Nat → Bool) × (Nat → Int64) × (Nat → Int32) => (vrn, u36.1, u36.2.1, u36.2.2.1, u36.2.2.2))) else (bnd (F_X0_setFinite vso vmi vco vex 8 z3 (0 : Int64) (-398 : Int32)) (fun u34 : (Nat → Int32) × (Nat → Bool) × (Nat → Int64) × (Nat → Int32) => (vrn, u34.1, u34.2.1, u34.2.2.1, u34.2.2.2))))) else (if p0 = 4 then (if z7 = true then (bnd (F_X0_take vso vmi vco vex 8 i2) (fun u43 : (Nat → Int32) × (Nat → Bool) × (Nat → Int64) × (Nat → Int32) => (vrn, u43.1, u43.2.1, u43.2.2.1, u43.2.2.2))) else (bnd (F_X3_setInvalid vrn vso vmi vco vex) (fun u41 : Int32 × (Nat → Int32) × (Nat → Bool) × (Nat → Int64) × (Nat → Int32) => (u41.1, u41.2.1, u41.2.2.1, u41.2.2.2.1, u41.2.2.2.2)))) else (if z7 = true then (bnd (F_X0_take vso vmi vco vex 8 i2) (fun u48 : (Nat → Int32) × (Nat → Bool) × (Nat → Int64) × (Nat → Int32) => (vrn, u48.1, u48.2.1, u48.2.2.1, u48.2.2.2))) else (bnd (F_X3_setInvalid vrn vso vmi vco vex) (fun u46 : Int32 × (Nat → Int32) × (Nat → Bool) × (Nat → Int64) × (Nat → Int32) => (u46.1, u46.2.1, u46.2.2.1, u46.2.2.2.1, u46.2.2.2.2)))))))))))))
def RF_X3_setFromInfinity (vrn : Int32) (vso : Nat → Int32) (vmi : Nat → Bool) (vco : Nat → Int64) (vex : Nat → Int32) (p0 : Int32) (i2 : Nat) (i3 : Nat) (u9 : Int32 × (Nat → Int32) × (Nat → Bool) × (Nat → Int64) × (Nat → Int32)) : Prop := (∀ z3 : Bool, z3 = Z_X3_setFromInfinity_J_4 vmi i2 i3 → (∀ z7 : Bool, z7 = Z_X3_setFromInfinity_J_8 vso i2 i3 → (if p0 = 0 then (∀ u14 : Int32 × (Nat → Int32) × (Nat → Bool) × (Nat → Int64) × (Nat → Int32), u14 = F_X3_addInfinity vrn vso vmi vco vex i2 i3 (vmi i3) → u9 = (u14.1, u14.2.1, u14.2.2.1, u14.2.2.2.1, u14.2.2.2.2)) else (if p0 = 1 then (∀ z18 : Bool, z18 = Z_X3_setFromInfinity_J_19 vmi i3 → (∀ u20 : Int32 × (Nat → Int32) × (Nat → Bool) × (Nat → Int64) × (Nat → Int32), u20 = F_X3_addInfinity vrn vso vmi vco vex i2 i3 z18 → u9 = (u20.1, u20.2.1, u20.2.2.1, u20.2.2.2.1, u20.2.2.2.2))) else (if p0 = 2 then (if F_X0_isZero vso vco i2 = true then (∀ u24 : Int32 × (Nat → Int32) × (Nat → Bool) × (Nat → Int64) × (Nat → Int32), u24 = F_X3_setInvalid vrn vso vmi vco vex → u9 = (u24.1, u24.2.1, u24.2.2.1, u24.2.2.2.1, u24.2.2.2.2)) else (if F_X0_isZero vso vco i3 = true then (∀ u30 : Int32 × (Nat → Int32) × (Nat → Bool) × (Nat → Int64) × (Nat → Int32), u30 = F_X3_setInvalid vrn vso vmi vco vex → u9 = (u30.1, u30.2.1, u30.2.2.1, u30.2.2.2.1, u30.2.2.2.2)) else (∀ u28 : (Nat → Int32) × (Nat → Bool) × (Nat → Int64) × (Nat → Int32), u28 = F_X0_setInfinity vso vmi vco vex 8 z3 → u9 = (vrn, u28.1, u28.2.1, u28.2.2.1, u28.2.2.2)))) else (if p0 = 3 then (if z7 = true then (∀ u38 : Int32 × (Nat → Int32) × (Nat → Bool) × (Nat → Int64) × (Nat → Int32), u38 = F_X3_setInvalid vrn vso vmi vco vex → u9 = (u38.1, u38.2.1, u38.2.2.1, u38.2.2.2.1, u38.2.2.2.2)) else (if vso i2 = 1 then (∀ u36 : (Nat → Int32) × (Nat → Bool) × (Nat → Int64) × (Nat → Int32), u36 = F_X0_setInfinity vso vmi vco vex 8 z3 → u9 = (vrn, u36.1, u36.2.1, u36.2.2.1, u36.2.2.2)) else (∀ u34 : (Nat → Int32) × (Nat → Bool) × (Nat → Int64) × (Nat → Int32), u34 = F_X0_setFinite vso vmi vco vex 8 z3 (0 : Int64) (-398 : Int32) → u9 = (vrn, u34.1, u34.2.1, u34.2.2.1, u34.2.2.2)))) else (if p0 = 4 then (if z7 = true then (∀ u43 : (Nat → Int32) × (Nat → Bool) × (Nat → Int64) × (Nat → Int32), u43 = F_X0_take vso vmi vco vex 8 i2 → u9 = (vrn, u43.1, u43.2.1, u43.2.2.1, u43.2.2.2)) else (∀ u41 : Int32 × (Nat → Int32) × (Nat → Bool) × (Nat → Int64) × (Nat → Int32), u41 = F_X3_setInvalid vrn vso vmi vco vex → u9 = (u41.1, u41.2.1, u41.2.2.1, u41.2.2.2.1, u41.2.2.2.2))) else (if z7 = true then (∀ u48 : (Nat → Int32) × (Nat → Bool) × (Nat → Int64) × (Nat → Int32), u48 = F_X0_take vso vmi vco vex 8 i2 → u9 = (vrn, u48.1, u48.2.1, u48.2.2.1, u48.2.2.2)) else (∀ u46 : Int32 × (Nat → Int32) × (Nat → Bool) × (Nat → Int64) × (Nat → Int32), u46 = F_X3_setInvalid vrn vso vmi vco vex → u9 = (u46.1, u46.2.1, u46.2.2.1, u46.2.2.2.1, u46.2.2.2.2))))))))))
theorem rF_X3_setFromInfinity (vrn : Int32) (vso : Nat → Int32) (vmi : Nat → Bool) (vco : Nat → Int64) (vex : Nat → Int32) (p0 : Int32) (i2 : Nat) (i3 : Nat) {u9 : Int32 × (Nat → Int32) × (Nat → Bool) × (Nat → Int64) × (Nat → Int32)} (hu : u9 = F_X3_setFromInfinity vrn vso vmi vco vex p0 i2 i3) : RF_X3_setFromInfinity vrn vso vmi vco vex p0 i2 i3 u9 := by
  unfold RF_X3_setFromInfinity
  intro z3 ez3
  have hu := bnd_n hu ez3
  intro z7 ez7
  have hu := bnd_n hu ez7
  refine ite_P (fun c_9 => ?_) (fun c_9 => ?_)
  · have hu := hu.trans (if_pos c_9)
    intro u14 eu14
    have hu := bnd_n hu eu14
    exact hu
  have hu := hu.trans (if_neg c_9)
  refine ite_P (fun c_10 => ?_) (fun c_10 => ?_)
  · have hu := hu.trans (if_pos c_10)
    intro z18 ez18
    have hu := bnd_n hu ez18
    intro u20 eu20
    have hu := bnd_n hu eu20
    exact hu
  have hu := hu.trans (if_neg c_10)
  refine ite_P (fun c_11 => ?_) (fun c_11 => ?_)
  · have hu := hu.trans (if_pos c_11)
    refine ite_P (fun c_23 => ?_) (fun c_23 => ?_)
    · have hu := hu.trans (if_pos c_23)
      intro u24 eu24
      have hu := bnd_n hu eu24
      exact hu
    · have hu := hu.trans (if_neg c_23)
      refine ite_P (fun c_27 => ?_) (fun c_27 => ?_)
      · have hu := hu.trans (if_pos c_27)
        intro u30 eu30
        have hu := bnd_n hu eu30
        exact hu
      · have hu := hu.trans (if_neg c_27)
        intro u28 eu28
        have hu := bnd_n hu eu28
        exact hu
  have hu := hu.trans (if_neg c_11)
  refine ite_P (fun c_12 => ?_) (fun c_12 => ?_)
  · have hu := hu.trans (if_pos c_12)
    refine ite_P (fun c_32 => ?_) (fun c_32 => ?_)
    · have hu := hu.trans (if_pos c_32)
      intro u38 eu38
      have hu := bnd_n hu eu38
      exact hu
    · have hu := hu.trans (if_neg c_32)
      refine ite_P (fun c_33 => ?_) (fun c_33 => ?_)
      · have hu := hu.trans (if_pos c_33)
        intro u36 eu36
        have hu := bnd_n hu eu36
        exact hu
      · have hu := hu.trans (if_neg c_33)
        intro u34 eu34
        have hu := bnd_n hu eu34
        exact hu
  have hu := hu.trans (if_neg c_12)
  refine ite_P (fun c_13 => ?_) (fun c_13 => ?_)
  · have hu := hu.trans (if_pos c_13)
    refine ite_P (fun c_40 => ?_) (fun c_40 => ?_)
    · have hu := hu.trans (if_pos c_40)
      intro u43 eu43
      have hu := bnd_n hu eu43
      exact hu
    · have hu := hu.trans (if_neg c_40)
      intro u41 eu41
      have hu := bnd_n hu eu41
      exact hu
  have hu := hu.trans (if_neg c_13)
  refine ite_P (fun c_45 => ?_) (fun c_45 => ?_)
  · have hu := hu.trans (if_pos c_45)
    intro u48 eu48
    have hu := bnd_n hu eu48
    exact hu
  · have hu := hu.trans (if_neg c_45)
    intro u46 eu46
    have hu := bnd_n hu eu46
    exact hu
def rm_X3_setFromInfinity : Room := { frames := 3, cells := 0, slots := 0, locals := 64 }
set_option maxHeartbeats 4000000 in
set_option maxRecDepth 100000 in
theorem c_X3_setFromInfinity (l : Launch) (D : va_G) (cR cI cJ cZ : ClassId) (t0 : Nat) (ax ar ao : Nat) (ad : Nat → Nat) (vrd : Int32) (vtr : Int32) (vsd : Int32) (vrn : Int32) (vom : Bool) (voh : Int64) (vol : Int64) (vop : Int32) (voe : Bool) (vow : Int32) (vok : Int64) (vos : Int32) (vso : Nat → Int32) (vmi : Nat → Bool) (vco : Nat → Int64) (vex : Nat → Int32) (p0 : Int32) (i2 : Nat) (i3 : Nat) (u : Int32 × (Nat → Int32) × (Nat → Bool) × (Nat → Int64) × (Nat → Int32)) (hu : u = F_X3_setFromInfinity vrn vso vmi vco vex p0 i2 i3) (hb2 : i2 < 9) (hb3 : i3 < 9) : XM l D (xty cR cI cJ cZ) t0 yX3_setFromInfinity cX3_setFromInfinity 6 none rm_X3_setFromInfinity [.ref ax, .int p0, .ref (ad i2), .ref (ad i3)] none (xw cR ax ar ao ad vrd vtr vsd vrn vom voh vol vop voe vow vok vos vso vmi vco vex) (xw cR ax ar ao ad vrd vtr vsd u.1 vom voh vol vop voe vow vok vos u.2.1 u.2.2.1 u.2.2.2.1 u.2.2.2.2) := by
  refine XM.of (by decide) (Nat.le_of_ble_eq_true rfl) ?_
  intro p e s m args below meth c A Q F hK hP hD hA hSt hS hQ ls hl
  obtain ⟨hx, hb, hr, hts, hown, hlocks, hml⟩ := F
  have hCF : CallFix p m c cX3_setFromInfinity 6 s args gW RX3 := ⟨hx, hb, hml, hown, hts⟩
  have hu := rF_X3_setFromInfinity vrn vso vmi vco vex p0 i2 i3 hu
  unfold RF_X3_setFromInfinity at hu
  obtain ⟨H, eH⟩ : ∃ y9 : Heap, y9 = s.heap := ⟨_, rfl⟩
  obtain ⟨locs, eL⟩ : ∃ y9 : List Loc, y9 = [] := ⟨_, rfl⟩
  rw [← eL] at hS ⊢
  have hP : va_P D vwCl (xw cR ax ar ao ad vrd vtr vsd vrn vom voh vol vop voe vow vok vos vso vmi vco vex) H := by rw [eH]; exact hP
  have hS : va_S A s.heap H locs := by rw [eH]; exact hS
  suffices goal9 : W p l e rm_X3_setFromInfinity s m args below meth c H locs 0 0 Q (F0 m 0 ls []) from by rw [← eH]; exact goal9
  have hl : lv_has ls 6 [(0, .ref ax), (1, .int p0), (2, .ref (ad i2)), (3, .ref (ad i3))] := hl
  have hi0 : ∀ w ∈ wsX00, w ∈ gW := inW_X0
  have hi3 : ∀ w ∈ wsX30, w ∈ gW := inW_X3
  refine lv_aload_n hx hb dX3_setFromInfinity_0 rfl (lv_at hl 2 rfl) ?_
  refine g_mi (i := i2) hx hb hts hi0 hown hK hP hb2 (hts (.fieldLink RX3 77 "DecimalWords$Datum" "minus" "Z") (inW_5 _ (List.mem_of_getElem? (i := 18) rfl))) dX3_setFromInfinity_1 ?_
  refine lv_aload_n hx hb dX3_setFromInfinity_4 rfl (lv_at hl 3 rfl) ?_
  refine g_mi (i := i3) hx hb hts hi0 hown hK hP hb3 (hts (.fieldLink RX3 77 "DecimalWords$Datum" "minus" "Z") (inW_5 _ (List.mem_of_getElem? (i := 18) rfl))) dX3_setFromInfinity_5 ?_
  have J_4 : (∀ z3 : Bool, z3 = Z_X3_setFromInfinity_J_4 vmi i2 i3 → ∀ (H : Heap) (locs : List Loc), va_P D vwCl (xw cR ax ar ao ad vrd vtr vsd vrn vom voh vol vop voe vow vok vos vso vmi vco vex) H → va_D A (xw cR ax ar ao ad vrd vtr vsd vrn vom voh vol vop voe vow vok vos vso vmi vco vex) → va_S A s.heap H locs → ∀ ls : Array Slot, lv_has ls 6 [(0, .ref ax), (1, .int p0), (2, .ref (ad i2)), (3, .ref (ad i3))] → W p l e rm_X3_setFromInfinity s m args below meth c H locs 0 0 Q (F0 m 16 ls [.int (bI z3)])) := by
    intro z3 ez3 H locs hP hD hS ls hl
    have hu := hu _ ez3
    refine lv_istore (lv' := [(4, .int (bI z3)), (0, .ref ax), (1, .int p0), (2, .ref (ad i2)), (3, .ref (ad i3))]) hx hb dX3_setFromInfinity_16 hl (by decide) rfl (fun ls hl => ?_)
    refine lv_aload_n hx hb dX3_setFromInfinity_18 rfl (lv_at hl 3 rfl) ?_
    refine g_so (i := i2) hx hb hts hi0 hown hK hP hb2 (hts (.fieldLink RX3 70 "DecimalWords$Datum" "sort" "I") (inW_5 _ (List.mem_of_getElem? (i := 13) rfl))) dX3_setFromInfinity_19 ?_
    refine lv_aload_n hx hb dX3_setFromInfinity_22 rfl (lv_at hl 4 rfl) ?_
    refine g_so (i := i3) hx hb hts hi0 hown hK hP hb3 (hts (.fieldLink RX3 70 "DecimalWords$Datum" "sort" "I") (inW_5 _ (List.mem_of_getElem? (i := 13) rfl))) dX3_setFromInfinity_23 ?_
    have J_8 : (∀ z7 : Bool, z7 = Z_X3_setFromInfinity_J_8 vso i2 i3 → ∀ (H : Heap) (locs : List Loc), va_P D vwCl (xw cR ax ar ao ad vrd vtr vsd vrn vom voh vol vop voe vow vok vos vso vmi vco vex) H → va_D A (xw cR ax ar ao ad vrd vtr vsd vrn vom voh vol vop voe vow vok vos vso vmi vco vex) → va_S A s.heap H locs → ∀ ls : Array Slot, lv_has ls 6 [(0, .ref ax), (1, .int p0), (2, .ref (ad i2)), (3, .ref (ad i3)), (4, .int (bI z3))] → W p l e rm_X3_setFromInfinity s m args below meth c H locs 0 0 Q (F0 m 34 ls [.int (bI z7)])) := by
      intro z7 ez7 H locs hP hD hS ls hl
      have hu := hu _ ez7
      refine lv_istore (lv' := [(5, .int (bI z7)), (0, .ref ax), (1, .int p0), (2, .ref (ad i2)), (3, .ref (ad i3)), (4, .int (bI z3))]) hx hb dX3_setFromInfinity_34 hl (by decide) rfl (fun ls hl => ?_)
      refine lv_iload_n hx hb dX3_setFromInfinity_36 rfl (lv_at hl 2 rfl) ?_
      by_cases c_9 : p0 = 0
      · rw [if_pos c_9] at hu
        refine lv_tableIn (tgt := 72) hx hb dX3_setFromInfinity_37 (by rw [c_9]; decide) (by rw [c_9]; decide) (by rw [c_9]; rfl) (by decide) ?_
        refine lv_aload_n hx hb dX3_setFromInfinity_72 rfl (lv_at hl 1 rfl) ?_
        refine lv_aload_n hx hb dX3_setFromInfinity_73 rfl (lv_at hl 3 rfl) ?_
        refine lv_aload_n hx hb dX3_setFromInfinity_74 rfl (lv_at hl 4 rfl) ?_
        refine lv_aload_n hx hb dX3_setFromInfinity_75 rfl (lv_at hl 4 rfl) ?_
        refine g_mi (i := i3) hx hb hts hi0 hown hK hP hb3 (hts (.fieldLink RX3 77 "DecimalWords$Datum" "minus" "Z") (inW_5 _ (List.mem_of_getElem? (i := 18) rfl))) dX3_setFromInfinity_76 ?_
        obtain ⟨u14, eu14⟩ : ∃ y9 : Int32 × (Nat → Int32) × (Nat → Bool) × (Nat → Int64) × (Nat → Int32), y9 = F_X3_addInfinity vrn vso vmi vco vex i2 i3 (vmi i3) := ⟨_, rfl⟩
        have hu := hu _ eu14
        refine x_V (As := [.ref (ad i2), .ref (ad i3), .int (bI (vmi i3))]) (rest := []) hCF (c_X3_addInfinity l D cR cI cJ cZ t0 ax ar ao ad vrd vtr vsd vrn vom voh vol vop voe vow vok vos vso vmi vco vex i2 i3 (vmi i3) u14 eu14 hb2 hb3) (x_cwV 3 hts (inW_6 _ (List.mem_of_getElem? (i := 15) rfl)) (inW_6 _ (List.mem_of_getElem? (i := 16) rfl)) (inW_6 _ (List.mem_of_getElem? (i := 17) rfl)) (inW_1 _ (List.mem_of_getElem? (i := 25) rfl)) (inW_6 _ (List.mem_of_getElem? (i := 18) rfl)) rfl rfl (by decide +kernel) ⟨Nat.le_of_ble_eq_true rfl, Nat.le_of_ble_eq_true rfl⟩) hK hP hD hS hA hSt 0 rfl rfl rfl hl.1 rfl (Nat.le_of_ble_eq_true rfl) dX3_setFromInfinity_79 ⟨Nat.le_of_ble_eq_true rfl, Nat.le_of_ble_eq_true rfl⟩ (fun H locs hP hD hS => ?_)
        show W p l e _ s m args below meth c H locs 0 0 Q (F0 m 82 ls [])
        refine lv_goto (tgt := 207) hx hb dX3_setFromInfinity_82 (by decide) ?_
        have e9 := Eq.symm hu; subst e9
        exact x_vret hx hb hr hlocks hQ hK hP hD hS rfl dX3_setFromInfinity_207
      rw [if_neg c_9] at hu
      by_cases c_10 : p0 = 1
      · rw [if_pos c_10] at hu
        refine lv_tableIn (tgt := 85) hx hb dX3_setFromInfinity_37 (by rw [c_10]; decide) (by rw [c_10]; decide) (by rw [c_10]; rfl) (by decide) ?_
        refine lv_aload_n hx hb dX3_setFromInfinity_85 rfl (lv_at hl 1 rfl) ?_
        refine lv_aload_n hx hb dX3_setFromInfinity_86 rfl (lv_at hl 3 rfl) ?_
        refine lv_aload_n hx hb dX3_setFromInfinity_87 rfl (lv_at hl 4 rfl) ?_
        refine lv_aload_n hx hb dX3_setFromInfinity_88 rfl (lv_at hl 4 rfl) ?_
        refine g_mi (i := i3) hx hb hts hi0 hown hK hP hb3 (hts (.fieldLink RX3 77 "DecimalWords$Datum" "minus" "Z") (inW_5 _ (List.mem_of_getElem? (i := 18) rfl))) dX3_setFromInfinity_89 ?_
        have J_19 : (∀ z18 : Bool, z18 = Z_X3_setFromInfinity_J_19 vmi i3 → ∀ (H : Heap) (locs : List Loc), va_P D vwCl (xw cR ax ar ao ad vrd vtr vsd vrn vom voh vol vop voe vow vok vos vso vmi vco vex) H → va_D A (xw cR ax ar ao ad vrd vtr vsd vrn vom voh vol vop voe vow vok vos vso vmi vco vex) → va_S A s.heap H locs → ∀ ls : Array Slot, lv_has ls 6 [] → W p l e rm_X3_setFromInfinity s m args below meth c H locs 0 0 Q (F0 m 100 ls [.int (bI z18), .ref (ad i3), .ref (ad i2), .ref ax])) := by
          intro z18 ez18 H locs hP hD hS ls hl
          have hu := hu _ ez18
          obtain ⟨u20, eu20⟩ : ∃ y9 : Int32 × (Nat → Int32) × (Nat → Bool) × (Nat → Int64) × (Nat → Int32), y9 = F_X3_addInfinity vrn vso vmi vco vex i2 i3 z18 := ⟨_, rfl⟩
          have hu := hu _ eu20
          refine x_V (As := [.ref (ad i2), .ref (ad i3), .int (bI z18)]) (rest := []) hCF (c_X3_addInfinity l D cR cI cJ cZ t0 ax ar ao ad vrd vtr vsd vrn vom voh vol vop voe vow vok vos vso vmi vco vex i2 i3 z18 u20 eu20 hb2 hb3) (x_cwV 3 hts (inW_6 _ (List.mem_of_getElem? (i := 15) rfl)) (inW_6 _ (List.mem_of_getElem? (i := 16) rfl)) (inW_6 _ (List.mem_of_getElem? (i := 17) rfl)) (inW_1 _ (List.mem_of_getElem? (i := 25) rfl)) (inW_6 _ (List.mem_of_getElem? (i := 18) rfl)) rfl rfl (by decide +kernel) ⟨Nat.le_of_ble_eq_true rfl, Nat.le_of_ble_eq_true rfl⟩) hK hP hD hS hA hSt 0 rfl rfl rfl hl.1 rfl (Nat.le_of_ble_eq_true rfl) dX3_setFromInfinity_100 ⟨Nat.le_of_ble_eq_true rfl, Nat.le_of_ble_eq_true rfl⟩ (fun H locs hP hD hS => ?_)
          show W p l e _ s m args below meth c H locs 0 0 Q (F0 m 103 ls [])
          refine lv_goto (tgt := 207) hx hb dX3_setFromInfinity_103 (by decide) ?_
          have e9 := Eq.symm hu; subst e9
          exact x_vret hx hb hr hlocks hQ hK hP hD hS rfl dX3_setFromInfinity_207
        obtain ⟨z9, ez9⟩ : ∃ y9 : Bool, y9 = Z_X3_setFromInfinity_J_19 vmi i3 := ⟨_, rfl⟩
        have hz := rZ_X3_setFromInfinity_J_19 vmi i3 ez9
        unfold RZ_X3_setFromInfinity_J_19 at hz
        refine xb_ne (tgt := 99) hx hb dX3_setFromInfinity_92 (by decide) (fun c_16 => ?_) (fun c_16 => ?_)
        · rw [if_pos c_16] at hz
          refine lv_iconst (v := 0) hx hb dX3_setFromInfinity_99 (by decide) ?_
          have e9 := Eq.symm hz; subst e9
          exact J_19 _ ez9 H locs hP hD hS ls (lv_sub hl [] rfl)
        · rw [if_neg c_16] at hz
          refine lv_iconst (v := 1) hx hb dX3_setFromInfinity_95 (by decide) ?_
          refine lv_goto (tgt := 100) hx hb dX3_setFromInfinity_96 (by decide) ?_
          have e9 := Eq.symm hz; subst e9
          exact J_19 _ ez9 H locs hP hD hS ls (lv_sub hl [] rfl)
      rw [if_neg c_10] at hu
      by_cases c_11 : p0 = 2
      · rw [if_pos c_11] at hu
        refine lv_tableIn (tgt := 106) hx hb dX3_setFromInfinity_37 (by rw [c_11]; decide) (by rw [c_11]; decide) (by rw [c_11]; rfl) (by decide) ?_
        refine lv_aload_n hx hb dX3_setFromInfinity_106 rfl (lv_at hl 3 rfl) ?_
        refine x_V (As := []) (rest := []) hCF (c_X0_isZero l D cR cI cJ cZ t0 ax ar ao ad vrd vtr vsd vrn vom voh vol vop voe vow vok vos vso vmi vco vex i2 _ rfl hb2) (x_cwV 0 hts (inW_5 _ (List.mem_of_getElem? (i := 25) rfl)) (inW_1 _ (List.mem_of_getElem? (i := 14) rfl)) (inW_1 _ (List.mem_of_getElem? (i := 15) rfl)) (inW_1 _ (List.mem_of_getElem? (i := 16) rfl)) (inW_1 _ (List.mem_of_getElem? (i := 11) rfl)) rfl rfl (by decide +kernel) ⟨Nat.le_of_ble_eq_true rfl, Nat.le_of_ble_eq_true rfl⟩) hK hP hD hS hA hSt (3 + i2) (xw_dat hb2) rfl rfl hl.1 rfl (Nat.le_of_ble_eq_true rfl) dX3_setFromInfinity_107 ⟨Nat.le_of_ble_eq_true rfl, Nat.le_of_ble_eq_true rfl⟩ (fun H locs hP hD hS => ?_)
        show W p l e _ s m args below meth c H locs 0 0 Q (F0 m 110 ls (.int (bI (F_X0_isZero vso vco i2)) :: []))
        refine xb_ne (tgt := 120) hx hb dX3_setFromInfinity_110 (by decide) (fun c_23 => ?_) (fun c_23 => ?_)
        · rw [if_pos c_23] at hu
          refine lv_aload_n hx hb dX3_setFromInfinity_120 rfl (lv_at hl 1 rfl) ?_
          obtain ⟨u24, eu24⟩ : ∃ y9 : Int32 × (Nat → Int32) × (Nat → Bool) × (Nat → Int64) × (Nat → Int32), y9 = F_X3_setInvalid vrn vso vmi vco vex := ⟨_, rfl⟩
          have hu := hu _ eu24
          refine x_V (As := []) (rest := []) hCF (c_X3_setInvalid l D cR cI cJ cZ t0 ax ar ao ad vrd vtr vsd vrn vom voh vol vop voe vow vok vos vso vmi vco vex u24 eu24) (x_cwV 0 hts (inW_6 _ (List.mem_of_getElem? (i := 19) rfl)) (inW_6 _ (List.mem_of_getElem? (i := 20) rfl)) (inW_6 _ (List.mem_of_getElem? (i := 21) rfl)) (inW_1 _ (List.mem_of_getElem? (i := 25) rfl)) (inW_6 _ (List.mem_of_getElem? (i := 22) rfl)) rfl rfl (by decide +kernel) ⟨Nat.le_of_ble_eq_true rfl, Nat.le_of_ble_eq_true rfl⟩) hK hP hD hS hA hSt 0 rfl rfl rfl hl.1 rfl (Nat.le_of_ble_eq_true rfl) dX3_setFromInfinity_121 ⟨Nat.le_of_ble_eq_true rfl, Nat.le_of_ble_eq_true rfl⟩ (fun H locs hP hD hS => ?_)
          show W p l e _ s m args below meth c H locs 0 0 Q (F0 m 124 ls [])
          refine lv_goto (tgt := 207) hx hb dX3_setFromInfinity_124 (by decide) ?_
          have e9 := Eq.symm hu; subst e9
          exact x_vret hx hb hr hlocks hQ hK hP hD hS rfl dX3_setFromInfinity_207
        · rw [if_neg c_23] at hu
          refine lv_aload_n hx hb dX3_setFromInfinity_113 rfl (lv_at hl 4 rfl) ?_
          refine x_V (As := []) (rest := []) hCF (c_X0_isZero l D cR cI cJ cZ t0 ax ar ao ad vrd vtr vsd vrn vom voh vol vop voe vow vok vos vso vmi vco vex i3 _ rfl hb3) (x_cwV 0 hts (inW_5 _ (List.mem_of_getElem? (i := 25) rfl)) (inW_1 _ (List.mem_of_getElem? (i := 14) rfl)) (inW_1 _ (List.mem_of_getElem? (i := 15) rfl)) (inW_1 _ (List.mem_of_getElem? (i := 16) rfl)) (inW_1 _ (List.mem_of_getElem? (i := 11) rfl)) rfl rfl (by decide +kernel) ⟨Nat.le_of_ble_eq_true rfl, Nat.le_of_ble_eq_true rfl⟩) hK hP hD hS hA hSt (3 + i3) (xw_dat hb3) rfl rfl hl.1 rfl (Nat.le_of_ble_eq_true rfl) dX3_setFromInfinity_114 ⟨Nat.le_of_ble_eq_true rfl, Nat.le_of_ble_eq_true rfl⟩ (fun H locs hP hD hS => ?_)
          show W p l e _ s m args below meth c H locs 0 0 Q (F0 m 117 ls (.int (bI (F_X0_isZero vso vco i3)) :: []))
          refine xb_eq (tgt := 127) hx hb dX3_setFromInfinity_117 (by decide) (fun c_27 => ?_) (fun c_27 => ?_)
          · rw [if_neg c_27] at hu
            refine lv_aload_n hx hb dX3_setFromInfinity_127 rfl (lv_at hl 1 rfl) ?_
            refine va_get (D := D) (ci := 4) (v := .ref (ad 8)) (C := RX3) (T := TX3) (N := 7) hx hb hts hi3 hown hK hP 0 rfl rfl 1 (by decide) (hts (.fieldLink RX3 16 "DecimalWords" "result" "LDecimalWords$Datum;") (inW_4 _ (List.mem_of_getElem? (i := 22) rfl))) (fun _ h9 => h9) rfl dX3_setFromInfinity_128 ?_
            refine lv_iload hx hb dX3_setFromInfinity_131 (lv_at hl 5 rfl) ?_
            obtain ⟨u28, eu28⟩ : ∃ y9 : (Nat → Int32) × (Nat → Bool) × (Nat → Int64) × (Nat → Int32), y9 = F_X0_setInfinity vso vmi vco vex 8 z3 := ⟨_, rfl⟩
            have hu := hu _ eu28
            refine x_V (As := [.int (bI z3)]) (rest := []) hCF (c_X0_setInfinity l D cR cI cJ cZ t0 ax ar ao ad vrd vtr vsd vrn vom voh vol vop voe vow vok vos vso vmi vco vex 8 z3 u28 eu28 (by decide)) (x_cwV 1 hts (inW_5 _ (List.mem_of_getElem? (i := 37) rfl)) (inW_3 _ (List.mem_of_getElem? (i := 28) rfl)) (inW_3 _ (List.mem_of_getElem? (i := 29) rfl)) (inW_1 _ (List.mem_of_getElem? (i := 16) rfl)) (inW_1 _ (List.mem_of_getElem? (i := 8) rfl)) rfl rfl (by decide +kernel) ⟨Nat.le_of_ble_eq_true rfl, Nat.le_of_ble_eq_true rfl⟩) hK hP hD hS hA hSt (3 + 8) (xw_dat (by decide)) rfl rfl hl.1 rfl (Nat.le_of_ble_eq_true rfl) dX3_setFromInfinity_133 ⟨Nat.le_of_ble_eq_true rfl, Nat.le_of_ble_eq_true rfl⟩ (fun H locs hP hD hS => ?_)
            show W p l e _ s m args below meth c H locs 0 0 Q (F0 m 136 ls [])
            refine lv_goto (tgt := 207) hx hb dX3_setFromInfinity_136 (by decide) ?_
            have e9 := Eq.symm hu; subst e9
            exact x_vret hx hb hr hlocks hQ hK hP hD hS rfl dX3_setFromInfinity_207
          · rw [if_pos c_27] at hu
            refine lv_aload_n hx hb dX3_setFromInfinity_120 rfl (lv_at hl 1 rfl) ?_
            obtain ⟨u30, eu30⟩ : ∃ y9 : Int32 × (Nat → Int32) × (Nat → Bool) × (Nat → Int64) × (Nat → Int32), y9 = F_X3_setInvalid vrn vso vmi vco vex := ⟨_, rfl⟩
            have hu := hu _ eu30
            refine x_V (As := []) (rest := []) hCF (c_X3_setInvalid l D cR cI cJ cZ t0 ax ar ao ad vrd vtr vsd vrn vom voh vol vop voe vow vok vos vso vmi vco vex u30 eu30) (x_cwV 0 hts (inW_6 _ (List.mem_of_getElem? (i := 19) rfl)) (inW_6 _ (List.mem_of_getElem? (i := 20) rfl)) (inW_6 _ (List.mem_of_getElem? (i := 21) rfl)) (inW_1 _ (List.mem_of_getElem? (i := 25) rfl)) (inW_6 _ (List.mem_of_getElem? (i := 22) rfl)) rfl rfl (by decide +kernel) ⟨Nat.le_of_ble_eq_true rfl, Nat.le_of_ble_eq_true rfl⟩) hK hP hD hS hA hSt 0 rfl rfl rfl hl.1 rfl (Nat.le_of_ble_eq_true rfl) dX3_setFromInfinity_121 ⟨Nat.le_of_ble_eq_true rfl, Nat.le_of_ble_eq_true rfl⟩ (fun H locs hP hD hS => ?_)
            show W p l e _ s m args below meth c H locs 0 0 Q (F0 m 124 ls [])
            refine lv_goto (tgt := 207) hx hb dX3_setFromInfinity_124 (by decide) ?_
            have e9 := Eq.symm hu; subst e9
            exact x_vret hx hb hr hlocks hQ hK hP hD hS rfl dX3_setFromInfinity_207
      rw [if_neg c_11] at hu
      by_cases c_12 : p0 = 3
      · rw [if_pos c_12] at hu
        refine lv_tableIn (tgt := 139) hx hb dX3_setFromInfinity_37 (by rw [c_12]; decide) (by rw [c_12]; decide) (by rw [c_12]; rfl) (by decide) ?_
        refine lv_iload hx hb dX3_setFromInfinity_139 (lv_at hl 0 rfl) ?_
        refine xb_eq (tgt := 151) hx hb dX3_setFromInfinity_141 (by decide) (fun c_32 => ?_) (fun c_32 => ?_)
        · rw [if_neg c_32] at hu
          refine lv_aload_n hx hb dX3_setFromInfinity_151 rfl (lv_at hl 3 rfl) ?_
          refine g_so (i := i2) hx hb hts hi0 hown hK hP hb2 (hts (.fieldLink RX3 70 "DecimalWords$Datum" "sort" "I") (inW_5 _ (List.mem_of_getElem? (i := 13) rfl))) dX3_setFromInfinity_152 ?_
          refine lv_iconst (v := 1) hx hb dX3_setFromInfinity_155 (by decide) ?_
          refine lv_icmp_ne (tgt := 171) hx hb dX3_setFromInfinity_156 (by decide) (fun c_33 => ?_) (fun c_33 => ?_)
          · rw [if_neg c_33] at hu
            refine lv_aload_n hx hb dX3_setFromInfinity_171 rfl (lv_at hl 1 rfl) ?_
            refine va_get (D := D) (ci := 4) (v := .ref (ad 8)) (C := RX3) (T := TX3) (N := 7) hx hb hts hi3 hown hK hP 0 rfl rfl 1 (by decide) (hts (.fieldLink RX3 16 "DecimalWords" "result" "LDecimalWords$Datum;") (inW_4 _ (List.mem_of_getElem? (i := 22) rfl))) (fun _ h9 => h9) rfl dX3_setFromInfinity_172 ?_
            refine lv_iload hx hb dX3_setFromInfinity_175 (lv_at hl 5 rfl) ?_
            refine lv_lconst (v := 0) hx hb dX3_setFromInfinity_177 (by decide) ?_
            refine lv_sipush (v := (-398)) hx hb dX3_setFromInfinity_178 (by decide) ?_
            obtain ⟨u34, eu34⟩ : ∃ y9 : (Nat → Int32) × (Nat → Bool) × (Nat → Int64) × (Nat → Int32), y9 = F_X0_setFinite vso vmi vco vex 8 z3 (0 : Int64) (-398 : Int32) := ⟨_, rfl⟩
            have hu := hu _ eu34
            refine x_V (As := [.int (bI z3), .long 0, .int (-398)]) (rest := []) hCF (c_X0_setFinite l D cR cI cJ cZ t0 ax ar ao ad vrd vtr vsd vrn vom voh vol vop voe vow vok vos vso vmi vco vex 8 z3 (0 : Int64) (-398 : Int32) u34 eu34 (by decide)) (x_cwV 3 hts (inW_5 _ (List.mem_of_getElem? (i := 1) rfl)) (inW_4 _ (List.mem_of_getElem? (i := 9) rfl)) (inW_4 _ (List.mem_of_getElem? (i := 10) rfl)) (inW_1 _ (List.mem_of_getElem? (i := 16) rfl)) (inW_1 _ (List.mem_of_getElem? (i := 3) rfl)) rfl rfl (by decide +kernel) ⟨Nat.le_of_ble_eq_true rfl, Nat.le_of_ble_eq_true rfl⟩) hK hP hD hS hA hSt (3 + 8) (xw_dat (by decide)) rfl rfl hl.1 rfl (Nat.le_of_ble_eq_true rfl) dX3_setFromInfinity_181 ⟨Nat.le_of_ble_eq_true rfl, Nat.le_of_ble_eq_true rfl⟩ (fun H locs hP hD hS => ?_)
            show W p l e _ s m args below meth c H locs 0 0 Q (F0 m 184 ls [])
            refine lv_goto (tgt := 207) hx hb dX3_setFromInfinity_184 (by decide) ?_
            have e9 := Eq.symm hu; subst e9
            exact x_vret hx hb hr hlocks hQ hK hP hD hS rfl dX3_setFromInfinity_207
          · rw [if_pos c_33] at hu
            refine lv_aload_n hx hb dX3_setFromInfinity_159 rfl (lv_at hl 1 rfl) ?_
            refine va_get (D := D) (ci := 4) (v := .ref (ad 8)) (C := RX3) (T := TX3) (N := 7) hx hb hts hi3 hown hK hP 0 rfl rfl 1 (by decide) (hts (.fieldLink RX3 16 "DecimalWords" "result" "LDecimalWords$Datum;") (inW_4 _ (List.mem_of_getElem? (i := 22) rfl))) (fun _ h9 => h9) rfl dX3_setFromInfinity_160 ?_
            refine lv_iload hx hb dX3_setFromInfinity_163 (lv_at hl 5 rfl) ?_
            obtain ⟨u36, eu36⟩ : ∃ y9 : (Nat → Int32) × (Nat → Bool) × (Nat → Int64) × (Nat → Int32), y9 = F_X0_setInfinity vso vmi vco vex 8 z3 := ⟨_, rfl⟩
            have hu := hu _ eu36
            refine x_V (As := [.int (bI z3)]) (rest := []) hCF (c_X0_setInfinity l D cR cI cJ cZ t0 ax ar ao ad vrd vtr vsd vrn vom voh vol vop voe vow vok vos vso vmi vco vex 8 z3 u36 eu36 (by decide)) (x_cwV 1 hts (inW_5 _ (List.mem_of_getElem? (i := 37) rfl)) (inW_3 _ (List.mem_of_getElem? (i := 28) rfl)) (inW_3 _ (List.mem_of_getElem? (i := 29) rfl)) (inW_1 _ (List.mem_of_getElem? (i := 16) rfl)) (inW_1 _ (List.mem_of_getElem? (i := 8) rfl)) rfl rfl (by decide +kernel) ⟨Nat.le_of_ble_eq_true rfl, Nat.le_of_ble_eq_true rfl⟩) hK hP hD hS hA hSt (3 + 8) (xw_dat (by decide)) rfl rfl hl.1 rfl (Nat.le_of_ble_eq_true rfl) dX3_setFromInfinity_165 ⟨Nat.le_of_ble_eq_true rfl, Nat.le_of_ble_eq_true rfl⟩ (fun H locs hP hD hS => ?_)
            show W p l e _ s m args below meth c H locs 0 0 Q (F0 m 168 ls [])
            refine lv_goto (tgt := 207) hx hb dX3_setFromInfinity_168 (by decide) ?_
            have e9 := Eq.symm hu; subst e9
            exact x_vret hx hb hr hlocks hQ hK hP hD hS rfl dX3_setFromInfinity_207
        · rw [if_pos c_32] at hu
          refine lv_aload_n hx hb dX3_setFromInfinity_144 rfl (lv_at hl 1 rfl) ?_
          obtain ⟨u38, eu38⟩ : ∃ y9 : Int32 × (Nat → Int32) × (Nat → Bool) × (Nat → Int64) × (Nat → Int32), y9 = F_X3_setInvalid vrn vso vmi vco vex := ⟨_, rfl⟩
          have hu := hu _ eu38
          refine x_V (As := []) (rest := []) hCF (c_X3_setInvalid l D cR cI cJ cZ t0 ax ar ao ad vrd vtr vsd vrn vom voh vol vop voe vow vok vos vso vmi vco vex u38 eu38) (x_cwV 0 hts (inW_6 _ (List.mem_of_getElem? (i := 19) rfl)) (inW_6 _ (List.mem_of_getElem? (i := 20) rfl)) (inW_6 _ (List.mem_of_getElem? (i := 21) rfl)) (inW_1 _ (List.mem_of_getElem? (i := 25) rfl)) (inW_6 _ (List.mem_of_getElem? (i := 22) rfl)) rfl rfl (by decide +kernel) ⟨Nat.le_of_ble_eq_true rfl, Nat.le_of_ble_eq_true rfl⟩) hK hP hD hS hA hSt 0 rfl rfl rfl hl.1 rfl (Nat.le_of_ble_eq_true rfl) dX3_setFromInfinity_145 ⟨Nat.le_of_ble_eq_true rfl, Nat.le_of_ble_eq_true rfl⟩ (fun H locs hP hD hS => ?_)
          show W p l e _ s m args below meth c H locs 0 0 Q (F0 m 148 ls [])
          refine lv_goto (tgt := 207) hx hb dX3_setFromInfinity_148 (by decide) ?_
          have e9 := Eq.symm hu; subst e9
          exact x_vret hx hb hr hlocks hQ hK hP hD hS rfl dX3_setFromInfinity_207
      rw [if_neg c_12] at hu
      by_cases c_13 : p0 = 4
      · rw [if_pos c_13] at hu
        refine lv_tableIn (tgt := 187) hx hb dX3_setFromInfinity_37 (by rw [c_13]; decide) (by rw [c_13]; decide) (by rw [c_13]; rfl) (by decide) ?_
        refine lv_iload hx hb dX3_setFromInfinity_187 (lv_at hl 0 rfl) ?_
        refine xb_eq (tgt := 203) hx hb dX3_setFromInfinity_189 (by decide) (fun c_40 => ?_) (fun c_40 => ?_)
        · rw [if_neg c_40] at hu
          refine lv_aload_n hx hb dX3_setFromInfinity_203 rfl (lv_at hl 1 rfl) ?_
          obtain ⟨u41, eu41⟩ : ∃ y9 : Int32 × (Nat → Int32) × (Nat → Bool) × (Nat → Int64) × (Nat → Int32), y9 = F_X3_setInvalid vrn vso vmi vco vex := ⟨_, rfl⟩
          have hu := hu _ eu41
          refine x_V (As := []) (rest := []) hCF (c_X3_setInvalid l D cR cI cJ cZ t0 ax ar ao ad vrd vtr vsd vrn vom voh vol vop voe vow vok vos vso vmi vco vex u41 eu41) (x_cwV 0 hts (inW_6 _ (List.mem_of_getElem? (i := 19) rfl)) (inW_6 _ (List.mem_of_getElem? (i := 20) rfl)) (inW_6 _ (List.mem_of_getElem? (i := 21) rfl)) (inW_1 _ (List.mem_of_getElem? (i := 25) rfl)) (inW_6 _ (List.mem_of_getElem? (i := 22) rfl)) rfl rfl (by decide +kernel) ⟨Nat.le_of_ble_eq_true rfl, Nat.le_of_ble_eq_true rfl⟩) hK hP hD hS hA hSt 0 rfl rfl rfl hl.1 rfl (Nat.le_of_ble_eq_true rfl) dX3_setFromInfinity_204 ⟨Nat.le_of_ble_eq_true rfl, Nat.le_of_ble_eq_true rfl⟩ (fun H locs hP hD hS => ?_)
          show W p l e _ s m args below meth c H locs 0 0 Q (F0 m 207 ls [])
          have e9 := Eq.symm hu; subst e9
          exact x_vret hx hb hr hlocks hQ hK hP hD hS rfl dX3_setFromInfinity_207
        · rw [if_pos c_40] at hu
          refine lv_aload_n hx hb dX3_setFromInfinity_192 rfl (lv_at hl 1 rfl) ?_
          refine va_get (D := D) (ci := 4) (v := .ref (ad 8)) (C := RX3) (T := TX3) (N := 7) hx hb hts hi3 hown hK hP 0 rfl rfl 1 (by decide) (hts (.fieldLink RX3 16 "DecimalWords" "result" "LDecimalWords$Datum;") (inW_4 _ (List.mem_of_getElem? (i := 22) rfl))) (fun _ h9 => h9) rfl dX3_setFromInfinity_193 ?_
          refine lv_aload_n hx hb dX3_setFromInfinity_196 rfl (lv_at hl 3 rfl) ?_
          obtain ⟨u43, eu43⟩ : ∃ y9 : (Nat → Int32) × (Nat → Bool) × (Nat → Int64) × (Nat → Int32), y9 = F_X0_take vso vmi vco vex 8 i2 := ⟨_, rfl⟩
          have hu := hu _ eu43
          refine x_V (As := [.ref (ad i2)]) (rest := []) hCF (c_X0_take l D cR cI cJ cZ t0 ax ar ao ad vrd vtr vsd vrn vom voh vol vop voe vow vok vos vso vmi vco vex 8 i2 u43 eu43 (by decide) hb2) (x_cwV 1 hts (inW_5 _ (List.mem_of_getElem? (i := 22) rfl)) (inW_5 _ (List.mem_of_getElem? (i := 23) rfl)) (inW_5 _ (List.mem_of_getElem? (i := 24) rfl)) (inW_1 _ (List.mem_of_getElem? (i := 16) rfl)) (inW_1 _ (List.mem_of_getElem? (i := 10) rfl)) rfl rfl (by decide +kernel) ⟨Nat.le_of_ble_eq_true rfl, Nat.le_of_ble_eq_true rfl⟩) hK hP hD hS hA hSt (3 + 8) (xw_dat (by decide)) rfl rfl hl.1 rfl (Nat.le_of_ble_eq_true rfl) dX3_setFromInfinity_197 ⟨Nat.le_of_ble_eq_true rfl, Nat.le_of_ble_eq_true rfl⟩ (fun H locs hP hD hS => ?_)
          show W p l e _ s m args below meth c H locs 0 0 Q (F0 m 200 ls [])
          refine lv_goto (tgt := 207) hx hb dX3_setFromInfinity_200 (by decide) ?_
          have e9 := Eq.symm hu; subst e9
          exact x_vret hx hb hr hlocks hQ hK hP hD hS rfl dX3_setFromInfinity_207
      rw [if_neg c_13] at hu
      refine lv_tableOut (tgt := 187) hx hb dX3_setFromInfinity_37 (by have kc_9 := lv_neT c_9 (a := 0) (by decide); have kc_10 := lv_neT c_10 (a := 1) (by decide); have kc_11 := lv_neT c_11 (a := 2) (by decide); have kc_12 := lv_neT c_12 (a := 3) (by decide); have kc_13 := lv_neT c_13 (a := 4) (by decide); omega) (by decide) ?_
      refine lv_iload hx hb dX3_setFromInfinity_187 (lv_at hl 0 rfl) ?_
      refine xb_eq (tgt := 203) hx hb dX3_setFromInfinity_189 (by decide) (fun c_45 => ?_) (fun c_45 => ?_)
      · rw [if_neg c_45] at hu
        refine lv_aload_n hx hb dX3_setFromInfinity_203 rfl (lv_at hl 1 rfl) ?_
        obtain ⟨u46, eu46⟩ : ∃ y9 : Int32 × (Nat → Int32) × (Nat → Bool) × (Nat → Int64) × (Nat → Int32), y9 = F_X3_setInvalid vrn vso vmi vco vex := ⟨_, rfl⟩
        have hu := hu _ eu46
        refine x_V (As := []) (rest := []) hCF (c_X3_setInvalid l D cR cI cJ cZ t0 ax ar ao ad vrd vtr vsd vrn vom voh vol vop voe vow vok vos vso vmi vco vex u46 eu46) (x_cwV 0 hts (inW_6 _ (List.mem_of_getElem? (i := 19) rfl)) (inW_6 _ (List.mem_of_getElem? (i := 20) rfl)) (inW_6 _ (List.mem_of_getElem? (i := 21) rfl)) (inW_1 _ (List.mem_of_getElem? (i := 25) rfl)) (inW_6 _ (List.mem_of_getElem? (i := 22) rfl)) rfl rfl (by decide +kernel) ⟨Nat.le_of_ble_eq_true rfl, Nat.le_of_ble_eq_true rfl⟩) hK hP hD hS hA hSt 0 rfl rfl rfl hl.1 rfl (Nat.le_of_ble_eq_true rfl) dX3_setFromInfinity_204 ⟨Nat.le_of_ble_eq_true rfl, Nat.le_of_ble_eq_true rfl⟩ (fun H locs hP hD hS => ?_)
        show W p l e _ s m args below meth c H locs 0 0 Q (F0 m 207 ls [])
        have e9 := Eq.symm hu; subst e9
        exact x_vret hx hb hr hlocks hQ hK hP hD hS rfl dX3_setFromInfinity_207
      · rw [if_pos c_45] at hu
        refine lv_aload_n hx hb dX3_setFromInfinity_192 rfl (lv_at hl 1 rfl) ?_
        refine va_get (D := D) (ci := 4) (v := .ref (ad 8)) (C := RX3) (T := TX3) (N := 7) hx hb hts hi3 hown hK hP 0 rfl rfl 1 (by decide) (hts (.fieldLink RX3 16 "DecimalWords" "result" "LDecimalWords$Datum;") (inW_4 _ (List.mem_of_getElem? (i := 22) rfl))) (fun _ h9 => h9) rfl dX3_setFromInfinity_193 ?_
        refine lv_aload_n hx hb dX3_setFromInfinity_196 rfl (lv_at hl 3 rfl) ?_
        obtain ⟨u48, eu48⟩ : ∃ y9 : (Nat → Int32) × (Nat → Bool) × (Nat → Int64) × (Nat → Int32), y9 = F_X0_take vso vmi vco vex 8 i2 := ⟨_, rfl⟩
        have hu := hu _ eu48
        refine x_V (As := [.ref (ad i2)]) (rest := []) hCF (c_X0_take l D cR cI cJ cZ t0 ax ar ao ad vrd vtr vsd vrn vom voh vol vop voe vow vok vos vso vmi vco vex 8 i2 u48 eu48 (by decide) hb2) (x_cwV 1 hts (inW_5 _ (List.mem_of_getElem? (i := 22) rfl)) (inW_5 _ (List.mem_of_getElem? (i := 23) rfl)) (inW_5 _ (List.mem_of_getElem? (i := 24) rfl)) (inW_1 _ (List.mem_of_getElem? (i := 16) rfl)) (inW_1 _ (List.mem_of_getElem? (i := 10) rfl)) rfl rfl (by decide +kernel) ⟨Nat.le_of_ble_eq_true rfl, Nat.le_of_ble_eq_true rfl⟩) hK hP hD hS hA hSt (3 + 8) (xw_dat (by decide)) rfl rfl hl.1 rfl (Nat.le_of_ble_eq_true rfl) dX3_setFromInfinity_197 ⟨Nat.le_of_ble_eq_true rfl, Nat.le_of_ble_eq_true rfl⟩ (fun H locs hP hD hS => ?_)
        show W p l e _ s m args below meth c H locs 0 0 Q (F0 m 200 ls [])
        refine lv_goto (tgt := 207) hx hb dX3_setFromInfinity_200 (by decide) ?_
        have e9 := Eq.symm hu; subst e9
        exact x_vret hx hb hr hlocks hQ hK hP hD hS rfl dX3_setFromInfinity_207
    obtain ⟨z9, ez9⟩ : ∃ y9 : Bool, y9 = Z_X3_setFromInfinity_J_8 vso i2 i3 := ⟨_, rfl⟩
    have hz := rZ_X3_setFromInfinity_J_8 vso i2 i3 ez9
    unfold RZ_X3_setFromInfinity_J_8 at hz
    refine lv_icmp_ne (tgt := 33) hx hb dX3_setFromInfinity_26 (by decide) (fun c_5 => ?_) (fun c_5 => ?_)
    · rw [if_neg c_5] at hz
      refine lv_iconst (v := 0) hx hb dX3_setFromInfinity_33 (by decide) ?_
      have e9 := Eq.symm hz; subst e9
      exact J_8 _ ez9 H locs hP hD hS ls (lv_sub hl [1, 2, 3, 4, 0] rfl)
    · rw [if_pos c_5] at hz
      refine lv_iconst (v := 1) hx hb dX3_setFromInfinity_29 (by decide) ?_
      refine lv_goto (tgt := 34) hx hb dX3_setFromInfinity_30 (by decide) ?_
      have e9 := Eq.symm hz; subst e9
      exact J_8 _ ez9 H locs hP hD hS ls (lv_sub hl [1, 2, 3, 4, 0] rfl)
  obtain ⟨z9, ez9⟩ : ∃ y9 : Bool, y9 = Z_X3_setFromInfinity_J_4 vmi i2 i3 := ⟨_, rfl⟩
  have hz := rZ_X3_setFromInfinity_J_4 vmi i2 i3 ez9
  unfold RZ_X3_setFromInfinity_J_4 at hz
  refine xbb_eq (tgt := 15) hx hb dX3_setFromInfinity_8 (by decide) (fun c_1 => ?_) (fun c_1 => ?_)
  · rw [if_pos c_1] at hz
    refine lv_iconst (v := 0) hx hb dX3_setFromInfinity_15 (by decide) ?_
    have e9 := Eq.symm hz; subst e9
    exact J_4 _ ez9 H locs hP hD hS ls (lv_sub hl [0, 1, 2, 3] rfl)
  · rw [if_neg c_1] at hz
    refine lv_iconst (v := 1) hx hb dX3_setFromInfinity_11 (by decide) ?_
    refine lv_goto (tgt := 16) hx hb dX3_setFromInfinity_12 (by decide) ?_
    have e9 := Eq.symm hz; subst e9
    exact J_4 _ ez9 H locs hP hD hS ls (lv_sub hl [0, 1, 2, 3] rfl)

def F_X3_stepToZero (vso : Nat → Int32) (vmi : Nat → Bool) (vco : Nat → Int64) (vex : Nat → Int32) (p0 : Int64) (p1 : Int32) : (Nat → Int32) × (Nat → Bool) × (Nat → Int64) × (Nat → Int32) := (if p0 = 1000000000000000 then (if p1 ≤ (-398) then (bnd (F_X0_setFinite vso vmi vco vex 8 true (p0 - 1) p1) (fun u5 : (Nat → Int32) × (Nat → Bool) × (Nat → Int64) × (Nat → Int32) => (u5.1, u5.2.1, u5.2.2.1, u5.2.2.2))) else (bnd (F_X0_setFinite vso vmi vco vex 8 true (9999999999999999 : Int64) (p1 - 1)) (fun u7 : (Nat → Int32) × (Nat → Bool) × (Nat → Int64) × (Nat → Int32) => (u7.1, u7.2.1, u7.2.2.1, u7.2.2.2)))) else (bnd (F_X0_setFinite vso vmi vco vex 8 true (p0 - 1) p1) (fun u2 : (Nat → Int32) × (Nat → Bool) × (Nat → Int64) × (Nat → Int32) => (u2.1, u2.2.1, u2.2.2.1, u2.2.2.2))))
def RF_X3_stepToZero (vso : Nat → Int32) (vmi : Nat → Bool) (vco : Nat → Int64) (vex : Nat → Int32) (p0 : Int64) (p1 : Int32) (u9 : (Nat → Int32) × (Nat → Bool) × (Nat → Int64) × (Nat → Int32)) : Prop := (if p0 = 1000000000000000 then (if p1 ≤ (-398) then (∀ u5 : (Nat → Int32) × (Nat → Bool) × (Nat → Int64) × (Nat → Int32), u5 = F_X0_setFinite vso vmi vco vex 8 true (p0 - 1) p1 → u9 = (u5.1, u5.2.1, u5.2.2.1, u5.2.2.2)) else (∀ u7 : (Nat → Int32) × (Nat → Bool) × (Nat → Int64) × (Nat → Int32), u7 = F_X0_setFinite vso vmi vco vex 8 true (9999999999999999 : Int64) (p1 - 1) → u9 = (u7.1, u7.2.1, u7.2.2.1, u7.2.2.2))) else (∀ u2 : (Nat → Int32) × (Nat → Bool) × (Nat → Int64) × (Nat → Int32), u2 = F_X0_setFinite vso vmi vco vex 8 true (p0 - 1) p1 → u9 = (u2.1, u2.2.1, u2.2.2.1, u2.2.2.2)))
theorem rF_X3_stepToZero (vso : Nat → Int32) (vmi : Nat → Bool) (vco : Nat → Int64) (vex : Nat → Int32) (p0 : Int64) (p1 : Int32) {u9 : (Nat → Int32) × (Nat → Bool) × (Nat → Int64) × (Nat → Int32)} (hu : u9 = F_X3_stepToZero vso vmi vco vex p0 p1) : RF_X3_stepToZero vso vmi vco vex p0 p1 u9 := by
  unfold RF_X3_stepToZero
  refine ite_P (fun c_1 => ?_) (fun c_1 => ?_)
  · have hu := hu.trans (if_pos c_1)
    refine ite_P (fun c_4 => ?_) (fun c_4 => ?_)
    · have hu := hu.trans (if_pos c_4)
      intro u5 eu5
      have hu := bnd_n hu eu5
      exact hu
    · have hu := hu.trans (if_neg c_4)
      intro u7 eu7
      have hu := bnd_n hu eu7
      exact hu
  · have hu := hu.trans (if_neg c_1)
    intro u2 eu2
    have hu := bnd_n hu eu2
    exact hu
def rm_X3_stepToZero : Room := { frames := 1, cells := 0, slots := 0, locals := 24 }
set_option maxHeartbeats 4000000 in
set_option maxRecDepth 100000 in
theorem c_X3_stepToZero (l : Launch) (D : va_G) (cR cI cJ cZ : ClassId) (t0 : Nat) (ax ar ao : Nat) (ad : Nat → Nat) (vrd : Int32) (vtr : Int32) (vsd : Int32) (vrn : Int32) (vom : Bool) (voh : Int64) (vol : Int64) (vop : Int32) (voe : Bool) (vow : Int32) (vok : Int64) (vos : Int32) (vso : Nat → Int32) (vmi : Nat → Bool) (vco : Nat → Int64) (vex : Nat → Int32) (p0 : Int64) (p1 : Int32) (u : (Nat → Int32) × (Nat → Bool) × (Nat → Int64) × (Nat → Int32)) (hu : u = F_X3_stepToZero vso vmi vco vex p0 p1) : XM l D (xty cR cI cJ cZ) t0 yX3_stepToZero cX3_stepToZero 4 none rm_X3_stepToZero [.ref ax, .long p0, .int p1] none (xw cR ax ar ao ad vrd vtr vsd vrn vom voh vol vop voe vow vok vos vso vmi vco vex) (xw cR ax ar ao ad vrd vtr vsd vrn vom voh vol vop voe vow vok vos u.1 u.2.1 u.2.2.1 u.2.2.2) := by
  refine XM.of (by decide) (Nat.le_of_ble_eq_true rfl) ?_
  intro p e s m args below meth c A Q F hK hP hD hA hSt hS hQ ls hl
  obtain ⟨hx, hb, hr, hts, hown, hlocks, hml⟩ := F
  have hCF : CallFix p m c cX3_stepToZero 4 s args gW RX3 := ⟨hx, hb, hml, hown, hts⟩
  have hu := rF_X3_stepToZero vso vmi vco vex p0 p1 hu
  unfold RF_X3_stepToZero at hu
  obtain ⟨H, eH⟩ : ∃ y9 : Heap, y9 = s.heap := ⟨_, rfl⟩
  obtain ⟨locs, eL⟩ : ∃ y9 : List Loc, y9 = [] := ⟨_, rfl⟩
  rw [← eL] at hS ⊢
  have hP : va_P D vwCl (xw cR ax ar ao ad vrd vtr vsd vrn vom voh vol vop voe vow vok vos vso vmi vco vex) H := by rw [eH]; exact hP
  have hS : va_S A s.heap H locs := by rw [eH]; exact hS
  suffices goal9 : W p l e rm_X3_stepToZero s m args below meth c H locs 0 0 Q (F0 m 0 ls []) from by rw [← eH]; exact goal9
  have hl : lv_has ls 4 [(0, .ref ax), (1, .long p0), (3, .int p1)] := hl
  have hi3 : ∀ w ∈ wsX30, w ∈ gW := inW_X3
  refine lv_lload_n hx hb dX3_stepToZero_0 rfl (lv_at hl 1 rfl) ?_
  refine lv_ldc2 (v := 1000000000000000) hx hb hown (hts (.constantLong RX3 207 (1000000000000000)) (inW_5 _ (List.mem_of_getElem? (i := 32) rfl))) dX3_stepToZero_1 ?_
  refine xl_ne (tgt := 32) hx hb dX3_stepToZero_4 dX3_stepToZero_5 (by decide) (fun c_1 => ?_) (fun c_1 => ?_)
  · rw [if_neg c_1] at hu
    refine lv_aload_n hx hb dX3_stepToZero_32 rfl (lv_at hl 0 rfl) ?_
    refine va_get (D := D) (ci := 4) (v := .ref (ad 8)) (C := RX3) (T := TX3) (N := 7) hx hb hts hi3 hown hK hP 0 rfl rfl 1 (by decide) (hts (.fieldLink RX3 16 "DecimalWords" "result" "LDecimalWords$Datum;") (inW_4 _ (List.mem_of_getElem? (i := 22) rfl))) (fun _ h9 => h9) rfl dX3_stepToZero_33 ?_
    refine lv_iconst (v := 1) hx hb dX3_stepToZero_36 (by decide) ?_
    refine lv_lload_n hx hb dX3_stepToZero_37 rfl (lv_at hl 1 rfl) ?_
    refine lv_lconst (v := 1) hx hb dX3_stepToZero_38 (by decide) ?_
    refine lv_lsub hx hb dX3_stepToZero_39 ?_
    refine lv_iload_n hx hb dX3_stepToZero_40 rfl (lv_at hl 2 rfl) ?_
    obtain ⟨u2, eu2⟩ : ∃ y9 : (Nat → Int32) × (Nat → Bool) × (Nat → Int64) × (Nat → Int32), y9 = F_X0_setFinite vso vmi vco vex 8 true (p0 - 1) p1 := ⟨_, rfl⟩
    have hu := hu _ eu2
    refine x_V (As := [.int (bI true), .long (p0 - 1), .int p1]) (rest := []) hCF (c_X0_setFinite l D cR cI cJ cZ t0 ax ar ao ad vrd vtr vsd vrn vom voh vol vop voe vow vok vos vso vmi vco vex 8 true (p0 - 1) p1 u2 eu2 (by decide)) (x_cwV 3 hts (inW_5 _ (List.mem_of_getElem? (i := 1) rfl)) (inW_4 _ (List.mem_of_getElem? (i := 9) rfl)) (inW_4 _ (List.mem_of_getElem? (i := 10) rfl)) (inW_1 _ (List.mem_of_getElem? (i := 16) rfl)) (inW_1 _ (List.mem_of_getElem? (i := 3) rfl)) rfl rfl (by decide +kernel) ⟨Nat.le_of_ble_eq_true rfl, Nat.le_of_ble_eq_true rfl⟩) hK hP hD hS hA hSt (3 + 8) (xw_dat (by decide)) rfl rfl hl.1 rfl (Nat.le_of_ble_eq_true rfl) dX3_stepToZero_41 ⟨Nat.le_of_ble_eq_true rfl, Nat.le_of_ble_eq_true rfl⟩ (fun H locs hP hD hS => ?_)
    show W p l e _ s m args below meth c H locs 0 0 Q (F0 m 44 ls [])
    have e9 := Eq.symm hu; subst e9
    exact x_vret hx hb hr hlocks hQ hK hP hD hS rfl dX3_stepToZero_44
  · rw [if_pos c_1] at hu
    refine lv_iload_n hx hb dX3_stepToZero_8 rfl (lv_at hl 2 rfl) ?_
    refine lv_sipush (v := (-398)) hx hb dX3_stepToZero_9 (by decide) ?_
    refine lv_icmp_le (tgt := 32) hx hb dX3_stepToZero_12 (by decide) (fun c_4 => ?_) (fun c_4 => ?_)
    · rw [if_pos c_4] at hu
      refine lv_aload_n hx hb dX3_stepToZero_32 rfl (lv_at hl 0 rfl) ?_
      refine va_get (D := D) (ci := 4) (v := .ref (ad 8)) (C := RX3) (T := TX3) (N := 7) hx hb hts hi3 hown hK hP 0 rfl rfl 1 (by decide) (hts (.fieldLink RX3 16 "DecimalWords" "result" "LDecimalWords$Datum;") (inW_4 _ (List.mem_of_getElem? (i := 22) rfl))) (fun _ h9 => h9) rfl dX3_stepToZero_33 ?_
      refine lv_iconst (v := 1) hx hb dX3_stepToZero_36 (by decide) ?_
      refine lv_lload_n hx hb dX3_stepToZero_37 rfl (lv_at hl 1 rfl) ?_
      refine lv_lconst (v := 1) hx hb dX3_stepToZero_38 (by decide) ?_
      refine lv_lsub hx hb dX3_stepToZero_39 ?_
      refine lv_iload_n hx hb dX3_stepToZero_40 rfl (lv_at hl 2 rfl) ?_
      obtain ⟨u5, eu5⟩ : ∃ y9 : (Nat → Int32) × (Nat → Bool) × (Nat → Int64) × (Nat → Int32), y9 = F_X0_setFinite vso vmi vco vex 8 true (p0 - 1) p1 := ⟨_, rfl⟩
      have hu := hu _ eu5
      refine x_V (As := [.int (bI true), .long (p0 - 1), .int p1]) (rest := []) hCF (c_X0_setFinite l D cR cI cJ cZ t0 ax ar ao ad vrd vtr vsd vrn vom voh vol vop voe vow vok vos vso vmi vco vex 8 true (p0 - 1) p1 u5 eu5 (by decide)) (x_cwV 3 hts (inW_5 _ (List.mem_of_getElem? (i := 1) rfl)) (inW_4 _ (List.mem_of_getElem? (i := 9) rfl)) (inW_4 _ (List.mem_of_getElem? (i := 10) rfl)) (inW_1 _ (List.mem_of_getElem? (i := 16) rfl)) (inW_1 _ (List.mem_of_getElem? (i := 3) rfl)) rfl rfl (by decide +kernel) ⟨Nat.le_of_ble_eq_true rfl, Nat.le_of_ble_eq_true rfl⟩) hK hP hD hS hA hSt (3 + 8) (xw_dat (by decide)) rfl rfl hl.1 rfl (Nat.le_of_ble_eq_true rfl) dX3_stepToZero_41 ⟨Nat.le_of_ble_eq_true rfl, Nat.le_of_ble_eq_true rfl⟩ (fun H locs hP hD hS => ?_)
      show W p l e _ s m args below meth c H locs 0 0 Q (F0 m 44 ls [])
      have e9 := Eq.symm hu; subst e9
      exact x_vret hx hb hr hlocks hQ hK hP hD hS rfl dX3_stepToZero_44
    · rw [if_neg c_4] at hu
      refine lv_aload_n hx hb dX3_stepToZero_15 rfl (lv_at hl 0 rfl) ?_
      refine va_get (D := D) (ci := 4) (v := .ref (ad 8)) (C := RX3) (T := TX3) (N := 7) hx hb hts hi3 hown hK hP 0 rfl rfl 1 (by decide) (hts (.fieldLink RX3 16 "DecimalWords" "result" "LDecimalWords$Datum;") (inW_4 _ (List.mem_of_getElem? (i := 22) rfl))) (fun _ h9 => h9) rfl dX3_stepToZero_16 ?_
      refine lv_iconst (v := 1) hx hb dX3_stepToZero_19 (by decide) ?_
      refine lv_ldc2 (v := 9999999999999999) hx hb hown (hts (.constantLong RX3 192 (9999999999999999)) (inW_5 _ (List.mem_of_getElem? (i := 19) rfl))) dX3_stepToZero_20 ?_
      refine lv_iload_n hx hb dX3_stepToZero_23 rfl (lv_at hl 2 rfl) ?_
      refine lv_iconst (v := 1) hx hb dX3_stepToZero_24 (by decide) ?_
      refine lv_isub hx hb dX3_stepToZero_25 ?_
      obtain ⟨u7, eu7⟩ : ∃ y9 : (Nat → Int32) × (Nat → Bool) × (Nat → Int64) × (Nat → Int32), y9 = F_X0_setFinite vso vmi vco vex 8 true (9999999999999999 : Int64) (p1 - 1) := ⟨_, rfl⟩
      have hu := hu _ eu7
      refine x_V (As := [.int (bI true), .long 9999999999999999, .int (p1 - 1)]) (rest := []) hCF (c_X0_setFinite l D cR cI cJ cZ t0 ax ar ao ad vrd vtr vsd vrn vom voh vol vop voe vow vok vos vso vmi vco vex 8 true (9999999999999999 : Int64) (p1 - 1) u7 eu7 (by decide)) (x_cwV 3 hts (inW_5 _ (List.mem_of_getElem? (i := 1) rfl)) (inW_4 _ (List.mem_of_getElem? (i := 9) rfl)) (inW_4 _ (List.mem_of_getElem? (i := 10) rfl)) (inW_1 _ (List.mem_of_getElem? (i := 16) rfl)) (inW_1 _ (List.mem_of_getElem? (i := 3) rfl)) rfl rfl (by decide +kernel) ⟨Nat.le_of_ble_eq_true rfl, Nat.le_of_ble_eq_true rfl⟩) hK hP hD hS hA hSt (3 + 8) (xw_dat (by decide)) rfl rfl hl.1 rfl (Nat.le_of_ble_eq_true rfl) dX3_stepToZero_26 ⟨Nat.le_of_ble_eq_true rfl, Nat.le_of_ble_eq_true rfl⟩ (fun H locs hP hD hS => ?_)
      show W p l e _ s m args below meth c H locs 0 0 Q (F0 m 29 ls [])
      refine lv_goto (tgt := 44) hx hb dX3_stepToZero_29 (by decide) ?_
      have e9 := Eq.symm hu; subst e9
      exact x_vret hx hb hr hlocks hQ hK hP hD hS rfl dX3_stepToZero_44

def F_X3_stepFromZero (vso : Nat → Int32) (vmi : Nat → Bool) (vco : Nat → Int64) (vex : Nat → Int32) (p0 : Int64) (p1 : Int32) : (Nat → Int32) × (Nat → Bool) × (Nat → Int64) × (Nat → Int32) := (if 9999999999999999 ≤ p0 then (if 369 ≤ p1 then (bnd (F_X0_setInfinity vso vmi vco vex 8 false) (fun u3 : (Nat → Int32) × (Nat → Bool) × (Nat → Int64) × (Nat → Int32) => (u3.1, u3.2.1, u3.2.2.1, u3.2.2.2))) else (bnd (F_X0_setFinite vso vmi vco vex 8 false (1000000000000000 : Int64) (p1 + 1)) (fun u5 : (Nat → Int32) × (Nat → Bool) × (Nat → Int64) × (Nat → Int32) => (u5.1, u5.2.1, u5.2.2.1, u5.2.2.2)))) else (bnd (F_X0_setFinite vso vmi vco vex 8 false (p0 + 1) p1) (fun u7 : (Nat → Int32) × (Nat → Bool) × (Nat → Int64) × (Nat → Int32) => (u7.1, u7.2.1, u7.2.2.1, u7.2.2.2))))
def RF_X3_stepFromZero (vso : Nat → Int32) (vmi : Nat → Bool) (vco : Nat → Int64) (vex : Nat → Int32) (p0 : Int64) (p1 : Int32) (u9 : (Nat → Int32) × (Nat → Bool) × (Nat → Int64) × (Nat → Int32)) : Prop := (if 9999999999999999 ≤ p0 then (if 369 ≤ p1 then (∀ u3 : (Nat → Int32) × (Nat → Bool) × (Nat → Int64) × (Nat → Int32), u3 = F_X0_setInfinity vso vmi vco vex 8 false → u9 = (u3.1, u3.2.1, u3.2.2.1, u3.2.2.2)) else (∀ u5 : (Nat → Int32) × (Nat → Bool) × (Nat → Int64) × (Nat → Int32), u5 = F_X0_setFinite vso vmi vco vex 8 false (1000000000000000 : Int64) (p1 + 1) → u9 = (u5.1, u5.2.1, u5.2.2.1, u5.2.2.2))) else (∀ u7 : (Nat → Int32) × (Nat → Bool) × (Nat → Int64) × (Nat → Int32), u7 = F_X0_setFinite vso vmi vco vex 8 false (p0 + 1) p1 → u9 = (u7.1, u7.2.1, u7.2.2.1, u7.2.2.2)))
theorem rF_X3_stepFromZero (vso : Nat → Int32) (vmi : Nat → Bool) (vco : Nat → Int64) (vex : Nat → Int32) (p0 : Int64) (p1 : Int32) {u9 : (Nat → Int32) × (Nat → Bool) × (Nat → Int64) × (Nat → Int32)} (hu : u9 = F_X3_stepFromZero vso vmi vco vex p0 p1) : RF_X3_stepFromZero vso vmi vco vex p0 p1 u9 := by
  unfold RF_X3_stepFromZero
  refine ite_P (fun c_1 => ?_) (fun c_1 => ?_)
  · have hu := hu.trans (if_pos c_1)
    refine ite_P (fun c_2 => ?_) (fun c_2 => ?_)
    · have hu := hu.trans (if_pos c_2)
      intro u3 eu3
      have hu := bnd_n hu eu3
      exact hu
    · have hu := hu.trans (if_neg c_2)
      intro u5 eu5
      have hu := bnd_n hu eu5
      exact hu
  · have hu := hu.trans (if_neg c_1)
    intro u7 eu7
    have hu := bnd_n hu eu7
    exact hu
def rm_X3_stepFromZero : Room := { frames := 1, cells := 0, slots := 0, locals := 24 }
set_option maxHeartbeats 4000000 in
set_option maxRecDepth 100000 in
theorem c_X3_stepFromZero (l : Launch) (D : va_G) (cR cI cJ cZ : ClassId) (t0 : Nat) (ax ar ao : Nat) (ad : Nat → Nat) (vrd : Int32) (vtr : Int32) (vsd : Int32) (vrn : Int32) (vom : Bool) (voh : Int64) (vol : Int64) (vop : Int32) (voe : Bool) (vow : Int32) (vok : Int64) (vos : Int32) (vso : Nat → Int32) (vmi : Nat → Bool) (vco : Nat → Int64) (vex : Nat → Int32) (p0 : Int64) (p1 : Int32) (u : (Nat → Int32) × (Nat → Bool) × (Nat → Int64) × (Nat → Int32)) (hu : u = F_X3_stepFromZero vso vmi vco vex p0 p1) : XM l D (xty cR cI cJ cZ) t0 yX3_stepFromZero cX3_stepFromZero 4 none rm_X3_stepFromZero [.ref ax, .long p0, .int p1] none (xw cR ax ar ao ad vrd vtr vsd vrn vom voh vol vop voe vow vok vos vso vmi vco vex) (xw cR ax ar ao ad vrd vtr vsd vrn vom voh vol vop voe vow vok vos u.1 u.2.1 u.2.2.1 u.2.2.2) := by
  refine XM.of (by decide) (Nat.le_of_ble_eq_true rfl) ?_
  intro p e s m args below meth c A Q F hK hP hD hA hSt hS hQ ls hl
  obtain ⟨hx, hb, hr, hts, hown, hlocks, hml⟩ := F
  have hCF : CallFix p m c cX3_stepFromZero 4 s args gW RX3 := ⟨hx, hb, hml, hown, hts⟩
  have hu := rF_X3_stepFromZero vso vmi vco vex p0 p1 hu
  unfold RF_X3_stepFromZero at hu
  obtain ⟨H, eH⟩ : ∃ y9 : Heap, y9 = s.heap := ⟨_, rfl⟩
  obtain ⟨locs, eL⟩ : ∃ y9 : List Loc, y9 = [] := ⟨_, rfl⟩
  rw [← eL] at hS ⊢
  have hP : va_P D vwCl (xw cR ax ar ao ad vrd vtr vsd vrn vom voh vol vop voe vow vok vos vso vmi vco vex) H := by rw [eH]; exact hP
  have hS : va_S A s.heap H locs := by rw [eH]; exact hS
  suffices goal9 : W p l e rm_X3_stepFromZero s m args below meth c H locs 0 0 Q (F0 m 0 ls []) from by rw [← eH]; exact goal9
  have hl : lv_has ls 4 [(0, .ref ax), (1, .long p0), (3, .int p1)] := hl
  have hi3 : ∀ w ∈ wsX30, w ∈ gW := inW_X3
  refine lv_lload_n hx hb dX3_stepFromZero_0 rfl (lv_at hl 1 rfl) ?_
  refine lv_ldc2 (v := 9999999999999999) hx hb hown (hts (.constantLong RX3 192 (9999999999999999)) (inW_5 _ (List.mem_of_getElem? (i := 19) rfl))) dX3_stepFromZero_1 ?_
  refine xl_ge (tgt := 23) hx hb dX3_stepFromZero_4 dX3_stepFromZero_5 (by decide) (fun c_1 => ?_) (fun c_1 => ?_)
  · rw [if_pos c_1] at hu
    refine lv_iload_n hx hb dX3_stepFromZero_23 rfl (lv_at hl 2 rfl) ?_
    refine lv_sipush (v := 369) hx hb dX3_stepFromZero_24 (by decide) ?_
    refine lv_icmp_ge (tgt := 47) hx hb dX3_stepFromZero_27 (by decide) (fun c_2 => ?_) (fun c_2 => ?_)
    · rw [if_pos c_2] at hu
      refine lv_aload_n hx hb dX3_stepFromZero_47 rfl (lv_at hl 0 rfl) ?_
      refine va_get (D := D) (ci := 4) (v := .ref (ad 8)) (C := RX3) (T := TX3) (N := 7) hx hb hts hi3 hown hK hP 0 rfl rfl 1 (by decide) (hts (.fieldLink RX3 16 "DecimalWords" "result" "LDecimalWords$Datum;") (inW_4 _ (List.mem_of_getElem? (i := 22) rfl))) (fun _ h9 => h9) rfl dX3_stepFromZero_48 ?_
      refine lv_iconst (v := 0) hx hb dX3_stepFromZero_51 (by decide) ?_
      obtain ⟨u3, eu3⟩ : ∃ y9 : (Nat → Int32) × (Nat → Bool) × (Nat → Int64) × (Nat → Int32), y9 = F_X0_setInfinity vso vmi vco vex 8 false := ⟨_, rfl⟩
      have hu := hu _ eu3
      refine x_V (As := [.int (bI false)]) (rest := []) hCF (c_X0_setInfinity l D cR cI cJ cZ t0 ax ar ao ad vrd vtr vsd vrn vom voh vol vop voe vow vok vos vso vmi vco vex 8 false u3 eu3 (by decide)) (x_cwV 1 hts (inW_5 _ (List.mem_of_getElem? (i := 37) rfl)) (inW_3 _ (List.mem_of_getElem? (i := 28) rfl)) (inW_3 _ (List.mem_of_getElem? (i := 29) rfl)) (inW_1 _ (List.mem_of_getElem? (i := 16) rfl)) (inW_1 _ (List.mem_of_getElem? (i := 8) rfl)) rfl rfl (by decide +kernel) ⟨Nat.le_of_ble_eq_true rfl, Nat.le_of_ble_eq_true rfl⟩) hK hP hD hS hA hSt (3 + 8) (xw_dat (by decide)) rfl rfl hl.1 rfl (Nat.le_of_ble_eq_true rfl) dX3_stepFromZero_52 ⟨Nat.le_of_ble_eq_true rfl, Nat.le_of_ble_eq_true rfl⟩ (fun H locs hP hD hS => ?_)
      show W p l e _ s m args below meth c H locs 0 0 Q (F0 m 55 ls [])
      have e9 := Eq.symm hu; subst e9
      exact x_vret hx hb hr hlocks hQ hK hP hD hS rfl dX3_stepFromZero_55
    · rw [if_neg c_2] at hu
      refine lv_aload_n hx hb dX3_stepFromZero_30 rfl (lv_at hl 0 rfl) ?_
      refine va_get (D := D) (ci := 4) (v := .ref (ad 8)) (C := RX3) (T := TX3) (N := 7) hx hb hts hi3 hown hK hP 0 rfl rfl 1 (by decide) (hts (.fieldLink RX3 16 "DecimalWords" "result" "LDecimalWords$Datum;") (inW_4 _ (List.mem_of_getElem? (i := 22) rfl))) (fun _ h9 => h9) rfl dX3_stepFromZero_31 ?_
      refine lv_iconst (v := 0) hx hb dX3_stepFromZero_34 (by decide) ?_
      refine lv_ldc2 (v := 1000000000000000) hx hb hown (hts (.constantLong RX3 207 (1000000000000000)) (inW_5 _ (List.mem_of_getElem? (i := 32) rfl))) dX3_stepFromZero_35 ?_
      refine lv_iload_n hx hb dX3_stepFromZero_38 rfl (lv_at hl 2 rfl) ?_
      refine lv_iconst (v := 1) hx hb dX3_stepFromZero_39 (by decide) ?_
      refine lv_iadd hx hb dX3_stepFromZero_40 ?_
      obtain ⟨u5, eu5⟩ : ∃ y9 : (Nat → Int32) × (Nat → Bool) × (Nat → Int64) × (Nat → Int32), y9 = F_X0_setFinite vso vmi vco vex 8 false (1000000000000000 : Int64) (p1 + 1) := ⟨_, rfl⟩
      have hu := hu _ eu5
      refine x_V (As := [.int (bI false), .long 1000000000000000, .int (p1 + 1)]) (rest := []) hCF (c_X0_setFinite l D cR cI cJ cZ t0 ax ar ao ad vrd vtr vsd vrn vom voh vol vop voe vow vok vos vso vmi vco vex 8 false (1000000000000000 : Int64) (p1 + 1) u5 eu5 (by decide)) (x_cwV 3 hts (inW_5 _ (List.mem_of_getElem? (i := 1) rfl)) (inW_4 _ (List.mem_of_getElem? (i := 9) rfl)) (inW_4 _ (List.mem_of_getElem? (i := 10) rfl)) (inW_1 _ (List.mem_of_getElem? (i := 16) rfl)) (inW_1 _ (List.mem_of_getElem? (i := 3) rfl)) rfl rfl (by decide +kernel) ⟨Nat.le_of_ble_eq_true rfl, Nat.le_of_ble_eq_true rfl⟩) hK hP hD hS hA hSt (3 + 8) (xw_dat (by decide)) rfl rfl hl.1 rfl (Nat.le_of_ble_eq_true rfl) dX3_stepFromZero_41 ⟨Nat.le_of_ble_eq_true rfl, Nat.le_of_ble_eq_true rfl⟩ (fun H locs hP hD hS => ?_)
      show W p l e _ s m args below meth c H locs 0 0 Q (F0 m 44 ls [])
      refine lv_goto (tgt := 55) hx hb dX3_stepFromZero_44 (by decide) ?_
      have e9 := Eq.symm hu; subst e9
      exact x_vret hx hb hr hlocks hQ hK hP hD hS rfl dX3_stepFromZero_55
  · rw [if_neg c_1] at hu
    refine lv_aload_n hx hb dX3_stepFromZero_8 rfl (lv_at hl 0 rfl) ?_
    refine va_get (D := D) (ci := 4) (v := .ref (ad 8)) (C := RX3) (T := TX3) (N := 7) hx hb hts hi3 hown hK hP 0 rfl rfl 1 (by decide) (hts (.fieldLink RX3 16 "DecimalWords" "result" "LDecimalWords$Datum;") (inW_4 _ (List.mem_of_getElem? (i := 22) rfl))) (fun _ h9 => h9) rfl dX3_stepFromZero_9 ?_
    refine lv_iconst (v := 0) hx hb dX3_stepFromZero_12 (by decide) ?_
    refine lv_lload_n hx hb dX3_stepFromZero_13 rfl (lv_at hl 1 rfl) ?_
    refine lv_lconst (v := 1) hx hb dX3_stepFromZero_14 (by decide) ?_
    refine lv_ladd hx hb dX3_stepFromZero_15 ?_
    refine lv_iload_n hx hb dX3_stepFromZero_16 rfl (lv_at hl 2 rfl) ?_
    obtain ⟨u7, eu7⟩ : ∃ y9 : (Nat → Int32) × (Nat → Bool) × (Nat → Int64) × (Nat → Int32), y9 = F_X0_setFinite vso vmi vco vex 8 false (p0 + 1) p1 := ⟨_, rfl⟩
    have hu := hu _ eu7
    refine x_V (As := [.int (bI false), .long (p0 + 1), .int p1]) (rest := []) hCF (c_X0_setFinite l D cR cI cJ cZ t0 ax ar ao ad vrd vtr vsd vrn vom voh vol vop voe vow vok vos vso vmi vco vex 8 false (p0 + 1) p1 u7 eu7 (by decide)) (x_cwV 3 hts (inW_5 _ (List.mem_of_getElem? (i := 1) rfl)) (inW_4 _ (List.mem_of_getElem? (i := 9) rfl)) (inW_4 _ (List.mem_of_getElem? (i := 10) rfl)) (inW_1 _ (List.mem_of_getElem? (i := 16) rfl)) (inW_1 _ (List.mem_of_getElem? (i := 3) rfl)) rfl rfl (by decide +kernel) ⟨Nat.le_of_ble_eq_true rfl, Nat.le_of_ble_eq_true rfl⟩) hK hP hD hS hA hSt (3 + 8) (xw_dat (by decide)) rfl rfl hl.1 rfl (Nat.le_of_ble_eq_true rfl) dX3_stepFromZero_17 ⟨Nat.le_of_ble_eq_true rfl, Nat.le_of_ble_eq_true rfl⟩ (fun H locs hP hD hS => ?_)
    show W p l e _ s m args below meth c H locs 0 0 Q (F0 m 20 ls [])
    refine lv_goto (tgt := 55) hx hb dX3_stepFromZero_20 (by decide) ?_
    have e9 := Eq.symm hu; subst e9
    exact x_vret hx hb hr hlocks hQ hK hP hD hS rfl dX3_stepFromZero_55

def F_X3_setNext (vso : Nat → Int32) (vmi : Nat → Bool) (vco : Nat → Int64) (vex : Nat → Int32) (i1 : Nat) : (Nat → Int32) × (Nat → Bool) × (Nat → Int64) × (Nat → Int32) := (if vso i1 = 2 then (bnd (F_X0_take vso vmi vco vex 8 i1) (fun u2 : (Nat → Int32) × (Nat → Bool) × (Nat → Int64) × (Nat → Int32) => (u2.1, u2.2.1, u2.2.2.1, u2.2.2.2))) else (if vso i1 = 1 then (if vmi i1 = true then (bnd (F_X0_setFinite vso vmi vco vex 8 true (9999999999999999 : Int64) (369 : Int32)) (fun u21 : (Nat → Int32) × (Nat → Bool) × (Nat → Int64) × (Nat → Int32) => (u21.1, u21.2.1, u21.2.2.1, u21.2.2.2))) else (bnd (F_X0_take vso vmi vco vex 8 i1) (fun u23 : (Nat → Int32) × (Nat → Bool) × (Nat → Int64) × (Nat → Int32) => (u23.1, u23.2.1, u23.2.2.1, u23.2.2.2)))) else (if F_X0_isZero vso vco i1 = true then (bnd (F_X0_setFinite vso vmi vco vex 8 false (1 : Int64) (-398 : Int32)) (fun u18 : (Nat → Int32) × (Nat → Bool) × (Nat → Int64) × (Nat → Int32) => (u18.1, u18.2.1, u18.2.2.1, u18.2.2.2))) else (bnd (jmin (16 - (F_X3_digitsOf (vco i1))) ((vex i1) - (-398))) (fun n9 : Int32 => (bnd ((vco i1) * (F_X3_tenTo n9)) (fun n12 : Int64 => (if vmi i1 = true then (bnd (F_X3_stepToZero vso vmi vco vex n12 ((vex i1) - n9)) (fun u16 : (Nat → Int32) × (Nat → Bool) × (Nat → Int64) × (Nat → Int32) => (u16.1, u16.2.1, u16.2.2.1, u16.2.2.2))) else (bnd (F_X3_stepFromZero vso vmi vco vex n12 ((vex i1) - n9)) (fun u14 : (Nat → Int32) × (Nat → Bool) × (Nat → Int64) × (Nat → Int32) => (u14.1, u14.2.1, u14.2.2.1, u14.2.2.2)))))))))))
def RF_X3_setNext (vso : Nat → Int32) (vmi : Nat → Bool) (vco : Nat → Int64) (vex : Nat → Int32) (i1 : Nat) (u9 : (Nat → Int32) × (Nat → Bool) × (Nat → Int64) × (Nat → Int32)) : Prop := (if vso i1 = 2 then (∀ u2 : (Nat → Int32) × (Nat → Bool) × (Nat → Int64) × (Nat → Int32), u2 = F_X0_take vso vmi vco vex 8 i1 → u9 = (u2.1, u2.2.1, u2.2.2.1, u2.2.2.2)) else (if vso i1 = 1 then (if vmi i1 = true then (∀ u21 : (Nat → Int32) × (Nat → Bool) × (Nat → Int64) × (Nat → Int32), u21 = F_X0_setFinite vso vmi vco vex 8 true (9999999999999999 : Int64) (369 : Int32) → u9 = (u21.1, u21.2.1, u21.2.2.1, u21.2.2.2)) else (∀ u23 : (Nat → Int32) × (Nat → Bool) × (Nat → Int64) × (Nat → Int32), u23 = F_X0_take vso vmi vco vex 8 i1 → u9 = (u23.1, u23.2.1, u23.2.2.1, u23.2.2.2))) else (if F_X0_isZero vso vco i1 = true then (∀ u18 : (Nat → Int32) × (Nat → Bool) × (Nat → Int64) × (Nat → Int32), u18 = F_X0_setFinite vso vmi vco vex 8 false (1 : Int64) (-398 : Int32) → u9 = (u18.1, u18.2.1, u18.2.2.1, u18.2.2.2)) else (∀ n9 : Int32, n9 = jmin (16 - (F_X3_digitsOf (vco i1))) ((vex i1) - (-398)) → (∀ n12 : Int64, n12 = (vco i1) * (F_X3_tenTo n9) → (if vmi i1 = true then (∀ u16 : (Nat → Int32) × (Nat → Bool) × (Nat → Int64) × (Nat → Int32), u16 = F_X3_stepToZero vso vmi vco vex n12 ((vex i1) - n9) → u9 = (u16.1, u16.2.1, u16.2.2.1, u16.2.2.2)) else (∀ u14 : (Nat → Int32) × (Nat → Bool) × (Nat → Int64) × (Nat → Int32), u14 = F_X3_stepFromZero vso vmi vco vex n12 ((vex i1) - n9) → u9 = (u14.1, u14.2.1, u14.2.2.1, u14.2.2.2))))))))
theorem rF_X3_setNext (vso : Nat → Int32) (vmi : Nat → Bool) (vco : Nat → Int64) (vex : Nat → Int32) (i1 : Nat) {u9 : (Nat → Int32) × (Nat → Bool) × (Nat → Int64) × (Nat → Int32)} (hu : u9 = F_X3_setNext vso vmi vco vex i1) : RF_X3_setNext vso vmi vco vex i1 u9 := by
  unfold RF_X3_setNext
  refine ite_P (fun c_1 => ?_) (fun c_1 => ?_)
  · have hu := hu.trans (if_pos c_1)
    intro u2 eu2
    have hu := bnd_n hu eu2
    exact hu
  · have hu := hu.trans (if_neg c_1)
    refine ite_P (fun c_4 => ?_) (fun c_4 => ?_)
    · have hu := hu.trans (if_pos c_4)
      refine ite_P (fun c_20 => ?_) (fun c_20 => ?_)
      · have hu := hu.trans (if_pos c_20)
        intro u21 eu21
        have hu := bnd_n hu eu21
        exact hu
      · have hu := hu.trans (if_neg c_20)
        intro u23 eu23
        have hu := bnd_n hu eu23
        exact hu
    · have hu := hu.trans (if_neg c_4)
      refine ite_P (fun c_6 => ?_) (fun c_6 => ?_)
      · have hu := hu.trans (if_pos c_6)
        intro u18 eu18
        have hu := bnd_n hu eu18
        exact hu
      · have hu := hu.trans (if_neg c_6)
        intro n9 en9
        have hu := bnd_n hu en9
        intro n12 en12
        have hu := bnd_n hu en12
        refine ite_P (fun c_13 => ?_) (fun c_13 => ?_)
        · have hu := hu.trans (if_pos c_13)
          intro u16 eu16
          have hu := bnd_n hu eu16
          exact hu
        · have hu := hu.trans (if_neg c_13)
          intro u14 eu14
          have hu := bnd_n hu eu14
          exact hu
def S_X3_setNext (vso : Nat → Int32) (vmi : Nat → Bool) (vco : Nat → Int64) (vex : Nat → Int32) (i1 : Nat) : Prop := (if vso i1 = 2 then True else (if vso i1 = 1 then True else (if F_X0_isZero vso vco i1 = true then True else (S_X3_digitsOf (vco i1)) ∧ (∀ n9 : Int32, n9 = jmin (16 - (F_X3_digitsOf (vco i1))) ((vex i1) - (-398)) → S_X3_tenTo n9))))
def rm_X3_setNext : Room := { frames := 2, cells := 0, slots := 0, locals := 60 }
set_option maxHeartbeats 4000000 in
set_option maxRecDepth 100000 in
theorem c_X3_setNext (l : Launch) (D : va_G) (cR cI cJ cZ : ClassId) (t0 : Nat) (ax ar ao : Nat) (ad : Nat → Nat) (vrd : Int32) (vtr : Int32) (vsd : Int32) (vrn : Int32) (vom : Bool) (voh : Int64) (vol : Int64) (vop : Int32) (voe : Bool) (vow : Int32) (vok : Int64) (vos : Int32) (vso : Nat → Int32) (vmi : Nat → Bool) (vco : Nat → Int64) (vex : Nat → Int32) (i1 : Nat) (u : (Nat → Int32) × (Nat → Bool) × (Nat → Int64) × (Nat → Int32)) (hu : u = F_X3_setNext vso vmi vco vex i1) (hs : S_X3_setNext vso vmi vco vex i1) (hb1 : i1 < 9) : XM l D (xty cR cI cJ cZ) t0 yX3_setNext cX3_setNext 5 none rm_X3_setNext [.ref ax, .ref (ad i1)] none (xw cR ax ar ao ad vrd vtr vsd vrn vom voh vol vop voe vow vok vos vso vmi vco vex) (xw cR ax ar ao ad vrd vtr vsd vrn vom voh vol vop voe vow vok vos u.1 u.2.1 u.2.2.1 u.2.2.2) := by
  refine XM.of (by decide) (Nat.le_of_ble_eq_true rfl) ?_
  intro p e s m args below meth c A Q F hK hP hD hA hSt hS hQ ls hl
  obtain ⟨hx, hb, hr, hts, hown, hlocks, hml⟩ := F
  have hCF : CallFix p m c cX3_setNext 5 s args gW RX3 := ⟨hx, hb, hml, hown, hts⟩
  unfold S_X3_setNext at hs
  have hu := rF_X3_setNext vso vmi vco vex i1 hu
  unfold RF_X3_setNext at hu
  obtain ⟨H, eH⟩ : ∃ y9 : Heap, y9 = s.heap := ⟨_, rfl⟩
  obtain ⟨locs, eL⟩ : ∃ y9 : List Loc, y9 = [] := ⟨_, rfl⟩
  rw [← eL] at hS ⊢
  have hP : va_P D vwCl (xw cR ax ar ao ad vrd vtr vsd vrn vom voh vol vop voe vow vok vos vso vmi vco vex) H := by rw [eH]; exact hP
  have hS : va_S A s.heap H locs := by rw [eH]; exact hS
  suffices goal9 : W p l e rm_X3_setNext s m args below meth c H locs 0 0 Q (F0 m 0 ls []) from by rw [← eH]; exact goal9
  have hl : lv_has ls 5 [(0, .ref ax), (1, .ref (ad i1))] := hl
  have hi0 : ∀ w ∈ wsX00, w ∈ gW := inW_X0
  have hi3 : ∀ w ∈ wsX30, w ∈ gW := inW_X3
  refine lv_aload_n hx hb dX3_setNext_0 rfl (lv_at hl 1 rfl) ?_
  refine g_so (i := i1) hx hb hts hi0 hown hK hP hb1 (hts (.fieldLink RX3 70 "DecimalWords$Datum" "sort" "I") (inW_5 _ (List.mem_of_getElem? (i := 13) rfl))) dX3_setNext_1 ?_
  refine lv_iconst (v := 2) hx hb dX3_setNext_4 (by decide) ?_
  refine lv_icmp_eq (tgt := 23) hx hb dX3_setNext_5 (by decide) (fun c_1 => ?_) (fun c_1 => ?_)
  · rw [if_pos c_1] at hu
    refine lv_aload_n hx hb dX3_setNext_23 rfl (lv_at hl 0 rfl) ?_
    refine va_get (D := D) (ci := 4) (v := .ref (ad 8)) (C := RX3) (T := TX3) (N := 7) hx hb hts hi3 hown hK hP 0 rfl rfl 1 (by decide) (hts (.fieldLink RX3 16 "DecimalWords" "result" "LDecimalWords$Datum;") (inW_4 _ (List.mem_of_getElem? (i := 22) rfl))) (fun _ h9 => h9) rfl dX3_setNext_24 ?_
    refine lv_aload_n hx hb dX3_setNext_27 rfl (lv_at hl 1 rfl) ?_
    obtain ⟨u2, eu2⟩ : ∃ y9 : (Nat → Int32) × (Nat → Bool) × (Nat → Int64) × (Nat → Int32), y9 = F_X0_take vso vmi vco vex 8 i1 := ⟨_, rfl⟩
    have hu := hu _ eu2
    refine x_V (As := [.ref (ad i1)]) (rest := []) hCF (c_X0_take l D cR cI cJ cZ t0 ax ar ao ad vrd vtr vsd vrn vom voh vol vop voe vow vok vos vso vmi vco vex 8 i1 u2 eu2 (by decide) hb1) (x_cwV 1 hts (inW_5 _ (List.mem_of_getElem? (i := 22) rfl)) (inW_5 _ (List.mem_of_getElem? (i := 23) rfl)) (inW_5 _ (List.mem_of_getElem? (i := 24) rfl)) (inW_1 _ (List.mem_of_getElem? (i := 16) rfl)) (inW_1 _ (List.mem_of_getElem? (i := 10) rfl)) rfl rfl (by decide +kernel) ⟨Nat.le_of_ble_eq_true rfl, Nat.le_of_ble_eq_true rfl⟩) hK hP hD hS hA hSt (3 + 8) (xw_dat (by decide)) rfl rfl hl.1 rfl (Nat.le_of_ble_eq_true rfl) dX3_setNext_28 ⟨Nat.le_of_ble_eq_true rfl, Nat.le_of_ble_eq_true rfl⟩ (fun H locs hP hD hS => ?_)
    show W p l e _ s m args below meth c H locs 0 0 Q (F0 m 31 ls [])
    refine lv_goto (tgt := 145) hx hb dX3_setNext_31 (by decide) ?_
    have e9 := Eq.symm hu; subst e9
    exact x_vret hx hb hr hlocks hQ hK hP hD hS rfl dX3_setNext_145
  · rw [if_neg c_1] at hs
    rw [if_neg c_1] at hu
    refine lv_aload_n hx hb dX3_setNext_8 rfl (lv_at hl 1 rfl) ?_
    refine g_so (i := i1) hx hb hts hi0 hown hK hP hb1 (hts (.fieldLink RX3 70 "DecimalWords$Datum" "sort" "I") (inW_5 _ (List.mem_of_getElem? (i := 13) rfl))) dX3_setNext_9 ?_
    refine lv_iconst (v := 1) hx hb dX3_setNext_12 (by decide) ?_
    refine lv_icmp_ne (tgt := 34) hx hb dX3_setNext_13 (by decide) (fun c_4 => ?_) (fun c_4 => ?_)
    · rw [if_neg c_4] at hs
      rw [if_neg c_4] at hu
      refine lv_aload_n hx hb dX3_setNext_34 rfl (lv_at hl 1 rfl) ?_
      refine g_so (i := i1) hx hb hts hi0 hown hK hP hb1 (hts (.fieldLink RX3 70 "DecimalWords$Datum" "sort" "I") (inW_5 _ (List.mem_of_getElem? (i := 13) rfl))) dX3_setNext_35 ?_
      refine lv_iconst (v := 1) hx hb dX3_setNext_38 (by decide) ?_
      refine lv_icmp_ne (tgt := 59) hx hb dX3_setNext_39 (by decide) (fun _ => ?_) (fun c9 => absurd c9 c_4)
      refine lv_aload_n hx hb dX3_setNext_59 rfl (lv_at hl 1 rfl) ?_
      refine x_V (As := []) (rest := []) hCF (c_X0_isZero l D cR cI cJ cZ t0 ax ar ao ad vrd vtr vsd vrn vom voh vol vop voe vow vok vos vso vmi vco vex i1 _ rfl hb1) (x_cwV 0 hts (inW_5 _ (List.mem_of_getElem? (i := 25) rfl)) (inW_1 _ (List.mem_of_getElem? (i := 14) rfl)) (inW_1 _ (List.mem_of_getElem? (i := 15) rfl)) (inW_1 _ (List.mem_of_getElem? (i := 16) rfl)) (inW_1 _ (List.mem_of_getElem? (i := 11) rfl)) rfl rfl (by decide +kernel) ⟨Nat.le_of_ble_eq_true rfl, Nat.le_of_ble_eq_true rfl⟩) hK hP hD hS hA hSt (3 + i1) (xw_dat hb1) rfl rfl hl.1 rfl (Nat.le_of_ble_eq_true rfl) dX3_setNext_60 ⟨Nat.le_of_ble_eq_true rfl, Nat.le_of_ble_eq_true rfl⟩ (fun H locs hP hD hS => ?_)
      show W p l e _ s m args below meth c H locs 0 0 Q (F0 m 63 ls (.int (bI (F_X0_isZero vso vco i1)) :: []))
      refine xb_eq (tgt := 81) hx hb dX3_setNext_63 (by decide) (fun c_6 => ?_) (fun c_6 => ?_)
      · rw [if_neg c_6] at hs
        rw [if_neg c_6] at hu
        refine lv_bipush (v := 16) hx hb dX3_setNext_81 (by decide) ?_
        refine lv_aload_n hx hb dX3_setNext_83 rfl (lv_at hl 1 rfl) ?_
        refine g_co (i := i1) hx hb hts hi0 hown hK hP hb1 (hts (.fieldLink RX3 81 "DecimalWords$Datum" "coefficient" "J") (inW_5 _ (List.mem_of_getElem? (i := 20) rfl))) dX3_setNext_84 ?_
        obtain ⟨h_7, hs⟩ := hs
        refine x_S (As := [.long (vco i1)]) (rest := [.int 16]) hCF (c_X3_digitsOf l D cR cI cJ cZ t0 (xw cR ax ar ao ad vrd vtr vsd vrn vom voh vol vop voe vow vok vos vso vmi vco vex) (vco i1) _ rfl h_7) (x_cwS 1 hts (inW_5 _ (List.mem_of_getElem? (i := 26) rfl)) (inW_1 _ (List.mem_of_getElem? (i := 24) rfl)) (inW_1 _ (List.mem_of_getElem? (i := 25) rfl)) (inW_1 _ (List.mem_of_getElem? (i := 26) rfl)) rfl rfl (by decide +kernel) ⟨Nat.le_of_ble_eq_true rfl, Nat.le_of_ble_eq_true rfl⟩) hK hP hD hS hA hSt rfl hl.1 rfl (Nat.le_of_ble_eq_true rfl) dX3_setNext_87 ⟨Nat.le_of_ble_eq_true rfl, Nat.le_of_ble_eq_true rfl⟩ (fun H locs hP hD hS => ?_)
        show W p l e _ s m args below meth c H locs 0 0 Q (F0 m 90 ls (.int (F_X3_digitsOf (vco i1)) :: [.int 16]))
        refine lv_isub hx hb dX3_setNext_90 ?_
        refine lv_aload_n hx hb dX3_setNext_91 rfl (lv_at hl 1 rfl) ?_
        refine g_ex (i := i1) hx hb hts hi0 hown hK hP hb1 (hts (.fieldLink RX3 85 "DecimalWords$Datum" "exponent" "I") (inW_5 _ (List.mem_of_getElem? (i := 21) rfl))) dX3_setNext_92 ?_
        refine lv_sipush (v := (-398)) hx hb dX3_setNext_95 (by decide) ?_
        refine lv_isub hx hb dX3_setNext_98 ?_
        refine x_min hx hb hml hl.1 hts hown (inW_2 _ (List.mem_of_getElem? (i := 11) rfl)) (inW_1 _ (List.mem_of_getElem? (i := 36) rfl)) (inW_1 _ (List.mem_of_getElem? (i := 37) rfl)) (inW_1 _ (List.mem_of_getElem? (i := 38) rfl)) (Nat.le_of_ble_eq_true rfl) (Nat.le_of_ble_eq_true rfl) (Nat.le_of_ble_eq_true rfl) (Nat.le_of_ble_eq_true rfl) dX3_setNext_99 ?_
        refine lv_topi (fun n9 en9 => ?_)
        have hs := hs _ en9
        have hu := hu _ en9
        refine lv_istore_n (lv' := [(2, .int n9), (0, .ref ax), (1, .ref (ad i1))]) hx hb dX3_setNext_102 rfl hl (by decide) rfl (fun ls hl => ?_)
        refine lv_aload_n hx hb dX3_setNext_103 rfl (lv_at hl 2 rfl) ?_
        refine g_co (i := i1) hx hb hts hi0 hown hK hP hb1 (hts (.fieldLink RX3 81 "DecimalWords$Datum" "coefficient" "J") (inW_5 _ (List.mem_of_getElem? (i := 20) rfl))) dX3_setNext_104 ?_
        refine lv_iload_n hx hb dX3_setNext_107 rfl (lv_at hl 0 rfl) ?_
        have h_10 := hs
        refine x_S (As := [.int n9]) (rest := [.long (vco i1)]) hCF (c_X3_tenTo l D cR cI cJ cZ t0 (xw cR ax ar ao ad vrd vtr vsd vrn vom voh vol vop voe vow vok vos vso vmi vco vex) n9 _ rfl h_10) (x_cwS 1 hts (inW_5 _ (List.mem_of_getElem? (i := 27) rfl)) (inW_2 _ (List.mem_of_getElem? (i := 9) rfl)) (inW_1 _ (List.mem_of_getElem? (i := 25) rfl)) (inW_2 _ (List.mem_of_getElem? (i := 10) rfl)) rfl rfl (by decide +kernel) ⟨Nat.le_of_ble_eq_true rfl, Nat.le_of_ble_eq_true rfl⟩) hK hP hD hS hA hSt rfl hl.1 rfl (Nat.le_of_ble_eq_true rfl) dX3_setNext_108 ⟨Nat.le_of_ble_eq_true rfl, Nat.le_of_ble_eq_true rfl⟩ (fun H locs hP hD hS => ?_)
        show W p l e _ s m args below meth c H locs 0 0 Q (F0 m 111 ls (.long (F_X3_tenTo n9) :: [.long (vco i1)]))
        refine lv_lmul hx hb dX3_setNext_111 ?_
        refine lv_topl (fun n12 en12 => ?_)
        have hu := hu _ en12
        refine lv_lstore_n (lv' := [(3, .long n12), (2, .int n9), (0, .ref ax), (1, .ref (ad i1))]) hx hb dX3_setNext_112 rfl hl (by decide) rfl (fun ls hl => ?_)
        refine lv_aload_n hx hb dX3_setNext_113 rfl (lv_at hl 3 rfl) ?_
        refine g_mi (i := i1) hx hb hts hi0 hown hK hP hb1 (hts (.fieldLink RX3 77 "DecimalWords$Datum" "minus" "Z") (inW_5 _ (List.mem_of_getElem? (i := 18) rfl))) dX3_setNext_114 ?_
        refine xb_eq (tgt := 134) hx hb dX3_setNext_117 (by decide) (fun c_13 => ?_) (fun c_13 => ?_)
        · rw [if_neg c_13] at hu
          refine lv_aload_n hx hb dX3_setNext_134 rfl (lv_at hl 2 rfl) ?_
          refine lv_lload_n hx hb dX3_setNext_135 rfl (lv_at hl 0 rfl) ?_
          refine lv_aload_n hx hb dX3_setNext_136 rfl (lv_at hl 3 rfl) ?_
          refine g_ex (i := i1) hx hb hts hi0 hown hK hP hb1 (hts (.fieldLink RX3 85 "DecimalWords$Datum" "exponent" "I") (inW_5 _ (List.mem_of_getElem? (i := 21) rfl))) dX3_setNext_137 ?_
          refine lv_iload_n hx hb dX3_setNext_140 rfl (lv_at hl 1 rfl) ?_
          refine lv_isub hx hb dX3_setNext_141 ?_
          obtain ⟨u14, eu14⟩ : ∃ y9 : (Nat → Int32) × (Nat → Bool) × (Nat → Int64) × (Nat → Int32), y9 = F_X3_stepFromZero vso vmi vco vex n12 ((vex i1) - n9) := ⟨_, rfl⟩
          have hu := hu _ eu14
          refine x_V (As := [.long n12, .int ((vex i1) - n9)]) (rest := []) hCF (c_X3_stepFromZero l D cR cI cJ cZ t0 ax ar ao ad vrd vtr vsd vrn vom voh vol vop voe vow vok vos vso vmi vco vex n12 ((vex i1) - n9) u14 eu14) (x_cwV 2 hts (inW_5 _ (List.mem_of_getElem? (i := 33) rfl)) (inW_5 _ (List.mem_of_getElem? (i := 34) rfl)) (inW_5 _ (List.mem_of_getElem? (i := 35) rfl)) (inW_1 _ (List.mem_of_getElem? (i := 25) rfl)) (inW_5 _ (List.mem_of_getElem? (i := 36) rfl)) rfl rfl (by decide +kernel) ⟨Nat.le_of_ble_eq_true rfl, Nat.le_of_ble_eq_true rfl⟩) hK hP hD hS hA hSt 0 rfl rfl rfl hl.1 rfl (Nat.le_of_ble_eq_true rfl) dX3_setNext_142 ⟨Nat.le_of_ble_eq_true rfl, Nat.le_of_ble_eq_true rfl⟩ (fun H locs hP hD hS => ?_)
          show W p l e _ s m args below meth c H locs 0 0 Q (F0 m 145 ls [])
          have e9 := Eq.symm hu; subst e9
          exact x_vret hx hb hr hlocks hQ hK hP hD hS rfl dX3_setNext_145
        · rw [if_pos c_13] at hu
          refine lv_aload_n hx hb dX3_setNext_120 rfl (lv_at hl 2 rfl) ?_
          refine lv_lload_n hx hb dX3_setNext_121 rfl (lv_at hl 0 rfl) ?_
          refine lv_aload_n hx hb dX3_setNext_122 rfl (lv_at hl 3 rfl) ?_
          refine g_ex (i := i1) hx hb hts hi0 hown hK hP hb1 (hts (.fieldLink RX3 85 "DecimalWords$Datum" "exponent" "I") (inW_5 _ (List.mem_of_getElem? (i := 21) rfl))) dX3_setNext_123 ?_
          refine lv_iload_n hx hb dX3_setNext_126 rfl (lv_at hl 1 rfl) ?_
          refine lv_isub hx hb dX3_setNext_127 ?_
          obtain ⟨u16, eu16⟩ : ∃ y9 : (Nat → Int32) × (Nat → Bool) × (Nat → Int64) × (Nat → Int32), y9 = F_X3_stepToZero vso vmi vco vex n12 ((vex i1) - n9) := ⟨_, rfl⟩
          have hu := hu _ eu16
          refine x_V (As := [.long n12, .int ((vex i1) - n9)]) (rest := []) hCF (c_X3_stepToZero l D cR cI cJ cZ t0 ax ar ao ad vrd vtr vsd vrn vom voh vol vop voe vow vok vos vso vmi vco vex n12 ((vex i1) - n9) u16 eu16) (x_cwV 2 hts (inW_5 _ (List.mem_of_getElem? (i := 28) rfl)) (inW_5 _ (List.mem_of_getElem? (i := 29) rfl)) (inW_5 _ (List.mem_of_getElem? (i := 30) rfl)) (inW_1 _ (List.mem_of_getElem? (i := 25) rfl)) (inW_5 _ (List.mem_of_getElem? (i := 31) rfl)) rfl rfl (by decide +kernel) ⟨Nat.le_of_ble_eq_true rfl, Nat.le_of_ble_eq_true rfl⟩) hK hP hD hS hA hSt 0 rfl rfl rfl hl.1 rfl (Nat.le_of_ble_eq_true rfl) dX3_setNext_128 ⟨Nat.le_of_ble_eq_true rfl, Nat.le_of_ble_eq_true rfl⟩ (fun H locs hP hD hS => ?_)
          show W p l e _ s m args below meth c H locs 0 0 Q (F0 m 131 ls [])
          refine lv_goto (tgt := 145) hx hb dX3_setNext_131 (by decide) ?_
          have e9 := Eq.symm hu; subst e9
          exact x_vret hx hb hr hlocks hQ hK hP hD hS rfl dX3_setNext_145
      · rw [if_pos c_6] at hu
        refine lv_aload_n hx hb dX3_setNext_66 rfl (lv_at hl 0 rfl) ?_
        refine va_get (D := D) (ci := 4) (v := .ref (ad 8)) (C := RX3) (T := TX3) (N := 7) hx hb hts hi3 hown hK hP 0 rfl rfl 1 (by decide) (hts (.fieldLink RX3 16 "DecimalWords" "result" "LDecimalWords$Datum;") (inW_4 _ (List.mem_of_getElem? (i := 22) rfl))) (fun _ h9 => h9) rfl dX3_setNext_67 ?_
        refine lv_iconst (v := 0) hx hb dX3_setNext_70 (by decide) ?_
        refine lv_lconst (v := 1) hx hb dX3_setNext_71 (by decide) ?_
        refine lv_sipush (v := (-398)) hx hb dX3_setNext_72 (by decide) ?_
        obtain ⟨u18, eu18⟩ : ∃ y9 : (Nat → Int32) × (Nat → Bool) × (Nat → Int64) × (Nat → Int32), y9 = F_X0_setFinite vso vmi vco vex 8 false (1 : Int64) (-398 : Int32) := ⟨_, rfl⟩
        have hu := hu _ eu18
        refine x_V (As := [.int (bI false), .long 1, .int (-398)]) (rest := []) hCF (c_X0_setFinite l D cR cI cJ cZ t0 ax ar ao ad vrd vtr vsd vrn vom voh vol vop voe vow vok vos vso vmi vco vex 8 false (1 : Int64) (-398 : Int32) u18 eu18 (by decide)) (x_cwV 3 hts (inW_5 _ (List.mem_of_getElem? (i := 1) rfl)) (inW_4 _ (List.mem_of_getElem? (i := 9) rfl)) (inW_4 _ (List.mem_of_getElem? (i := 10) rfl)) (inW_1 _ (List.mem_of_getElem? (i := 16) rfl)) (inW_1 _ (List.mem_of_getElem? (i := 3) rfl)) rfl rfl (by decide +kernel) ⟨Nat.le_of_ble_eq_true rfl, Nat.le_of_ble_eq_true rfl⟩) hK hP hD hS hA hSt (3 + 8) (xw_dat (by decide)) rfl rfl hl.1 rfl (Nat.le_of_ble_eq_true rfl) dX3_setNext_75 ⟨Nat.le_of_ble_eq_true rfl, Nat.le_of_ble_eq_true rfl⟩ (fun H locs hP hD hS => ?_)
        show W p l e _ s m args below meth c H locs 0 0 Q (F0 m 78 ls [])
        refine lv_goto (tgt := 145) hx hb dX3_setNext_78 (by decide) ?_
        have e9 := Eq.symm hu; subst e9
        exact x_vret hx hb hr hlocks hQ hK hP hD hS rfl dX3_setNext_145
    · rw [if_pos c_4] at hu
      refine lv_aload_n hx hb dX3_setNext_16 rfl (lv_at hl 1 rfl) ?_
      refine g_mi (i := i1) hx hb hts hi0 hown hK hP hb1 (hts (.fieldLink RX3 77 "DecimalWords$Datum" "minus" "Z") (inW_5 _ (List.mem_of_getElem? (i := 18) rfl))) dX3_setNext_17 ?_
      refine xb_ne (tgt := 34) hx hb dX3_setNext_20 (by decide) (fun c_20 => ?_) (fun c_20 => ?_)
      · rw [if_pos c_20] at hu
        refine lv_aload_n hx hb dX3_setNext_34 rfl (lv_at hl 1 rfl) ?_
        refine g_so (i := i1) hx hb hts hi0 hown hK hP hb1 (hts (.fieldLink RX3 70 "DecimalWords$Datum" "sort" "I") (inW_5 _ (List.mem_of_getElem? (i := 13) rfl))) dX3_setNext_35 ?_
        refine lv_iconst (v := 1) hx hb dX3_setNext_38 (by decide) ?_
        refine lv_icmp_ne (tgt := 59) hx hb dX3_setNext_39 (by decide) (fun c9 => absurd c_4 c9) (fun _ => ?_)
        refine lv_aload_n hx hb dX3_setNext_42 rfl (lv_at hl 0 rfl) ?_
        refine va_get (D := D) (ci := 4) (v := .ref (ad 8)) (C := RX3) (T := TX3) (N := 7) hx hb hts hi3 hown hK hP 0 rfl rfl 1 (by decide) (hts (.fieldLink RX3 16 "DecimalWords" "result" "LDecimalWords$Datum;") (inW_4 _ (List.mem_of_getElem? (i := 22) rfl))) (fun _ h9 => h9) rfl dX3_setNext_43 ?_
        refine lv_iconst (v := 1) hx hb dX3_setNext_46 (by decide) ?_
        refine lv_ldc2 (v := 9999999999999999) hx hb hown (hts (.constantLong RX3 192 (9999999999999999)) (inW_5 _ (List.mem_of_getElem? (i := 19) rfl))) dX3_setNext_47 ?_
        refine lv_sipush (v := 369) hx hb dX3_setNext_50 (by decide) ?_
        obtain ⟨u21, eu21⟩ : ∃ y9 : (Nat → Int32) × (Nat → Bool) × (Nat → Int64) × (Nat → Int32), y9 = F_X0_setFinite vso vmi vco vex 8 true (9999999999999999 : Int64) (369 : Int32) := ⟨_, rfl⟩
        have hu := hu _ eu21
        refine x_V (As := [.int (bI true), .long 9999999999999999, .int 369]) (rest := []) hCF (c_X0_setFinite l D cR cI cJ cZ t0 ax ar ao ad vrd vtr vsd vrn vom voh vol vop voe vow vok vos vso vmi vco vex 8 true (9999999999999999 : Int64) (369 : Int32) u21 eu21 (by decide)) (x_cwV 3 hts (inW_5 _ (List.mem_of_getElem? (i := 1) rfl)) (inW_4 _ (List.mem_of_getElem? (i := 9) rfl)) (inW_4 _ (List.mem_of_getElem? (i := 10) rfl)) (inW_1 _ (List.mem_of_getElem? (i := 16) rfl)) (inW_1 _ (List.mem_of_getElem? (i := 3) rfl)) rfl rfl (by decide +kernel) ⟨Nat.le_of_ble_eq_true rfl, Nat.le_of_ble_eq_true rfl⟩) hK hP hD hS hA hSt (3 + 8) (xw_dat (by decide)) rfl rfl hl.1 rfl (Nat.le_of_ble_eq_true rfl) dX3_setNext_53 ⟨Nat.le_of_ble_eq_true rfl, Nat.le_of_ble_eq_true rfl⟩ (fun H locs hP hD hS => ?_)
        show W p l e _ s m args below meth c H locs 0 0 Q (F0 m 56 ls [])
        refine lv_goto (tgt := 145) hx hb dX3_setNext_56 (by decide) ?_
        have e9 := Eq.symm hu; subst e9
        exact x_vret hx hb hr hlocks hQ hK hP hD hS rfl dX3_setNext_145
      · rw [if_neg c_20] at hu
        refine lv_aload_n hx hb dX3_setNext_23 rfl (lv_at hl 0 rfl) ?_
        refine va_get (D := D) (ci := 4) (v := .ref (ad 8)) (C := RX3) (T := TX3) (N := 7) hx hb hts hi3 hown hK hP 0 rfl rfl 1 (by decide) (hts (.fieldLink RX3 16 "DecimalWords" "result" "LDecimalWords$Datum;") (inW_4 _ (List.mem_of_getElem? (i := 22) rfl))) (fun _ h9 => h9) rfl dX3_setNext_24 ?_
        refine lv_aload_n hx hb dX3_setNext_27 rfl (lv_at hl 1 rfl) ?_
        obtain ⟨u23, eu23⟩ : ∃ y9 : (Nat → Int32) × (Nat → Bool) × (Nat → Int64) × (Nat → Int32), y9 = F_X0_take vso vmi vco vex 8 i1 := ⟨_, rfl⟩
        have hu := hu _ eu23
        refine x_V (As := [.ref (ad i1)]) (rest := []) hCF (c_X0_take l D cR cI cJ cZ t0 ax ar ao ad vrd vtr vsd vrn vom voh vol vop voe vow vok vos vso vmi vco vex 8 i1 u23 eu23 (by decide) hb1) (x_cwV 1 hts (inW_5 _ (List.mem_of_getElem? (i := 22) rfl)) (inW_5 _ (List.mem_of_getElem? (i := 23) rfl)) (inW_5 _ (List.mem_of_getElem? (i := 24) rfl)) (inW_1 _ (List.mem_of_getElem? (i := 16) rfl)) (inW_1 _ (List.mem_of_getElem? (i := 10) rfl)) rfl rfl (by decide +kernel) ⟨Nat.le_of_ble_eq_true rfl, Nat.le_of_ble_eq_true rfl⟩) hK hP hD hS hA hSt (3 + 8) (xw_dat (by decide)) rfl rfl hl.1 rfl (Nat.le_of_ble_eq_true rfl) dX3_setNext_28 ⟨Nat.le_of_ble_eq_true rfl, Nat.le_of_ble_eq_true rfl⟩ (fun H locs hP hD hS => ?_)
        show W p l e _ s m args below meth c H locs 0 0 Q (F0 m 31 ls [])
        refine lv_goto (tgt := 145) hx hb dX3_setNext_31 (by decide) ?_
        have e9 := Eq.symm hu; subst e9
        exact x_vret hx hb hr hlocks hQ hK hP hD hS rfl dX3_setNext_145

def Z_X3_roundedKept_J_26 (vos : Int32) (p0 : Bool) : Bool := (if vos = 0 then false else (if p0 = true then true else false))
def RZ_X3_roundedKept_J_26 (vos : Int32) (p0 : Bool) (u9 : Bool) : Prop := (if vos = 0 then u9 = false else (if p0 = true then u9 = true else u9 = false))
theorem rZ_X3_roundedKept_J_26 (vos : Int32) (p0 : Bool) {u9 : Bool} (hu : u9 = Z_X3_roundedKept_J_26 vos p0) : RZ_X3_roundedKept_J_26 vos p0 u9 := by
  unfold RZ_X3_roundedKept_J_26
  refine ite_P (fun c_22 => ?_) (fun c_22 => ?_)
  · have hu := hu.trans (if_pos c_22)
    exact hu
  · have hu := hu.trans (if_neg c_22)
    refine ite_P (fun c_23 => ?_) (fun c_23 => ?_)
    · have hu := hu.trans (if_pos c_23)
      exact hu
    · have hu := hu.trans (if_neg c_23)
      exact hu
def Z_X3_roundedKept_J_21 (vos : Int32) (p0 : Bool) : Bool := (if vos = 0 then false else (if p0 = true then false else true))
def RZ_X3_roundedKept_J_21 (vos : Int32) (p0 : Bool) (u9 : Bool) : Prop := (if vos = 0 then u9 = false else (if p0 = true then u9 = false else u9 = true))
theorem rZ_X3_roundedKept_J_21 (vos : Int32) (p0 : Bool) {u9 : Bool} (hu : u9 = Z_X3_roundedKept_J_21 vos p0) : RZ_X3_roundedKept_J_21 vos p0 u9 := by
  unfold RZ_X3_roundedKept_J_21
  refine ite_P (fun c_17 => ?_) (fun c_17 => ?_)
  · have hu := hu.trans (if_pos c_17)
    exact hu
  · have hu := hu.trans (if_neg c_17)
    refine ite_P (fun c_18 => ?_) (fun c_18 => ?_)
    · have hu := hu.trans (if_pos c_18)
      exact hu
    · have hu := hu.trans (if_neg c_18)
      exact hu
def Z_X3_roundedKept_J_16 (vos : Int32) : Bool := (if vos = 2 then true else (if vos = 3 then true else false))
def RZ_X3_roundedKept_J_16 (vos : Int32) (u9 : Bool) : Prop := (if vos = 2 then u9 = true else (if vos = 3 then u9 = true else u9 = false))
theorem rZ_X3_roundedKept_J_16 (vos : Int32) {u9 : Bool} (hu : u9 = Z_X3_roundedKept_J_16 vos) : RZ_X3_roundedKept_J_16 vos u9 := by
  unfold RZ_X3_roundedKept_J_16
  refine ite_P (fun c_12 => ?_) (fun c_12 => ?_)
  · have hu := hu.trans (if_pos c_12)
    exact hu
  · have hu := hu.trans (if_neg c_12)
    refine ite_P (fun c_13 => ?_) (fun c_13 => ?_)
    · have hu := hu.trans (if_pos c_13)
      exact hu
    · have hu := hu.trans (if_neg c_13)
      exact hu
def Z_X3_roundedKept_J_11 (vok : Int64) (vos : Int32) : Bool := (if vos = 3 then true else (if vos = 2 then (if jremL vok 2 = 0 then false else true) else false))
def RZ_X3_roundedKept_J_11 (vok : Int64) (vos : Int32) (u9 : Bool) : Prop := (if vos = 3 then u9 = true else (if vos = 2 then (if jremL vok 2 = 0 then u9 = false else u9 = true) else u9 = false))
theorem rZ_X3_roundedKept_J_11 (vok : Int64) (vos : Int32) {u9 : Bool} (hu : u9 = Z_X3_roundedKept_J_11 vok vos) : RZ_X3_roundedKept_J_11 vok vos u9 := by
  unfold RZ_X3_roundedKept_J_11
  refine ite_P (fun c_6 => ?_) (fun c_6 => ?_)
  · have hu := hu.trans (if_pos c_6)
    exact hu
  · have hu := hu.trans (if_neg c_6)
    refine ite_P (fun c_7 => ?_) (fun c_7 => ?_)
    · have hu := hu.trans (if_pos c_7)
      refine ite_P (fun c_8 => ?_) (fun c_8 => ?_)
      · have hu := hu.trans (if_pos c_8)
        exact hu
      · have hu := hu.trans (if_neg c_8)
        exact hu
    · have hu := hu.trans (if_neg c_7)
      exact hu
def Z_X3_roundedKept_J_29 (vrd : Int32) (vok : Int64) (vos : Int32) (p0 : Bool) : Bool := (if vrd = 0 then (bnd (Z_X3_roundedKept_J_11 vok vos) (fun z10 : Bool => z10)) else (if vrd = 1 then (bnd (Z_X3_roundedKept_J_16 vos) (fun z15 : Bool => z15)) else (if vrd = 2 then false else (if vrd = 3 then (bnd (Z_X3_roundedKept_J_21 vos p0) (fun z20 : Bool => z20)) else (if vrd = 4 then (bnd (Z_X3_roundedKept_J_26 vos p0) (fun z25 : Bool => z25)) else false)))))
def RZ_X3_roundedKept_J_29 (vrd : Int32) (vok : Int64) (vos : Int32) (p0 : Bool) (u9 : Bool) : Prop := (if vrd = 0 then (∀ z10 : Bool, z10 = Z_X3_roundedKept_J_11 vok vos → u9 = z10) else (if vrd = 1 then (∀ z15 : Bool, z15 = Z_X3_roundedKept_J_16 vos → u9 = z15) else (if vrd = 2 then u9 = false else (if vrd = 3 then (∀ z20 : Bool, z20 = Z_X3_roundedKept_J_21 vos p0 → u9 = z20) else (if vrd = 4 then (∀ z25 : Bool, z25 = Z_X3_roundedKept_J_26 vos p0 → u9 = z25) else u9 = false)))))
theorem rZ_X3_roundedKept_J_29 (vrd : Int32) (vok : Int64) (vos : Int32) (p0 : Bool) {u9 : Bool} (hu : u9 = Z_X3_roundedKept_J_29 vrd vok vos p0) : RZ_X3_roundedKept_J_29 vrd vok vos p0 u9 := by
  unfold RZ_X3_roundedKept_J_29
  refine ite_P (fun c_1 => ?_) (fun c_1 => ?_)
  · have hu := hu.trans (if_pos c_1)
    intro z10 ez10
    have hu := bnd_n hu ez10
    exact hu
  have hu := hu.trans (if_neg c_1)
  refine ite_P (fun c_2 => ?_) (fun c_2 => ?_)
  · have hu := hu.trans (if_pos c_2)
    intro z15 ez15
    have hu := bnd_n hu ez15
    exact hu
  have hu := hu.trans (if_neg c_2)
  refine ite_P (fun c_3 => ?_) (fun c_3 => ?_)
  · have hu := hu.trans (if_pos c_3)
    exact hu
  have hu := hu.trans (if_neg c_3)
  refine ite_P (fun c_4 => ?_) (fun c_4 => ?_)
  · have hu := hu.trans (if_pos c_4)
    intro z20 ez20
    have hu := bnd_n hu ez20
    exact hu
  have hu := hu.trans (if_neg c_4)
  refine ite_P (fun c_5 => ?_) (fun c_5 => ?_)
  · have hu := hu.trans (if_pos c_5)
    intro z25 ez25
    have hu := bnd_n hu ez25
    exact hu
  have hu := hu.trans (if_neg c_5)
  exact hu
def F_X3_roundedKept (vrd : Int32) (vok : Int64) (vos : Int32) (p0 : Bool) : Int64 := (bnd (Z_X3_roundedKept_J_29 vrd vok vos p0) (fun z28 : Bool => (if z28 = true then vok + 1 else vok)))
def RF_X3_roundedKept (vrd : Int32) (vok : Int64) (vos : Int32) (p0 : Bool) (u9 : Int64) : Prop := (∀ z28 : Bool, z28 = Z_X3_roundedKept_J_29 vrd vok vos p0 → (if z28 = true then u9 = vok + 1 else u9 = vok))
theorem rF_X3_roundedKept (vrd : Int32) (vok : Int64) (vos : Int32) (p0 : Bool) {u9 : Int64} (hu : u9 = F_X3_roundedKept vrd vok vos p0) : RF_X3_roundedKept vrd vok vos p0 u9 := by
  unfold RF_X3_roundedKept
  intro z28 ez28
  have hu := bnd_n hu ez28
  refine ite_P (fun c_30 => ?_) (fun c_30 => ?_)
  · have hu := hu.trans (if_pos c_30)
    exact hu
  · have hu := hu.trans (if_neg c_30)
    exact hu
def rm_X3_roundedKept : Room := { frames := 0, cells := 0, slots := 0, locals := 0 }
set_option maxHeartbeats 4000000 in
set_option maxRecDepth 100000 in
theorem c_X3_roundedKept (l : Launch) (D : va_G) (cR cI cJ cZ : ClassId) (t0 : Nat) (ax ar ao : Nat) (ad : Nat → Nat) (vrd : Int32) (vtr : Int32) (vsd : Int32) (vrn : Int32) (vom : Bool) (voh : Int64) (vol : Int64) (vop : Int32) (voe : Bool) (vow : Int32) (vok : Int64) (vos : Int32) (vso : Nat → Int32) (vmi : Nat → Bool) (vco : Nat → Int64) (vex : Nat → Int32) (p0 : Bool) (u : Int64) (hu : u = F_X3_roundedKept vrd vok vos p0) : XM l D (xty cR cI cJ cZ) t0 yX3_roundedKept cX3_roundedKept 3 (some .long) rm_X3_roundedKept [.ref ax, .int (bI p0)] (some (.long u)) (xw cR ax ar ao ad vrd vtr vsd vrn vom voh vol vop voe vow vok vos vso vmi vco vex) (xw cR ax ar ao ad vrd vtr vsd vrn vom voh vol vop voe vow vok vos vso vmi vco vex) := by
  refine XM.of (by decide) (Nat.le_of_ble_eq_true rfl) ?_
  intro p e s m args below meth c A Q F hK hP hD hA hSt hS hQ ls hl
  obtain ⟨hx, hb, hr, hts, hown, hlocks, hml⟩ := F
  have hCF : CallFix p m c cX3_roundedKept 3 s args gW RX3 := ⟨hx, hb, hml, hown, hts⟩
  have hu := rF_X3_roundedKept vrd vok vos p0 hu
  unfold RF_X3_roundedKept at hu
  obtain ⟨H, eH⟩ : ∃ y9 : Heap, y9 = s.heap := ⟨_, rfl⟩
  obtain ⟨locs, eL⟩ : ∃ y9 : List Loc, y9 = [] := ⟨_, rfl⟩
  rw [← eL] at hS ⊢
  have hP : va_P D vwCl (xw cR ax ar ao ad vrd vtr vsd vrn vom voh vol vop voe vow vok vos vso vmi vco vex) H := by rw [eH]; exact hP
  have hS : va_S A s.heap H locs := by rw [eH]; exact hS
  suffices goal9 : W p l e rm_X3_roundedKept s m args below meth c H locs 0 0 Q (F0 m 0 ls []) from by rw [← eH]; exact goal9
  have hl : lv_has ls 3 [(0, .ref ax), (1, .int (bI p0))] := hl
  have hi1 : ∀ w ∈ wsX10, w ∈ gW := inW_X1
  have hi3 : ∀ w ∈ wsX30, w ∈ gW := inW_X3
  refine lv_aload_n hx hb dX3_roundedKept_0 rfl (lv_at hl 0 rfl) ?_
  refine va_get (D := D) (ci := 4) (v := .int vrd) (C := RX3) (T := TX3) (N := 7) hx hb hts hi3 hown hK hP 0 rfl rfl 3 (by decide) (hts (.fieldLink RX3 27 "DecimalWords" "rounding" "I") (inW_4 _ (List.mem_of_getElem? (i := 26) rfl))) (fun _ h9 => h9) rfl dX3_roundedKept_1 ?_
  have J_29 : (∀ z28 : Bool, z28 = Z_X3_roundedKept_J_29 vrd vok vos p0 → ∀ (H : Heap) (locs : List Loc), va_P D vwCl (xw cR ax ar ao ad vrd vtr vsd vrn vom voh vol vop voe vow vok vos vso vmi vco vex) H → va_D A (xw cR ax ar ao ad vrd vtr vsd vrn vom voh vol vop voe vow vok vos vso vmi vco vex) → va_S A s.heap H locs → ∀ ls : Array Slot, lv_has ls 3 [(0, .ref ax), (2, .int (bI z28))] → W p l e rm_X3_roundedKept s m args below meth c H locs 0 0 Q (F0 m 166 ls [])) := by
    intro z28 ez28 H locs hP hD hS ls hl
    have hu := hu _ ez28
    refine lv_iload_n hx hb dX3_roundedKept_166 rfl (lv_at hl 1 rfl) ?_
    refine xb_eq (tgt := 182) hx hb dX3_roundedKept_167 (by decide) (fun c_30 => ?_) (fun c_30 => ?_)
    · rw [if_neg c_30] at hu
      refine lv_aload_n hx hb dX3_roundedKept_182 rfl (lv_at hl 0 rfl) ?_
      refine va_get (D := D) (ci := 4) (v := .ref ao) (C := RX3) (T := TX3) (N := 7) hx hb hts hi3 hown hK hP 0 rfl rfl 2 (by decide) (hts (.fieldLink RX3 23 "DecimalWords" "outcome" "LDecimalWords$Outcome;") (inW_4 _ (List.mem_of_getElem? (i := 25) rfl))) (fun _ h9 => h9) rfl dX3_roundedKept_183 ?_
      refine va_get (D := D) (ci := 3) (v := .long vok) (C := RX1) (T := TX1) (N := 8) hx hb hts hi1 hown hK hP 2 rfl rfl 6 (by decide) (hts (.fieldLink RX3 245 "DecimalWords$Outcome" "kept" "J") (inW_7 _ (List.mem_of_getElem? (i := 31) rfl))) (fun _ h9 => h9) rfl dX3_roundedKept_186 ?_
      have e9 := Eq.symm hu; subst e9
      exact x_lret hx hb hr hlocks hQ hK hP hD hS rfl rfl dX3_roundedKept_189
    · rw [if_pos c_30] at hu
      refine lv_aload_n hx hb dX3_roundedKept_170 rfl (lv_at hl 0 rfl) ?_
      refine va_get (D := D) (ci := 4) (v := .ref ao) (C := RX3) (T := TX3) (N := 7) hx hb hts hi3 hown hK hP 0 rfl rfl 2 (by decide) (hts (.fieldLink RX3 23 "DecimalWords" "outcome" "LDecimalWords$Outcome;") (inW_4 _ (List.mem_of_getElem? (i := 25) rfl))) (fun _ h9 => h9) rfl dX3_roundedKept_171 ?_
      refine va_get (D := D) (ci := 3) (v := .long vok) (C := RX1) (T := TX1) (N := 8) hx hb hts hi1 hown hK hP 2 rfl rfl 6 (by decide) (hts (.fieldLink RX3 245 "DecimalWords$Outcome" "kept" "J") (inW_7 _ (List.mem_of_getElem? (i := 31) rfl))) (fun _ h9 => h9) rfl dX3_roundedKept_174 ?_
      refine lv_lconst (v := 1) hx hb dX3_roundedKept_177 (by decide) ?_
      refine lv_ladd hx hb dX3_roundedKept_178 ?_
      refine lv_goto (tgt := 189) hx hb dX3_roundedKept_179 (by decide) ?_
      have e9 := Eq.symm hu; subst e9
      exact x_lret hx hb hr hlocks hQ hK hP hD hS rfl rfl dX3_roundedKept_189
  obtain ⟨z9, ez9⟩ : ∃ y9 : Bool, y9 = Z_X3_roundedKept_J_29 vrd vok vos p0 := ⟨_, rfl⟩
  have hz := rZ_X3_roundedKept_J_29 vrd vok vos p0 ez9
  unfold RZ_X3_roundedKept_J_29 at hz
  by_cases c_1 : vrd = 0
  · rw [if_pos c_1] at hz
    refine lv_tableIn (tgt := 40) hx hb dX3_roundedKept_4 (by rw [c_1]; decide) (by rw [c_1]; decide) (by rw [c_1]; rfl) (by decide) ?_
    refine lv_aload_n hx hb dX3_roundedKept_40 rfl (lv_at hl 0 rfl) ?_
    refine va_get (D := D) (ci := 4) (v := .ref ao) (C := RX3) (T := TX3) (N := 7) hx hb hts hi3 hown hK hP 0 rfl rfl 2 (by decide) (hts (.fieldLink RX3 23 "DecimalWords" "outcome" "LDecimalWords$Outcome;") (inW_4 _ (List.mem_of_getElem? (i := 25) rfl))) (fun _ h9 => h9) rfl dX3_roundedKept_41 ?_
    refine va_get (D := D) (ci := 3) (v := .int vos) (C := RX1) (T := TX1) (N := 8) hx hb hts hi1 hown hK hP 2 rfl rfl 7 (by decide) (hts (.fieldLink RX3 177 "DecimalWords$Outcome" "rest" "I") (inW_7 _ (List.mem_of_getElem? (i := 30) rfl))) (fun _ h9 => h9) rfl dX3_roundedKept_44 ?_
    refine lv_iconst (v := 3) hx hb dX3_roundedKept_47 (by decide) ?_
    have J_11 : (∀ z10 : Bool, z10 = Z_X3_roundedKept_J_11 vok vos → ∀ (H : Heap) (locs : List Loc), va_P D vwCl (xw cR ax ar ao ad vrd vtr vsd vrn vom voh vol vop voe vow vok vos vso vmi vco vex) H → va_D A (xw cR ax ar ao ad vrd vtr vsd vrn vom voh vol vop voe vow vok vos vso vmi vco vex) → va_S A s.heap H locs → ∀ ls : Array Slot, lv_has ls 3 [(0, .ref ax)] → W p l e rm_X3_roundedKept s m args below meth c H locs 0 0 Q (F0 m 83 ls [.int (bI z10)])) := by
      intro z10 ez10 H locs hP hD hS ls hl
      have hz := hz _ ez10
      refine lv_istore_n (lv' := [(2, .int (bI z10)), (0, .ref ax)]) hx hb dX3_roundedKept_83 rfl hl (by decide) rfl (fun ls hl => ?_)
      refine lv_goto (tgt := 166) hx hb dX3_roundedKept_84 (by decide) ?_
      have e9 := Eq.symm hz; subst e9
      exact J_29 _ ez9 H locs hP hD hS ls (lv_sub hl [1, 0] rfl)
    obtain ⟨z9, ez9⟩ : ∃ y9 : Bool, y9 = Z_X3_roundedKept_J_11 vok vos := ⟨_, rfl⟩
    have hz := rZ_X3_roundedKept_J_11 vok vos ez9
    unfold RZ_X3_roundedKept_J_11 at hz
    refine lv_icmp_eq (tgt := 78) hx hb dX3_roundedKept_48 (by decide) (fun c_6 => ?_) (fun c_6 => ?_)
    · rw [if_pos c_6] at hz
      refine lv_iconst (v := 1) hx hb dX3_roundedKept_78 (by decide) ?_
      refine lv_goto (tgt := 83) hx hb dX3_roundedKept_79 (by decide) ?_
      have e9 := Eq.symm hz; subst e9
      exact J_11 _ ez9 H locs hP hD hS ls (lv_sub hl [0] rfl)
    · rw [if_neg c_6] at hz
      refine lv_aload_n hx hb dX3_roundedKept_51 rfl (lv_at hl 0 rfl) ?_
      refine va_get (D := D) (ci := 4) (v := .ref ao) (C := RX3) (T := TX3) (N := 7) hx hb hts hi3 hown hK hP 0 rfl rfl 2 (by decide) (hts (.fieldLink RX3 23 "DecimalWords" "outcome" "LDecimalWords$Outcome;") (inW_4 _ (List.mem_of_getElem? (i := 25) rfl))) (fun _ h9 => h9) rfl dX3_roundedKept_52 ?_
      refine va_get (D := D) (ci := 3) (v := .int vos) (C := RX1) (T := TX1) (N := 8) hx hb hts hi1 hown hK hP 2 rfl rfl 7 (by decide) (hts (.fieldLink RX3 177 "DecimalWords$Outcome" "rest" "I") (inW_7 _ (List.mem_of_getElem? (i := 30) rfl))) (fun _ h9 => h9) rfl dX3_roundedKept_55 ?_
      refine lv_iconst (v := 2) hx hb dX3_roundedKept_58 (by decide) ?_
      refine lv_icmp_ne (tgt := 82) hx hb dX3_roundedKept_59 (by decide) (fun c_7 => ?_) (fun c_7 => ?_)
      · rw [if_neg c_7] at hz
        refine lv_iconst (v := 0) hx hb dX3_roundedKept_82 (by decide) ?_
        have e9 := Eq.symm hz; subst e9
        exact J_11 _ ez9 H locs hP hD hS ls (lv_sub hl [0] rfl)
      · rw [if_pos c_7] at hz
        refine lv_aload_n hx hb dX3_roundedKept_62 rfl (lv_at hl 0 rfl) ?_
        refine va_get (D := D) (ci := 4) (v := .ref ao) (C := RX3) (T := TX3) (N := 7) hx hb hts hi3 hown hK hP 0 rfl rfl 2 (by decide) (hts (.fieldLink RX3 23 "DecimalWords" "outcome" "LDecimalWords$Outcome;") (inW_4 _ (List.mem_of_getElem? (i := 25) rfl))) (fun _ h9 => h9) rfl dX3_roundedKept_63 ?_
        refine va_get (D := D) (ci := 3) (v := .long vok) (C := RX1) (T := TX1) (N := 8) hx hb hts hi1 hown hK hP 2 rfl rfl 6 (by decide) (hts (.fieldLink RX3 245 "DecimalWords$Outcome" "kept" "J") (inW_7 _ (List.mem_of_getElem? (i := 31) rfl))) (fun _ h9 => h9) rfl dX3_roundedKept_66 ?_
        refine lv_ldc2 (v := 2) hx hb hown (hts (.constantLong RX3 248 (2)) (inW_7 _ (List.mem_of_getElem? (i := 32) rfl))) dX3_roundedKept_69 ?_
        refine x_lrem hx hb dX3_roundedKept_72 (by decide) ?_
        refine lv_lconst (v := 0) hx hb dX3_roundedKept_73 (by decide) ?_
        refine xl_eq (tgt := 82) hx hb dX3_roundedKept_74 dX3_roundedKept_75 (by decide) (fun c_8 => ?_) (fun c_8 => ?_)
        · rw [if_pos c_8] at hz
          refine lv_iconst (v := 0) hx hb dX3_roundedKept_82 (by decide) ?_
          have e9 := Eq.symm hz; subst e9
          exact J_11 _ ez9 H locs hP hD hS ls (lv_sub hl [0] rfl)
        · rw [if_neg c_8] at hz
          refine lv_iconst (v := 1) hx hb dX3_roundedKept_78 (by decide) ?_
          refine lv_goto (tgt := 83) hx hb dX3_roundedKept_79 (by decide) ?_
          have e9 := Eq.symm hz; subst e9
          exact J_11 _ ez9 H locs hP hD hS ls (lv_sub hl [0] rfl)
  rw [if_neg c_1] at hz
  by_cases c_2 : vrd = 1
  · rw [if_pos c_2] at hz
    refine lv_tableIn (tgt := 87) hx hb dX3_roundedKept_4 (by rw [c_2]; decide) (by rw [c_2]; decide) (by rw [c_2]; rfl) (by decide) ?_
    refine lv_aload_n hx hb dX3_roundedKept_87 rfl (lv_at hl 0 rfl) ?_
    refine va_get (D := D) (ci := 4) (v := .ref ao) (C := RX3) (T := TX3) (N := 7) hx hb hts hi3 hown hK hP 0 rfl rfl 2 (by decide) (hts (.fieldLink RX3 23 "DecimalWords" "outcome" "LDecimalWords$Outcome;") (inW_4 _ (List.mem_of_getElem? (i := 25) rfl))) (fun _ h9 => h9) rfl dX3_roundedKept_88 ?_
    refine va_get (D := D) (ci := 3) (v := .int vos) (C := RX1) (T := TX1) (N := 8) hx hb hts hi1 hown hK hP 2 rfl rfl 7 (by decide) (hts (.fieldLink RX3 177 "DecimalWords$Outcome" "rest" "I") (inW_7 _ (List.mem_of_getElem? (i := 30) rfl))) (fun _ h9 => h9) rfl dX3_roundedKept_91 ?_
    refine lv_iconst (v := 2) hx hb dX3_roundedKept_94 (by decide) ?_
    have J_16 : (∀ z15 : Bool, z15 = Z_X3_roundedKept_J_16 vos → ∀ (H : Heap) (locs : List Loc), va_P D vwCl (xw cR ax ar ao ad vrd vtr vsd vrn vom voh vol vop voe vow vok vos vso vmi vco vex) H → va_D A (xw cR ax ar ao ad vrd vtr vsd vrn vom voh vol vop voe vow vok vos vso vmi vco vex) → va_S A s.heap H locs → ∀ ls : Array Slot, lv_has ls 3 [(0, .ref ax)] → W p l e rm_X3_roundedKept s m args below meth c H locs 0 0 Q (F0 m 114 ls [.int (bI z15)])) := by
      intro z15 ez15 H locs hP hD hS ls hl
      have hz := hz _ ez15
      refine lv_istore_n (lv' := [(2, .int (bI z15)), (0, .ref ax)]) hx hb dX3_roundedKept_114 rfl hl (by decide) rfl (fun ls hl => ?_)
      refine lv_goto (tgt := 166) hx hb dX3_roundedKept_115 (by decide) ?_
      have e9 := Eq.symm hz; subst e9
      exact J_29 _ ez9 H locs hP hD hS ls (lv_sub hl [1, 0] rfl)
    obtain ⟨z9, ez9⟩ : ∃ y9 : Bool, y9 = Z_X3_roundedKept_J_16 vos := ⟨_, rfl⟩
    have hz := rZ_X3_roundedKept_J_16 vos ez9
    unfold RZ_X3_roundedKept_J_16 at hz
    refine lv_icmp_eq (tgt := 109) hx hb dX3_roundedKept_95 (by decide) (fun c_12 => ?_) (fun c_12 => ?_)
    · rw [if_pos c_12] at hz
      refine lv_iconst (v := 1) hx hb dX3_roundedKept_109 (by decide) ?_
      refine lv_goto (tgt := 114) hx hb dX3_roundedKept_110 (by decide) ?_
      have e9 := Eq.symm hz; subst e9
      exact J_16 _ ez9 H locs hP hD hS ls (lv_sub hl [0] rfl)
    · rw [if_neg c_12] at hz
      refine lv_aload_n hx hb dX3_roundedKept_98 rfl (lv_at hl 0 rfl) ?_
      refine va_get (D := D) (ci := 4) (v := .ref ao) (C := RX3) (T := TX3) (N := 7) hx hb hts hi3 hown hK hP 0 rfl rfl 2 (by decide) (hts (.fieldLink RX3 23 "DecimalWords" "outcome" "LDecimalWords$Outcome;") (inW_4 _ (List.mem_of_getElem? (i := 25) rfl))) (fun _ h9 => h9) rfl dX3_roundedKept_99 ?_
      refine va_get (D := D) (ci := 3) (v := .int vos) (C := RX1) (T := TX1) (N := 8) hx hb hts hi1 hown hK hP 2 rfl rfl 7 (by decide) (hts (.fieldLink RX3 177 "DecimalWords$Outcome" "rest" "I") (inW_7 _ (List.mem_of_getElem? (i := 30) rfl))) (fun _ h9 => h9) rfl dX3_roundedKept_102 ?_
      refine lv_iconst (v := 3) hx hb dX3_roundedKept_105 (by decide) ?_
      refine lv_icmp_ne (tgt := 113) hx hb dX3_roundedKept_106 (by decide) (fun c_13 => ?_) (fun c_13 => ?_)
      · rw [if_neg c_13] at hz
        refine lv_iconst (v := 0) hx hb dX3_roundedKept_113 (by decide) ?_
        have e9 := Eq.symm hz; subst e9
        exact J_16 _ ez9 H locs hP hD hS ls (lv_sub hl [0] rfl)
      · rw [if_pos c_13] at hz
        refine lv_iconst (v := 1) hx hb dX3_roundedKept_109 (by decide) ?_
        refine lv_goto (tgt := 114) hx hb dX3_roundedKept_110 (by decide) ?_
        have e9 := Eq.symm hz; subst e9
        exact J_16 _ ez9 H locs hP hD hS ls (lv_sub hl [0] rfl)
  rw [if_neg c_2] at hz
  by_cases c_3 : vrd = 2
  · rw [if_pos c_3] at hz
    refine lv_tableIn (tgt := 164) hx hb dX3_roundedKept_4 (by rw [c_3]; decide) (by rw [c_3]; decide) (by rw [c_3]; rfl) (by decide) ?_
    refine lv_iconst (v := 0) hx hb dX3_roundedKept_164 (by decide) ?_
    refine lv_istore_n (lv' := [(2, .int 0), (0, .ref ax), (1, .int (bI p0))]) hx hb dX3_roundedKept_165 rfl hl (by decide) rfl (fun ls hl => ?_)
    have e9 := Eq.symm hz; subst e9
    exact J_29 _ ez9 H locs hP hD hS ls (lv_sub hl [1, 0] rfl)
  rw [if_neg c_3] at hz
  by_cases c_4 : vrd = 3
  · rw [if_pos c_4] at hz
    refine lv_tableIn (tgt := 118) hx hb dX3_roundedKept_4 (by rw [c_4]; decide) (by rw [c_4]; decide) (by rw [c_4]; rfl) (by decide) ?_
    refine lv_aload_n hx hb dX3_roundedKept_118 rfl (lv_at hl 0 rfl) ?_
    refine va_get (D := D) (ci := 4) (v := .ref ao) (C := RX3) (T := TX3) (N := 7) hx hb hts hi3 hown hK hP 0 rfl rfl 2 (by decide) (hts (.fieldLink RX3 23 "DecimalWords" "outcome" "LDecimalWords$Outcome;") (inW_4 _ (List.mem_of_getElem? (i := 25) rfl))) (fun _ h9 => h9) rfl dX3_roundedKept_119 ?_
    refine va_get (D := D) (ci := 3) (v := .int vos) (C := RX1) (T := TX1) (N := 8) hx hb hts hi1 hown hK hP 2 rfl rfl 7 (by decide) (hts (.fieldLink RX3 177 "DecimalWords$Outcome" "rest" "I") (inW_7 _ (List.mem_of_getElem? (i := 30) rfl))) (fun _ h9 => h9) rfl dX3_roundedKept_122 ?_
    have J_21 : (∀ z20 : Bool, z20 = Z_X3_roundedKept_J_21 vos p0 → ∀ (H : Heap) (locs : List Loc), va_P D vwCl (xw cR ax ar ao ad vrd vtr vsd vrn vom voh vol vop voe vow vok vos vso vmi vco vex) H → va_D A (xw cR ax ar ao ad vrd vtr vsd vrn vom voh vol vop voe vow vok vos vso vmi vco vex) → va_S A s.heap H locs → ∀ ls : Array Slot, lv_has ls 3 [(0, .ref ax)] → W p l e rm_X3_roundedKept s m args below meth c H locs 0 0 Q (F0 m 137 ls [.int (bI z20)])) := by
      intro z20 ez20 H locs hP hD hS ls hl
      have hz := hz _ ez20
      refine lv_istore_n (lv' := [(2, .int (bI z20)), (0, .ref ax)]) hx hb dX3_roundedKept_137 rfl hl (by decide) rfl (fun ls hl => ?_)
      refine lv_goto (tgt := 166) hx hb dX3_roundedKept_138 (by decide) ?_
      have e9 := Eq.symm hz; subst e9
      exact J_29 _ ez9 H locs hP hD hS ls (lv_sub hl [1, 0] rfl)
    obtain ⟨z9, ez9⟩ : ∃ y9 : Bool, y9 = Z_X3_roundedKept_J_21 vos p0 := ⟨_, rfl⟩
    have hz := rZ_X3_roundedKept_J_21 vos p0 ez9
    unfold RZ_X3_roundedKept_J_21 at hz
    refine lv_if_eq (tgt := 136) hx hb dX3_roundedKept_125 (by decide) (fun c_17 => ?_) (fun c_17 => ?_)
    · rw [if_pos c_17] at hz
      refine lv_iconst (v := 0) hx hb dX3_roundedKept_136 (by decide) ?_
      have e9 := Eq.symm hz; subst e9
      exact J_21 _ ez9 H locs hP hD hS ls (lv_sub hl [0] rfl)
    · rw [if_neg c_17] at hz
      refine lv_iload_n hx hb dX3_roundedKept_128 rfl (lv_at hl 1 rfl) ?_
      refine xb_ne (tgt := 136) hx hb dX3_roundedKept_129 (by decide) (fun c_18 => ?_) (fun c_18 => ?_)
      · rw [if_pos c_18] at hz
        refine lv_iconst (v := 0) hx hb dX3_roundedKept_136 (by decide) ?_
        have e9 := Eq.symm hz; subst e9
        exact J_21 _ ez9 H locs hP hD hS ls (lv_sub hl [0] rfl)
      · rw [if_neg c_18] at hz
        refine lv_iconst (v := 1) hx hb dX3_roundedKept_132 (by decide) ?_
        refine lv_goto (tgt := 137) hx hb dX3_roundedKept_133 (by decide) ?_
        have e9 := Eq.symm hz; subst e9
        exact J_21 _ ez9 H locs hP hD hS ls (lv_sub hl [0] rfl)
  rw [if_neg c_4] at hz
  by_cases c_5 : vrd = 4
  · rw [if_pos c_5] at hz
    refine lv_tableIn (tgt := 141) hx hb dX3_roundedKept_4 (by rw [c_5]; decide) (by rw [c_5]; decide) (by rw [c_5]; rfl) (by decide) ?_
    refine lv_aload_n hx hb dX3_roundedKept_141 rfl (lv_at hl 0 rfl) ?_
    refine va_get (D := D) (ci := 4) (v := .ref ao) (C := RX3) (T := TX3) (N := 7) hx hb hts hi3 hown hK hP 0 rfl rfl 2 (by decide) (hts (.fieldLink RX3 23 "DecimalWords" "outcome" "LDecimalWords$Outcome;") (inW_4 _ (List.mem_of_getElem? (i := 25) rfl))) (fun _ h9 => h9) rfl dX3_roundedKept_142 ?_
    refine va_get (D := D) (ci := 3) (v := .int vos) (C := RX1) (T := TX1) (N := 8) hx hb hts hi1 hown hK hP 2 rfl rfl 7 (by decide) (hts (.fieldLink RX3 177 "DecimalWords$Outcome" "rest" "I") (inW_7 _ (List.mem_of_getElem? (i := 30) rfl))) (fun _ h9 => h9) rfl dX3_roundedKept_145 ?_
    have J_26 : (∀ z25 : Bool, z25 = Z_X3_roundedKept_J_26 vos p0 → ∀ (H : Heap) (locs : List Loc), va_P D vwCl (xw cR ax ar ao ad vrd vtr vsd vrn vom voh vol vop voe vow vok vos vso vmi vco vex) H → va_D A (xw cR ax ar ao ad vrd vtr vsd vrn vom voh vol vop voe vow vok vos vso vmi vco vex) → va_S A s.heap H locs → ∀ ls : Array Slot, lv_has ls 3 [(0, .ref ax)] → W p l e rm_X3_roundedKept s m args below meth c H locs 0 0 Q (F0 m 160 ls [.int (bI z25)])) := by
      intro z25 ez25 H locs hP hD hS ls hl
      have hz := hz _ ez25
      refine lv_istore_n (lv' := [(2, .int (bI z25)), (0, .ref ax)]) hx hb dX3_roundedKept_160 rfl hl (by decide) rfl (fun ls hl => ?_)
      refine lv_goto (tgt := 166) hx hb dX3_roundedKept_161 (by decide) ?_
      have e9 := Eq.symm hz; subst e9
      exact J_29 _ ez9 H locs hP hD hS ls (lv_sub hl [1, 0] rfl)
    obtain ⟨z9, ez9⟩ : ∃ y9 : Bool, y9 = Z_X3_roundedKept_J_26 vos p0 := ⟨_, rfl⟩
    have hz := rZ_X3_roundedKept_J_26 vos p0 ez9
    unfold RZ_X3_roundedKept_J_26 at hz
    refine lv_if_eq (tgt := 159) hx hb dX3_roundedKept_148 (by decide) (fun c_22 => ?_) (fun c_22 => ?_)
    · rw [if_pos c_22] at hz
      refine lv_iconst (v := 0) hx hb dX3_roundedKept_159 (by decide) ?_
      have e9 := Eq.symm hz; subst e9
      exact J_26 _ ez9 H locs hP hD hS ls (lv_sub hl [0] rfl)
    · rw [if_neg c_22] at hz
      refine lv_iload_n hx hb dX3_roundedKept_151 rfl (lv_at hl 1 rfl) ?_
      refine xb_eq (tgt := 159) hx hb dX3_roundedKept_152 (by decide) (fun c_23 => ?_) (fun c_23 => ?_)
      · rw [if_neg c_23] at hz
        refine lv_iconst (v := 0) hx hb dX3_roundedKept_159 (by decide) ?_
        have e9 := Eq.symm hz; subst e9
        exact J_26 _ ez9 H locs hP hD hS ls (lv_sub hl [0] rfl)
      · rw [if_pos c_23] at hz
        refine lv_iconst (v := 1) hx hb dX3_roundedKept_155 (by decide) ?_
        refine lv_goto (tgt := 160) hx hb dX3_roundedKept_156 (by decide) ?_
        have e9 := Eq.symm hz; subst e9
        exact J_26 _ ez9 H locs hP hD hS ls (lv_sub hl [0] rfl)
  rw [if_neg c_5] at hz
  refine lv_tableOut (tgt := 164) hx hb dX3_roundedKept_4 (by have kc_1 := lv_neT c_1 (a := 0) (by decide); have kc_2 := lv_neT c_2 (a := 1) (by decide); have kc_3 := lv_neT c_3 (a := 2) (by decide); have kc_4 := lv_neT c_4 (a := 3) (by decide); have kc_5 := lv_neT c_5 (a := 4) (by decide); omega) (by decide) ?_
  refine lv_iconst (v := 0) hx hb dX3_roundedKept_164 (by decide) ?_
  refine lv_istore_n (lv' := [(2, .int 0), (0, .ref ax), (1, .int (bI p0))]) hx hb dX3_roundedKept_165 rfl hl (by decide) rfl (fun ls hl => ?_)
  have e9 := Eq.symm hz; subst e9
  exact J_29 _ ez9 H locs hP hD hS ls (lv_sub hl [1, 0] rfl)

def Z_X3_setTooGreat_J_11 (vrd : Int32) (vom : Bool) : Bool := (if vrd = 2 then true else (if vrd = 3 then (if vom = true then true else (if vrd = 4 then true else false)) else (if vrd = 4 then (if vom = true then false else true) else false)))
def RZ_X3_setTooGreat_J_11 (vrd : Int32) (vom : Bool) (u9 : Bool) : Prop := (if vrd = 2 then u9 = true else (if vrd = 3 then (if vom = true then u9 = true else (if vrd = 4 then u9 = true else u9 = false)) else (if vrd = 4 then (if vom = true then u9 = false else u9 = true) else u9 = false)))
theorem rZ_X3_setTooGreat_J_11 (vrd : Int32) (vom : Bool) {u9 : Bool} (hu : u9 = Z_X3_setTooGreat_J_11 vrd vom) : RZ_X3_setTooGreat_J_11 vrd vom u9 := by
  unfold RZ_X3_setTooGreat_J_11
  refine ite_P (fun c_3 => ?_) (fun c_3 => ?_)
  · have hu := hu.trans (if_pos c_3)
    exact hu
  · have hu := hu.trans (if_neg c_3)
    refine ite_P (fun c_4 => ?_) (fun c_4 => ?_)
    · have hu := hu.trans (if_pos c_4)
      refine ite_P (fun c_7 => ?_) (fun c_7 => ?_)
      · have hu := hu.trans (if_pos c_7)
        exact hu
      · have hu := hu.trans (if_neg c_7)
        refine ite_P (fun c_8 => ?_) (fun c_8 => ?_)
        · have hu := hu.trans (if_pos c_8)
          exact hu
        · have hu := hu.trans (if_neg c_8)
          exact hu
    · have hu := hu.trans (if_neg c_4)
      refine ite_P (fun c_5 => ?_) (fun c_5 => ?_)
      · have hu := hu.trans (if_pos c_5)
        refine ite_P (fun c_6 => ?_) (fun c_6 => ?_)
        · have hu := hu.trans (if_pos c_6)
          exact hu
        · have hu := hu.trans (if_neg c_6)
          exact hu
      · have hu := hu.trans (if_neg c_5)
        exact hu
def F_X3_setTooGreat (vrd : Int32) (vrn : Int32) (vom : Bool) (vso : Nat → Int32) (vmi : Nat → Bool) (vco : Nat → Int64) (vex : Nat → Int32)  : Int32 × (Nat → Int32) × (Nat → Bool) × (Nat → Int64) × (Nat → Int32) := (bnd (F_X3_raise vrn (4 : Int32)) (fun u1 : Int32 => (bnd (Z_X3_setTooGreat_J_11 vrd vom) (fun z10 : Bool => (if z10 = true then (bnd (F_X0_setFinite vso vmi vco vex 8 vom (9999999999999999 : Int64) (369 : Int32)) (fun u15 : (Nat → Int32) × (Nat → Bool) × (Nat → Int64) × (Nat → Int32) => (u1, u15.1, u15.2.1, u15.2.2.1, u15.2.2.2))) else (bnd (F_X0_setInfinity vso vmi vco vex 8 vom) (fun u13 : (Nat → Int32) × (Nat → Bool) × (Nat → Int64) × (Nat → Int32) => (u1, u13.1, u13.2.1, u13.2.2.1, u13.2.2.2))))))))
def RF_X3_setTooGreat (vrd : Int32) (vrn : Int32) (vom : Bool) (vso : Nat → Int32) (vmi : Nat → Bool) (vco : Nat → Int64) (vex : Nat → Int32)  (u9 : Int32 × (Nat → Int32) × (Nat → Bool) × (Nat → Int64) × (Nat → Int32)) : Prop := (∀ u1 : Int32, u1 = F_X3_raise vrn (4 : Int32) → (∀ z10 : Bool, z10 = Z_X3_setTooGreat_J_11 vrd vom → (if z10 = true then (∀ u15 : (Nat → Int32) × (Nat → Bool) × (Nat → Int64) × (Nat → Int32), u15 = F_X0_setFinite vso vmi vco vex 8 vom (9999999999999999 : Int64) (369 : Int32) → u9 = (u1, u15.1, u15.2.1, u15.2.2.1, u15.2.2.2)) else (∀ u13 : (Nat → Int32) × (Nat → Bool) × (Nat → Int64) × (Nat → Int32), u13 = F_X0_setInfinity vso vmi vco vex 8 vom → u9 = (u1, u13.1, u13.2.1, u13.2.2.1, u13.2.2.2)))))
theorem rF_X3_setTooGreat (vrd : Int32) (vrn : Int32) (vom : Bool) (vso : Nat → Int32) (vmi : Nat → Bool) (vco : Nat → Int64) (vex : Nat → Int32)  {u9 : Int32 × (Nat → Int32) × (Nat → Bool) × (Nat → Int64) × (Nat → Int32)} (hu : u9 = F_X3_setTooGreat vrd vrn vom vso vmi vco vex) : RF_X3_setTooGreat vrd vrn vom vso vmi vco vex u9 := by
  unfold RF_X3_setTooGreat
  intro u1 eu1
  have hu := bnd_n hu eu1
  intro z10 ez10
  have hu := bnd_n hu ez10
  refine ite_P (fun c_12 => ?_) (fun c_12 => ?_)
  · have hu := hu.trans (if_pos c_12)
    intro u15 eu15
    have hu := bnd_n hu eu15
    exact hu
  · have hu := hu.trans (if_neg c_12)
    intro u13 eu13
    have hu := bnd_n hu eu13
    exact hu
def rm_X3_setTooGreat : Room := { frames := 1, cells := 0, slots := 0, locals := 24 }
set_option maxHeartbeats 4000000 in
set_option maxRecDepth 100000 in
theorem c_X3_setTooGreat (l : Launch) (D : va_G) (cR cI cJ cZ : ClassId) (t0 : Nat) (ax ar ao : Nat) (ad : Nat → Nat) (vrd : Int32) (vtr : Int32) (vsd : Int32) (vrn : Int32) (vom : Bool) (voh : Int64) (vol : Int64) (vop : Int32) (voe : Bool) (vow : Int32) (vok : Int64) (vos : Int32) (vso : Nat → Int32) (vmi : Nat → Bool) (vco : Nat → Int64) (vex : Nat → Int32)  (u : Int32 × (Nat → Int32) × (Nat → Bool) × (Nat → Int64) × (Nat → Int32)) (hu : u = F_X3_setTooGreat vrd vrn vom vso vmi vco vex) : XM l D (xty cR cI cJ cZ) t0 yX3_setTooGreat cX3_setTooGreat 2 none rm_X3_setTooGreat [.ref ax] none (xw cR ax ar ao ad vrd vtr vsd vrn vom voh vol vop voe vow vok vos vso vmi vco vex) (xw cR ax ar ao ad vrd vtr vsd u.1 vom voh vol vop voe vow vok vos u.2.1 u.2.2.1 u.2.2.2.1 u.2.2.2.2) := by
  refine XM.of (by decide) (Nat.le_of_ble_eq_true rfl) ?_
  intro p e s m args below meth c A Q F hK hP hD hA hSt hS hQ ls hl
  obtain ⟨hx, hb, hr, hts, hown, hlocks, hml⟩ := F
  have hCF : CallFix p m c cX3_setTooGreat 2 s args gW RX3 := ⟨hx, hb, hml, hown, hts⟩
  have hu := rF_X3_setTooGreat vrd vrn vom vso vmi vco vex hu
  unfold RF_X3_setTooGreat at hu
  obtain ⟨H, eH⟩ : ∃ y9 : Heap, y9 = s.heap := ⟨_, rfl⟩
  obtain ⟨locs, eL⟩ : ∃ y9 : List Loc, y9 = [] := ⟨_, rfl⟩
  rw [← eL] at hS ⊢
  have hP : va_P D vwCl (xw cR ax ar ao ad vrd vtr vsd vrn vom voh vol vop voe vow vok vos vso vmi vco vex) H := by rw [eH]; exact hP
  have hS : va_S A s.heap H locs := by rw [eH]; exact hS
  suffices goal9 : W p l e rm_X3_setTooGreat s m args below meth c H locs 0 0 Q (F0 m 0 ls []) from by rw [← eH]; exact goal9
  have hl : lv_has ls 2 [(0, .ref ax)] := hl
  have hi1 : ∀ w ∈ wsX10, w ∈ gW := inW_X1
  have hi3 : ∀ w ∈ wsX30, w ∈ gW := inW_X3
  refine lv_aload_n hx hb dX3_setTooGreat_0 rfl (lv_at hl 0 rfl) ?_
  refine lv_iconst (v := 4) hx hb dX3_setTooGreat_1 (by decide) ?_
  obtain ⟨u1, eu1⟩ : ∃ y9 : Int32, y9 = F_X3_raise vrn (4 : Int32) := ⟨_, rfl⟩
  have hu := hu _ eu1
  refine x_V (As := [.int 4]) (rest := []) hCF (c_X3_raise l D cR cI cJ cZ t0 ax ar ao ad vrd vtr vsd vrn vom voh vol vop voe vow vok vos vso vmi vco vex (4 : Int32) u1 eu1) (x_cwV 1 hts (inW_6 _ (List.mem_of_getElem? (i := 23) rfl)) (inW_6 _ (List.mem_of_getElem? (i := 24) rfl)) (inW_6 _ (List.mem_of_getElem? (i := 25) rfl)) (inW_1 _ (List.mem_of_getElem? (i := 25) rfl)) (inW_6 _ (List.mem_of_getElem? (i := 26) rfl)) rfl rfl (by decide +kernel) ⟨Nat.le_of_ble_eq_true rfl, Nat.le_of_ble_eq_true rfl⟩) hK hP hD hS hA hSt 0 rfl rfl rfl hl.1 rfl (Nat.le_of_ble_eq_true rfl) dX3_setTooGreat_2 ⟨Nat.le_of_ble_eq_true rfl, Nat.le_of_ble_eq_true rfl⟩ (fun H locs hP hD hS => ?_)
  show W p l e _ s m args below meth c H locs 0 0 Q (F0 m 5 ls [])
  refine lv_aload_n hx hb dX3_setTooGreat_5 rfl (lv_at hl 0 rfl) ?_
  refine va_get (D := D) (ci := 4) (v := .int vrd) (C := RX3) (T := TX3) (N := 7) hx hb hts hi3 hown hK hP 0 rfl rfl 3 (by decide) (hts (.fieldLink RX3 27 "DecimalWords" "rounding" "I") (inW_4 _ (List.mem_of_getElem? (i := 26) rfl))) (fun _ h9 => h9) rfl dX3_setTooGreat_6 ?_
  refine lv_iconst (v := 2) hx hb dX3_setTooGreat_9 (by decide) ?_
  have J_11 : (∀ z10 : Bool, z10 = Z_X3_setTooGreat_J_11 vrd vom → ∀ (H : Heap) (locs : List Loc), va_P D vwCl (xw cR ax ar ao ad vrd vtr vsd u1 vom voh vol vop voe vow vok vos vso vmi vco vex) H → va_D A (xw cR ax ar ao ad vrd vtr vsd u1 vom voh vol vop voe vow vok vos vso vmi vco vex) → va_S A s.heap H locs → ∀ ls : Array Slot, lv_has ls 2 [(0, .ref ax)] → W p l e rm_X3_setTooGreat s m args below meth c H locs 0 0 Q (F0 m 54 ls [.int (bI z10)])) := by
    intro z10 ez10 H locs hP hD hS ls hl
    have hu := hu _ ez10
    refine lv_istore_n (lv' := [(1, .int (bI z10)), (0, .ref ax)]) hx hb dX3_setTooGreat_54 rfl hl (by decide) rfl (fun ls hl => ?_)
    refine lv_iload_n hx hb dX3_setTooGreat_55 rfl (lv_at hl 0 rfl) ?_
    refine xb_eq (tgt := 82) hx hb dX3_setTooGreat_56 (by decide) (fun c_12 => ?_) (fun c_12 => ?_)
    · rw [if_neg c_12] at hu
      refine lv_aload_n hx hb dX3_setTooGreat_82 rfl (lv_at hl 1 rfl) ?_
      refine va_get (D := D) (ci := 4) (v := .ref (ad 8)) (C := RX3) (T := TX3) (N := 7) hx hb hts hi3 hown hK hP 0 rfl rfl 1 (by decide) (hts (.fieldLink RX3 16 "DecimalWords" "result" "LDecimalWords$Datum;") (inW_4 _ (List.mem_of_getElem? (i := 22) rfl))) (fun _ h9 => h9) rfl dX3_setTooGreat_83 ?_
      refine lv_aload_n hx hb dX3_setTooGreat_86 rfl (lv_at hl 1 rfl) ?_
      refine va_get (D := D) (ci := 4) (v := .ref ao) (C := RX3) (T := TX3) (N := 7) hx hb hts hi3 hown hK hP 0 rfl rfl 2 (by decide) (hts (.fieldLink RX3 23 "DecimalWords" "outcome" "LDecimalWords$Outcome;") (inW_4 _ (List.mem_of_getElem? (i := 25) rfl))) (fun _ h9 => h9) rfl dX3_setTooGreat_87 ?_
      refine va_get (D := D) (ci := 3) (v := .int (bI vom)) (C := RX1) (T := TX1) (N := 8) hx hb hts hi1 hown hK hP 2 rfl rfl 0 (by decide) (hts (.fieldLink RX3 216 "DecimalWords$Outcome" "minus" "Z") (inW_6 _ (List.mem_of_getElem? (i := 39) rfl))) (fun _ h9 => h9) rfl dX3_setTooGreat_90 ?_
      obtain ⟨u13, eu13⟩ : ∃ y9 : (Nat → Int32) × (Nat → Bool) × (Nat → Int64) × (Nat → Int32), y9 = F_X0_setInfinity vso vmi vco vex 8 vom := ⟨_, rfl⟩
      have hu := hu _ eu13
      refine x_V (As := [.int (bI vom)]) (rest := []) hCF (c_X0_setInfinity l D cR cI cJ cZ t0 ax ar ao ad vrd vtr vsd u1 vom voh vol vop voe vow vok vos vso vmi vco vex 8 vom u13 eu13 (by decide)) (x_cwV 1 hts (inW_5 _ (List.mem_of_getElem? (i := 37) rfl)) (inW_3 _ (List.mem_of_getElem? (i := 28) rfl)) (inW_3 _ (List.mem_of_getElem? (i := 29) rfl)) (inW_1 _ (List.mem_of_getElem? (i := 16) rfl)) (inW_1 _ (List.mem_of_getElem? (i := 8) rfl)) rfl rfl (by decide +kernel) ⟨Nat.le_of_ble_eq_true rfl, Nat.le_of_ble_eq_true rfl⟩) hK hP hD hS hA hSt (3 + 8) (xw_dat (by decide)) rfl rfl hl.1 rfl (Nat.le_of_ble_eq_true rfl) dX3_setTooGreat_93 ⟨Nat.le_of_ble_eq_true rfl, Nat.le_of_ble_eq_true rfl⟩ (fun H locs hP hD hS => ?_)
      show W p l e _ s m args below meth c H locs 0 0 Q (F0 m 96 ls [])
      have e9 := Eq.symm hu; subst e9
      exact x_vret hx hb hr hlocks hQ hK hP hD hS rfl dX3_setTooGreat_96
    · rw [if_pos c_12] at hu
      refine lv_aload_n hx hb dX3_setTooGreat_59 rfl (lv_at hl 1 rfl) ?_
      refine va_get (D := D) (ci := 4) (v := .ref (ad 8)) (C := RX3) (T := TX3) (N := 7) hx hb hts hi3 hown hK hP 0 rfl rfl 1 (by decide) (hts (.fieldLink RX3 16 "DecimalWords" "result" "LDecimalWords$Datum;") (inW_4 _ (List.mem_of_getElem? (i := 22) rfl))) (fun _ h9 => h9) rfl dX3_setTooGreat_60 ?_
      refine lv_aload_n hx hb dX3_setTooGreat_63 rfl (lv_at hl 1 rfl) ?_
      refine va_get (D := D) (ci := 4) (v := .ref ao) (C := RX3) (T := TX3) (N := 7) hx hb hts hi3 hown hK hP 0 rfl rfl 2 (by decide) (hts (.fieldLink RX3 23 "DecimalWords" "outcome" "LDecimalWords$Outcome;") (inW_4 _ (List.mem_of_getElem? (i := 25) rfl))) (fun _ h9 => h9) rfl dX3_setTooGreat_64 ?_
      refine va_get (D := D) (ci := 3) (v := .int (bI vom)) (C := RX1) (T := TX1) (N := 8) hx hb hts hi1 hown hK hP 2 rfl rfl 0 (by decide) (hts (.fieldLink RX3 216 "DecimalWords$Outcome" "minus" "Z") (inW_6 _ (List.mem_of_getElem? (i := 39) rfl))) (fun _ h9 => h9) rfl dX3_setTooGreat_67 ?_
      refine lv_ldc2 (v := 9999999999999999) hx hb hown (hts (.constantLong RX3 192 (9999999999999999)) (inW_5 _ (List.mem_of_getElem? (i := 19) rfl))) dX3_setTooGreat_70 ?_
      refine lv_sipush (v := 369) hx hb dX3_setTooGreat_73 (by decide) ?_
      obtain ⟨u15, eu15⟩ : ∃ y9 : (Nat → Int32) × (Nat → Bool) × (Nat → Int64) × (Nat → Int32), y9 = F_X0_setFinite vso vmi vco vex 8 vom (9999999999999999 : Int64) (369 : Int32) := ⟨_, rfl⟩
      have hu := hu _ eu15
      refine x_V (As := [.int (bI vom), .long 9999999999999999, .int 369]) (rest := []) hCF (c_X0_setFinite l D cR cI cJ cZ t0 ax ar ao ad vrd vtr vsd u1 vom voh vol vop voe vow vok vos vso vmi vco vex 8 vom (9999999999999999 : Int64) (369 : Int32) u15 eu15 (by decide)) (x_cwV 3 hts (inW_5 _ (List.mem_of_getElem? (i := 1) rfl)) (inW_4 _ (List.mem_of_getElem? (i := 9) rfl)) (inW_4 _ (List.mem_of_getElem? (i := 10) rfl)) (inW_1 _ (List.mem_of_getElem? (i := 16) rfl)) (inW_1 _ (List.mem_of_getElem? (i := 3) rfl)) rfl rfl (by decide +kernel) ⟨Nat.le_of_ble_eq_true rfl, Nat.le_of_ble_eq_true rfl⟩) hK hP hD hS hA hSt (3 + 8) (xw_dat (by decide)) rfl rfl hl.1 rfl (Nat.le_of_ble_eq_true rfl) dX3_setTooGreat_76 ⟨Nat.le_of_ble_eq_true rfl, Nat.le_of_ble_eq_true rfl⟩ (fun H locs hP hD hS => ?_)
      show W p l e _ s m args below meth c H locs 0 0 Q (F0 m 79 ls [])
      refine lv_goto (tgt := 96) hx hb dX3_setTooGreat_79 (by decide) ?_
      have e9 := Eq.symm hu; subst e9
      exact x_vret hx hb hr hlocks hQ hK hP hD hS rfl dX3_setTooGreat_96
  obtain ⟨z9, ez9⟩ : ∃ y9 : Bool, y9 = Z_X3_setTooGreat_J_11 vrd vom := ⟨_, rfl⟩
  have hz := rZ_X3_setTooGreat_J_11 vrd vom ez9
  unfold RZ_X3_setTooGreat_J_11 at hz
  refine lv_icmp_eq (tgt := 49) hx hb dX3_setTooGreat_10 (by decide) (fun c_3 => ?_) (fun c_3 => ?_)
  · rw [if_pos c_3] at hz
    refine lv_iconst (v := 1) hx hb dX3_setTooGreat_49 (by decide) ?_
    refine lv_goto (tgt := 54) hx hb dX3_setTooGreat_50 (by decide) ?_
    have e9 := Eq.symm hz; subst e9
    exact J_11 _ ez9 H locs hP hD hS ls (lv_sub hl [0] rfl)
  · rw [if_neg c_3] at hz
    refine lv_aload_n hx hb dX3_setTooGreat_13 rfl (lv_at hl 0 rfl) ?_
    refine va_get (D := D) (ci := 4) (v := .int vrd) (C := RX3) (T := TX3) (N := 7) hx hb hts hi3 hown hK hP 0 rfl rfl 3 (by decide) (hts (.fieldLink RX3 27 "DecimalWords" "rounding" "I") (inW_4 _ (List.mem_of_getElem? (i := 26) rfl))) (fun _ h9 => h9) rfl dX3_setTooGreat_14 ?_
    refine lv_iconst (v := 3) hx hb dX3_setTooGreat_17 (by decide) ?_
    refine lv_icmp_ne (tgt := 31) hx hb dX3_setTooGreat_18 (by decide) (fun c_4 => ?_) (fun c_4 => ?_)
    · rw [if_neg c_4] at hz
      refine lv_aload_n hx hb dX3_setTooGreat_31 rfl (lv_at hl 0 rfl) ?_
      refine va_get (D := D) (ci := 4) (v := .int vrd) (C := RX3) (T := TX3) (N := 7) hx hb hts hi3 hown hK hP 0 rfl rfl 3 (by decide) (hts (.fieldLink RX3 27 "DecimalWords" "rounding" "I") (inW_4 _ (List.mem_of_getElem? (i := 26) rfl))) (fun _ h9 => h9) rfl dX3_setTooGreat_32 ?_
      refine lv_iconst (v := 4) hx hb dX3_setTooGreat_35 (by decide) ?_
      refine lv_icmp_ne (tgt := 53) hx hb dX3_setTooGreat_36 (by decide) (fun c_5 => ?_) (fun c_5 => ?_)
      · rw [if_neg c_5] at hz
        refine lv_iconst (v := 0) hx hb dX3_setTooGreat_53 (by decide) ?_
        have e9 := Eq.symm hz; subst e9
        exact J_11 _ ez9 H locs hP hD hS ls (lv_sub hl [0] rfl)
      · rw [if_pos c_5] at hz
        refine lv_aload_n hx hb dX3_setTooGreat_39 rfl (lv_at hl 0 rfl) ?_
        refine va_get (D := D) (ci := 4) (v := .ref ao) (C := RX3) (T := TX3) (N := 7) hx hb hts hi3 hown hK hP 0 rfl rfl 2 (by decide) (hts (.fieldLink RX3 23 "DecimalWords" "outcome" "LDecimalWords$Outcome;") (inW_4 _ (List.mem_of_getElem? (i := 25) rfl))) (fun _ h9 => h9) rfl dX3_setTooGreat_40 ?_
        refine va_get (D := D) (ci := 3) (v := .int (bI vom)) (C := RX1) (T := TX1) (N := 8) hx hb hts hi1 hown hK hP 2 rfl rfl 0 (by decide) (hts (.fieldLink RX3 216 "DecimalWords$Outcome" "minus" "Z") (inW_6 _ (List.mem_of_getElem? (i := 39) rfl))) (fun _ h9 => h9) rfl dX3_setTooGreat_43 ?_
        refine xb_ne (tgt := 53) hx hb dX3_setTooGreat_46 (by decide) (fun c_6 => ?_) (fun c_6 => ?_)
        · rw [if_pos c_6] at hz
          refine lv_iconst (v := 0) hx hb dX3_setTooGreat_53 (by decide) ?_
          have e9 := Eq.symm hz; subst e9
          exact J_11 _ ez9 H locs hP hD hS ls (lv_sub hl [0] rfl)
        · rw [if_neg c_6] at hz
          refine lv_iconst (v := 1) hx hb dX3_setTooGreat_49 (by decide) ?_
          refine lv_goto (tgt := 54) hx hb dX3_setTooGreat_50 (by decide) ?_
          have e9 := Eq.symm hz; subst e9
          exact J_11 _ ez9 H locs hP hD hS ls (lv_sub hl [0] rfl)
    · rw [if_pos c_4] at hz
      refine lv_aload_n hx hb dX3_setTooGreat_21 rfl (lv_at hl 0 rfl) ?_
      refine va_get (D := D) (ci := 4) (v := .ref ao) (C := RX3) (T := TX3) (N := 7) hx hb hts hi3 hown hK hP 0 rfl rfl 2 (by decide) (hts (.fieldLink RX3 23 "DecimalWords" "outcome" "LDecimalWords$Outcome;") (inW_4 _ (List.mem_of_getElem? (i := 25) rfl))) (fun _ h9 => h9) rfl dX3_setTooGreat_22 ?_
      refine va_get (D := D) (ci := 3) (v := .int (bI vom)) (C := RX1) (T := TX1) (N := 8) hx hb hts hi1 hown hK hP 2 rfl rfl 0 (by decide) (hts (.fieldLink RX3 216 "DecimalWords$Outcome" "minus" "Z") (inW_6 _ (List.mem_of_getElem? (i := 39) rfl))) (fun _ h9 => h9) rfl dX3_setTooGreat_25 ?_
      refine xb_ne (tgt := 49) hx hb dX3_setTooGreat_28 (by decide) (fun c_7 => ?_) (fun c_7 => ?_)
      · rw [if_pos c_7] at hz
        refine lv_iconst (v := 1) hx hb dX3_setTooGreat_49 (by decide) ?_
        refine lv_goto (tgt := 54) hx hb dX3_setTooGreat_50 (by decide) ?_
        have e9 := Eq.symm hz; subst e9
        exact J_11 _ ez9 H locs hP hD hS ls (lv_sub hl [0] rfl)
      · rw [if_neg c_7] at hz
        refine lv_aload_n hx hb dX3_setTooGreat_31 rfl (lv_at hl 0 rfl) ?_
        refine va_get (D := D) (ci := 4) (v := .int vrd) (C := RX3) (T := TX3) (N := 7) hx hb hts hi3 hown hK hP 0 rfl rfl 3 (by decide) (hts (.fieldLink RX3 27 "DecimalWords" "rounding" "I") (inW_4 _ (List.mem_of_getElem? (i := 26) rfl))) (fun _ h9 => h9) rfl dX3_setTooGreat_32 ?_
        refine lv_iconst (v := 4) hx hb dX3_setTooGreat_35 (by decide) ?_
        refine lv_icmp_ne (tgt := 53) hx hb dX3_setTooGreat_36 (by decide) (fun c_8 => ?_) (fun c_8 => ?_)
        · rw [if_neg c_8] at hz
          refine lv_iconst (v := 0) hx hb dX3_setTooGreat_53 (by decide) ?_
          have e9 := Eq.symm hz; subst e9
          exact J_11 _ ez9 H locs hP hD hS ls (lv_sub hl [0] rfl)
        · rw [if_pos c_8] at hz
          refine lv_aload_n hx hb dX3_setTooGreat_39 rfl (lv_at hl 0 rfl) ?_
          refine va_get (D := D) (ci := 4) (v := .ref ao) (C := RX3) (T := TX3) (N := 7) hx hb hts hi3 hown hK hP 0 rfl rfl 2 (by decide) (hts (.fieldLink RX3 23 "DecimalWords" "outcome" "LDecimalWords$Outcome;") (inW_4 _ (List.mem_of_getElem? (i := 25) rfl))) (fun _ h9 => h9) rfl dX3_setTooGreat_40 ?_
          refine va_get (D := D) (ci := 3) (v := .int (bI vom)) (C := RX1) (T := TX1) (N := 8) hx hb hts hi1 hown hK hP 2 rfl rfl 0 (by decide) (hts (.fieldLink RX3 216 "DecimalWords$Outcome" "minus" "Z") (inW_6 _ (List.mem_of_getElem? (i := 39) rfl))) (fun _ h9 => h9) rfl dX3_setTooGreat_43 ?_
          refine xb_ne (tgt := 53) hx hb dX3_setTooGreat_46 (by decide) (fun c9 => absurd c9 c_7) (fun _ => ?_)
          refine lv_iconst (v := 1) hx hb dX3_setTooGreat_49 (by decide) ?_
          refine lv_goto (tgt := 54) hx hb dX3_setTooGreat_50 (by decide) ?_
          have e9 := Eq.symm hz; subst e9
          exact J_11 _ ez9 H locs hP hD hS ls (lv_sub hl [0] rfl)
