def F_X3_raise (vrn : Int32) (p0 : Int32) : Int32 := (bnd (vrn ||| p0) (fun f101 : Int32 => f101))
def RF_X3_raise (vrn : Int32) (p0 : Int32) (u9 : Int32) : Prop := (∀ f101 : Int32, f101 = vrn ||| p0 → u9 = f101)
theorem rF_X3_raise (vrn : Int32) (p0 : Int32) {u9 : Int32} (hu : u9 = F_X3_raise vrn p0) : RF_X3_raise vrn p0 u9 := by
  unfold RF_X3_raise
  intro f101 ef101
  have hu := bnd_n hu ef101
  exact hu
def rm_X3_raise : Room := { frames := 0, cells := 0, slots := 0, locals := 0 }
set_option maxHeartbeats 4000000 in
set_option maxRecDepth 100000 in
theorem c_X3_raise (l : Launch) (D : va_G) (cR cI cJ cZ : ClassId) (t0 : Nat) (ax ar ao : Nat) (ad : Nat → Nat) (vrd : Int32) (vtr : Int32) (vsd : Int32) (vrn : Int32) (vom : Bool) (voh : Int64) (vol : Int64) (vop : Int32) (voe : Bool) (vow : Int32) (vok : Int64) (vos : Int32) (vso : Nat → Int32) (vmi : Nat → Bool) (vco : Nat → Int64) (vex : Nat → Int32) (p0 : Int32) (u : Int32) (hu : u = F_X3_raise vrn p0) : XM l D (xty cR cI cJ cZ) t0 yX3_raise cX3_raise 2 none rm_X3_raise [.ref ax, .int p0] none (xw cR ax ar ao ad vrd vtr vsd vrn vom voh vol vop voe vow vok vos vso vmi vco vex) (xw cR ax ar ao ad vrd vtr vsd u vom voh vol vop voe vow vok vos vso vmi vco vex) := by
  refine XM.of (by decide) (Nat.le_of_ble_eq_true rfl) ?_
  intro p e s m args below meth c A Q F hK hP hD hA hSt hS hQ ls hl
  obtain ⟨hx, hb, hr, hts, hown, hlocks, hml⟩ := F
  have hCF : CallFix p m c cX3_raise 2 s args gW RX3 := ⟨hx, hb, hml, hown, hts⟩
  have hu := rF_X3_raise vrn p0 hu
  unfold RF_X3_raise at hu
  obtain ⟨H, eH⟩ : ∃ y9 : Heap, y9 = s.heap := ⟨_, rfl⟩
  obtain ⟨locs, eL⟩ : ∃ y9 : List Loc, y9 = [] := ⟨_, rfl⟩
  rw [← eL] at hS ⊢
  have hP : va_P D vwCl (xw cR ax ar ao ad vrd vtr vsd vrn vom voh vol vop voe vow vok vos vso vmi vco vex) H := by rw [eH]; exact hP
  have hS : va_S A s.heap H locs := by rw [eH]; exact hS
  suffices goal9 : W p l e rm_X3_raise s m args below meth c H locs 0 0 Q (F0 m 0 ls []) from by rw [← eH]; exact goal9
  have hl : lv_has ls 2 [(0, .ref ax), (1, .int p0)] := hl
  have hi3 : ∀ w ∈ wsX30, w ∈ gW := inW_X3
  refine lv_aload_n hx hb dX3_raise_0 rfl (lv_at hl 0 rfl) ?_
  refine lv_dup hx hb dX3_raise_1 rfl ?_
  refine va_get (D := D) (ci := 4) (v := .int vrn) (C := RX3) (T := TX3) (N := 7) hx hb hts hi3 hown hK hP 0 rfl rfl 6 (by decide) (hts (.fieldLink RX3 37 "DecimalWords" "raisedNow" "I") (inW_4 _ (List.mem_of_getElem? (i := 25) rfl))) (fun _ h9 => h9) rfl dX3_raise_2 ?_
  refine lv_iload_n hx hb dX3_raise_5 rfl (lv_at hl 1 rfl) ?_
  refine lv_ior hx hb dX3_raise_6 ?_
  refine lv_topi (fun f101 ef101 => ?_)
  have hu := hu _ ef101
  refine va_put (D := D) (ci := 4) (v := .int f101) (ty := .int) (C := RX3) (T := TX3) (N := 7) hx hb hts hi3 tyX3 tyX3_ok nmX3 hown hK hP hD hS 0 rfl rfl 6 (by decide) (hts (.fieldLink RX3 37 "DecimalWords" "raisedNow" "I") (inW_4 _ (List.mem_of_getElem? (i := 25) rfl))) (fun _ h9 => h9) rfl (by decide +kernel) rfl rfl (Nat.le_of_ble_eq_true rfl) dX3_raise_7 (fun H locs hP hD hS => ?_)
  have hP : va_P D vwCl (xw cR ax ar ao ad vrd vtr vsd f101 vom voh vol vop voe vow vok vos vso vmi vco vex) H := hP
  have hD : va_D A (xw cR ax ar ao ad vrd vtr vsd f101 vom voh vol vop voe vow vok vos vso vmi vco vex) := hD
  have e9 := Eq.symm hu; subst e9
  exact x_vret hx hb hr hlocks hQ hK hP hD hS rfl dX3_raise_10

def F_X3_setInvalid (vrn : Int32) (vso : Nat → Int32) (vmi : Nat → Bool) (vco : Nat → Int64) (vex : Nat → Int32)  : Int32 × (Nat → Int32) × (Nat → Bool) × (Nat → Int64) × (Nat → Int32) := (bnd (F_X3_raise vrn (1 : Int32)) (fun u101 : Int32 => (bnd (F_X0_setNothing vso vmi vco vex 8) (fun u103 : (Nat → Int32) × (Nat → Bool) × (Nat → Int64) × (Nat → Int32) => (u101, u103.1, u103.2.1, u103.2.2.1, u103.2.2.2)))))
def RF_X3_setInvalid (vrn : Int32) (vso : Nat → Int32) (vmi : Nat → Bool) (vco : Nat → Int64) (vex : Nat → Int32)  (u9 : Int32 × (Nat → Int32) × (Nat → Bool) × (Nat → Int64) × (Nat → Int32)) : Prop := (∀ u101 : Int32, u101 = F_X3_raise vrn (1 : Int32) → (∀ u103 : (Nat → Int32) × (Nat → Bool) × (Nat → Int64) × (Nat → Int32), u103 = F_X0_setNothing vso vmi vco vex 8 → u9 = (u101, u103.1, u103.2.1, u103.2.2.1, u103.2.2.2)))
theorem rF_X3_setInvalid (vrn : Int32) (vso : Nat → Int32) (vmi : Nat → Bool) (vco : Nat → Int64) (vex : Nat → Int32)  {u9 : Int32 × (Nat → Int32) × (Nat → Bool) × (Nat → Int64) × (Nat → Int32)} (hu : u9 = F_X3_setInvalid vrn vso vmi vco vex) : RF_X3_setInvalid vrn vso vmi vco vex u9 := by
  unfold RF_X3_setInvalid
  intro u101 eu101
  have hu := bnd_n hu eu101
  intro u103 eu103
  have hu := bnd_n hu eu103
  exact hu
def rm_X3_setInvalid : Room := { frames := 1, cells := 0, slots := 0, locals := 21 }
set_option maxHeartbeats 4000000 in
set_option maxRecDepth 100000 in
theorem c_X3_setInvalid (l : Launch) (D : va_G) (cR cI cJ cZ : ClassId) (t0 : Nat) (ax ar ao : Nat) (ad : Nat → Nat) (vrd : Int32) (vtr : Int32) (vsd : Int32) (vrn : Int32) (vom : Bool) (voh : Int64) (vol : Int64) (vop : Int32) (voe : Bool) (vow : Int32) (vok : Int64) (vos : Int32) (vso : Nat → Int32) (vmi : Nat → Bool) (vco : Nat → Int64) (vex : Nat → Int32)  (u : Int32 × (Nat → Int32) × (Nat → Bool) × (Nat → Int64) × (Nat → Int32)) (hu : u = F_X3_setInvalid vrn vso vmi vco vex) : XM l D (xty cR cI cJ cZ) t0 yX3_setInvalid cX3_setInvalid 1 none rm_X3_setInvalid [.ref ax] none (xw cR ax ar ao ad vrd vtr vsd vrn vom voh vol vop voe vow vok vos vso vmi vco vex) (xw cR ax ar ao ad vrd vtr vsd u.1 vom voh vol vop voe vow vok vos u.2.1 u.2.2.1 u.2.2.2.1 u.2.2.2.2) := by
  refine XM.of (by decide) (Nat.le_of_ble_eq_true rfl) ?_
  intro p e s m args below meth c A Q F hK hP hD hA hSt hS hQ ls hl
  obtain ⟨hx, hb, hr, hts, hown, hlocks, hml⟩ := F
  have hCF : CallFix p m c cX3_setInvalid 1 s args gW RX3 := ⟨hx, hb, hml, hown, hts⟩
  have hu := rF_X3_setInvalid vrn vso vmi vco vex hu
  unfold RF_X3_setInvalid at hu
  obtain ⟨H, eH⟩ : ∃ y9 : Heap, y9 = s.heap := ⟨_, rfl⟩
  obtain ⟨locs, eL⟩ : ∃ y9 : List Loc, y9 = [] := ⟨_, rfl⟩
  rw [← eL] at hS ⊢
  have hP : va_P D vwCl (xw cR ax ar ao ad vrd vtr vsd vrn vom voh vol vop voe vow vok vos vso vmi vco vex) H := by rw [eH]; exact hP
  have hS : va_S A s.heap H locs := by rw [eH]; exact hS
  suffices goal9 : W p l e rm_X3_setInvalid s m args below meth c H locs 0 0 Q (F0 m 0 ls []) from by rw [← eH]; exact goal9
  have hl : lv_has ls 1 [(0, .ref ax)] := hl
  have hi3 : ∀ w ∈ wsX30, w ∈ gW := inW_X3
  refine lv_aload_n hx hb dX3_setInvalid_0 rfl (lv_at hl 0 rfl) ?_
  refine lv_iconst (v := 1) hx hb dX3_setInvalid_1 (by decide) ?_
  obtain ⟨u101, eu101⟩ : ∃ y9 : Int32, y9 = F_X3_raise vrn (1 : Int32) := ⟨_, rfl⟩
  have hu := hu _ eu101
  refine x_V (As := [.int 1]) (rest := []) hCF (c_X3_raise l D cR cI cJ cZ t0 ax ar ao ad vrd vtr vsd vrn vom voh vol vop voe vow vok vos vso vmi vco vex (1 : Int32) u101 eu101) (x_cwV 1 hts (inW_6 _ (List.mem_of_getElem? (i := 20) rfl)) (inW_6 _ (List.mem_of_getElem? (i := 21) rfl)) (inW_6 _ (List.mem_of_getElem? (i := 22) rfl)) (inW_1 _ (List.mem_of_getElem? (i := 25) rfl)) (inW_6 _ (List.mem_of_getElem? (i := 23) rfl)) rfl rfl (by decide +kernel) ⟨Nat.le_of_ble_eq_true rfl, Nat.le_of_ble_eq_true rfl⟩) hK hP hD hS hA hSt 0 rfl rfl rfl hl.1 rfl (Nat.le_of_ble_eq_true rfl) dX3_setInvalid_2 ⟨Nat.le_of_ble_eq_true rfl, Nat.le_of_ble_eq_true rfl⟩ (fun H locs hP hD hS => ?_)
  show W p l e _ s m args below meth c H locs 0 0 Q (F0 m 5 ls [])
  refine lv_aload_n hx hb dX3_setInvalid_5 rfl (lv_at hl 0 rfl) ?_
  refine va_get (D := D) (ci := 4) (v := .ref (ad 8)) (C := RX3) (T := TX3) (N := 7) hx hb hts hi3 hown hK hP 0 rfl rfl 1 (by decide) (hts (.fieldLink RX3 16 "DecimalWords" "result" "LDecimalWords$Datum;") (inW_4 _ (List.mem_of_getElem? (i := 18) rfl))) (fun _ h9 => h9) rfl dX3_setInvalid_6 ?_
  obtain ⟨u103, eu103⟩ : ∃ y9 : (Nat → Int32) × (Nat → Bool) × (Nat → Int64) × (Nat → Int32), y9 = F_X0_setNothing vso vmi vco vex 8 := ⟨_, rfl⟩
  have hu := hu _ eu103
  refine x_V (As := []) (rest := []) hCF (c_X0_setNothing l D cR cI cJ cZ t0 ax ar ao ad vrd vtr vsd u101 vom voh vol vop voe vow vok vos vso vmi vco vex 8 u103 eu103 (by decide)) (x_cwV 0 hts (inW_5 _ (List.mem_of_getElem? (i := 35) rfl)) (inW_3 _ (List.mem_of_getElem? (i := 27) rfl)) (inW_3 _ (List.mem_of_getElem? (i := 28) rfl)) (inW_1 _ (List.mem_of_getElem? (i := 16) rfl)) (inW_1 _ (List.mem_of_getElem? (i := 9) rfl)) rfl rfl (by decide +kernel) ⟨Nat.le_of_ble_eq_true rfl, Nat.le_of_ble_eq_true rfl⟩) hK hP hD hS hA hSt (3 + 8) (xw_dat (by decide)) rfl rfl hl.1 rfl (Nat.le_of_ble_eq_true rfl) dX3_setInvalid_9 ⟨Nat.le_of_ble_eq_true rfl, Nat.le_of_ble_eq_true rfl⟩ (fun H locs hP hD hS => ?_)
  show W p l e _ s m args below meth c H locs 0 0 Q (F0 m 12 ls [])
  have e9 := Eq.symm hu; subst e9
  exact x_vret hx hb hr hlocks hQ hK hP hD hS rfl dX3_setInvalid_12

def Z_X3_addInfinity_J_112 (vso : Nat → Int32) (vmi : Nat → Bool) (i1 : Nat) (p2 : Bool) : Bool := (if vso i1 = 1 then vmi i1 else p2)
def RZ_X3_addInfinity_J_112 (vso : Nat → Int32) (vmi : Nat → Bool) (i1 : Nat) (p2 : Bool) (u9 : Bool) : Prop := (if vso i1 = 1 then u9 = vmi i1 else u9 = p2)
theorem rZ_X3_addInfinity_J_112 (vso : Nat → Int32) (vmi : Nat → Bool) (i1 : Nat) (p2 : Bool) {u9 : Bool} (hu : u9 = Z_X3_addInfinity_J_112 vso vmi i1 p2) : RZ_X3_addInfinity_J_112 vso vmi i1 p2 u9 := by
  unfold RZ_X3_addInfinity_J_112
  refine ite_P (fun c_109 => ?_) (fun c_109 => ?_)
  · have hu := hu.trans (if_pos c_109)
    exact hu
  · have hu := hu.trans (if_neg c_109)
    exact hu
def F_X3_addInfinity (vrn : Int32) (vso : Nat → Int32) (vmi : Nat → Bool) (vco : Nat → Int64) (vex : Nat → Int32) (i1 : Nat) (i2 : Nat) (p2 : Bool) : Int32 × (Nat → Int32) × (Nat → Bool) × (Nat → Int64) × (Nat → Int32) := (if vso i1 = vso i2 then (if vmi i1 = p2 then (bnd (Z_X3_addInfinity_J_112 vso vmi i1 p2) (fun z111 : Bool => (bnd (F_X0_setInfinity vso vmi vco vex 8 z111) (fun u113 : (Nat → Int32) × (Nat → Bool) × (Nat → Int64) × (Nat → Int32) => (vrn, u113.1, u113.2.1, u113.2.2.1, u113.2.2.2))))) else (bnd (F_X3_setInvalid vrn vso vmi vco vex) (fun u115 : Int32 × (Nat → Int32) × (Nat → Bool) × (Nat → Int64) × (Nat → Int32) => (u115.1, u115.2.1, u115.2.2.1, u115.2.2.2.1, u115.2.2.2.2)))) else (bnd (Z_X3_addInfinity_J_112 vso vmi i1 p2) (fun z104 : Bool => (bnd (F_X0_setInfinity vso vmi vco vex 8 z104) (fun u106 : (Nat → Int32) × (Nat → Bool) × (Nat → Int64) × (Nat → Int32) => (vrn, u106.1, u106.2.1, u106.2.2.1, u106.2.2.2))))))
def RF_X3_addInfinity (vrn : Int32) (vso : Nat → Int32) (vmi : Nat → Bool) (vco : Nat → Int64) (vex : Nat → Int32) (i1 : Nat) (i2 : Nat) (p2 : Bool) (u9 : Int32 × (Nat → Int32) × (Nat → Bool) × (Nat → Int64) × (Nat → Int32)) : Prop := (if vso i1 = vso i2 then (if vmi i1 = p2 then (∀ z111 : Bool, z111 = Z_X3_addInfinity_J_112 vso vmi i1 p2 → (∀ u113 : (Nat → Int32) × (Nat → Bool) × (Nat → Int64) × (Nat → Int32), u113 = F_X0_setInfinity vso vmi vco vex 8 z111 → u9 = (vrn, u113.1, u113.2.1, u113.2.2.1, u113.2.2.2))) else (∀ u115 : Int32 × (Nat → Int32) × (Nat → Bool) × (Nat → Int64) × (Nat → Int32), u115 = F_X3_setInvalid vrn vso vmi vco vex → u9 = (u115.1, u115.2.1, u115.2.2.1, u115.2.2.2.1, u115.2.2.2.2))) else (∀ z104 : Bool, z104 = Z_X3_addInfinity_J_112 vso vmi i1 p2 → (∀ u106 : (Nat → Int32) × (Nat → Bool) × (Nat → Int64) × (Nat → Int32), u106 = F_X0_setInfinity vso vmi vco vex 8 z104 → u9 = (vrn, u106.1, u106.2.1, u106.2.2.1, u106.2.2.2))))
theorem rF_X3_addInfinity (vrn : Int32) (vso : Nat → Int32) (vmi : Nat → Bool) (vco : Nat → Int64) (vex : Nat → Int32) (i1 : Nat) (i2 : Nat) (p2 : Bool) {u9 : Int32 × (Nat → Int32) × (Nat → Bool) × (Nat → Int64) × (Nat → Int32)} (hu : u9 = F_X3_addInfinity vrn vso vmi vco vex i1 i2 p2) : RF_X3_addInfinity vrn vso vmi vco vex i1 i2 p2 u9 := by
  unfold RF_X3_addInfinity
  refine ite_P (fun c_101 => ?_) (fun c_101 => ?_)
  · have hu := hu.trans (if_pos c_101)
    refine ite_P (fun c_108 => ?_) (fun c_108 => ?_)
    · have hu := hu.trans (if_pos c_108)
      intro z111 ez111
      have hu := bnd_n hu ez111
      intro u113 eu113
      have hu := bnd_n hu eu113
      exact hu
    · have hu := hu.trans (if_neg c_108)
      intro u115 eu115
      have hu := bnd_n hu eu115
      exact hu
  · have hu := hu.trans (if_neg c_101)
    intro z104 ez104
    have hu := bnd_n hu ez104
    intro u106 eu106
    have hu := bnd_n hu eu106
    exact hu
def rm_X3_addInfinity : Room := { frames := 2, cells := 0, slots := 0, locals := 41 }
set_option maxHeartbeats 4000000 in
set_option maxRecDepth 100000 in
theorem c_X3_addInfinity (l : Launch) (D : va_G) (cR cI cJ cZ : ClassId) (t0 : Nat) (ax ar ao : Nat) (ad : Nat → Nat) (vrd : Int32) (vtr : Int32) (vsd : Int32) (vrn : Int32) (vom : Bool) (voh : Int64) (vol : Int64) (vop : Int32) (voe : Bool) (vow : Int32) (vok : Int64) (vos : Int32) (vso : Nat → Int32) (vmi : Nat → Bool) (vco : Nat → Int64) (vex : Nat → Int32) (i1 : Nat) (i2 : Nat) (p2 : Bool) (u : Int32 × (Nat → Int32) × (Nat → Bool) × (Nat → Int64) × (Nat → Int32)) (hu : u = F_X3_addInfinity vrn vso vmi vco vex i1 i2 p2) (hb1 : i1 < 9) (hb2 : i2 < 9) : XM l D (xty cR cI cJ cZ) t0 yX3_addInfinity cX3_addInfinity 4 none rm_X3_addInfinity [.ref ax, .ref (ad i1), .ref (ad i2), .int (bI p2)] none (xw cR ax ar ao ad vrd vtr vsd vrn vom voh vol vop voe vow vok vos vso vmi vco vex) (xw cR ax ar ao ad vrd vtr vsd u.1 vom voh vol vop voe vow vok vos u.2.1 u.2.2.1 u.2.2.2.1 u.2.2.2.2) := by
  refine XM.of (by decide) (Nat.le_of_ble_eq_true rfl) ?_
  intro p e s m args below meth c A Q F hK hP hD hA hSt hS hQ ls hl
  obtain ⟨hx, hb, hr, hts, hown, hlocks, hml⟩ := F
  have hCF : CallFix p m c cX3_addInfinity 4 s args gW RX3 := ⟨hx, hb, hml, hown, hts⟩
  have hu := rF_X3_addInfinity vrn vso vmi vco vex i1 i2 p2 hu
  unfold RF_X3_addInfinity at hu
  obtain ⟨H, eH⟩ : ∃ y9 : Heap, y9 = s.heap := ⟨_, rfl⟩
  obtain ⟨locs, eL⟩ : ∃ y9 : List Loc, y9 = [] := ⟨_, rfl⟩
  rw [← eL] at hS ⊢
  have hP : va_P D vwCl (xw cR ax ar ao ad vrd vtr vsd vrn vom voh vol vop voe vow vok vos vso vmi vco vex) H := by rw [eH]; exact hP
  have hS : va_S A s.heap H locs := by rw [eH]; exact hS
  suffices goal9 : W p l e rm_X3_addInfinity s m args below meth c H locs 0 0 Q (F0 m 0 ls []) from by rw [← eH]; exact goal9
  have hl : lv_has ls 4 [(0, .ref ax), (1, .ref (ad i1)), (2, .ref (ad i2)), (3, .int (bI p2))] := hl
  have hi0 : ∀ w ∈ wsX00, w ∈ gW := inW_X0
  have hi3 : ∀ w ∈ wsX30, w ∈ gW := inW_X3
  refine lv_aload_n hx hb dX3_addInfinity_0 rfl (lv_at hl 1 rfl) ?_
  refine g_so (i := i1) hx hb hts hi0 hown hK hP hb1 (hts (.fieldLink RX3 70 "DecimalWords$Datum" "sort" "I") (inW_5 _ (List.mem_of_getElem? (i := 9) rfl))) dX3_addInfinity_1 ?_
  refine lv_aload_n hx hb dX3_addInfinity_4 rfl (lv_at hl 2 rfl) ?_
  refine g_so (i := i2) hx hb hts hi0 hown hK hP hb2 (hts (.fieldLink RX3 70 "DecimalWords$Datum" "sort" "I") (inW_5 _ (List.mem_of_getElem? (i := 9) rfl))) dX3_addInfinity_5 ?_
  refine lv_icmp_ne (tgt := 26) hx hb dX3_addInfinity_8 (by decide) (fun c_101 => ?_) (fun c_101 => ?_)
  · rw [if_neg c_101] at hu
    refine lv_aload_n hx hb dX3_addInfinity_26 rfl (lv_at hl 0 rfl) ?_
    refine va_get (D := D) (ci := 4) (v := .ref (ad 8)) (C := RX3) (T := TX3) (N := 7) hx hb hts hi3 hown hK hP 0 rfl rfl 1 (by decide) (hts (.fieldLink RX3 16 "DecimalWords" "result" "LDecimalWords$Datum;") (inW_4 _ (List.mem_of_getElem? (i := 18) rfl))) (fun _ h9 => h9) rfl dX3_addInfinity_27 ?_
    refine lv_aload_n hx hb dX3_addInfinity_30 rfl (lv_at hl 1 rfl) ?_
    refine g_so (i := i1) hx hb hts hi0 hown hK hP hb1 (hts (.fieldLink RX3 70 "DecimalWords$Datum" "sort" "I") (inW_5 _ (List.mem_of_getElem? (i := 9) rfl))) dX3_addInfinity_31 ?_
    refine lv_iconst (v := 1) hx hb dX3_addInfinity_34 (by decide) ?_
    have J_105 : (∀ z104 : Bool, z104 = Z_X3_addInfinity_J_112 vso vmi i1 p2 → ∀ (H : Heap) (locs : List Loc), va_P D vwCl (xw cR ax ar ao ad vrd vtr vsd vrn vom voh vol vop voe vow vok vos vso vmi vco vex) H → va_D A (xw cR ax ar ao ad vrd vtr vsd vrn vom voh vol vop voe vow vok vos vso vmi vco vex) → va_S A s.heap H locs → ∀ ls : Array Slot, lv_has ls 4 [] → W p l e rm_X3_addInfinity s m args below meth c H locs 0 0 Q (F0 m 46 ls [.int (bI z104), .ref (ad 8)])) := by
      intro z104 ez104 H locs hP hD hS ls hl
      have hu := hu _ ez104
      obtain ⟨u106, eu106⟩ : ∃ y9 : (Nat → Int32) × (Nat → Bool) × (Nat → Int64) × (Nat → Int32), y9 = F_X0_setInfinity vso vmi vco vex 8 z104 := ⟨_, rfl⟩
      have hu := hu _ eu106
      refine x_V (As := [.int (bI z104)]) (rest := []) hCF (c_X0_setInfinity l D cR cI cJ cZ t0 ax ar ao ad vrd vtr vsd vrn vom voh vol vop voe vow vok vos vso vmi vco vex 8 z104 u106 eu106 (by decide)) (x_cwV 1 hts (inW_5 _ (List.mem_of_getElem? (i := 34) rfl)) (inW_3 _ (List.mem_of_getElem? (i := 24) rfl)) (inW_3 _ (List.mem_of_getElem? (i := 25) rfl)) (inW_1 _ (List.mem_of_getElem? (i := 16) rfl)) (inW_1 _ (List.mem_of_getElem? (i := 8) rfl)) rfl rfl (by decide +kernel) ⟨Nat.le_of_ble_eq_true rfl, Nat.le_of_ble_eq_true rfl⟩) hK hP hD hS hA hSt (3 + 8) (xw_dat (by decide)) rfl rfl hl.1 rfl (Nat.le_of_ble_eq_true rfl) dX3_addInfinity_46 ⟨Nat.le_of_ble_eq_true rfl, Nat.le_of_ble_eq_true rfl⟩ (fun H locs hP hD hS => ?_)
      show W p l e _ s m args below meth c H locs 0 0 Q (F0 m 49 ls [])
      have e9 := Eq.symm hu; subst e9
      exact x_vret hx hb hr hlocks hQ hK hP hD hS rfl dX3_addInfinity_49
    obtain ⟨z9, ez9⟩ : ∃ y9 : Bool, y9 = Z_X3_addInfinity_J_112 vso vmi i1 p2 := ⟨_, rfl⟩
    have hz := rZ_X3_addInfinity_J_112 vso vmi i1 p2 ez9
    unfold RZ_X3_addInfinity_J_112 at hz
    refine lv_icmp_ne (tgt := 45) hx hb dX3_addInfinity_35 (by decide) (fun c_102 => ?_) (fun c_102 => ?_)
    · rw [if_neg c_102] at hz
      refine lv_iload_n hx hb dX3_addInfinity_45 rfl (lv_at hl 3 rfl) ?_
      have e9 := Eq.symm hz; subst e9
      exact J_105 _ ez9 H locs hP hD hS ls (lv_sub hl [] rfl)
    · rw [if_pos c_102] at hz
      refine lv_aload_n hx hb dX3_addInfinity_38 rfl (lv_at hl 1 rfl) ?_
      refine g_mi (i := i1) hx hb hts hi0 hown hK hP hb1 (hts (.fieldLink RX3 77 "DecimalWords$Datum" "minus" "Z") (inW_5 _ (List.mem_of_getElem? (i := 14) rfl))) dX3_addInfinity_39 ?_
      refine lv_goto (tgt := 46) hx hb dX3_addInfinity_42 (by decide) ?_
      have e9 := Eq.symm hz; subst e9
      exact J_105 _ ez9 H locs hP hD hS ls (lv_sub hl [] rfl)
  · rw [if_pos c_101] at hu
    refine lv_aload_n hx hb dX3_addInfinity_11 rfl (lv_at hl 1 rfl) ?_
    refine g_mi (i := i1) hx hb hts hi0 hown hK hP hb1 (hts (.fieldLink RX3 77 "DecimalWords$Datum" "minus" "Z") (inW_5 _ (List.mem_of_getElem? (i := 14) rfl))) dX3_addInfinity_12 ?_
    refine lv_iload_n hx hb dX3_addInfinity_15 rfl (lv_at hl 3 rfl) ?_
    refine xbb_eq (tgt := 26) hx hb dX3_addInfinity_16 (by decide) (fun c_108 => ?_) (fun c_108 => ?_)
    · rw [if_pos c_108] at hu
      refine lv_aload_n hx hb dX3_addInfinity_26 rfl (lv_at hl 0 rfl) ?_
      refine va_get (D := D) (ci := 4) (v := .ref (ad 8)) (C := RX3) (T := TX3) (N := 7) hx hb hts hi3 hown hK hP 0 rfl rfl 1 (by decide) (hts (.fieldLink RX3 16 "DecimalWords" "result" "LDecimalWords$Datum;") (inW_4 _ (List.mem_of_getElem? (i := 18) rfl))) (fun _ h9 => h9) rfl dX3_addInfinity_27 ?_
      refine lv_aload_n hx hb dX3_addInfinity_30 rfl (lv_at hl 1 rfl) ?_
      refine g_so (i := i1) hx hb hts hi0 hown hK hP hb1 (hts (.fieldLink RX3 70 "DecimalWords$Datum" "sort" "I") (inW_5 _ (List.mem_of_getElem? (i := 9) rfl))) dX3_addInfinity_31 ?_
      refine lv_iconst (v := 1) hx hb dX3_addInfinity_34 (by decide) ?_
      have J_112 : (∀ z111 : Bool, z111 = Z_X3_addInfinity_J_112 vso vmi i1 p2 → ∀ (H : Heap) (locs : List Loc), va_P D vwCl (xw cR ax ar ao ad vrd vtr vsd vrn vom voh vol vop voe vow vok vos vso vmi vco vex) H → va_D A (xw cR ax ar ao ad vrd vtr vsd vrn vom voh vol vop voe vow vok vos vso vmi vco vex) → va_S A s.heap H locs → ∀ ls : Array Slot, lv_has ls 4 [] → W p l e rm_X3_addInfinity s m args below meth c H locs 0 0 Q (F0 m 46 ls [.int (bI z111), .ref (ad 8)])) := by
        intro z111 ez111 H locs hP hD hS ls hl
        have hu := hu _ ez111
        obtain ⟨u113, eu113⟩ : ∃ y9 : (Nat → Int32) × (Nat → Bool) × (Nat → Int64) × (Nat → Int32), y9 = F_X0_setInfinity vso vmi vco vex 8 z111 := ⟨_, rfl⟩
        have hu := hu _ eu113
        refine x_V (As := [.int (bI z111)]) (rest := []) hCF (c_X0_setInfinity l D cR cI cJ cZ t0 ax ar ao ad vrd vtr vsd vrn vom voh vol vop voe vow vok vos vso vmi vco vex 8 z111 u113 eu113 (by decide)) (x_cwV 1 hts (inW_5 _ (List.mem_of_getElem? (i := 34) rfl)) (inW_3 _ (List.mem_of_getElem? (i := 24) rfl)) (inW_3 _ (List.mem_of_getElem? (i := 25) rfl)) (inW_1 _ (List.mem_of_getElem? (i := 16) rfl)) (inW_1 _ (List.mem_of_getElem? (i := 8) rfl)) rfl rfl (by decide +kernel) ⟨Nat.le_of_ble_eq_true rfl, Nat.le_of_ble_eq_true rfl⟩) hK hP hD hS hA hSt (3 + 8) (xw_dat (by decide)) rfl rfl hl.1 rfl (Nat.le_of_ble_eq_true rfl) dX3_addInfinity_46 ⟨Nat.le_of_ble_eq_true rfl, Nat.le_of_ble_eq_true rfl⟩ (fun H locs hP hD hS => ?_)
        show W p l e _ s m args below meth c H locs 0 0 Q (F0 m 49 ls [])
        have e9 := Eq.symm hu; subst e9
        exact x_vret hx hb hr hlocks hQ hK hP hD hS rfl dX3_addInfinity_49
      obtain ⟨z9, ez9⟩ : ∃ y9 : Bool, y9 = Z_X3_addInfinity_J_112 vso vmi i1 p2 := ⟨_, rfl⟩
      have hz := rZ_X3_addInfinity_J_112 vso vmi i1 p2 ez9
      unfold RZ_X3_addInfinity_J_112 at hz
      refine lv_icmp_ne (tgt := 45) hx hb dX3_addInfinity_35 (by decide) (fun c_109 => ?_) (fun c_109 => ?_)
      · rw [if_neg c_109] at hz
        refine lv_iload_n hx hb dX3_addInfinity_45 rfl (lv_at hl 3 rfl) ?_
        have e9 := Eq.symm hz; subst e9
        exact J_112 _ ez9 H locs hP hD hS ls (lv_sub hl [] rfl)
      · rw [if_pos c_109] at hz
        refine lv_aload_n hx hb dX3_addInfinity_38 rfl (lv_at hl 1 rfl) ?_
        refine g_mi (i := i1) hx hb hts hi0 hown hK hP hb1 (hts (.fieldLink RX3 77 "DecimalWords$Datum" "minus" "Z") (inW_5 _ (List.mem_of_getElem? (i := 14) rfl))) dX3_addInfinity_39 ?_
        refine lv_goto (tgt := 46) hx hb dX3_addInfinity_42 (by decide) ?_
        have e9 := Eq.symm hz; subst e9
        exact J_112 _ ez9 H locs hP hD hS ls (lv_sub hl [] rfl)
    · rw [if_neg c_108] at hu
      refine lv_aload_n hx hb dX3_addInfinity_19 rfl (lv_at hl 0 rfl) ?_
      obtain ⟨u115, eu115⟩ : ∃ y9 : Int32 × (Nat → Int32) × (Nat → Bool) × (Nat → Int64) × (Nat → Int32), y9 = F_X3_setInvalid vrn vso vmi vco vex := ⟨_, rfl⟩
      have hu := hu _ eu115
      refine x_V (As := []) (rest := []) hCF (c_X3_setInvalid l D cR cI cJ cZ t0 ax ar ao ad vrd vtr vsd vrn vom voh vol vop voe vow vok vos vso vmi vco vex u115 eu115) (x_cwV 0 hts (inW_6 _ (List.mem_of_getElem? (i := 16) rfl)) (inW_6 _ (List.mem_of_getElem? (i := 17) rfl)) (inW_6 _ (List.mem_of_getElem? (i := 18) rfl)) (inW_1 _ (List.mem_of_getElem? (i := 25) rfl)) (inW_6 _ (List.mem_of_getElem? (i := 19) rfl)) rfl rfl (by decide +kernel) ⟨Nat.le_of_ble_eq_true rfl, Nat.le_of_ble_eq_true rfl⟩) hK hP hD hS hA hSt 0 rfl rfl rfl hl.1 rfl (Nat.le_of_ble_eq_true rfl) dX3_addInfinity_20 ⟨Nat.le_of_ble_eq_true rfl, Nat.le_of_ble_eq_true rfl⟩ (fun H locs hP hD hS => ?_)
      show W p l e _ s m args below meth c H locs 0 0 Q (F0 m 23 ls [])
      refine lv_goto (tgt := 49) hx hb dX3_addInfinity_23 (by decide) ?_
      have e9 := Eq.symm hu; subst e9
      exact x_vret hx hb hr hlocks hQ hK hP hD hS rfl dX3_addInfinity_49

def Z_X3_setFromInfinity_J_119 (vmi : Nat → Bool) (i3 : Nat) : Bool := (if vmi i3 = true then false else true)
def RZ_X3_setFromInfinity_J_119 (vmi : Nat → Bool) (i3 : Nat) (u9 : Bool) : Prop := (if vmi i3 = true then u9 = false else u9 = true)
theorem rZ_X3_setFromInfinity_J_119 (vmi : Nat → Bool) (i3 : Nat) {u9 : Bool} (hu : u9 = Z_X3_setFromInfinity_J_119 vmi i3) : RZ_X3_setFromInfinity_J_119 vmi i3 u9 := by
  unfold RZ_X3_setFromInfinity_J_119
  refine ite_P (fun c_116 => ?_) (fun c_116 => ?_)
  · have hu := hu.trans (if_pos c_116)
    exact hu
  · have hu := hu.trans (if_neg c_116)
    exact hu
def Z_X3_setFromInfinity_J_108 (vso : Nat → Int32) (i2 : Nat) (i3 : Nat) : Bool := (if vso i2 = vso i3 then true else false)
def RZ_X3_setFromInfinity_J_108 (vso : Nat → Int32) (i2 : Nat) (i3 : Nat) (u9 : Bool) : Prop := (if vso i2 = vso i3 then u9 = true else u9 = false)
theorem rZ_X3_setFromInfinity_J_108 (vso : Nat → Int32) (i2 : Nat) (i3 : Nat) {u9 : Bool} (hu : u9 = Z_X3_setFromInfinity_J_108 vso i2 i3) : RZ_X3_setFromInfinity_J_108 vso i2 i3 u9 := by
  unfold RZ_X3_setFromInfinity_J_108
  refine ite_P (fun c_105 => ?_) (fun c_105 => ?_)
  · have hu := hu.trans (if_pos c_105)
    exact hu
  · have hu := hu.trans (if_neg c_105)
    exact hu
def Z_X3_setFromInfinity_J_104 (vmi : Nat → Bool) (i2 : Nat) (i3 : Nat) : Bool := (if vmi i2 = vmi i3 then false else true)
def RZ_X3_setFromInfinity_J_104 (vmi : Nat → Bool) (i2 : Nat) (i3 : Nat) (u9 : Bool) : Prop := (if vmi i2 = vmi i3 then u9 = false else u9 = true)
theorem rZ_X3_setFromInfinity_J_104 (vmi : Nat → Bool) (i2 : Nat) (i3 : Nat) {u9 : Bool} (hu : u9 = Z_X3_setFromInfinity_J_104 vmi i2 i3) : RZ_X3_setFromInfinity_J_104 vmi i2 i3 u9 := by
  unfold RZ_X3_setFromInfinity_J_104
  refine ite_P (fun c_101 => ?_) (fun c_101 => ?_)
  · have hu := hu.trans (if_pos c_101)
    exact hu
  · have hu := hu.trans (if_neg c_101)
    exact hu
def F_X3_setFromInfinity (vrn : Int32) (vso : Nat → Int32) (vmi : Nat → Bool) (vco : Nat → Int64) (vex : Nat → Int32) (p0 : Int32) (i2 : Nat) (i3 : Nat) : Int32 × (Nat → Int32) × (Nat → Bool) × (Nat → Int64) × (Nat → Int32) := (bnd (Z_X3_setFromInfinity_J_104 vmi i2 i3) (fun z103 : Bool => (bnd (Z_X3_setFromInfinity_J_108 vso i2 i3) (fun z107 : Bool => (if p0 = 0 then (bnd (F_X3_addInfinity vrn vso vmi vco vex i2 i3 (vmi i3)) (fun u114 : Int32 × (Nat → Int32) × (Nat → Bool) × (Nat → Int64) × (Nat → Int32) => (u114.1, u114.2.1, u114.2.2.1, u114.2.2.2.1, u114.2.2.2.2))) else (if p0 = 1 then (bnd (Z_X3_setFromInfinity_J_119 vmi i3) (fun z118 : Bool => (bnd (F_X3_addInfinity vrn vso vmi vco vex i2 i3 z118) (fun u120 : Int32 × (Nat → Int32) × (Nat → Bool) × (Nat → Int64) × (Nat → Int32) => (u120.1, u120.2.1, u120.2.2.1, u120.2.2.2.1, u120.2.2.2.2))))) else (if p0 = 2 then (if F_X0_isZero vso vco i2 = true then (bnd (F_X3_setInvalid vrn vso vmi vco vex) (fun u124 : Int32 × (Nat → Int32) × (Nat → Bool) × (Nat → Int64) × (Nat → Int32) => (u124.1, u124.2.1, u124.2.2.1, u124.2.2.2.1, u124.2.2.2.2))) else (if F_X0_isZero vso vco i3 = true then (bnd (F_X3_setInvalid vrn vso vmi vco vex) (fun u130 : Int32 × (Nat → Int32) × (Nat → Bool) × (Nat → Int64) × (Nat → Int32) => (u130.1, u130.2.1, u130.2.2.1, u130.2.2.2.1, u130.2.2.2.2))) else (bnd (F_X0_setInfinity vso vmi vco vex 8 z103) (fun u128 : (Nat → Int32) × (Nat → Bool) × (Nat → Int64) × (Nat → Int32) => (vrn, u128.1, u128.2.1, u128.2.2.1, u128.2.2.2))))) else (if p0 = 3 then (if z107 = true then (bnd (F_X3_setInvalid vrn vso vmi vco vex) (fun u138 : Int32 × (Nat → Int32) × (Nat → Bool) × (Nat → Int64) × (Nat → Int32) => (u138.1, u138.2.1, u138.2.2.1, u138.2.2.2.1, u138.2.2.2.2))) else (if vso i2 = 1 then (bnd (F_X0_setInfinity vso vmi vco vex 8 z103) (fun u136 : (Nat → Int32) × (Nat → Bool) × (Nat → Int64) × (Nat → Int32) => (vrn, u136.1, u136.2.1, u136.2.2.1, u136.2.2.2))) else (bnd (F_X0_setFinite vso vmi vco vex 8 z103 (0 : Int64) (-398 : Int32)) (fun u134 : (Nat → Int32) × (Nat → Bool) × (Nat → Int64) × (Nat → Int32) => (vrn, u134.1, u134.2.1, u134.2.2.1, u134.2.2.2))))) else (if p0 = 4 then (if z107 = true then (bnd (F_X0_take vso vmi vco vex 8 i2) (fun u143 : (Nat → Int32) × (Nat → Bool) × (Nat → Int64) × (Nat → Int32) => (vrn, u143.1, u143.2.1, u143.2.2.1, u143.2.2.2))) else (bnd (F_X3_setInvalid vrn vso vmi vco vex) (fun u141 : Int32 × (Nat → Int32) × (Nat → Bool) × (Nat → Int64) × (Nat → Int32) => (u141.1, u141.2.1, u141.2.2.1, u141.2.2.2.1, u141.2.2.2.2)))) else (if z107 = true then (bnd (F_X0_take vso vmi vco vex 8 i2) (fun u148 : (Nat → Int32) × (Nat → Bool) × (Nat → Int64) × (Nat → Int32) => (vrn, u148.1, u148.2.1, u148.2.2.1, u148.2.2.2))) else (bnd (F_X3_setInvalid vrn vso vmi vco vex) (fun u146 : Int32 × (Nat → Int32) × (Nat → Bool) × (Nat → Int64) × (Nat → Int32) => (u146.1, u146.2.1, u146.2.2.1, u146.2.2.2.1, u146.2.2.2.2)))))))))))))
def RF_X3_setFromInfinity (vrn : Int32) (vso : Nat → Int32) (vmi : Nat → Bool) (vco : Nat → Int64) (vex : Nat → Int32) (p0 : Int32) (i2 : Nat) (i3 : Nat) (u9 : Int32 × (Nat → Int32) × (Nat → Bool) × (Nat → Int64) × (Nat → Int32)) : Prop := (∀ z103 : Bool, z103 = Z_X3_setFromInfinity_J_104 vmi i2 i3 → (∀ z107 : Bool, z107 = Z_X3_setFromInfinity_J_108 vso i2 i3 → (if p0 = 0 then (∀ u114 : Int32 × (Nat → Int32) × (Nat → Bool) × (Nat → Int64) × (Nat → Int32), u114 = F_X3_addInfinity vrn vso vmi vco vex i2 i3 (vmi i3) → u9 = (u114.1, u114.2.1, u114.2.2.1, u114.2.2.2.1, u114.2.2.2.2)) else (if p0 = 1 then (∀ z118 : Bool, z118 = Z_X3_setFromInfinity_J_119 vmi i3 → (∀ u120 : Int32 × (Nat → Int32) × (Nat → Bool) × (Nat → Int64) × (Nat → Int32), u120 = F_X3_addInfinity vrn vso vmi vco vex i2 i3 z118 → u9 = (u120.1, u120.2.1, u120.2.2.1, u120.2.2.2.1, u120.2.2.2.2))) else (if p0 = 2 then (if F_X0_isZero vso vco i2 = true then (∀ u124 : Int32 × (Nat → Int32) × (Nat → Bool) × (Nat → Int64) × (Nat → Int32), u124 = F_X3_setInvalid vrn vso vmi vco vex → u9 = (u124.1, u124.2.1, u124.2.2.1, u124.2.2.2.1, u124.2.2.2.2)) else (if F_X0_isZero vso vco i3 = true then (∀ u130 : Int32 × (Nat → Int32) × (Nat → Bool) × (Nat → Int64) × (Nat → Int32), u130 = F_X3_setInvalid vrn vso vmi vco vex → u9 = (u130.1, u130.2.1, u130.2.2.1, u130.2.2.2.1, u130.2.2.2.2)) else (∀ u128 : (Nat → Int32) × (Nat → Bool) × (Nat → Int64) × (Nat → Int32), u128 = F_X0_setInfinity vso vmi vco vex 8 z103 → u9 = (vrn, u128.1, u128.2.1, u128.2.2.1, u128.2.2.2)))) else (if p0 = 3 then (if z107 = true then (∀ u138 : Int32 × (Nat → Int32) × (Nat → Bool) × (Nat → Int64) × (Nat → Int32), u138 = F_X3_setInvalid vrn vso vmi vco vex → u9 = (u138.1, u138.2.1, u138.2.2.1, u138.2.2.2.1, u138.2.2.2.2)) else (if vso i2 = 1 then (∀ u136 : (Nat → Int32) × (Nat → Bool) × (Nat → Int64) × (Nat → Int32), u136 = F_X0_setInfinity vso vmi vco vex 8 z103 → u9 = (vrn, u136.1, u136.2.1, u136.2.2.1, u136.2.2.2)) else (∀ u134 : (Nat → Int32) × (Nat → Bool) × (Nat → Int64) × (Nat → Int32), u134 = F_X0_setFinite vso vmi vco vex 8 z103 (0 : Int64) (-398 : Int32) → u9 = (vrn, u134.1, u134.2.1, u134.2.2.1, u134.2.2.2)))) else (if p0 = 4 then (if z107 = true then (∀ u143 : (Nat → Int32) × (Nat → Bool) × (Nat → Int64) × (Nat → Int32), u143 = F_X0_take vso vmi vco vex 8 i2 → u9 = (vrn, u143.1, u143.2.1, u143.2.2.1, u143.2.2.2)) else (∀ u141 : Int32 × (Nat → Int32) × (Nat → Bool) × (Nat → Int64) × (Nat → Int32), u141 = F_X3_setInvalid vrn vso vmi vco vex → u9 = (u141.1, u141.2.1, u141.2.2.1, u141.2.2.2.1, u141.2.2.2.2))) else (if z107 = true then (∀ u148 : (Nat → Int32) × (Nat → Bool) × (Nat → Int64) × (Nat → Int32), u148 = F_X0_take vso vmi vco vex 8 i2 → u9 = (vrn, u148.1, u148.2.1, u148.2.2.1, u148.2.2.2)) else (∀ u146 : Int32 × (Nat → Int32) × (Nat → Bool) × (Nat → Int64) × (Nat → Int32), u146 = F_X3_setInvalid vrn vso vmi vco vex → u9 = (u146.1, u146.2.1, u146.2.2.1, u146.2.2.2.1, u146.2.2.2.2))))))))))
theorem rF_X3_setFromInfinity (vrn : Int32) (vso : Nat → Int32) (vmi : Nat → Bool) (vco : Nat → Int64) (vex : Nat → Int32) (p0 : Int32) (i2 : Nat) (i3 : Nat) {u9 : Int32 × (Nat → Int32) × (Nat → Bool) × (Nat → Int64) × (Nat → Int32)} (hu : u9 = F_X3_setFromInfinity vrn vso vmi vco vex p0 i2 i3) : RF_X3_setFromInfinity vrn vso vmi vco vex p0 i2 i3 u9 := by
  unfold RF_X3_setFromInfinity
  intro z103 ez103
  have hu := bnd_n hu ez103
  intro z107 ez107
  have hu := bnd_n hu ez107
  refine ite_P (fun c_109 => ?_) (fun c_109 => ?_)
  · have hu := hu.trans (if_pos c_109)
    intro u114 eu114
    have hu := bnd_n hu eu114
    exact hu
  have hu := hu.trans (if_neg c_109)
  refine ite_P (fun c_110 => ?_) (fun c_110 => ?_)
  · have hu := hu.trans (if_pos c_110)
    intro z118 ez118
    have hu := bnd_n hu ez118
    intro u120 eu120
    have hu := bnd_n hu eu120
    exact hu
  have hu := hu.trans (if_neg c_110)
  refine ite_P (fun c_111 => ?_) (fun c_111 => ?_)
  · have hu := hu.trans (if_pos c_111)
    refine ite_P (fun c_123 => ?_) (fun c_123 => ?_)
    · have hu := hu.trans (if_pos c_123)
      intro u124 eu124
      have hu := bnd_n hu eu124
      exact hu
    · have hu := hu.trans (if_neg c_123)
      refine ite_P (fun c_127 => ?_) (fun c_127 => ?_)
      · have hu := hu.trans (if_pos c_127)
        intro u130 eu130
        have hu := bnd_n hu eu130
        exact hu
      · have hu := hu.trans (if_neg c_127)
        intro u128 eu128
        have hu := bnd_n hu eu128
        exact hu
  have hu := hu.trans (if_neg c_111)
  refine ite_P (fun c_112 => ?_) (fun c_112 => ?_)
  · have hu := hu.trans (if_pos c_112)
    refine ite_P (fun c_132 => ?_) (fun c_132 => ?_)
    · have hu := hu.trans (if_pos c_132)
      intro u138 eu138
      have hu := bnd_n hu eu138
      exact hu
    · have hu := hu.trans (if_neg c_132)
      refine ite_P (fun c_133 => ?_) (fun c_133 => ?_)
      · have hu := hu.trans (if_pos c_133)
        intro u136 eu136
        have hu := bnd_n hu eu136
        exact hu
      · have hu := hu.trans (if_neg c_133)
        intro u134 eu134
        have hu := bnd_n hu eu134
        exact hu
  have hu := hu.trans (if_neg c_112)
  refine ite_P (fun c_113 => ?_) (fun c_113 => ?_)
  · have hu := hu.trans (if_pos c_113)
    refine ite_P (fun c_140 => ?_) (fun c_140 => ?_)
    · have hu := hu.trans (if_pos c_140)
      intro u143 eu143
      have hu := bnd_n hu eu143
      exact hu
    · have hu := hu.trans (if_neg c_140)
      intro u141 eu141
      have hu := bnd_n hu eu141
      exact hu
  have hu := hu.trans (if_neg c_113)
  refine ite_P (fun c_145 => ?_) (fun c_145 => ?_)
  · have hu := hu.trans (if_pos c_145)
    intro u148 eu148
    have hu := bnd_n hu eu148
    exact hu
  · have hu := hu.trans (if_neg c_145)
    intro u146 eu146
    have hu := bnd_n hu eu146
    exact hu
def rm_X3_setFromInfinity : Room := { frames := 3, cells := 0, slots := 0, locals := 64 }
set_option maxHeartbeats 4000000 in
set_option maxRecDepth 100000 in
theorem c_X3_setFromInfinity (l : Launch) (D : va_G) (cR cI cJ cZ : ClassId) (t0 : Nat) (ax ar ao : Nat) (ad : Nat → Nat) (vrd : Int32) (vtr : Int32) (vsd : Int32) (vrn : Int32) (vom : Bool) (voh : Int64) (vol : Int64) (vop : Int32) (voe : Bool) (vow : Int32) (vok : Int64) (vos : Int32) (vso : Nat → Int32) (vmi : Nat → Bool) (vco : Nat → Int64) (vex : Nat → Int32) (p0 : Int32) (i2 : Nat) (i3 : Nat) (u : Int32 × (Nat → Int32) × (Nat → Bool) × (Nat → Int64) × (Nat → Int32)) (hu : u = F_X3_setFromInfinity vrn vso vmi vco vex p0 i2 i3) (hb2 : i2 < 9) (hb3 : i3 < 9) : XM l D (xty cR cI cJ cZ) t0 yX3_setFromInfinity cX3_setFromInfinity 6 none rm_X3_setFromInfinity [.ref ax, .int p0, .ref (ad i2), .ref (ad i3)] none (xw cR ax ar ao ad vrd vtr vsd vrn vom voh vol vop voe vow vok vos vso vmi vco vex) (xw cR ax ar ao ad vrd vtr vsd u.1 vom voh vol vop voe vow vok vos u.2.1 u.2.2.1 u.2.2.2.1 u.2.2.2.2) := by
  refine XM.of (by decide) (Nat.le_of_ble_eq_true rfl) ?_
  intro p e s m args below meth c A Q F hK hP hD hA hSt hS hQ ls hl
  obtain ⟨hx, hb, hr, hts, hown, hlocks, hml⟩ := F
  have hCF : CallFix p m c cX3_setFromInfinity 6 s args gW RX3 := ⟨hx, hb, hml, hown, hts⟩
  have hu := rF_X3_setFromInfinity vrn vso vmi vco vex p0 i2 i3 hu
  unfold RF_X3_setFromInfinity at hu
  obtain ⟨H, eH⟩ : ∃ y9 : Heap, y9 = s.heap := ⟨_, rfl⟩
  obtain ⟨locs, eL⟩ : ∃ y9 : List Loc, y9 = [] := ⟨_, rfl⟩
  rw [← eL] at hS ⊢
  have hP : va_P D vwCl (xw cR ax ar ao ad vrd vtr vsd vrn vom voh vol vop voe vow vok vos vso vmi vco vex) H := by rw [eH]; exact hP
  have hS : va_S A s.heap H locs := by rw [eH]; exact hS
  suffices goal9 : W p l e rm_X3_setFromInfinity s m args below meth c H locs 0 0 Q (F0 m 0 ls []) from by rw [← eH]; exact goal9
  have hl : lv_has ls 6 [(0, .ref ax), (1, .int p0), (2, .ref (ad i2)), (3, .ref (ad i3))] := hl
  have hi0 : ∀ w ∈ wsX00, w ∈ gW := inW_X0
  have hi3 : ∀ w ∈ wsX30, w ∈ gW := inW_X3
  refine lv_aload_n hx hb dX3_setFromInfinity_0 rfl (lv_at hl 2 rfl) ?_
  refine g_mi (i := i2) hx hb hts hi0 hown hK hP hb2 (hts (.fieldLink RX3 77 "DecimalWords$Datum" "minus" "Z") (inW_5 _ (List.mem_of_getElem? (i := 14) rfl))) dX3_setFromInfinity_1 ?_
  refine lv_aload_n hx hb dX3_setFromInfinity_4 rfl (lv_at hl 3 rfl) ?_
  refine g_mi (i := i3) hx hb hts hi0 hown hK hP hb3 (hts (.fieldLink RX3 77 "DecimalWords$Datum" "minus" "Z") (inW_5 _ (List.mem_of_getElem? (i := 14) rfl))) dX3_setFromInfinity_5 ?_
  have J_104 : (∀ z103 : Bool, z103 = Z_X3_setFromInfinity_J_104 vmi i2 i3 → ∀ (H : Heap) (locs : List Loc), va_P D vwCl (xw cR ax ar ao ad vrd vtr vsd vrn vom voh vol vop voe vow vok vos vso vmi vco vex) H → va_D A (xw cR ax ar ao ad vrd vtr vsd vrn vom voh vol vop voe vow vok vos vso vmi vco vex) → va_S A s.heap H locs → ∀ ls : Array Slot, lv_has ls 6 [(0, .ref ax), (1, .int p0), (2, .ref (ad i2)), (3, .ref (ad i3))] → W p l e rm_X3_setFromInfinity s m args below meth c H locs 0 0 Q (F0 m 16 ls [.int (bI z103)])) := by
    intro z103 ez103 H locs hP hD hS ls hl
    have hu := hu _ ez103
    refine lv_istore (lv' := [(4, .int (bI z103)), (0, .ref ax), (1, .int p0), (2, .ref (ad i2)), (3, .ref (ad i3))]) hx hb dX3_setFromInfinity_16 hl (by decide) rfl (fun ls hl => ?_)
    refine lv_aload_n hx hb dX3_setFromInfinity_18 rfl (lv_at hl 3 rfl) ?_
    refine g_so (i := i2) hx hb hts hi0 hown hK hP hb2 (hts (.fieldLink RX3 70 "DecimalWords$Datum" "sort" "I") (inW_5 _ (List.mem_of_getElem? (i := 9) rfl))) dX3_setFromInfinity_19 ?_
    refine lv_aload_n hx hb dX3_setFromInfinity_22 rfl (lv_at hl 4 rfl) ?_
    refine g_so (i := i3) hx hb hts hi0 hown hK hP hb3 (hts (.fieldLink RX3 70 "DecimalWords$Datum" "sort" "I") (inW_5 _ (List.mem_of_getElem? (i := 9) rfl))) dX3_setFromInfinity_23 ?_
    have J_108 : (∀ z107 : Bool, z107 = Z_X3_setFromInfinity_J_108 vso i2 i3 → ∀ (H : Heap) (locs : List Loc), va_P D vwCl (xw cR ax ar ao ad vrd vtr vsd vrn vom voh vol vop voe vow vok vos vso vmi vco vex) H → va_D A (xw cR ax ar ao ad vrd vtr vsd vrn vom voh vol vop voe vow vok vos vso vmi vco vex) → va_S A s.heap H locs → ∀ ls : Array Slot, lv_has ls 6 [(0, .ref ax), (1, .int p0), (2, .ref (ad i2)), (3, .ref (ad i3)), (4, .int (bI z103))] → W p l e rm_X3_setFromInfinity s m args below meth c H locs 0 0 Q (F0 m 34 ls [.int (bI z107)])) := by
      intro z107 ez107 H locs hP hD hS ls hl
      have hu := hu _ ez107
      refine lv_istore (lv' := [(5, .int (bI z107)), (0, .ref ax), (1, .int p0), (2, .ref (ad i2)), (3, .ref (ad i3)), (4, .int (bI z103))]) hx hb dX3_setFromInfinity_34 hl (by decide) rfl (fun ls hl => ?_)
      refine lv_iload_n hx hb dX3_setFromInfinity_36 rfl (lv_at hl 2 rfl) ?_
      by_cases c_109 : p0 = 0
      · rw [if_pos c_109] at hu
        refine lv_tableIn (tgt := 72) hx hb dX3_setFromInfinity_37 (by rw [c_109]; decide) (by rw [c_109]; decide) (by rw [c_109]; rfl) (by decide) ?_
        refine lv_aload_n hx hb dX3_setFromInfinity_72 rfl (lv_at hl 1 rfl) ?_
        refine lv_aload_n hx hb dX3_setFromInfinity_73 rfl (lv_at hl 3 rfl) ?_
        refine lv_aload_n hx hb dX3_setFromInfinity_74 rfl (lv_at hl 4 rfl) ?_
        refine lv_aload_n hx hb dX3_setFromInfinity_75 rfl (lv_at hl 4 rfl) ?_
        refine g_mi (i := i3) hx hb hts hi0 hown hK hP hb3 (hts (.fieldLink RX3 77 "DecimalWords$Datum" "minus" "Z") (inW_5 _ (List.mem_of_getElem? (i := 14) rfl))) dX3_setFromInfinity_76 ?_
        obtain ⟨u114, eu114⟩ : ∃ y9 : Int32 × (Nat → Int32) × (Nat → Bool) × (Nat → Int64) × (Nat → Int32), y9 = F_X3_addInfinity vrn vso vmi vco vex i2 i3 (vmi i3) := ⟨_, rfl⟩
        have hu := hu _ eu114
        refine x_V (As := [.ref (ad i2), .ref (ad i3), .int (bI (vmi i3))]) (rest := []) hCF (c_X3_addInfinity l D cR cI cJ cZ t0 ax ar ao ad vrd vtr vsd vrn vom voh vol vop voe vow vok vos vso vmi vco vex i2 i3 (vmi i3) u114 eu114 hb2 hb3) (x_cwV 3 hts (inW_6 _ (List.mem_of_getElem? (i := 12) rfl)) (inW_6 _ (List.mem_of_getElem? (i := 13) rfl)) (inW_6 _ (List.mem_of_getElem? (i := 14) rfl)) (inW_1 _ (List.mem_of_getElem? (i := 25) rfl)) (inW_6 _ (List.mem_of_getElem? (i := 15) rfl)) rfl rfl (by decide +kernel) ⟨Nat.le_of_ble_eq_true rfl, Nat.le_of_ble_eq_true rfl⟩) hK hP hD hS hA hSt 0 rfl rfl rfl hl.1 rfl (Nat.le_of_ble_eq_true rfl) dX3_setFromInfinity_79 ⟨Nat.le_of_ble_eq_true rfl, Nat.le_of_ble_eq_true rfl⟩ (fun H locs hP hD hS => ?_)
        show W p l e _ s m args below meth c H locs 0 0 Q (F0 m 82 ls [])
        refine lv_goto (tgt := 207) hx hb dX3_setFromInfinity_82 (by decide) ?_
        have e9 := Eq.symm hu; subst e9
        exact x_vret hx hb hr hlocks hQ hK hP hD hS rfl dX3_setFromInfinity_207
      rw [if_neg c_109] at hu
      by_cases c_110 : p0 = 1
      · rw [if_pos c_110] at hu
        refine lv_tableIn (tgt := 85) hx hb dX3_setFromInfinity_37 (by rw [c_110]; decide) (by rw [c_110]; decide) (by rw [c_110]; rfl) (by decide) ?_
        refine lv_aload_n hx hb dX3_setFromInfinity_85 rfl (lv_at hl 1 rfl) ?_
        refine lv_aload_n hx hb dX3_setFromInfinity_86 rfl (lv_at hl 3 rfl) ?_
        refine lv_aload_n hx hb dX3_setFromInfinity_87 rfl (lv_at hl 4 rfl) ?_
        refine lv_aload_n hx hb dX3_setFromInfinity_88 rfl (lv_at hl 4 rfl) ?_
        refine g_mi (i := i3) hx hb hts hi0 hown hK hP hb3 (hts (.fieldLink RX3 77 "DecimalWords$Datum" "minus" "Z") (inW_5 _ (List.mem_of_getElem? (i := 14) rfl))) dX3_setFromInfinity_89 ?_
        have J_119 : (∀ z118 : Bool, z118 = Z_X3_setFromInfinity_J_119 vmi i3 → ∀ (H : Heap) (locs : List Loc), va_P D vwCl (xw cR ax ar ao ad vrd vtr vsd vrn vom voh vol vop voe vow vok vos vso vmi vco vex) H → va_D A (xw cR ax ar ao ad vrd vtr vsd vrn vom voh vol vop voe vow vok vos vso vmi vco vex) → va_S A s.heap H locs → ∀ ls : Array Slot, lv_has ls 6 [] → W p l e rm_X3_setFromInfinity s m args below meth c H locs 0 0 Q (F0 m 100 ls [.int (bI z118), .ref (ad i3), .ref (ad i2), .ref ax])) := by
          intro z118 ez118 H locs hP hD hS ls hl
          have hu := hu _ ez118
          obtain ⟨u120, eu120⟩ : ∃ y9 : Int32 × (Nat → Int32) × (Nat → Bool) × (Nat → Int64) × (Nat → Int32), y9 = F_X3_addInfinity vrn vso vmi vco vex i2 i3 z118 := ⟨_, rfl⟩
          have hu := hu _ eu120
          refine x_V (As := [.ref (ad i2), .ref (ad i3), .int (bI z118)]) (rest := []) hCF (c_X3_addInfinity l D cR cI cJ cZ t0 ax ar ao ad vrd vtr vsd vrn vom voh vol vop voe vow vok vos vso vmi vco vex i2 i3 z118 u120 eu120 hb2 hb3) (x_cwV 3 hts (inW_6 _ (List.mem_of_getElem? (i := 12) rfl)) (inW_6 _ (List.mem_of_getElem? (i := 13) rfl)) (inW_6 _ (List.mem_of_getElem? (i := 14) rfl)) (inW_1 _ (List.mem_of_getElem? (i := 25) rfl)) (inW_6 _ (List.mem_of_getElem? (i := 15) rfl)) rfl rfl (by decide +kernel) ⟨Nat.le_of_ble_eq_true rfl, Nat.le_of_ble_eq_true rfl⟩) hK hP hD hS hA hSt 0 rfl rfl rfl hl.1 rfl (Nat.le_of_ble_eq_true rfl) dX3_setFromInfinity_100 ⟨Nat.le_of_ble_eq_true rfl, Nat.le_of_ble_eq_true rfl⟩ (fun H locs hP hD hS => ?_)
          show W p l e _ s m args below meth c H locs 0 0 Q (F0 m 103 ls [])
          refine lv_goto (tgt := 207) hx hb dX3_setFromInfinity_103 (by decide) ?_
          have e9 := Eq.symm hu; subst e9
          exact x_vret hx hb hr hlocks hQ hK hP hD hS rfl dX3_setFromInfinity_207
        obtain ⟨z9, ez9⟩ : ∃ y9 : Bool, y9 = Z_X3_setFromInfinity_J_119 vmi i3 := ⟨_, rfl⟩
        have hz := rZ_X3_setFromInfinity_J_119 vmi i3 ez9
        unfold RZ_X3_setFromInfinity_J_119 at hz
        refine xb_ne (tgt := 99) hx hb dX3_setFromInfinity_92 (by decide) (fun c_116 => ?_) (fun c_116 => ?_)
        · rw [if_pos c_116] at hz
          refine lv_iconst (v := 0) hx hb dX3_setFromInfinity_99 (by decide) ?_
          have e9 := Eq.symm hz; subst e9
          exact J_119 _ ez9 H locs hP hD hS ls (lv_sub hl [] rfl)
        · rw [if_neg c_116] at hz
          refine lv_iconst (v := 1) hx hb dX3_setFromInfinity_95 (by decide) ?_
          refine lv_goto (tgt := 100) hx hb dX3_setFromInfinity_96 (by decide) ?_
          have e9 := Eq.symm hz; subst e9
          exact J_119 _ ez9 H locs hP hD hS ls (lv_sub hl [] rfl)
      rw [if_neg c_110] at hu
      by_cases c_111 : p0 = 2
      · rw [if_pos c_111] at hu
        refine lv_tableIn (tgt := 106) hx hb dX3_setFromInfinity_37 (by rw [c_111]; decide) (by rw [c_111]; decide) (by rw [c_111]; rfl) (by decide) ?_
        refine lv_aload_n hx hb dX3_setFromInfinity_106 rfl (lv_at hl 3 rfl) ?_
        refine x_V (As := []) (rest := []) hCF (c_X0_isZero l D cR cI cJ cZ t0 ax ar ao ad vrd vtr vsd vrn vom voh vol vop voe vow vok vos vso vmi vco vex i2 _ rfl hb2) (x_cwV 0 hts (inW_5 _ (List.mem_of_getElem? (i := 22) rfl)) (inW_1 _ (List.mem_of_getElem? (i := 14) rfl)) (inW_1 _ (List.mem_of_getElem? (i := 15) rfl)) (inW_1 _ (List.mem_of_getElem? (i := 16) rfl)) (inW_1 _ (List.mem_of_getElem? (i := 11) rfl)) rfl rfl (by decide +kernel) ⟨Nat.le_of_ble_eq_true rfl, Nat.le_of_ble_eq_true rfl⟩) hK hP hD hS hA hSt (3 + i2) (xw_dat hb2) rfl rfl hl.1 rfl (Nat.le_of_ble_eq_true rfl) dX3_setFromInfinity_107 ⟨Nat.le_of_ble_eq_true rfl, Nat.le_of_ble_eq_true rfl⟩ (fun H locs hP hD hS => ?_)
        show W p l e _ s m args below meth c H locs 0 0 Q (F0 m 110 ls (.int (bI (F_X0_isZero vso vco i2)) :: []))
        refine xb_ne (tgt := 120) hx hb dX3_setFromInfinity_110 (by decide) (fun c_123 => ?_) (fun c_123 => ?_)
        · rw [if_pos c_123] at hu
          refine lv_aload_n hx hb dX3_setFromInfinity_120 rfl (lv_at hl 1 rfl) ?_
          obtain ⟨u124, eu124⟩ : ∃ y9 : Int32 × (Nat → Int32) × (Nat → Bool) × (Nat → Int64) × (Nat → Int32), y9 = F_X3_setInvalid vrn vso vmi vco vex := ⟨_, rfl⟩
          have hu := hu _ eu124
          refine x_V (As := []) (rest := []) hCF (c_X3_setInvalid l D cR cI cJ cZ t0 ax ar ao ad vrd vtr vsd vrn vom voh vol vop voe vow vok vos vso vmi vco vex u124 eu124) (x_cwV 0 hts (inW_6 _ (List.mem_of_getElem? (i := 16) rfl)) (inW_6 _ (List.mem_of_getElem? (i := 17) rfl)) (inW_6 _ (List.mem_of_getElem? (i := 18) rfl)) (inW_1 _ (List.mem_of_getElem? (i := 25) rfl)) (inW_6 _ (List.mem_of_getElem? (i := 19) rfl)) rfl rfl (by decide +kernel) ⟨Nat.le_of_ble_eq_true rfl, Nat.le_of_ble_eq_true rfl⟩) hK hP hD hS hA hSt 0 rfl rfl rfl hl.1 rfl (Nat.le_of_ble_eq_true rfl) dX3_setFromInfinity_121 ⟨Nat.le_of_ble_eq_true rfl, Nat.le_of_ble_eq_true rfl⟩ (fun H locs hP hD hS => ?_)
          show W p l e _ s m args below meth c H locs 0 0 Q (F0 m 124 ls [])
          refine lv_goto (tgt := 207) hx hb dX3_setFromInfinity_124 (by decide) ?_
          have e9 := Eq.symm hu; subst e9
          exact x_vret hx hb hr hlocks hQ hK hP hD hS rfl dX3_setFromInfinity_207
        · rw [if_neg c_123] at hu
          refine lv_aload_n hx hb dX3_setFromInfinity_113 rfl (lv_at hl 4 rfl) ?_
          refine x_V (As := []) (rest := []) hCF (c_X0_isZero l D cR cI cJ cZ t0 ax ar ao ad vrd vtr vsd vrn vom voh vol vop voe vow vok vos vso vmi vco vex i3 _ rfl hb3) (x_cwV 0 hts (inW_5 _ (List.mem_of_getElem? (i := 22) rfl)) (inW_1 _ (List.mem_of_getElem? (i := 14) rfl)) (inW_1 _ (List.mem_of_getElem? (i := 15) rfl)) (inW_1 _ (List.mem_of_getElem? (i := 16) rfl)) (inW_1 _ (List.mem_of_getElem? (i := 11) rfl)) rfl rfl (by decide +kernel) ⟨Nat.le_of_ble_eq_true rfl, Nat.le_of_ble_eq_true rfl⟩) hK hP hD hS hA hSt (3 + i3) (xw_dat hb3) rfl rfl hl.1 rfl (Nat.le_of_ble_eq_true rfl) dX3_setFromInfinity_114 ⟨Nat.le_of_ble_eq_true rfl, Nat.le_of_ble_eq_true rfl⟩ (fun H locs hP hD hS => ?_)
          show W p l e _ s m args below meth c H locs 0 0 Q (F0 m 117 ls (.int (bI (F_X0_isZero vso vco i3)) :: []))
          refine xb_eq (tgt := 127) hx hb dX3_setFromInfinity_117 (by decide) (fun c_127 => ?_) (fun c_127 => ?_)
          · rw [if_neg c_127] at hu
            refine lv_aload_n hx hb dX3_setFromInfinity_127 rfl (lv_at hl 1 rfl) ?_
            refine va_get (D := D) (ci := 4) (v := .ref (ad 8)) (C := RX3) (T := TX3) (N := 7) hx hb hts hi3 hown hK hP 0 rfl rfl 1 (by decide) (hts (.fieldLink RX3 16 "DecimalWords" "result" "LDecimalWords$Datum;") (inW_4 _ (List.mem_of_getElem? (i := 18) rfl))) (fun _ h9 => h9) rfl dX3_setFromInfinity_128 ?_
            refine lv_iload hx hb dX3_setFromInfinity_131 (lv_at hl 5 rfl) ?_
            obtain ⟨u128, eu128⟩ : ∃ y9 : (Nat → Int32) × (Nat → Bool) × (Nat → Int64) × (Nat → Int32), y9 = F_X0_setInfinity vso vmi vco vex 8 z103 := ⟨_, rfl⟩
            have hu := hu _ eu128
            refine x_V (As := [.int (bI z103)]) (rest := []) hCF (c_X0_setInfinity l D cR cI cJ cZ t0 ax ar ao ad vrd vtr vsd vrn vom voh vol vop voe vow vok vos vso vmi vco vex 8 z103 u128 eu128 (by decide)) (x_cwV 1 hts (inW_5 _ (List.mem_of_getElem? (i := 34) rfl)) (inW_3 _ (List.mem_of_getElem? (i := 24) rfl)) (inW_3 _ (List.mem_of_getElem? (i := 25) rfl)) (inW_1 _ (List.mem_of_getElem? (i := 16) rfl)) (inW_1 _ (List.mem_of_getElem? (i := 8) rfl)) rfl rfl (by decide +kernel) ⟨Nat.le_of_ble_eq_true rfl, Nat.le_of_ble_eq_true rfl⟩) hK hP hD hS hA hSt (3 + 8) (xw_dat (by decide)) rfl rfl hl.1 rfl (Nat.le_of_ble_eq_true rfl) dX3_setFromInfinity_133 ⟨Nat.le_of_ble_eq_true rfl, Nat.le_of_ble_eq_true rfl⟩ (fun H locs hP hD hS => ?_)
            show W p l e _ s m args below meth c H locs 0 0 Q (F0 m 136 ls [])
            refine lv_goto (tgt := 207) hx hb dX3_setFromInfinity_136 (by decide) ?_
            have e9 := Eq.symm hu; subst e9
            exact x_vret hx hb hr hlocks hQ hK hP hD hS rfl dX3_setFromInfinity_207
          · rw [if_pos c_127] at hu
            refine lv_aload_n hx hb dX3_setFromInfinity_120 rfl (lv_at hl 1 rfl) ?_
            obtain ⟨u130, eu130⟩ : ∃ y9 : Int32 × (Nat → Int32) × (Nat → Bool) × (Nat → Int64) × (Nat → Int32), y9 = F_X3_setInvalid vrn vso vmi vco vex := ⟨_, rfl⟩
            have hu := hu _ eu130
            refine x_V (As := []) (rest := []) hCF (c_X3_setInvalid l D cR cI cJ cZ t0 ax ar ao ad vrd vtr vsd vrn vom voh vol vop voe vow vok vos vso vmi vco vex u130 eu130) (x_cwV 0 hts (inW_6 _ (List.mem_of_getElem? (i := 16) rfl)) (inW_6 _ (List.mem_of_getElem? (i := 17) rfl)) (inW_6 _ (List.mem_of_getElem? (i := 18) rfl)) (inW_1 _ (List.mem_of_getElem? (i := 25) rfl)) (inW_6 _ (List.mem_of_getElem? (i := 19) rfl)) rfl rfl (by decide +kernel) ⟨Nat.le_of_ble_eq_true rfl, Nat.le_of_ble_eq_true rfl⟩) hK hP hD hS hA hSt 0 rfl rfl rfl hl.1 rfl (Nat.le_of_ble_eq_true rfl) dX3_setFromInfinity_121 ⟨Nat.le_of_ble_eq_true rfl, Nat.le_of_ble_eq_true rfl⟩ (fun H locs hP hD hS => ?_)
            show W p l e _ s m args below meth c H locs 0 0 Q (F0 m 124 ls [])
            refine lv_goto (tgt := 207) hx hb dX3_setFromInfinity_124 (by decide) ?_
            have e9 := Eq.symm hu; subst e9
            exact x_vret hx hb hr hlocks hQ hK hP hD hS rfl dX3_setFromInfinity_207
      rw [if_neg c_111] at hu
      by_cases c_112 : p0 = 3
      · rw [if_pos c_112] at hu
        refine lv_tableIn (tgt := 139) hx hb dX3_setFromInfinity_37 (by rw [c_112]; decide) (by rw [c_112]; decide) (by rw [c_112]; rfl) (by decide) ?_
        refine lv_iload hx hb dX3_setFromInfinity_139 (lv_at hl 0 rfl) ?_
        refine xb_eq (tgt := 151) hx hb dX3_setFromInfinity_141 (by decide) (fun c_132 => ?_) (fun c_132 => ?_)
        · rw [if_neg c_132] at hu
          refine lv_aload_n hx hb dX3_setFromInfinity_151 rfl (lv_at hl 3 rfl) ?_
          refine g_so (i := i2) hx hb hts hi0 hown hK hP hb2 (hts (.fieldLink RX3 70 "DecimalWords$Datum" "sort" "I") (inW_5 _ (List.mem_of_getElem? (i := 9) rfl))) dX3_setFromInfinity_152 ?_
          refine lv_iconst (v := 1) hx hb dX3_setFromInfinity_155 (by decide) ?_
          refine lv_icmp_ne (tgt := 171) hx hb dX3_setFromInfinity_156 (by decide) (fun c_133 => ?_) (fun c_133 => ?_)
          · rw [if_neg c_133] at hu
            refine lv_aload_n hx hb dX3_setFromInfinity_171 rfl (lv_at hl 1 rfl) ?_
            refine va_get (D := D) (ci := 4) (v := .ref (ad 8)) (C := RX3) (T := TX3) (N := 7) hx hb hts hi3 hown hK hP 0 rfl rfl 1 (by decide) (hts (.fieldLink RX3 16 "DecimalWords" "result" "LDecimalWords$Datum;") (inW_4 _ (List.mem_of_getElem? (i := 18) rfl))) (fun _ h9 => h9) rfl dX3_setFromInfinity_172 ?_
            refine lv_iload hx hb dX3_setFromInfinity_175 (lv_at hl 5 rfl) ?_
            refine lv_lconst (v := 0) hx hb dX3_setFromInfinity_177 (by decide) ?_
            refine lv_sipush (v := (-398)) hx hb dX3_setFromInfinity_178 (by decide) ?_
            obtain ⟨u134, eu134⟩ : ∃ y9 : (Nat → Int32) × (Nat → Bool) × (Nat → Int64) × (Nat → Int32), y9 = F_X0_setFinite vso vmi vco vex 8 z103 (0 : Int64) (-398 : Int32) := ⟨_, rfl⟩
            have hu := hu _ eu134
            refine x_V (As := [.int (bI z103), .long 0, .int (-398)]) (rest := []) hCF (c_X0_setFinite l D cR cI cJ cZ t0 ax ar ao ad vrd vtr vsd vrn vom voh vol vop voe vow vok vos vso vmi vco vex 8 z103 (0 : Int64) (-398 : Int32) u134 eu134 (by decide)) (x_cwV 3 hts (inW_4 _ (List.mem_of_getElem? (i := 37) rfl)) (inW_4 _ (List.mem_of_getElem? (i := 5) rfl)) (inW_4 _ (List.mem_of_getElem? (i := 6) rfl)) (inW_1 _ (List.mem_of_getElem? (i := 16) rfl)) (inW_1 _ (List.mem_of_getElem? (i := 3) rfl)) rfl rfl (by decide +kernel) ⟨Nat.le_of_ble_eq_true rfl, Nat.le_of_ble_eq_true rfl⟩) hK hP hD hS hA hSt (3 + 8) (xw_dat (by decide)) rfl rfl hl.1 rfl (Nat.le_of_ble_eq_true rfl) dX3_setFromInfinity_181 ⟨Nat.le_of_ble_eq_true rfl, Nat.le_of_ble_eq_true rfl⟩ (fun H locs hP hD hS => ?_)
            show W p l e _ s m args below meth c H locs 0 0 Q (F0 m 184 ls [])
            refine lv_goto (tgt := 207) hx hb dX3_setFromInfinity_184 (by decide) ?_
            have e9 := Eq.symm hu; subst e9
            exact x_vret hx hb hr hlocks hQ hK hP hD hS rfl dX3_setFromInfinity_207
          · rw [if_pos c_133] at hu
            refine lv_aload_n hx hb dX3_setFromInfinity_159 rfl (lv_at hl 1 rfl) ?_
            refine va_get (D := D) (ci := 4) (v := .ref (ad 8)) (C := RX3) (T := TX3) (N := 7) hx hb hts hi3 hown hK hP 0 rfl rfl 1 (by decide) (hts (.fieldLink RX3 16 "DecimalWords" "result" "LDecimalWords$Datum;") (inW_4 _ (List.mem_of_getElem? (i := 18) rfl))) (fun _ h9 => h9) rfl dX3_setFromInfinity_160 ?_
            refine lv_iload hx hb dX3_setFromInfinity_163 (lv_at hl 5 rfl) ?_
            obtain ⟨u136, eu136⟩ : ∃ y9 : (Nat → Int32) × (Nat → Bool) × (Nat → Int64) × (Nat → Int32), y9 = F_X0_setInfinity vso vmi vco vex 8 z103 := ⟨_, rfl⟩
            have hu := hu _ eu136
            refine x_V (As := [.int (bI z103)]) (rest := []) hCF (c_X0_setInfinity l D cR cI cJ cZ t0 ax ar ao ad vrd vtr vsd vrn vom voh vol vop voe vow vok vos vso vmi vco vex 8 z103 u136 eu136 (by decide)) (x_cwV 1 hts (inW_5 _ (List.mem_of_getElem? (i := 34) rfl)) (inW_3 _ (List.mem_of_getElem? (i := 24) rfl)) (inW_3 _ (List.mem_of_getElem? (i := 25) rfl)) (inW_1 _ (List.mem_of_getElem? (i := 16) rfl)) (inW_1 _ (List.mem_of_getElem? (i := 8) rfl)) rfl rfl (by decide +kernel) ⟨Nat.le_of_ble_eq_true rfl, Nat.le_of_ble_eq_true rfl⟩) hK hP hD hS hA hSt (3 + 8) (xw_dat (by decide)) rfl rfl hl.1 rfl (Nat.le_of_ble_eq_true rfl) dX3_setFromInfinity_165 ⟨Nat.le_of_ble_eq_true rfl, Nat.le_of_ble_eq_true rfl⟩ (fun H locs hP hD hS => ?_)
            show W p l e _ s m args below meth c H locs 0 0 Q (F0 m 168 ls [])
            refine lv_goto (tgt := 207) hx hb dX3_setFromInfinity_168 (by decide) ?_
            have e9 := Eq.symm hu; subst e9
            exact x_vret hx hb hr hlocks hQ hK hP hD hS rfl dX3_setFromInfinity_207
        · rw [if_pos c_132] at hu
          refine lv_aload_n hx hb dX3_setFromInfinity_144 rfl (lv_at hl 1 rfl) ?_
          obtain ⟨u138, eu138⟩ : ∃ y9 : Int32 × (Nat → Int32) × (Nat → Bool) × (Nat → Int64) × (Nat → Int32), y9 = F_X3_setInvalid vrn vso vmi vco vex := ⟨_, rfl⟩
          have hu := hu _ eu138
          refine x_V (As := []) (rest := []) hCF (c_X3_setInvalid l D cR cI cJ cZ t0 ax ar ao ad vrd vtr vsd vrn vom voh vol vop voe vow vok vos vso vmi vco vex u138 eu138) (x_cwV 0 hts (inW_6 _ (List.mem_of_getElem? (i := 16) rfl)) (inW_6 _ (List.mem_of_getElem? (i := 17) rfl)) (inW_6 _ (List.mem_of_getElem? (i := 18) rfl)) (inW_1 _ (List.mem_of_getElem? (i := 25) rfl)) (inW_6 _ (List.mem_of_getElem? (i := 19) rfl)) rfl rfl (by decide +kernel) ⟨Nat.le_of_ble_eq_true rfl, Nat.le_of_ble_eq_true rfl⟩) hK hP hD hS hA hSt 0 rfl rfl rfl hl.1 rfl (Nat.le_of_ble_eq_true rfl) dX3_setFromInfinity_145 ⟨Nat.le_of_ble_eq_true rfl, Nat.le_of_ble_eq_true rfl⟩ (fun H locs hP hD hS => ?_)
          show W p l e _ s m args below meth c H locs 0 0 Q (F0 m 148 ls [])
          refine lv_goto (tgt := 207) hx hb dX3_setFromInfinity_148 (by decide) ?_
          have e9 := Eq.symm hu; subst e9
          exact x_vret hx hb hr hlocks hQ hK hP hD hS rfl dX3_setFromInfinity_207
      rw [if_neg c_112] at hu
      by_cases c_113 : p0 = 4
      · rw [if_pos c_113] at hu
        refine lv_tableIn (tgt := 187) hx hb dX3_setFromInfinity_37 (by rw [c_113]; decide) (by rw [c_113]; decide) (by rw [c_113]; rfl) (by decide) ?_
        refine lv_iload hx hb dX3_setFromInfinity_187 (lv_at hl 0 rfl) ?_
        refine xb_eq (tgt := 203) hx hb dX3_setFromInfinity_189 (by decide) (fun c_140 => ?_) (fun c_140 => ?_)
        · rw [if_neg c_140] at hu
          refine lv_aload_n hx hb dX3_setFromInfinity_203 rfl (lv_at hl 1 rfl) ?_
          obtain ⟨u141, eu141⟩ : ∃ y9 : Int32 × (Nat → Int32) × (Nat → Bool) × (Nat → Int64) × (Nat → Int32), y9 = F_X3_setInvalid vrn vso vmi vco vex := ⟨_, rfl⟩
          have hu := hu _ eu141
          refine x_V (As := []) (rest := []) hCF (c_X3_setInvalid l D cR cI cJ cZ t0 ax ar ao ad vrd vtr vsd vrn vom voh vol vop voe vow vok vos vso vmi vco vex u141 eu141) (x_cwV 0 hts (inW_6 _ (List.mem_of_getElem? (i := 16) rfl)) (inW_6 _ (List.mem_of_getElem? (i := 17) rfl)) (inW_6 _ (List.mem_of_getElem? (i := 18) rfl)) (inW_1 _ (List.mem_of_getElem? (i := 25) rfl)) (inW_6 _ (List.mem_of_getElem? (i := 19) rfl)) rfl rfl (by decide +kernel) ⟨Nat.le_of_ble_eq_true rfl, Nat.le_of_ble_eq_true rfl⟩) hK hP hD hS hA hSt 0 rfl rfl rfl hl.1 rfl (Nat.le_of_ble_eq_true rfl) dX3_setFromInfinity_204 ⟨Nat.le_of_ble_eq_true rfl, Nat.le_of_ble_eq_true rfl⟩ (fun H locs hP hD hS => ?_)
          show W p l e _ s m args below meth c H locs 0 0 Q (F0 m 207 ls [])
          have e9 := Eq.symm hu; subst e9
          exact x_vret hx hb hr hlocks hQ hK hP hD hS rfl dX3_setFromInfinity_207
        · rw [if_pos c_140] at hu
          refine lv_aload_n hx hb dX3_setFromInfinity_192 rfl (lv_at hl 1 rfl) ?_
          refine va_get (D := D) (ci := 4) (v := .ref (ad 8)) (C := RX3) (T := TX3) (N := 7) hx hb hts hi3 hown hK hP 0 rfl rfl 1 (by decide) (hts (.fieldLink RX3 16 "DecimalWords" "result" "LDecimalWords$Datum;") (inW_4 _ (List.mem_of_getElem? (i := 18) rfl))) (fun _ h9 => h9) rfl dX3_setFromInfinity_193 ?_
          refine lv_aload_n hx hb dX3_setFromInfinity_196 rfl (lv_at hl 3 rfl) ?_
          obtain ⟨u143, eu143⟩ : ∃ y9 : (Nat → Int32) × (Nat → Bool) × (Nat → Int64) × (Nat → Int32), y9 = F_X0_take vso vmi vco vex 8 i2 := ⟨_, rfl⟩
          have hu := hu _ eu143
          refine x_V (As := [.ref (ad i2)]) (rest := []) hCF (c_X0_take l D cR cI cJ cZ t0 ax ar ao ad vrd vtr vsd vrn vom voh vol vop voe vow vok vos vso vmi vco vex 8 i2 u143 eu143 (by decide) hb2) (x_cwV 1 hts (inW_5 _ (List.mem_of_getElem? (i := 19) rfl)) (inW_5 _ (List.mem_of_getElem? (i := 20) rfl)) (inW_5 _ (List.mem_of_getElem? (i := 21) rfl)) (inW_1 _ (List.mem_of_getElem? (i := 16) rfl)) (inW_1 _ (List.mem_of_getElem? (i := 10) rfl)) rfl rfl (by decide +kernel) ⟨Nat.le_of_ble_eq_true rfl, Nat.le_of_ble_eq_true rfl⟩) hK hP hD hS hA hSt (3 + 8) (xw_dat (by decide)) rfl rfl hl.1 rfl (Nat.le_of_ble_eq_true rfl) dX3_setFromInfinity_197 ⟨Nat.le_of_ble_eq_true rfl, Nat.le_of_ble_eq_true rfl⟩ (fun H locs hP hD hS => ?_)
          show W p l e _ s m args below meth c H locs 0 0 Q (F0 m 200 ls [])
          refine lv_goto (tgt := 207) hx hb dX3_setFromInfinity_200 (by decide) ?_
          have e9 := Eq.symm hu; subst e9
          exact x_vret hx hb hr hlocks hQ hK hP hD hS rfl dX3_setFromInfinity_207
      rw [if_neg c_113] at hu
      refine lv_tableOut (tgt := 187) hx hb dX3_setFromInfinity_37 (by have kc_109 := lv_neT c_109 (a := 0) (by decide); have kc_110 := lv_neT c_110 (a := 1) (by decide); have kc_111 := lv_neT c_111 (a := 2) (by decide); have kc_112 := lv_neT c_112 (a := 3) (by decide); have kc_113 := lv_neT c_113 (a := 4) (by decide); omega) (by decide) ?_
      refine lv_iload hx hb dX3_setFromInfinity_187 (lv_at hl 0 rfl) ?_
      refine xb_eq (tgt := 203) hx hb dX3_setFromInfinity_189 (by decide) (fun c_145 => ?_) (fun c_145 => ?_)
      · rw [if_neg c_145] at hu
        refine lv_aload_n hx hb dX3_setFromInfinity_203 rfl (lv_at hl 1 rfl) ?_
        obtain ⟨u146, eu146⟩ : ∃ y9 : Int32 × (Nat → Int32) × (Nat → Bool) × (Nat → Int64) × (Nat → Int32), y9 = F_X3_setInvalid vrn vso vmi vco vex := ⟨_, rfl⟩
        have hu := hu _ eu146
        refine x_V (As := []) (rest := []) hCF (c_X3_setInvalid l D cR cI cJ cZ t0 ax ar ao ad vrd vtr vsd vrn vom voh vol vop voe vow vok vos vso vmi vco vex u146 eu146) (x_cwV 0 hts (inW_6 _ (List.mem_of_getElem? (i := 16) rfl)) (inW_6 _ (List.mem_of_getElem? (i := 17) rfl)) (inW_6 _ (List.mem_of_getElem? (i := 18) rfl)) (inW_1 _ (List.mem_of_getElem? (i := 25) rfl)) (inW_6 _ (List.mem_of_getElem? (i := 19) rfl)) rfl rfl (by decide +kernel) ⟨Nat.le_of_ble_eq_true rfl, Nat.le_of_ble_eq_true rfl⟩) hK hP hD hS hA hSt 0 rfl rfl rfl hl.1 rfl (Nat.le_of_ble_eq_true rfl) dX3_setFromInfinity_204 ⟨Nat.le_of_ble_eq_true rfl, Nat.le_of_ble_eq_true rfl⟩ (fun H locs hP hD hS => ?_)
        show W p l e _ s m args below meth c H locs 0 0 Q (F0 m 207 ls [])
        have e9 := Eq.symm hu; subst e9
        exact x_vret hx hb hr hlocks hQ hK hP hD hS rfl dX3_setFromInfinity_207
      · rw [if_pos c_145] at hu
        refine lv_aload_n hx hb dX3_setFromInfinity_192 rfl (lv_at hl 1 rfl) ?_
        refine va_get (D := D) (ci := 4) (v := .ref (ad 8)) (C := RX3) (T := TX3) (N := 7) hx hb hts hi3 hown hK hP 0 rfl rfl 1 (by decide) (hts (.fieldLink RX3 16 "DecimalWords" "result" "LDecimalWords$Datum;") (inW_4 _ (List.mem_of_getElem? (i := 18) rfl))) (fun _ h9 => h9) rfl dX3_setFromInfinity_193 ?_
        refine lv_aload_n hx hb dX3_setFromInfinity_196 rfl (lv_at hl 3 rfl) ?_
        obtain ⟨u148, eu148⟩ : ∃ y9 : (Nat → Int32) × (Nat → Bool) × (Nat → Int64) × (Nat → Int32), y9 = F_X0_take vso vmi vco vex 8 i2 := ⟨_, rfl⟩
        have hu := hu _ eu148
        refine x_V (As := [.ref (ad i2)]) (rest := []) hCF (c_X0_take l D cR cI cJ cZ t0 ax ar ao ad vrd vtr vsd vrn vom voh vol vop voe vow vok vos vso vmi vco vex 8 i2 u148 eu148 (by decide) hb2) (x_cwV 1 hts (inW_5 _ (List.mem_of_getElem? (i := 19) rfl)) (inW_5 _ (List.mem_of_getElem? (i := 20) rfl)) (inW_5 _ (List.mem_of_getElem? (i := 21) rfl)) (inW_1 _ (List.mem_of_getElem? (i := 16) rfl)) (inW_1 _ (List.mem_of_getElem? (i := 10) rfl)) rfl rfl (by decide +kernel) ⟨Nat.le_of_ble_eq_true rfl, Nat.le_of_ble_eq_true rfl⟩) hK hP hD hS hA hSt (3 + 8) (xw_dat (by decide)) rfl rfl hl.1 rfl (Nat.le_of_ble_eq_true rfl) dX3_setFromInfinity_197 ⟨Nat.le_of_ble_eq_true rfl, Nat.le_of_ble_eq_true rfl⟩ (fun H locs hP hD hS => ?_)
        show W p l e _ s m args below meth c H locs 0 0 Q (F0 m 200 ls [])
        refine lv_goto (tgt := 207) hx hb dX3_setFromInfinity_200 (by decide) ?_
        have e9 := Eq.symm hu; subst e9
        exact x_vret hx hb hr hlocks hQ hK hP hD hS rfl dX3_setFromInfinity_207
    obtain ⟨z9, ez9⟩ : ∃ y9 : Bool, y9 = Z_X3_setFromInfinity_J_108 vso i2 i3 := ⟨_, rfl⟩
    have hz := rZ_X3_setFromInfinity_J_108 vso i2 i3 ez9
    unfold RZ_X3_setFromInfinity_J_108 at hz
    refine lv_icmp_ne (tgt := 33) hx hb dX3_setFromInfinity_26 (by decide) (fun c_105 => ?_) (fun c_105 => ?_)
    · rw [if_neg c_105] at hz
      refine lv_iconst (v := 0) hx hb dX3_setFromInfinity_33 (by decide) ?_
      have e9 := Eq.symm hz; subst e9
      exact J_108 _ ez9 H locs hP hD hS ls (lv_sub hl [1, 2, 3, 4, 0] rfl)
    · rw [if_pos c_105] at hz
      refine lv_iconst (v := 1) hx hb dX3_setFromInfinity_29 (by decide) ?_
      refine lv_goto (tgt := 34) hx hb dX3_setFromInfinity_30 (by decide) ?_
      have e9 := Eq.symm hz; subst e9
      exact J_108 _ ez9 H locs hP hD hS ls (lv_sub hl [1, 2, 3, 4, 0] rfl)
  obtain ⟨z9, ez9⟩ : ∃ y9 : Bool, y9 = Z_X3_setFromInfinity_J_104 vmi i2 i3 := ⟨_, rfl⟩
  have hz := rZ_X3_setFromInfinity_J_104 vmi i2 i3 ez9
  unfold RZ_X3_setFromInfinity_J_104 at hz
  refine xbb_eq (tgt := 15) hx hb dX3_setFromInfinity_8 (by decide) (fun c_101 => ?_) (fun c_101 => ?_)
  · rw [if_pos c_101] at hz
    refine lv_iconst (v := 0) hx hb dX3_setFromInfinity_15 (by decide) ?_
    have e9 := Eq.symm hz; subst e9
    exact J_104 _ ez9 H locs hP hD hS ls (lv_sub hl [0, 1, 2, 3] rfl)
  · rw [if_neg c_101] at hz
    refine lv_iconst (v := 1) hx hb dX3_setFromInfinity_11 (by decide) ?_
    refine lv_goto (tgt := 16) hx hb dX3_setFromInfinity_12 (by decide) ?_
    have e9 := Eq.symm hz; subst e9
    exact J_104 _ ez9 H locs hP hD hS ls (lv_sub hl [0, 1, 2, 3] rfl)

def F_X3_stepToZero (vso : Nat → Int32) (vmi : Nat → Bool) (vco : Nat → Int64) (vex : Nat → Int32) (p0 : Int64) (p1 : Int32) : (Nat → Int32) × (Nat → Bool) × (Nat → Int64) × (Nat → Int32) := (if p0 = 1000000000000000 then (if p1 ≤ (-398) then (bnd (F_X0_setFinite vso vmi vco vex 8 true (p0 - 1) p1) (fun u105 : (Nat → Int32) × (Nat → Bool) × (Nat → Int64) × (Nat → Int32) => (u105.1, u105.2.1, u105.2.2.1, u105.2.2.2))) else (bnd (F_X0_setFinite vso vmi vco vex 8 true (9999999999999999 : Int64) (p1 - 1)) (fun u107 : (Nat → Int32) × (Nat → Bool) × (Nat → Int64) × (Nat → Int32) => (u107.1, u107.2.1, u107.2.2.1, u107.2.2.2)))) else (bnd (F_X0_setFinite vso vmi vco vex 8 true (p0 - 1) p1) (fun u102 : (Nat → Int32) × (Nat → Bool) × (Nat → Int64) × (Nat → Int32) => (u102.1, u102.2.1, u102.2.2.1, u102.2.2.2))))
def RF_X3_stepToZero (vso : Nat → Int32) (vmi : Nat → Bool) (vco : Nat → Int64) (vex : Nat → Int32) (p0 : Int64) (p1 : Int32) (u9 : (Nat → Int32) × (Nat → Bool) × (Nat → Int64) × (Nat → Int32)) : Prop := (if p0 = 1000000000000000 then (if p1 ≤ (-398) then (∀ u105 : (Nat → Int32) × (Nat → Bool) × (Nat → Int64) × (Nat → Int32), u105 = F_X0_setFinite vso vmi vco vex 8 true (p0 - 1) p1 → u9 = (u105.1, u105.2.1, u105.2.2.1, u105.2.2.2)) else (∀ u107 : (Nat → Int32) × (Nat → Bool) × (Nat → Int64) × (Nat → Int32), u107 = F_X0_setFinite vso vmi vco vex 8 true (9999999999999999 : Int64) (p1 - 1) → u9 = (u107.1, u107.2.1, u107.2.2.1, u107.2.2.2))) else (∀ u102 : (Nat → Int32) × (Nat → Bool) × (Nat → Int64) × (Nat → Int32), u102 = F_X0_setFinite vso vmi vco vex 8 true (p0 - 1) p1 → u9 = (u102.1, u102.2.1, u102.2.2.1, u102.2.2.2)))
theorem rF_X3_stepToZero (vso : Nat → Int32) (vmi : Nat → Bool) (vco : Nat → Int64) (vex : Nat → Int32) (p0 : Int64) (p1 : Int32) {u9 : (Nat → Int32) × (Nat → Bool) × (Nat → Int64) × (Nat → Int32)} (hu : u9 = F_X3_stepToZero vso vmi vco vex p0 p1) : RF_X3_stepToZero vso vmi vco vex p0 p1 u9 := by
  unfold RF_X3_stepToZero
  refine ite_P (fun c_101 => ?_) (fun c_101 => ?_)
  · have hu := hu.trans (if_pos c_101)
    refine ite_P (fun c_104 => ?_) (fun c_104 => ?_)
    · have hu := hu.trans (if_pos c_104)
      intro u105 eu105
      have hu := bnd_n hu eu105
      exact hu
    · have hu := hu.trans (if_neg c_104)
      intro u107 eu107
      have hu := bnd_n hu eu107
      exact hu
  · have hu := hu.trans (if_neg c_101)
    intro u102 eu102
    have hu := bnd_n hu eu102
    exact hu
def rm_X3_stepToZero : Room := { frames := 1, cells := 0, slots := 0, locals := 24 }
set_option maxHeartbeats 4000000 in
set_option maxRecDepth 100000 in
theorem c_X3_stepToZero (l : Launch) (D : va_G) (cR cI cJ cZ : ClassId) (t0 : Nat) (ax ar ao : Nat) (ad : Nat → Nat) (vrd : Int32) (vtr : Int32) (vsd : Int32) (vrn : Int32) (vom : Bool) (voh : Int64) (vol : Int64) (vop : Int32) (voe : Bool) (vow : Int32) (vok : Int64) (vos : Int32) (vso : Nat → Int32) (vmi : Nat → Bool) (vco : Nat → Int64) (vex : Nat → Int32) (p0 : Int64) (p1 : Int32) (u : (Nat → Int32) × (Nat → Bool) × (Nat → Int64) × (Nat → Int32)) (hu : u = F_X3_stepToZero vso vmi vco vex p0 p1) : XM l D (xty cR cI cJ cZ) t0 yX3_stepToZero cX3_stepToZero 4 none rm_X3_stepToZero [.ref ax, .long p0, .int p1] none (xw cR ax ar ao ad vrd vtr vsd vrn vom voh vol vop voe vow vok vos vso vmi vco vex) (xw cR ax ar ao ad vrd vtr vsd vrn vom voh vol vop voe vow vok vos u.1 u.2.1 u.2.2.1 u.2.2.2) := by
  refine XM.of (by decide) (Nat.le_of_ble_eq_true rfl) ?_
  intro p e s m args below meth c A Q F hK hP hD hA hSt hS hQ ls hl
  obtain ⟨hx, hb, hr, hts, hown, hlocks, hml⟩ := F
  have hCF : CallFix p m c cX3_stepToZero 4 s args gW RX3 := ⟨hx, hb, hml, hown, hts⟩
  have hu := rF_X3_stepToZero vso vmi vco vex p0 p1 hu
  unfold RF_X3_stepToZero at hu
  obtain ⟨H, eH⟩ : ∃ y9 : Heap, y9 = s.heap := ⟨_, rfl⟩
  obtain ⟨locs, eL⟩ : ∃ y9 : List Loc, y9 = [] := ⟨_, rfl⟩
  rw [← eL] at hS ⊢
  have hP : va_P D vwCl (xw cR ax ar ao ad vrd vtr vsd vrn vom voh vol vop voe vow vok vos vso vmi vco vex) H := by rw [eH]; exact hP
  have hS : va_S A s.heap H locs := by rw [eH]; exact hS
  suffices goal9 : W p l e rm_X3_stepToZero s m args below meth c H locs 0 0 Q (F0 m 0 ls []) from by rw [← eH]; exact goal9
  have hl : lv_has ls 4 [(0, .ref ax), (1, .long p0), (3, .int p1)] := hl
  have hi3 : ∀ w ∈ wsX30, w ∈ gW := inW_X3
  refine lv_lload_n hx hb dX3_stepToZero_0 rfl (lv_at hl 1 rfl) ?_
  refine lv_ldc2 (v := 1000000000000000) hx hb hown (hts (.constantLong RX3 207 (1000000000000000)) (inW_5 _ (List.mem_of_getElem? (i := 29) rfl))) dX3_stepToZero_1 ?_
  refine xl_ne (tgt := 32) hx hb dX3_stepToZero_4 dX3_stepToZero_5 (by decide) (fun c_101 => ?_) (fun c_101 => ?_)
  · rw [if_neg c_101] at hu
    refine lv_aload_n hx hb dX3_stepToZero_32 rfl (lv_at hl 0 rfl) ?_
    refine va_get (D := D) (ci := 4) (v := .ref (ad 8)) (C := RX3) (T := TX3) (N := 7) hx hb hts hi3 hown hK hP 0 rfl rfl 1 (by decide) (hts (.fieldLink RX3 16 "DecimalWords" "result" "LDecimalWords$Datum;") (inW_4 _ (List.mem_of_getElem? (i := 18) rfl))) (fun _ h9 => h9) rfl dX3_stepToZero_33 ?_
    refine lv_iconst (v := 1) hx hb dX3_stepToZero_36 (by decide) ?_
    refine lv_lload_n hx hb dX3_stepToZero_37 rfl (lv_at hl 1 rfl) ?_
    refine lv_lconst (v := 1) hx hb dX3_stepToZero_38 (by decide) ?_
    refine lv_lsub hx hb dX3_stepToZero_39 ?_
    refine lv_iload_n hx hb dX3_stepToZero_40 rfl (lv_at hl 2 rfl) ?_
    obtain ⟨u102, eu102⟩ : ∃ y9 : (Nat → Int32) × (Nat → Bool) × (Nat → Int64) × (Nat → Int32), y9 = F_X0_setFinite vso vmi vco vex 8 true (p0 - 1) p1 := ⟨_, rfl⟩
    have hu := hu _ eu102
    refine x_V (As := [.int (bI true), .long (p0 - 1), .int p1]) (rest := []) hCF (c_X0_setFinite l D cR cI cJ cZ t0 ax ar ao ad vrd vtr vsd vrn vom voh vol vop voe vow vok vos vso vmi vco vex 8 true (p0 - 1) p1 u102 eu102 (by decide)) (x_cwV 3 hts (inW_4 _ (List.mem_of_getElem? (i := 37) rfl)) (inW_4 _ (List.mem_of_getElem? (i := 5) rfl)) (inW_4 _ (List.mem_of_getElem? (i := 6) rfl)) (inW_1 _ (List.mem_of_getElem? (i := 16) rfl)) (inW_1 _ (List.mem_of_getElem? (i := 3) rfl)) rfl rfl (by decide +kernel) ⟨Nat.le_of_ble_eq_true rfl, Nat.le_of_ble_eq_true rfl⟩) hK hP hD hS hA hSt (3 + 8) (xw_dat (by decide)) rfl rfl hl.1 rfl (Nat.le_of_ble_eq_true rfl) dX3_stepToZero_41 ⟨Nat.le_of_ble_eq_true rfl, Nat.le_of_ble_eq_true rfl⟩ (fun H locs hP hD hS => ?_)
    show W p l e _ s m args below meth c H locs 0 0 Q (F0 m 44 ls [])
    have e9 := Eq.symm hu; subst e9
    exact x_vret hx hb hr hlocks hQ hK hP hD hS rfl dX3_stepToZero_44
  · rw [if_pos c_101] at hu
    refine lv_iload_n hx hb dX3_stepToZero_8 rfl (lv_at hl 2 rfl) ?_
    refine lv_sipush (v := (-398)) hx hb dX3_stepToZero_9 (by decide) ?_
    refine lv_icmp_le (tgt := 32) hx hb dX3_stepToZero_12 (by decide) (fun c_104 => ?_) (fun c_104 => ?_)
    · rw [if_pos c_104] at hu
      refine lv_aload_n hx hb dX3_stepToZero_32 rfl (lv_at hl 0 rfl) ?_
      refine va_get (D := D) (ci := 4) (v := .ref (ad 8)) (C := RX3) (T := TX3) (N := 7) hx hb hts hi3 hown hK hP 0 rfl rfl 1 (by decide) (hts (.fieldLink RX3 16 "DecimalWords" "result" "LDecimalWords$Datum;") (inW_4 _ (List.mem_of_getElem? (i := 18) rfl))) (fun _ h9 => h9) rfl dX3_stepToZero_33 ?_
      refine lv_iconst (v := 1) hx hb dX3_stepToZero_36 (by decide) ?_
      refine lv_lload_n hx hb dX3_stepToZero_37 rfl (lv_at hl 1 rfl) ?_
      refine lv_lconst (v := 1) hx hb dX3_stepToZero_38 (by decide) ?_
      refine lv_lsub hx hb dX3_stepToZero_39 ?_
      refine lv_iload_n hx hb dX3_stepToZero_40 rfl (lv_at hl 2 rfl) ?_
      obtain ⟨u105, eu105⟩ : ∃ y9 : (Nat → Int32) × (Nat → Bool) × (Nat → Int64) × (Nat → Int32), y9 = F_X0_setFinite vso vmi vco vex 8 true (p0 - 1) p1 := ⟨_, rfl⟩
      have hu := hu _ eu105
      refine x_V (As := [.int (bI true), .long (p0 - 1), .int p1]) (rest := []) hCF (c_X0_setFinite l D cR cI cJ cZ t0 ax ar ao ad vrd vtr vsd vrn vom voh vol vop voe vow vok vos vso vmi vco vex 8 true (p0 - 1) p1 u105 eu105 (by decide)) (x_cwV 3 hts (inW_4 _ (List.mem_of_getElem? (i := 37) rfl)) (inW_4 _ (List.mem_of_getElem? (i := 5) rfl)) (inW_4 _ (List.mem_of_getElem? (i := 6) rfl)) (inW_1 _ (List.mem_of_getElem? (i := 16) rfl)) (inW_1 _ (List.mem_of_getElem? (i := 3) rfl)) rfl rfl (by decide +kernel) ⟨Nat.le_of_ble_eq_true rfl, Nat.le_of_ble_eq_true rfl⟩) hK hP hD hS hA hSt (3 + 8) (xw_dat (by decide)) rfl rfl hl.1 rfl (Nat.le_of_ble_eq_true rfl) dX3_stepToZero_41 ⟨Nat.le_of_ble_eq_true rfl, Nat.le_of_ble_eq_true rfl⟩ (fun H locs hP hD hS => ?_)
      show W p l e _ s m args below meth c H locs 0 0 Q (F0 m 44 ls [])
      have e9 := Eq.symm hu; subst e9
      exact x_vret hx hb hr hlocks hQ hK hP hD hS rfl dX3_stepToZero_44
    · rw [if_neg c_104] at hu
      refine lv_aload_n hx hb dX3_stepToZero_15 rfl (lv_at hl 0 rfl) ?_
      refine va_get (D := D) (ci := 4) (v := .ref (ad 8)) (C := RX3) (T := TX3) (N := 7) hx hb hts hi3 hown hK hP 0 rfl rfl 1 (by decide) (hts (.fieldLink RX3 16 "DecimalWords" "result" "LDecimalWords$Datum;") (inW_4 _ (List.mem_of_getElem? (i := 18) rfl))) (fun _ h9 => h9) rfl dX3_stepToZero_16 ?_
      refine lv_iconst (v := 1) hx hb dX3_stepToZero_19 (by decide) ?_
      refine lv_ldc2 (v := 9999999999999999) hx hb hown (hts (.constantLong RX3 192 (9999999999999999)) (inW_5 _ (List.mem_of_getElem? (i := 15) rfl))) dX3_stepToZero_20 ?_
      refine lv_iload_n hx hb dX3_stepToZero_23 rfl (lv_at hl 2 rfl) ?_
      refine lv_iconst (v := 1) hx hb dX3_stepToZero_24 (by decide) ?_
      refine lv_isub hx hb dX3_stepToZero_25 ?_
      obtain ⟨u107, eu107⟩ : ∃ y9 : (Nat → Int32) × (Nat → Bool) × (Nat → Int64) × (Nat → Int32), y9 = F_X0_setFinite vso vmi vco vex 8 true (9999999999999999 : Int64) (p1 - 1) := ⟨_, rfl⟩
      have hu := hu _ eu107
      refine x_V (As := [.int (bI true), .long 9999999999999999, .int (p1 - 1)]) (rest := []) hCF (c_X0_setFinite l D cR cI cJ cZ t0 ax ar ao ad vrd vtr vsd vrn vom voh vol vop voe vow vok vos vso vmi vco vex 8 true (9999999999999999 : Int64) (p1 - 1) u107 eu107 (by decide)) (x_cwV 3 hts (inW_4 _ (List.mem_of_getElem? (i := 37) rfl)) (inW_4 _ (List.mem_of_getElem? (i := 5) rfl)) (inW_4 _ (List.mem_of_getElem? (i := 6) rfl)) (inW_1 _ (List.mem_of_getElem? (i := 16) rfl)) (inW_1 _ (List.mem_of_getElem? (i := 3) rfl)) rfl rfl (by decide +kernel) ⟨Nat.le_of_ble_eq_true rfl, Nat.le_of_ble_eq_true rfl⟩) hK hP hD hS hA hSt (3 + 8) (xw_dat (by decide)) rfl rfl hl.1 rfl (Nat.le_of_ble_eq_true rfl) dX3_stepToZero_26 ⟨Nat.le_of_ble_eq_true rfl, Nat.le_of_ble_eq_true rfl⟩ (fun H locs hP hD hS => ?_)
      show W p l e _ s m args below meth c H locs 0 0 Q (F0 m 29 ls [])
      refine lv_goto (tgt := 44) hx hb dX3_stepToZero_29 (by decide) ?_
      have e9 := Eq.symm hu; subst e9
      exact x_vret hx hb hr hlocks hQ hK hP hD hS rfl dX3_stepToZero_44

def F_X3_stepFromZero (vso : Nat → Int32) (vmi : Nat → Bool) (vco : Nat → Int64) (vex : Nat → Int32) (p0 : Int64) (p1 : Int32) : (Nat → Int32) × (Nat → Bool) × (Nat → Int64) × (Nat → Int32) := (if 9999999999999999 ≤ p0 then (if 369 ≤ p1 then (bnd (F_X0_setInfinity vso vmi vco vex 8 false) (fun u103 : (Nat → Int32) × (Nat → Bool) × (Nat → Int64) × (Nat → Int32) => (u103.1, u103.2.1, u103.2.2.1, u103.2.2.2))) else (bnd (F_X0_setFinite vso vmi vco vex 8 false (1000000000000000 : Int64) (p1 + 1)) (fun u105 : (Nat → Int32) × (Nat → Bool) × (Nat → Int64) × (Nat → Int32) => (u105.1, u105.2.1, u105.2.2.1, u105.2.2.2)))) else (bnd (F_X0_setFinite vso vmi vco vex 8 false (p0 + 1) p1) (fun u107 : (Nat → Int32) × (Nat → Bool) × (Nat → Int64) × (Nat → Int32) => (u107.1, u107.2.1, u107.2.2.1, u107.2.2.2))))
def RF_X3_stepFromZero (vso : Nat → Int32) (vmi : Nat → Bool) (vco : Nat → Int64) (vex : Nat → Int32) (p0 : Int64) (p1 : Int32) (u9 : (Nat → Int32) × (Nat → Bool) × (Nat → Int64) × (Nat → Int32)) : Prop := (if 9999999999999999 ≤ p0 then (if 369 ≤ p1 then (∀ u103 : (Nat → Int32) × (Nat → Bool) × (Nat → Int64) × (Nat → Int32), u103 = F_X0_setInfinity vso vmi vco vex 8 false → u9 = (u103.1, u103.2.1, u103.2.2.1, u103.2.2.2)) else (∀ u105 : (Nat → Int32) × (Nat → Bool) × (Nat → Int64) × (Nat → Int32), u105 = F_X0_setFinite vso vmi vco vex 8 false (1000000000000000 : Int64) (p1 + 1) → u9 = (u105.1, u105.2.1, u105.2.2.1, u105.2.2.2))) else (∀ u107 : (Nat → Int32) × (Nat → Bool) × (Nat → Int64) × (Nat → Int32), u107 = F_X0_setFinite vso vmi vco vex 8 false (p0 + 1) p1 → u9 = (u107.1, u107.2.1, u107.2.2.1, u107.2.2.2)))
theorem rF_X3_stepFromZero (vso : Nat → Int32) (vmi : Nat → Bool) (vco : Nat → Int64) (vex : Nat → Int32) (p0 : Int64) (p1 : Int32) {u9 : (Nat → Int32) × (Nat → Bool) × (Nat → Int64) × (Nat → Int32)} (hu : u9 = F_X3_stepFromZero vso vmi vco vex p0 p1) : RF_X3_stepFromZero vso vmi vco vex p0 p1 u9 := by
  unfold RF_X3_stepFromZero
  refine ite_P (fun c_101 => ?_) (fun c_101 => ?_)
  · have hu := hu.trans (if_pos c_101)
    refine ite_P (fun c_102 => ?_) (fun c_102 => ?_)
    · have hu := hu.trans (if_pos c_102)
      intro u103 eu103
      have hu := bnd_n hu eu103
      exact hu
    · have hu := hu.trans (if_neg c_102)
      intro u105 eu105
      have hu := bnd_n hu eu105
      exact hu
  · have hu := hu.trans (if_neg c_101)
    intro u107 eu107
    have hu := bnd_n hu eu107
    exact hu
def rm_X3_stepFromZero : Room := { frames := 1, cells := 0, slots := 0, locals := 24 }
set_option maxHeartbeats 4000000 in
set_option maxRecDepth 100000 in
theorem c_X3_stepFromZero (l : Launch) (D : va_G) (cR cI cJ cZ : ClassId) (t0 : Nat) (ax ar ao : Nat) (ad : Nat → Nat) (vrd : Int32) (vtr : Int32) (vsd : Int32) (vrn : Int32) (vom : Bool) (voh : Int64) (vol : Int64) (vop : Int32) (voe : Bool) (vow : Int32) (vok : Int64) (vos : Int32) (vso : Nat → Int32) (vmi : Nat → Bool) (vco : Nat → Int64) (vex : Nat → Int32) (p0 : Int64) (p1 : Int32) (u : (Nat → Int32) × (Nat → Bool) × (Nat → Int64) × (Nat → Int32)) (hu : u = F_X3_stepFromZero vso vmi vco vex p0 p1) : XM l D (xty cR cI cJ cZ) t0 yX3_stepFromZero cX3_stepFromZero 4 none rm_X3_stepFromZero [.ref ax, .long p0, .int p1] none (xw cR ax ar ao ad vrd vtr vsd vrn vom voh vol vop voe vow vok vos vso vmi vco vex) (xw cR ax ar ao ad vrd vtr vsd vrn vom voh vol vop voe vow vok vos u.1 u.2.1 u.2.2.1 u.2.2.2) := by
  refine XM.of (by decide) (Nat.le_of_ble_eq_true rfl) ?_
  intro p e s m args below meth c A Q F hK hP hD hA hSt hS hQ ls hl
  obtain ⟨hx, hb, hr, hts, hown, hlocks, hml⟩ := F
  have hCF : CallFix p m c cX3_stepFromZero 4 s args gW RX3 := ⟨hx, hb, hml, hown, hts⟩
  have hu := rF_X3_stepFromZero vso vmi vco vex p0 p1 hu
  unfold RF_X3_stepFromZero at hu
  obtain ⟨H, eH⟩ : ∃ y9 : Heap, y9 = s.heap := ⟨_, rfl⟩
  obtain ⟨locs, eL⟩ : ∃ y9 : List Loc, y9 = [] := ⟨_, rfl⟩
  rw [← eL] at hS ⊢
  have hP : va_P D vwCl (xw cR ax ar ao ad vrd vtr vsd vrn vom voh vol vop voe vow vok vos vso vmi vco vex) H := by rw [eH]; exact hP
  have hS : va_S A s.heap H locs := by rw [eH]; exact hS
  suffices goal9 : W p l e rm_X3_stepFromZero s m args below meth c H locs 0 0 Q (F0 m 0 ls []) from by rw [← eH]; exact goal9
  have hl : lv_has ls 4 [(0, .ref ax), (1, .long p0), (3, .int p1)] := hl
  have hi3 : ∀ w ∈ wsX30, w ∈ gW := inW_X3
  refine lv_lload_n hx hb dX3_stepFromZero_0 rfl (lv_at hl 1 rfl) ?_
  refine lv_ldc2 (v := 9999999999999999) hx hb hown (hts (.constantLong RX3 192 (9999999999999999)) (inW_5 _ (List.mem_of_getElem? (i := 15) rfl))) dX3_stepFromZero_1 ?_
  refine xl_ge (tgt := 23) hx hb dX3_stepFromZero_4 dX3_stepFromZero_5 (by decide) (fun c_101 => ?_) (fun c_101 => ?_)
  · rw [if_pos c_101] at hu
    refine lv_iload_n hx hb dX3_stepFromZero_23 rfl (lv_at hl 2 rfl) ?_
    refine lv_sipush (v := 369) hx hb dX3_stepFromZero_24 (by decide) ?_
    refine lv_icmp_ge (tgt := 47) hx hb dX3_stepFromZero_27 (by decide) (fun c_102 => ?_) (fun c_102 => ?_)
    · rw [if_pos c_102] at hu
      refine lv_aload_n hx hb dX3_stepFromZero_47 rfl (lv_at hl 0 rfl) ?_
      refine va_get (D := D) (ci := 4) (v := .ref (ad 8)) (C := RX3) (T := TX3) (N := 7) hx hb hts hi3 hown hK hP 0 rfl rfl 1 (by decide) (hts (.fieldLink RX3 16 "DecimalWords" "result" "LDecimalWords$Datum;") (inW_4 _ (List.mem_of_getElem? (i := 18) rfl))) (fun _ h9 => h9) rfl dX3_stepFromZero_48 ?_
      refine lv_iconst (v := 0) hx hb dX3_stepFromZero_51 (by decide) ?_
      obtain ⟨u103, eu103⟩ : ∃ y9 : (Nat → Int32) × (Nat → Bool) × (Nat → Int64) × (Nat → Int32), y9 = F_X0_setInfinity vso vmi vco vex 8 false := ⟨_, rfl⟩
      have hu := hu _ eu103
      refine x_V (As := [.int (bI false)]) (rest := []) hCF (c_X0_setInfinity l D cR cI cJ cZ t0 ax ar ao ad vrd vtr vsd vrn vom voh vol vop voe vow vok vos vso vmi vco vex 8 false u103 eu103 (by decide)) (x_cwV 1 hts (inW_5 _ (List.mem_of_getElem? (i := 34) rfl)) (inW_3 _ (List.mem_of_getElem? (i := 24) rfl)) (inW_3 _ (List.mem_of_getElem? (i := 25) rfl)) (inW_1 _ (List.mem_of_getElem? (i := 16) rfl)) (inW_1 _ (List.mem_of_getElem? (i := 8) rfl)) rfl rfl (by decide +kernel) ⟨Nat.le_of_ble_eq_true rfl, Nat.le_of_ble_eq_true rfl⟩) hK hP hD hS hA hSt (3 + 8) (xw_dat (by decide)) rfl rfl hl.1 rfl (Nat.le_of_ble_eq_true rfl) dX3_stepFromZero_52 ⟨Nat.le_of_ble_eq_true rfl, Nat.le_of_ble_eq_true rfl⟩ (fun H locs hP hD hS => ?_)
      show W p l e _ s m args below meth c H locs 0 0 Q (F0 m 55 ls [])
      have e9 := Eq.symm hu; subst e9
      exact x_vret hx hb hr hlocks hQ hK hP hD hS rfl dX3_stepFromZero_55
    · rw [if_neg c_102] at hu
      refine lv_aload_n hx hb dX3_stepFromZero_30 rfl (lv_at hl 0 rfl) ?_
      refine va_get (D := D) (ci := 4) (v := .ref (ad 8)) (C := RX3) (T := TX3) (N := 7) hx hb hts hi3 hown hK hP 0 rfl rfl 1 (by decide) (hts (.fieldLink RX3 16 "DecimalWords" "result" "LDecimalWords$Datum;") (inW_4 _ (List.mem_of_getElem? (i := 18) rfl))) (fun _ h9 => h9) rfl dX3_stepFromZero_31 ?_
      refine lv_iconst (v := 0) hx hb dX3_stepFromZero_34 (by decide) ?_
      refine lv_ldc2 (v := 1000000000000000) hx hb hown (hts (.constantLong RX3 207 (1000000000000000)) (inW_5 _ (List.mem_of_getElem? (i := 29) rfl))) dX3_stepFromZero_35 ?_
      refine lv_iload_n hx hb dX3_stepFromZero_38 rfl (lv_at hl 2 rfl) ?_
      refine lv_iconst (v := 1) hx hb dX3_stepFromZero_39 (by decide) ?_
      refine lv_iadd hx hb dX3_stepFromZero_40 ?_
      obtain ⟨u105, eu105⟩ : ∃ y9 : (Nat → Int32) × (Nat → Bool) × (Nat → Int64) × (Nat → Int32), y9 = F_X0_setFinite vso vmi vco vex 8 false (1000000000000000 : Int64) (p1 + 1) := ⟨_, rfl⟩
      have hu := hu _ eu105
      refine x_V (As := [.int (bI false), .long 1000000000000000, .int (p1 + 1)]) (rest := []) hCF (c_X0_setFinite l D cR cI cJ cZ t0 ax ar ao ad vrd vtr vsd vrn vom voh vol vop voe vow vok vos vso vmi vco vex 8 false (1000000000000000 : Int64) (p1 + 1) u105 eu105 (by decide)) (x_cwV 3 hts (inW_4 _ (List.mem_of_getElem? (i := 37) rfl)) (inW_4 _ (List.mem_of_getElem? (i := 5) rfl)) (inW_4 _ (List.mem_of_getElem? (i := 6) rfl)) (inW_1 _ (List.mem_of_getElem? (i := 16) rfl)) (inW_1 _ (List.mem_of_getElem? (i := 3) rfl)) rfl rfl (by decide +kernel) ⟨Nat.le_of_ble_eq_true rfl, Nat.le_of_ble_eq_true rfl⟩) hK hP hD hS hA hSt (3 + 8) (xw_dat (by decide)) rfl rfl hl.1 rfl (Nat.le_of_ble_eq_true rfl) dX3_stepFromZero_41 ⟨Nat.le_of_ble_eq_true rfl, Nat.le_of_ble_eq_true rfl⟩ (fun H locs hP hD hS => ?_)
      show W p l e _ s m args below meth c H locs 0 0 Q (F0 m 44 ls [])
      refine lv_goto (tgt := 55) hx hb dX3_stepFromZero_44 (by decide) ?_
      have e9 := Eq.symm hu; subst e9
      exact x_vret hx hb hr hlocks hQ hK hP hD hS rfl dX3_stepFromZero_55
  · rw [if_neg c_101] at hu
    refine lv_aload_n hx hb dX3_stepFromZero_8 rfl (lv_at hl 0 rfl) ?_
    refine va_get (D := D) (ci := 4) (v := .ref (ad 8)) (C := RX3) (T := TX3) (N := 7) hx hb hts hi3 hown hK hP 0 rfl rfl 1 (by decide) (hts (.fieldLink RX3 16 "DecimalWords" "result" "LDecimalWords$Datum;") (inW_4 _ (List.mem_of_getElem? (i := 18) rfl))) (fun _ h9 => h9) rfl dX3_stepFromZero_9 ?_
    refine lv_iconst (v := 0) hx hb dX3_stepFromZero_12 (by decide) ?_
    refine lv_lload_n hx hb dX3_stepFromZero_13 rfl (lv_at hl 1 rfl) ?_
    refine lv_lconst (v := 1) hx hb dX3_stepFromZero_14 (by decide) ?_
    refine lv_ladd hx hb dX3_stepFromZero_15 ?_
    refine lv_iload_n hx hb dX3_stepFromZero_16 rfl (lv_at hl 2 rfl) ?_
    obtain ⟨u107, eu107⟩ : ∃ y9 : (Nat → Int32) × (Nat → Bool) × (Nat → Int64) × (Nat → Int32), y9 = F_X0_setFinite vso vmi vco vex 8 false (p0 + 1) p1 := ⟨_, rfl⟩
    have hu := hu _ eu107
    refine x_V (As := [.int (bI false), .long (p0 + 1), .int p1]) (rest := []) hCF (c_X0_setFinite l D cR cI cJ cZ t0 ax ar ao ad vrd vtr vsd vrn vom voh vol vop voe vow vok vos vso vmi vco vex 8 false (p0 + 1) p1 u107 eu107 (by decide)) (x_cwV 3 hts (inW_4 _ (List.mem_of_getElem? (i := 37) rfl)) (inW_4 _ (List.mem_of_getElem? (i := 5) rfl)) (inW_4 _ (List.mem_of_getElem? (i := 6) rfl)) (inW_1 _ (List.mem_of_getElem? (i := 16) rfl)) (inW_1 _ (List.mem_of_getElem? (i := 3) rfl)) rfl rfl (by decide +kernel) ⟨Nat.le_of_ble_eq_true rfl, Nat.le_of_ble_eq_true rfl⟩) hK hP hD hS hA hSt (3 + 8) (xw_dat (by decide)) rfl rfl hl.1 rfl (Nat.le_of_ble_eq_true rfl) dX3_stepFromZero_17 ⟨Nat.le_of_ble_eq_true rfl, Nat.le_of_ble_eq_true rfl⟩ (fun H locs hP hD hS => ?_)
    show W p l e _ s m args below meth c H locs 0 0 Q (F0 m 20 ls [])
    refine lv_goto (tgt := 55) hx hb dX3_stepFromZero_20 (by decide) ?_
    have e9 := Eq.symm hu; subst e9
    exact x_vret hx hb hr hlocks hQ hK hP hD hS rfl dX3_stepFromZero_55

def F_X3_setNext (vso : Nat → Int32) (vmi : Nat → Bool) (vco : Nat → Int64) (vex : Nat → Int32) (i1 : Nat) : (Nat → Int32) × (Nat → Bool) × (Nat → Int64) × (Nat → Int32) := (if vso i1 = 2 then (bnd (F_X0_take vso vmi vco vex 8 i1) (fun u102 : (Nat → Int32) × (Nat → Bool) × (Nat → Int64) × (Nat → Int32) => (u102.1, u102.2.1, u102.2.2.1, u102.2.2.2))) else (if vso i1 = 1 then (if vmi i1 = true then (bnd (F_X0_setFinite vso vmi vco vex 8 true (9999999999999999 : Int64) (369 : Int32)) (fun u121 : (Nat → Int32) × (Nat → Bool) × (Nat → Int64) × (Nat → Int32) => (u121.1, u121.2.1, u121.2.2.1, u121.2.2.2))) else (bnd (F_X0_take vso vmi vco vex 8 i1) (fun u123 : (Nat → Int32) × (Nat → Bool) × (Nat → Int64) × (Nat → Int32) => (u123.1, u123.2.1, u123.2.2.1, u123.2.2.2)))) else (if F_X0_isZero vso vco i1 = true then (bnd (F_X0_setFinite vso vmi vco vex 8 false (1 : Int64) (-398 : Int32)) (fun u118 : (Nat → Int32) × (Nat → Bool) × (Nat → Int64) × (Nat → Int32) => (u118.1, u118.2.1, u118.2.2.1, u118.2.2.2))) else (bnd (jmin (16 - (F_X3_digitsOf (vco i1))) ((vex i1) - (-398))) (fun n109 : Int32 => (bnd ((vco i1) * (F_X3_tenTo n109)) (fun n112 : Int64 => (if vmi i1 = true then (bnd (F_X3_stepToZero vso vmi vco vex n112 ((vex i1) - n109)) (fun u116 : (Nat → Int32) × (Nat → Bool) × (Nat → Int64) × (Nat → Int32) => (u116.1, u116.2.1, u116.2.2.1, u116.2.2.2))) else (bnd (F_X3_stepFromZero vso vmi vco vex n112 ((vex i1) - n109)) (fun u114 : (Nat → Int32) × (Nat → Bool) × (Nat → Int64) × (Nat → Int32) => (u114.1, u114.2.1, u114.2.2.1, u114.2.2.2)))))))))))
def RF_X3_setNext (vso : Nat → Int32) (vmi : Nat → Bool) (vco : Nat → Int64) (vex : Nat → Int32) (i1 : Nat) (u9 : (Nat → Int32) × (Nat → Bool) × (Nat → Int64) × (Nat → Int32)) : Prop := (if vso i1 = 2 then (∀ u102 : (Nat → Int32) × (Nat → Bool) × (Nat → Int64) × (Nat → Int32), u102 = F_X0_take vso vmi vco vex 8 i1 → u9 = (u102.1, u102.2.1, u102.2.2.1, u102.2.2.2)) else (if vso i1 = 1 then (if vmi i1 = true then (∀ u121 : (Nat → Int32) × (Nat → Bool) × (Nat → Int64) × (Nat → Int32), u121 = F_X0_setFinite vso vmi vco vex 8 true (9999999999999999 : Int64) (369 : Int32) → u9 = (u121.1, u121.2.1, u121.2.2.1, u121.2.2.2)) else (∀ u123 : (Nat → Int32) × (Nat → Bool) × (Nat → Int64) × (Nat → Int32), u123 = F_X0_take vso vmi vco vex 8 i1 → u9 = (u123.1, u123.2.1, u123.2.2.1, u123.2.2.2))) else (if F_X0_isZero vso vco i1 = true then (∀ u118 : (Nat → Int32) × (Nat → Bool) × (Nat → Int64) × (Nat → Int32), u118 = F_X0_setFinite vso vmi vco vex 8 false (1 : Int64) (-398 : Int32) → u9 = (u118.1, u118.2.1, u118.2.2.1, u118.2.2.2)) else (∀ n109 : Int32, n109 = jmin (16 - (F_X3_digitsOf (vco i1))) ((vex i1) - (-398)) → (∀ n112 : Int64, n112 = (vco i1) * (F_X3_tenTo n109) → (if vmi i1 = true then (∀ u116 : (Nat → Int32) × (Nat → Bool) × (Nat → Int64) × (Nat → Int32), u116 = F_X3_stepToZero vso vmi vco vex n112 ((vex i1) - n109) → u9 = (u116.1, u116.2.1, u116.2.2.1, u116.2.2.2)) else (∀ u114 : (Nat → Int32) × (Nat → Bool) × (Nat → Int64) × (Nat → Int32), u114 = F_X3_stepFromZero vso vmi vco vex n112 ((vex i1) - n109) → u9 = (u114.1, u114.2.1, u114.2.2.1, u114.2.2.2))))))))
theorem rF_X3_setNext (vso : Nat → Int32) (vmi : Nat → Bool) (vco : Nat → Int64) (vex : Nat → Int32) (i1 : Nat) {u9 : (Nat → Int32) × (Nat → Bool) × (Nat → Int64) × (Nat → Int32)} (hu : u9 = F_X3_setNext vso vmi vco vex i1) : RF_X3_setNext vso vmi vco vex i1 u9 := by
  unfold RF_X3_setNext
  refine ite_P (fun c_101 => ?_) (fun c_101 => ?_)
  · have hu := hu.trans (if_pos c_101)
    intro u102 eu102
    have hu := bnd_n hu eu102
    exact hu
  · have hu := hu.trans (if_neg c_101)
    refine ite_P (fun c_104 => ?_) (fun c_104 => ?_)
    · have hu := hu.trans (if_pos c_104)
      refine ite_P (fun c_120 => ?_) (fun c_120 => ?_)
      · have hu := hu.trans (if_pos c_120)
        intro u121 eu121
        have hu := bnd_n hu eu121
        exact hu
      · have hu := hu.trans (if_neg c_120)
        intro u123 eu123
        have hu := bnd_n hu eu123
        exact hu
    · have hu := hu.trans (if_neg c_104)
      refine ite_P (fun c_106 => ?_) (fun c_106 => ?_)
      · have hu := hu.trans (if_pos c_106)
        intro u118 eu118
        have hu := bnd_n hu eu118
        exact hu
      · have hu := hu.trans (if_neg c_106)
        intro n109 en109
        have hu := bnd_n hu en109
        intro n112 en112
        have hu := bnd_n hu en112
        refine ite_P (fun c_113 => ?_) (fun c_113 => ?_)
        · have hu := hu.trans (if_pos c_113)
          intro u116 eu116
          have hu := bnd_n hu eu116
          exact hu
        · have hu := hu.trans (if_neg c_113)
          intro u114 eu114
          have hu := bnd_n hu eu114
          exact hu
def S_X3_setNext (vso : Nat → Int32) (vmi : Nat → Bool) (vco : Nat → Int64) (vex : Nat → Int32) (i1 : Nat) : Prop := (if vso i1 = 2 then True else (if vso i1 = 1 then True else (if F_X0_isZero vso vco i1 = true then True else (S_X3_digitsOf (vco i1)) ∧ (∀ n109 : Int32, n109 = jmin (16 - (F_X3_digitsOf (vco i1))) ((vex i1) - (-398)) → S_X3_tenTo n109))))
def rm_X3_setNext : Room := { frames := 2, cells := 0, slots := 0, locals := 47 }
set_option maxHeartbeats 4000000 in
set_option maxRecDepth 100000 in
theorem c_X3_setNext (l : Launch) (D : va_G) (cR cI cJ cZ : ClassId) (t0 : Nat) (ax ar ao : Nat) (ad : Nat → Nat) (vrd : Int32) (vtr : Int32) (vsd : Int32) (vrn : Int32) (vom : Bool) (voh : Int64) (vol : Int64) (vop : Int32) (voe : Bool) (vow : Int32) (vok : Int64) (vos : Int32) (vso : Nat → Int32) (vmi : Nat → Bool) (vco : Nat → Int64) (vex : Nat → Int32) (i1 : Nat) (u : (Nat → Int32) × (Nat → Bool) × (Nat → Int64) × (Nat → Int32)) (hu : u = F_X3_setNext vso vmi vco vex i1) (hs : S_X3_setNext vso vmi vco vex i1) (hb1 : i1 < 9) : XM l D (xty cR cI cJ cZ) t0 yX3_setNext cX3_setNext 5 none rm_X3_setNext [.ref ax, .ref (ad i1)] none (xw cR ax ar ao ad vrd vtr vsd vrn vom voh vol vop voe vow vok vos vso vmi vco vex) (xw cR ax ar ao ad vrd vtr vsd vrn vom voh vol vop voe vow vok vos u.1 u.2.1 u.2.2.1 u.2.2.2) := by
  refine XM.of (by decide) (Nat.le_of_ble_eq_true rfl) ?_
  intro p e s m args below meth c A Q F hK hP hD hA hSt hS hQ ls hl
  obtain ⟨hx, hb, hr, hts, hown, hlocks, hml⟩ := F
  have hCF : CallFix p m c cX3_setNext 5 s args gW RX3 := ⟨hx, hb, hml, hown, hts⟩
  unfold S_X3_setNext at hs
  have hu := rF_X3_setNext vso vmi vco vex i1 hu
  unfold RF_X3_setNext at hu
  obtain ⟨H, eH⟩ : ∃ y9 : Heap, y9 = s.heap := ⟨_, rfl⟩
  obtain ⟨locs, eL⟩ : ∃ y9 : List Loc, y9 = [] := ⟨_, rfl⟩
  rw [← eL] at hS ⊢
  have hP : va_P D vwCl (xw cR ax ar ao ad vrd vtr vsd vrn vom voh vol vop voe vow vok vos vso vmi vco vex) H := by rw [eH]; exact hP
  have hS : va_S A s.heap H locs := by rw [eH]; exact hS
  suffices goal9 : W p l e rm_X3_setNext s m args below meth c H locs 0 0 Q (F0 m 0 ls []) from by rw [← eH]; exact goal9
  have hl : lv_has ls 5 [(0, .ref ax), (1, .ref (ad i1))] := hl
  have hi0 : ∀ w ∈ wsX00, w ∈ gW := inW_X0
  have hi3 : ∀ w ∈ wsX30, w ∈ gW := inW_X3
  refine lv_aload_n hx hb dX3_setNext_0 rfl (lv_at hl 1 rfl) ?_
  refine g_so (i := i1) hx hb hts hi0 hown hK hP hb1 (hts (.fieldLink RX3 70 "DecimalWords$Datum" "sort" "I") (inW_5 _ (List.mem_of_getElem? (i := 9) rfl))) dX3_setNext_1 ?_
  refine lv_iconst (v := 2) hx hb dX3_setNext_4 (by decide) ?_
  refine lv_icmp_eq (tgt := 23) hx hb dX3_setNext_5 (by decide) (fun c_101 => ?_) (fun c_101 => ?_)
  · rw [if_pos c_101] at hu
    refine lv_aload_n hx hb dX3_setNext_23 rfl (lv_at hl 0 rfl) ?_
    refine va_get (D := D) (ci := 4) (v := .ref (ad 8)) (C := RX3) (T := TX3) (N := 7) hx hb hts hi3 hown hK hP 0 rfl rfl 1 (by decide) (hts (.fieldLink RX3 16 "DecimalWords" "result" "LDecimalWords$Datum;") (inW_4 _ (List.mem_of_getElem? (i := 18) rfl))) (fun _ h9 => h9) rfl dX3_setNext_24 ?_
    refine lv_aload_n hx hb dX3_setNext_27 rfl (lv_at hl 1 rfl) ?_
    obtain ⟨u102, eu102⟩ : ∃ y9 : (Nat → Int32) × (Nat → Bool) × (Nat → Int64) × (Nat → Int32), y9 = F_X0_take vso vmi vco vex 8 i1 := ⟨_, rfl⟩
    have hu := hu _ eu102
    refine x_V (As := [.ref (ad i1)]) (rest := []) hCF (c_X0_take l D cR cI cJ cZ t0 ax ar ao ad vrd vtr vsd vrn vom voh vol vop voe vow vok vos vso vmi vco vex 8 i1 u102 eu102 (by decide) hb1) (x_cwV 1 hts (inW_5 _ (List.mem_of_getElem? (i := 19) rfl)) (inW_5 _ (List.mem_of_getElem? (i := 20) rfl)) (inW_5 _ (List.mem_of_getElem? (i := 21) rfl)) (inW_1 _ (List.mem_of_getElem? (i := 16) rfl)) (inW_1 _ (List.mem_of_getElem? (i := 10) rfl)) rfl rfl (by decide +kernel) ⟨Nat.le_of_ble_eq_true rfl, Nat.le_of_ble_eq_true rfl⟩) hK hP hD hS hA hSt (3 + 8) (xw_dat (by decide)) rfl rfl hl.1 rfl (Nat.le_of_ble_eq_true rfl) dX3_setNext_28 ⟨Nat.le_of_ble_eq_true rfl, Nat.le_of_ble_eq_true rfl⟩ (fun H locs hP hD hS => ?_)
    show W p l e _ s m args below meth c H locs 0 0 Q (F0 m 31 ls [])
    refine lv_goto (tgt := 145) hx hb dX3_setNext_31 (by decide) ?_
    have e9 := Eq.symm hu; subst e9
    exact x_vret hx hb hr hlocks hQ hK hP hD hS rfl dX3_setNext_145
  · rw [if_neg c_101] at hs
    rw [if_neg c_101] at hu
    refine lv_aload_n hx hb dX3_setNext_8 rfl (lv_at hl 1 rfl) ?_
    refine g_so (i := i1) hx hb hts hi0 hown hK hP hb1 (hts (.fieldLink RX3 70 "DecimalWords$Datum" "sort" "I") (inW_5 _ (List.mem_of_getElem? (i := 9) rfl))) dX3_setNext_9 ?_
    refine lv_iconst (v := 1) hx hb dX3_setNext_12 (by decide) ?_
    refine lv_icmp_ne (tgt := 34) hx hb dX3_setNext_13 (by decide) (fun c_104 => ?_) (fun c_104 => ?_)
    · rw [if_neg c_104] at hs
      rw [if_neg c_104] at hu
      refine lv_aload_n hx hb dX3_setNext_34 rfl (lv_at hl 1 rfl) ?_
      refine g_so (i := i1) hx hb hts hi0 hown hK hP hb1 (hts (.fieldLink RX3 70 "DecimalWords$Datum" "sort" "I") (inW_5 _ (List.mem_of_getElem? (i := 9) rfl))) dX3_setNext_35 ?_
      refine lv_iconst (v := 1) hx hb dX3_setNext_38 (by decide) ?_
      refine lv_icmp_ne (tgt := 59) hx hb dX3_setNext_39 (by decide) (fun _ => ?_) (fun c9 => absurd c9 c_104)
      refine lv_aload_n hx hb dX3_setNext_59 rfl (lv_at hl 1 rfl) ?_
      refine x_V (As := []) (rest := []) hCF (c_X0_isZero l D cR cI cJ cZ t0 ax ar ao ad vrd vtr vsd vrn vom voh vol vop voe vow vok vos vso vmi vco vex i1 _ rfl hb1) (x_cwV 0 hts (inW_5 _ (List.mem_of_getElem? (i := 22) rfl)) (inW_1 _ (List.mem_of_getElem? (i := 14) rfl)) (inW_1 _ (List.mem_of_getElem? (i := 15) rfl)) (inW_1 _ (List.mem_of_getElem? (i := 16) rfl)) (inW_1 _ (List.mem_of_getElem? (i := 11) rfl)) rfl rfl (by decide +kernel) ⟨Nat.le_of_ble_eq_true rfl, Nat.le_of_ble_eq_true rfl⟩) hK hP hD hS hA hSt (3 + i1) (xw_dat hb1) rfl rfl hl.1 rfl (Nat.le_of_ble_eq_true rfl) dX3_setNext_60 ⟨Nat.le_of_ble_eq_true rfl, Nat.le_of_ble_eq_true rfl⟩ (fun H locs hP hD hS => ?_)
      show W p l e _ s m args below meth c H locs 0 0 Q (F0 m 63 ls (.int (bI (F_X0_isZero vso vco i1)) :: []))
      refine xb_eq (tgt := 81) hx hb dX3_setNext_63 (by decide) (fun c_106 => ?_) (fun c_106 => ?_)
      · rw [if_neg c_106] at hs
        rw [if_neg c_106] at hu
        refine lv_bipush (v := 16) hx hb dX3_setNext_81 (by decide) ?_
        refine lv_aload_n hx hb dX3_setNext_83 rfl (lv_at hl 1 rfl) ?_
        refine g_co (i := i1) hx hb hts hi0 hown hK hP hb1 (hts (.fieldLink RX3 81 "DecimalWords$Datum" "coefficient" "J") (inW_5 _ (List.mem_of_getElem? (i := 16) rfl))) dX3_setNext_84 ?_
        obtain ⟨h_107, hs⟩ := hs
        refine x_S (As := [.long (vco i1)]) (rest := [.int 16]) hCF (c_X3_digitsOf l D cR cI cJ cZ t0 (xw cR ax ar ao ad vrd vtr vsd vrn vom voh vol vop voe vow vok vos vso vmi vco vex) (vco i1) _ rfl h_107) (x_cwS 1 hts (inW_5 _ (List.mem_of_getElem? (i := 23) rfl)) (inW_1 _ (List.mem_of_getElem? (i := 24) rfl)) (inW_1 _ (List.mem_of_getElem? (i := 25) rfl)) (inW_1 _ (List.mem_of_getElem? (i := 26) rfl)) rfl rfl (by decide +kernel) ⟨Nat.le_of_ble_eq_true rfl, Nat.le_of_ble_eq_true rfl⟩) hK hP hD hS hA hSt rfl hl.1 rfl (Nat.le_of_ble_eq_true rfl) dX3_setNext_87 ⟨Nat.le_of_ble_eq_true rfl, Nat.le_of_ble_eq_true rfl⟩ (fun H locs hP hD hS => ?_)
        show W p l e _ s m args below meth c H locs 0 0 Q (F0 m 90 ls (.int (F_X3_digitsOf (vco i1)) :: [.int 16]))
        refine lv_isub hx hb dX3_setNext_90 ?_
        refine lv_aload_n hx hb dX3_setNext_91 rfl (lv_at hl 1 rfl) ?_
        refine g_ex (i := i1) hx hb hts hi0 hown hK hP hb1 (hts (.fieldLink RX3 85 "DecimalWords$Datum" "exponent" "I") (inW_5 _ (List.mem_of_getElem? (i := 17) rfl))) dX3_setNext_92 ?_
        refine lv_sipush (v := (-398)) hx hb dX3_setNext_95 (by decide) ?_
        refine lv_isub hx hb dX3_setNext_98 ?_
        refine x_min hx hb hml hl.1 hts hown (inW_5 _ (List.mem_of_getElem? (i := 18) rfl)) (inW_1 _ (List.mem_of_getElem? (i := 36) rfl)) (inW_1 _ (List.mem_of_getElem? (i := 37) rfl)) (inW_1 _ (List.mem_of_getElem? (i := 38) rfl)) (Nat.le_of_ble_eq_true rfl) (Nat.le_of_ble_eq_true rfl) (Nat.le_of_ble_eq_true rfl) (Nat.le_of_ble_eq_true rfl) dX3_setNext_99 ?_
        refine lv_topi (fun n109 en109 => ?_)
        have hs := hs _ en109
        have hu := hu _ en109
        refine lv_istore_n (lv' := [(2, .int n109), (0, .ref ax), (1, .ref (ad i1))]) hx hb dX3_setNext_102 rfl hl (by decide) rfl (fun ls hl => ?_)
        refine lv_aload_n hx hb dX3_setNext_103 rfl (lv_at hl 2 rfl) ?_
        refine g_co (i := i1) hx hb hts hi0 hown hK hP hb1 (hts (.fieldLink RX3 81 "DecimalWords$Datum" "coefficient" "J") (inW_5 _ (List.mem_of_getElem? (i := 16) rfl))) dX3_setNext_104 ?_
        refine lv_iload_n hx hb dX3_setNext_107 rfl (lv_at hl 0 rfl) ?_
        have h_110 := hs
        refine x_S (As := [.int n109]) (rest := [.long (vco i1)]) hCF (c_X3_tenTo l D cR cI cJ cZ t0 (xw cR ax ar ao ad vrd vtr vsd vrn vom voh vol vop voe vow vok vos vso vmi vco vex) n109 _ rfl h_110) (x_cwS 1 hts (inW_5 _ (List.mem_of_getElem? (i := 24) rfl)) (inW_2 _ (List.mem_of_getElem? (i := 9) rfl)) (inW_1 _ (List.mem_of_getElem? (i := 25) rfl)) (inW_2 _ (List.mem_of_getElem? (i := 10) rfl)) rfl rfl (by decide +kernel) ⟨Nat.le_of_ble_eq_true rfl, Nat.le_of_ble_eq_true rfl⟩) hK hP hD hS hA hSt rfl hl.1 rfl (Nat.le_of_ble_eq_true rfl) dX3_setNext_108 ⟨Nat.le_of_ble_eq_true rfl, Nat.le_of_ble_eq_true rfl⟩ (fun H locs hP hD hS => ?_)
        show W p l e _ s m args below meth c H locs 0 0 Q (F0 m 111 ls (.long (F_X3_tenTo n109) :: [.long (vco i1)]))
        refine lv_lmul hx hb dX3_setNext_111 ?_
        refine lv_topl (fun n112 en112 => ?_)
        have hu := hu _ en112
        refine lv_lstore_n (lv' := [(3, .long n112), (2, .int n109), (0, .ref ax), (1, .ref (ad i1))]) hx hb dX3_setNext_112 rfl hl (by decide) rfl (fun ls hl => ?_)
        refine lv_aload_n hx hb dX3_setNext_113 rfl (lv_at hl 3 rfl) ?_
        refine g_mi (i := i1) hx hb hts hi0 hown hK hP hb1 (hts (.fieldLink RX3 77 "DecimalWords$Datum" "minus" "Z") (inW_5 _ (List.mem_of_getElem? (i := 14) rfl))) dX3_setNext_114 ?_
        refine xb_eq (tgt := 134) hx hb dX3_setNext_117 (by decide) (fun c_113 => ?_) (fun c_113 => ?_)
        · rw [if_neg c_113] at hu
          refine lv_aload_n hx hb dX3_setNext_134 rfl (lv_at hl 2 rfl) ?_
          refine lv_lload_n hx hb dX3_setNext_135 rfl (lv_at hl 0 rfl) ?_
          refine lv_aload_n hx hb dX3_setNext_136 rfl (lv_at hl 3 rfl) ?_
          refine g_ex (i := i1) hx hb hts hi0 hown hK hP hb1 (hts (.fieldLink RX3 85 "DecimalWords$Datum" "exponent" "I") (inW_5 _ (List.mem_of_getElem? (i := 17) rfl))) dX3_setNext_137 ?_
          refine lv_iload_n hx hb dX3_setNext_140 rfl (lv_at hl 1 rfl) ?_
          refine lv_isub hx hb dX3_setNext_141 ?_
          obtain ⟨u114, eu114⟩ : ∃ y9 : (Nat → Int32) × (Nat → Bool) × (Nat → Int64) × (Nat → Int32), y9 = F_X3_stepFromZero vso vmi vco vex n112 ((vex i1) - n109) := ⟨_, rfl⟩
          have hu := hu _ eu114
          refine x_V (As := [.long n112, .int ((vex i1) - n109)]) (rest := []) hCF (c_X3_stepFromZero l D cR cI cJ cZ t0 ax ar ao ad vrd vtr vsd vrn vom voh vol vop voe vow vok vos vso vmi vco vex n112 ((vex i1) - n109) u114 eu114) (x_cwV 2 hts (inW_5 _ (List.mem_of_getElem? (i := 30) rfl)) (inW_5 _ (List.mem_of_getElem? (i := 31) rfl)) (inW_5 _ (List.mem_of_getElem? (i := 32) rfl)) (inW_1 _ (List.mem_of_getElem? (i := 25) rfl)) (inW_5 _ (List.mem_of_getElem? (i := 33) rfl)) rfl rfl (by decide +kernel) ⟨Nat.le_of_ble_eq_true rfl, Nat.le_of_ble_eq_true rfl⟩) hK hP hD hS hA hSt 0 rfl rfl rfl hl.1 rfl (Nat.le_of_ble_eq_true rfl) dX3_setNext_142 ⟨Nat.le_of_ble_eq_true rfl, Nat.le_of_ble_eq_true rfl⟩ (fun H locs hP hD hS => ?_)
          show W p l e _ s m args below meth c H locs 0 0 Q (F0 m 145 ls [])
          have e9 := Eq.symm hu; subst e9
          exact x_vret hx hb hr hlocks hQ hK hP hD hS rfl dX3_setNext_145
        · rw [if_pos c_113] at hu
          refine lv_aload_n hx hb dX3_setNext_120 rfl (lv_at hl 2 rfl) ?_
          refine lv_lload_n hx hb dX3_setNext_121 rfl (lv_at hl 0 rfl) ?_
          refine lv_aload_n hx hb dX3_setNext_122 rfl (lv_at hl 3 rfl) ?_
          refine g_ex (i := i1) hx hb hts hi0 hown hK hP hb1 (hts (.fieldLink RX3 85 "DecimalWords$Datum" "exponent" "I") (inW_5 _ (List.mem_of_getElem? (i := 17) rfl))) dX3_setNext_123 ?_
          refine lv_iload_n hx hb dX3_setNext_126 rfl (lv_at hl 1 rfl) ?_
          refine lv_isub hx hb dX3_setNext_127 ?_
          obtain ⟨u116, eu116⟩ : ∃ y9 : (Nat → Int32) × (Nat → Bool) × (Nat → Int64) × (Nat → Int32), y9 = F_X3_stepToZero vso vmi vco vex n112 ((vex i1) - n109) := ⟨_, rfl⟩
          have hu := hu _ eu116
          refine x_V (As := [.long n112, .int ((vex i1) - n109)]) (rest := []) hCF (c_X3_stepToZero l D cR cI cJ cZ t0 ax ar ao ad vrd vtr vsd vrn vom voh vol vop voe vow vok vos vso vmi vco vex n112 ((vex i1) - n109) u116 eu116) (x_cwV 2 hts (inW_5 _ (List.mem_of_getElem? (i := 25) rfl)) (inW_5 _ (List.mem_of_getElem? (i := 26) rfl)) (inW_5 _ (List.mem_of_getElem? (i := 27) rfl)) (inW_1 _ (List.mem_of_getElem? (i := 25) rfl)) (inW_5 _ (List.mem_of_getElem? (i := 28) rfl)) rfl rfl (by decide +kernel) ⟨Nat.le_of_ble_eq_true rfl, Nat.le_of_ble_eq_true rfl⟩) hK hP hD hS hA hSt 0 rfl rfl rfl hl.1 rfl (Nat.le_of_ble_eq_true rfl) dX3_setNext_128 ⟨Nat.le_of_ble_eq_true rfl, Nat.le_of_ble_eq_true rfl⟩ (fun H locs hP hD hS => ?_)
          show W p l e _ s m args below meth c H locs 0 0 Q (F0 m 131 ls [])
          refine lv_goto (tgt := 145) hx hb dX3_setNext_131 (by decide) ?_
          have e9 := Eq.symm hu; subst e9
          exact x_vret hx hb hr hlocks hQ hK hP hD hS rfl dX3_setNext_145
      · rw [if_pos c_106] at hu
        refine lv_aload_n hx hb dX3_setNext_66 rfl (lv_at hl 0 rfl) ?_
        refine va_get (D := D) (ci := 4) (v := .ref (ad 8)) (C := RX3) (T := TX3) (N := 7) hx hb hts hi3 hown hK hP 0 rfl rfl 1 (by decide) (hts (.fieldLink RX3 16 "DecimalWords" "result" "LDecimalWords$Datum;") (inW_4 _ (List.mem_of_getElem? (i := 18) rfl))) (fun _ h9 => h9) rfl dX3_setNext_67 ?_
        refine lv_iconst (v := 0) hx hb dX3_setNext_70 (by decide) ?_
        refine lv_lconst (v := 1) hx hb dX3_setNext_71 (by decide) ?_
        refine lv_sipush (v := (-398)) hx hb dX3_setNext_72 (by decide) ?_
        obtain ⟨u118, eu118⟩ : ∃ y9 : (Nat → Int32) × (Nat → Bool) × (Nat → Int64) × (Nat → Int32), y9 = F_X0_setFinite vso vmi vco vex 8 false (1 : Int64) (-398 : Int32) := ⟨_, rfl⟩
        have hu := hu _ eu118
        refine x_V (As := [.int (bI false), .long 1, .int (-398)]) (rest := []) hCF (c_X0_setFinite l D cR cI cJ cZ t0 ax ar ao ad vrd vtr vsd vrn vom voh vol vop voe vow vok vos vso vmi vco vex 8 false (1 : Int64) (-398 : Int32) u118 eu118 (by decide)) (x_cwV 3 hts (inW_4 _ (List.mem_of_getElem? (i := 37) rfl)) (inW_4 _ (List.mem_of_getElem? (i := 5) rfl)) (inW_4 _ (List.mem_of_getElem? (i := 6) rfl)) (inW_1 _ (List.mem_of_getElem? (i := 16) rfl)) (inW_1 _ (List.mem_of_getElem? (i := 3) rfl)) rfl rfl (by decide +kernel) ⟨Nat.le_of_ble_eq_true rfl, Nat.le_of_ble_eq_true rfl⟩) hK hP hD hS hA hSt (3 + 8) (xw_dat (by decide)) rfl rfl hl.1 rfl (Nat.le_of_ble_eq_true rfl) dX3_setNext_75 ⟨Nat.le_of_ble_eq_true rfl, Nat.le_of_ble_eq_true rfl⟩ (fun H locs hP hD hS => ?_)
        show W p l e _ s m args below meth c H locs 0 0 Q (F0 m 78 ls [])
        refine lv_goto (tgt := 145) hx hb dX3_setNext_78 (by decide) ?_
        have e9 := Eq.symm hu; subst e9
        exact x_vret hx hb hr hlocks hQ hK hP hD hS rfl dX3_setNext_145
    · rw [if_pos c_104] at hu
      refine lv_aload_n hx hb dX3_setNext_16 rfl (lv_at hl 1 rfl) ?_
      refine g_mi (i := i1) hx hb hts hi0 hown hK hP hb1 (hts (.fieldLink RX3 77 "DecimalWords$Datum" "minus" "Z") (inW_5 _ (List.mem_of_getElem? (i := 14) rfl))) dX3_setNext_17 ?_
      refine xb_ne (tgt := 34) hx hb dX3_setNext_20 (by decide) (fun c_120 => ?_) (fun c_120 => ?_)
      · rw [if_pos c_120] at hu
        refine lv_aload_n hx hb dX3_setNext_34 rfl (lv_at hl 1 rfl) ?_
        refine g_so (i := i1) hx hb hts hi0 hown hK hP hb1 (hts (.fieldLink RX3 70 "DecimalWords$Datum" "sort" "I") (inW_5 _ (List.mem_of_getElem? (i := 9) rfl))) dX3_setNext_35 ?_
        refine lv_iconst (v := 1) hx hb dX3_setNext_38 (by decide) ?_
        refine lv_icmp_ne (tgt := 59) hx hb dX3_setNext_39 (by decide) (fun c9 => absurd c_104 c9) (fun _ => ?_)
        refine lv_aload_n hx hb dX3_setNext_42 rfl (lv_at hl 0 rfl) ?_
        refine va_get (D := D) (ci := 4) (v := .ref (ad 8)) (C := RX3) (T := TX3) (N := 7) hx hb hts hi3 hown hK hP 0 rfl rfl 1 (by decide) (hts (.fieldLink RX3 16 "DecimalWords" "result" "LDecimalWords$Datum;") (inW_4 _ (List.mem_of_getElem? (i := 18) rfl))) (fun _ h9 => h9) rfl dX3_setNext_43 ?_
        refine lv_iconst (v := 1) hx hb dX3_setNext_46 (by decide) ?_
        refine lv_ldc2 (v := 9999999999999999) hx hb hown (hts (.constantLong RX3 192 (9999999999999999)) (inW_5 _ (List.mem_of_getElem? (i := 15) rfl))) dX3_setNext_47 ?_
        refine lv_sipush (v := 369) hx hb dX3_setNext_50 (by decide) ?_
        obtain ⟨u121, eu121⟩ : ∃ y9 : (Nat → Int32) × (Nat → Bool) × (Nat → Int64) × (Nat → Int32), y9 = F_X0_setFinite vso vmi vco vex 8 true (9999999999999999 : Int64) (369 : Int32) := ⟨_, rfl⟩
        have hu := hu _ eu121
        refine x_V (As := [.int (bI true), .long 9999999999999999, .int 369]) (rest := []) hCF (c_X0_setFinite l D cR cI cJ cZ t0 ax ar ao ad vrd vtr vsd vrn vom voh vol vop voe vow vok vos vso vmi vco vex 8 true (9999999999999999 : Int64) (369 : Int32) u121 eu121 (by decide)) (x_cwV 3 hts (inW_4 _ (List.mem_of_getElem? (i := 37) rfl)) (inW_4 _ (List.mem_of_getElem? (i := 5) rfl)) (inW_4 _ (List.mem_of_getElem? (i := 6) rfl)) (inW_1 _ (List.mem_of_getElem? (i := 16) rfl)) (inW_1 _ (List.mem_of_getElem? (i := 3) rfl)) rfl rfl (by decide +kernel) ⟨Nat.le_of_ble_eq_true rfl, Nat.le_of_ble_eq_true rfl⟩) hK hP hD hS hA hSt (3 + 8) (xw_dat (by decide)) rfl rfl hl.1 rfl (Nat.le_of_ble_eq_true rfl) dX3_setNext_53 ⟨Nat.le_of_ble_eq_true rfl, Nat.le_of_ble_eq_true rfl⟩ (fun H locs hP hD hS => ?_)
        show W p l e _ s m args below meth c H locs 0 0 Q (F0 m 56 ls [])
        refine lv_goto (tgt := 145) hx hb dX3_setNext_56 (by decide) ?_
        have e9 := Eq.symm hu; subst e9
        exact x_vret hx hb hr hlocks hQ hK hP hD hS rfl dX3_setNext_145
      · rw [if_neg c_120] at hu
        refine lv_aload_n hx hb dX3_setNext_23 rfl (lv_at hl 0 rfl) ?_
        refine va_get (D := D) (ci := 4) (v := .ref (ad 8)) (C := RX3) (T := TX3) (N := 7) hx hb hts hi3 hown hK hP 0 rfl rfl 1 (by decide) (hts (.fieldLink RX3 16 "DecimalWords" "result" "LDecimalWords$Datum;") (inW_4 _ (List.mem_of_getElem? (i := 18) rfl))) (fun _ h9 => h9) rfl dX3_setNext_24 ?_
        refine lv_aload_n hx hb dX3_setNext_27 rfl (lv_at hl 1 rfl) ?_
        obtain ⟨u123, eu123⟩ : ∃ y9 : (Nat → Int32) × (Nat → Bool) × (Nat → Int64) × (Nat → Int32), y9 = F_X0_take vso vmi vco vex 8 i1 := ⟨_, rfl⟩
        have hu := hu _ eu123
        refine x_V (As := [.ref (ad i1)]) (rest := []) hCF (c_X0_take l D cR cI cJ cZ t0 ax ar ao ad vrd vtr vsd vrn vom voh vol vop voe vow vok vos vso vmi vco vex 8 i1 u123 eu123 (by decide) hb1) (x_cwV 1 hts (inW_5 _ (List.mem_of_getElem? (i := 19) rfl)) (inW_5 _ (List.mem_of_getElem? (i := 20) rfl)) (inW_5 _ (List.mem_of_getElem? (i := 21) rfl)) (inW_1 _ (List.mem_of_getElem? (i := 16) rfl)) (inW_1 _ (List.mem_of_getElem? (i := 10) rfl)) rfl rfl (by decide +kernel) ⟨Nat.le_of_ble_eq_true rfl, Nat.le_of_ble_eq_true rfl⟩) hK hP hD hS hA hSt (3 + 8) (xw_dat (by decide)) rfl rfl hl.1 rfl (Nat.le_of_ble_eq_true rfl) dX3_setNext_28 ⟨Nat.le_of_ble_eq_true rfl, Nat.le_of_ble_eq_true rfl⟩ (fun H locs hP hD hS => ?_)
        show W p l e _ s m args below meth c H locs 0 0 Q (F0 m 31 ls [])
        refine lv_goto (tgt := 145) hx hb dX3_setNext_31 (by decide) ?_
        have e9 := Eq.symm hu; subst e9
        exact x_vret hx hb hr hlocks hQ hK hP hD hS rfl dX3_setNext_145

def Z_X3_roundedKept_J_126 (vos : Int32) (p0 : Bool) : Bool := (if vos = 0 then false else (if p0 = true then true else false))
def RZ_X3_roundedKept_J_126 (vos : Int32) (p0 : Bool) (u9 : Bool) : Prop := (if vos = 0 then u9 = false else (if p0 = true then u9 = true else u9 = false))
theorem rZ_X3_roundedKept_J_126 (vos : Int32) (p0 : Bool) {u9 : Bool} (hu : u9 = Z_X3_roundedKept_J_126 vos p0) : RZ_X3_roundedKept_J_126 vos p0 u9 := by
  unfold RZ_X3_roundedKept_J_126
  refine ite_P (fun c_122 => ?_) (fun c_122 => ?_)
  · have hu := hu.trans (if_pos c_122)
    exact hu
  · have hu := hu.trans (if_neg c_122)
    refine ite_P (fun c_123 => ?_) (fun c_123 => ?_)
    · have hu := hu.trans (if_pos c_123)
      exact hu
    · have hu := hu.trans (if_neg c_123)
      exact hu
def Z_X3_roundedKept_J_121 (vos : Int32) (p0 : Bool) : Bool := (if vos = 0 then false else (if p0 = true then false else true))
def RZ_X3_roundedKept_J_121 (vos : Int32) (p0 : Bool) (u9 : Bool) : Prop := (if vos = 0 then u9 = false else (if p0 = true then u9 = false else u9 = true))
theorem rZ_X3_roundedKept_J_121 (vos : Int32) (p0 : Bool) {u9 : Bool} (hu : u9 = Z_X3_roundedKept_J_121 vos p0) : RZ_X3_roundedKept_J_121 vos p0 u9 := by
  unfold RZ_X3_roundedKept_J_121
  refine ite_P (fun c_117 => ?_) (fun c_117 => ?_)
  · have hu := hu.trans (if_pos c_117)
    exact hu
  · have hu := hu.trans (if_neg c_117)
    refine ite_P (fun c_118 => ?_) (fun c_118 => ?_)
    · have hu := hu.trans (if_pos c_118)
      exact hu
    · have hu := hu.trans (if_neg c_118)
      exact hu
def Z_X3_roundedKept_J_116 (vos : Int32) : Bool := (if vos = 2 then true else (if vos = 3 then true else false))
def RZ_X3_roundedKept_J_116 (vos : Int32) (u9 : Bool) : Prop := (if vos = 2 then u9 = true else (if vos = 3 then u9 = true else u9 = false))
theorem rZ_X3_roundedKept_J_116 (vos : Int32) {u9 : Bool} (hu : u9 = Z_X3_roundedKept_J_116 vos) : RZ_X3_roundedKept_J_116 vos u9 := by
  unfold RZ_X3_roundedKept_J_116
  refine ite_P (fun c_112 => ?_) (fun c_112 => ?_)
  · have hu := hu.trans (if_pos c_112)
    exact hu
  · have hu := hu.trans (if_neg c_112)
    refine ite_P (fun c_113 => ?_) (fun c_113 => ?_)
    · have hu := hu.trans (if_pos c_113)
      exact hu
    · have hu := hu.trans (if_neg c_113)
      exact hu
def Z_X3_roundedKept_J_111 (vok : Int64) (vos : Int32) : Bool := (if vos = 3 then true else (if vos = 2 then (if jremL vok 2 = 0 then false else true) else false))
def RZ_X3_roundedKept_J_111 (vok : Int64) (vos : Int32) (u9 : Bool) : Prop := (if vos = 3 then u9 = true else (if vos = 2 then (if jremL vok 2 = 0 then u9 = false else u9 = true) else u9 = false))
theorem rZ_X3_roundedKept_J_111 (vok : Int64) (vos : Int32) {u9 : Bool} (hu : u9 = Z_X3_roundedKept_J_111 vok vos) : RZ_X3_roundedKept_J_111 vok vos u9 := by
  unfold RZ_X3_roundedKept_J_111
  refine ite_P (fun c_106 => ?_) (fun c_106 => ?_)
  · have hu := hu.trans (if_pos c_106)
    exact hu
  · have hu := hu.trans (if_neg c_106)
    refine ite_P (fun c_107 => ?_) (fun c_107 => ?_)
    · have hu := hu.trans (if_pos c_107)
      refine ite_P (fun c_108 => ?_) (fun c_108 => ?_)
      · have hu := hu.trans (if_pos c_108)
        exact hu
      · have hu := hu.trans (if_neg c_108)
        exact hu
    · have hu := hu.trans (if_neg c_107)
      exact hu
def Z_X3_roundedKept_J_129 (vrd : Int32) (vok : Int64) (vos : Int32) (p0 : Bool) : Bool := (if vrd = 0 then (bnd (Z_X3_roundedKept_J_111 vok vos) (fun z110 : Bool => z110)) else (if vrd = 1 then (bnd (Z_X3_roundedKept_J_116 vos) (fun z115 : Bool => z115)) else (if vrd = 2 then false else (if vrd = 3 then (bnd (Z_X3_roundedKept_J_121 vos p0) (fun z120 : Bool => z120)) else (if vrd = 4 then (bnd (Z_X3_roundedKept_J_126 vos p0) (fun z125 : Bool => z125)) else false)))))
def RZ_X3_roundedKept_J_129 (vrd : Int32) (vok : Int64) (vos : Int32) (p0 : Bool) (u9 : Bool) : Prop := (if vrd = 0 then (∀ z110 : Bool, z110 = Z_X3_roundedKept_J_111 vok vos → u9 = z110) else (if vrd = 1 then (∀ z115 : Bool, z115 = Z_X3_roundedKept_J_116 vos → u9 = z115) else (if vrd = 2 then u9 = false else (if vrd = 3 then (∀ z120 : Bool, z120 = Z_X3_roundedKept_J_121 vos p0 → u9 = z120) else (if vrd = 4 then (∀ z125 : Bool, z125 = Z_X3_roundedKept_J_126 vos p0 → u9 = z125) else u9 = false)))))
theorem rZ_X3_roundedKept_J_129 (vrd : Int32) (vok : Int64) (vos : Int32) (p0 : Bool) {u9 : Bool} (hu : u9 = Z_X3_roundedKept_J_129 vrd vok vos p0) : RZ_X3_roundedKept_J_129 vrd vok vos p0 u9 := by
  unfold RZ_X3_roundedKept_J_129
  refine ite_P (fun c_101 => ?_) (fun c_101 => ?_)
  · have hu := hu.trans (if_pos c_101)
    intro z110 ez110
    have hu := bnd_n hu ez110
    exact hu
  have hu := hu.trans (if_neg c_101)
  refine ite_P (fun c_102 => ?_) (fun c_102 => ?_)
  · have hu := hu.trans (if_pos c_102)
    intro z115 ez115
    have hu := bnd_n hu ez115
    exact hu
  have hu := hu.trans (if_neg c_102)
  refine ite_P (fun c_103 => ?_) (fun c_103 => ?_)
  · have hu := hu.trans (if_pos c_103)
    exact hu
  have hu := hu.trans (if_neg c_103)
  refine ite_P (fun c_104 => ?_) (fun c_104 => ?_)
  · have hu := hu.trans (if_pos c_104)
    intro z120 ez120
    have hu := bnd_n hu ez120
    exact hu
  have hu := hu.trans (if_neg c_104)
  refine ite_P (fun c_105 => ?_) (fun c_105 => ?_)
  · have hu := hu.trans (if_pos c_105)
    intro z125 ez125
    have hu := bnd_n hu ez125
    exact hu
  have hu := hu.trans (if_neg c_105)
  exact hu
def F_X3_roundedKept (vrd : Int32) (vok : Int64) (vos : Int32) (p0 : Bool) : Int64 := (bnd (Z_X3_roundedKept_J_129 vrd vok vos p0) (fun z128 : Bool => (if z128 = true then vok + 1 else vok)))
def RF_X3_roundedKept (vrd : Int32) (vok : Int64) (vos : Int32) (p0 : Bool) (u9 : Int64) : Prop := (∀ z128 : Bool, z128 = Z_X3_roundedKept_J_129 vrd vok vos p0 → (if z128 = true then u9 = vok + 1 else u9 = vok))
theorem rF_X3_roundedKept (vrd : Int32) (vok : Int64) (vos : Int32) (p0 : Bool) {u9 : Int64} (hu : u9 = F_X3_roundedKept vrd vok vos p0) : RF_X3_roundedKept vrd vok vos p0 u9 := by
  unfold RF_X3_roundedKept
  intro z128 ez128
  have hu := bnd_n hu ez128
  refine ite_P (fun c_130 => ?_) (fun c_130 => ?_)
  · have hu := hu.trans (if_pos c_130)
    exact hu
  · have hu := hu.trans (if_neg c_130)
    exact hu
def rm_X3_roundedKept : Room := { frames := 0, cells := 0, slots := 0, locals := 0 }
set_option maxHeartbeats 4000000 in
set_option maxRecDepth 100000 in
theorem c_X3_roundedKept (l : Launch) (D : va_G) (cR cI cJ cZ : ClassId) (t0 : Nat) (ax ar ao : Nat) (ad : Nat → Nat) (vrd : Int32) (vtr : Int32) (vsd : Int32) (vrn : Int32) (vom : Bool) (voh : Int64) (vol : Int64) (vop : Int32) (voe : Bool) (vow : Int32) (vok : Int64) (vos : Int32) (vso : Nat → Int32) (vmi : Nat → Bool) (vco : Nat → Int64) (vex : Nat → Int32) (p0 : Bool) (u : Int64) (hu : u = F_X3_roundedKept vrd vok vos p0) : XM l D (xty cR cI cJ cZ) t0 yX3_roundedKept cX3_roundedKept 3 (some .long) rm_X3_roundedKept [.ref ax, .int (bI p0)] (some (.long u)) (xw cR ax ar ao ad vrd vtr vsd vrn vom voh vol vop voe vow vok vos vso vmi vco vex) (xw cR ax ar ao ad vrd vtr vsd vrn vom voh vol vop voe vow vok vos vso vmi vco vex) := by
  refine XM.of (by decide) (Nat.le_of_ble_eq_true rfl) ?_
  intro p e s m args below meth c A Q F hK hP hD hA hSt hS hQ ls hl
  obtain ⟨hx, hb, hr, hts, hown, hlocks, hml⟩ := F
  have hCF : CallFix p m c cX3_roundedKept 3 s args gW RX3 := ⟨hx, hb, hml, hown, hts⟩
  have hu := rF_X3_roundedKept vrd vok vos p0 hu
  unfold RF_X3_roundedKept at hu
  obtain ⟨H, eH⟩ : ∃ y9 : Heap, y9 = s.heap := ⟨_, rfl⟩
  obtain ⟨locs, eL⟩ : ∃ y9 : List Loc, y9 = [] := ⟨_, rfl⟩
  rw [← eL] at hS ⊢
  have hP : va_P D vwCl (xw cR ax ar ao ad vrd vtr vsd vrn vom voh vol vop voe vow vok vos vso vmi vco vex) H := by rw [eH]; exact hP
  have hS : va_S A s.heap H locs := by rw [eH]; exact hS
  suffices goal9 : W p l e rm_X3_roundedKept s m args below meth c H locs 0 0 Q (F0 m 0 ls []) from by rw [← eH]; exact goal9
  have hl : lv_has ls 3 [(0, .ref ax), (1, .int (bI p0))] := hl
  have hi1 : ∀ w ∈ wsX10, w ∈ gW := inW_X1
  have hi3 : ∀ w ∈ wsX30, w ∈ gW := inW_X3
  refine lv_aload_n hx hb dX3_roundedKept_0 rfl (lv_at hl 0 rfl) ?_
  refine va_get (D := D) (ci := 4) (v := .int vrd) (C := RX3) (T := TX3) (N := 7) hx hb hts hi3 hown hK hP 0 rfl rfl 3 (by decide) (hts (.fieldLink RX3 27 "DecimalWords" "rounding" "I") (inW_4 _ (List.mem_of_getElem? (i := 22) rfl))) (fun _ h9 => h9) rfl dX3_roundedKept_1 ?_
  have J_129 : (∀ z128 : Bool, z128 = Z_X3_roundedKept_J_129 vrd vok vos p0 → ∀ (H : Heap) (locs : List Loc), va_P D vwCl (xw cR ax ar ao ad vrd vtr vsd vrn vom voh vol vop voe vow vok vos vso vmi vco vex) H → va_D A (xw cR ax ar ao ad vrd vtr vsd vrn vom voh vol vop voe vow vok vos vso vmi vco vex) → va_S A s.heap H locs → ∀ ls : Array Slot, lv_has ls 3 [(0, .ref ax), (2, .int (bI z128))] → W p l e rm_X3_roundedKept s m args below meth c H locs 0 0 Q (F0 m 166 ls [])) := by
    intro z128 ez128 H locs hP hD hS ls hl
    have hu := hu _ ez128
    refine lv_iload_n hx hb dX3_roundedKept_166 rfl (lv_at hl 1 rfl) ?_
    refine xb_eq (tgt := 182) hx hb dX3_roundedKept_167 (by decide) (fun c_130 => ?_) (fun c_130 => ?_)
    · rw [if_neg c_130] at hu
      refine lv_aload_n hx hb dX3_roundedKept_182 rfl (lv_at hl 0 rfl) ?_
      refine va_get (D := D) (ci := 4) (v := .ref ao) (C := RX3) (T := TX3) (N := 7) hx hb hts hi3 hown hK hP 0 rfl rfl 2 (by decide) (hts (.fieldLink RX3 23 "DecimalWords" "outcome" "LDecimalWords$Outcome;") (inW_4 _ (List.mem_of_getElem? (i := 21) rfl))) (fun _ h9 => h9) rfl dX3_roundedKept_183 ?_
      refine va_get (D := D) (ci := 3) (v := .long vok) (C := RX1) (T := TX1) (N := 8) hx hb hts hi1 hown hK hP 2 rfl rfl 6 (by decide) (hts (.fieldLink RX3 245 "DecimalWords$Outcome" "kept" "J") (inW_7 _ (List.mem_of_getElem? (i := 31) rfl))) (fun _ h9 => h9) rfl dX3_roundedKept_186 ?_
      have e9 := Eq.symm hu; subst e9
      exact x_lret hx hb hr hlocks hQ hK hP hD hS rfl rfl dX3_roundedKept_189
    · rw [if_pos c_130] at hu
      refine lv_aload_n hx hb dX3_roundedKept_170 rfl (lv_at hl 0 rfl) ?_
      refine va_get (D := D) (ci := 4) (v := .ref ao) (C := RX3) (T := TX3) (N := 7) hx hb hts hi3 hown hK hP 0 rfl rfl 2 (by decide) (hts (.fieldLink RX3 23 "DecimalWords" "outcome" "LDecimalWords$Outcome;") (inW_4 _ (List.mem_of_getElem? (i := 21) rfl))) (fun _ h9 => h9) rfl dX3_roundedKept_171 ?_
      refine va_get (D := D) (ci := 3) (v := .long vok) (C := RX1) (T := TX1) (N := 8) hx hb hts hi1 hown hK hP 2 rfl rfl 6 (by decide) (hts (.fieldLink RX3 245 "DecimalWords$Outcome" "kept" "J") (inW_7 _ (List.mem_of_getElem? (i := 31) rfl))) (fun _ h9 => h9) rfl dX3_roundedKept_174 ?_
      refine lv_lconst (v := 1) hx hb dX3_roundedKept_177 (by decide) ?_
      refine lv_ladd hx hb dX3_roundedKept_178 ?_
      refine lv_goto (tgt := 189) hx hb dX3_roundedKept_179 (by decide) ?_
      have e9 := Eq.symm hu; subst e9
      exact x_lret hx hb hr hlocks hQ hK hP hD hS rfl rfl dX3_roundedKept_189
  obtain ⟨z9, ez9⟩ : ∃ y9 : Bool, y9 = Z_X3_roundedKept_J_129 vrd vok vos p0 := ⟨_, rfl⟩
  have hz := rZ_X3_roundedKept_J_129 vrd vok vos p0 ez9
  unfold RZ_X3_roundedKept_J_129 at hz
  by_cases c_101 : vrd = 0
  · rw [if_pos c_101] at hz
    refine lv_tableIn (tgt := 40) hx hb dX3_roundedKept_4 (by rw [c_101]; decide) (by rw [c_101]; decide) (by rw [c_101]; rfl) (by decide) ?_
    refine lv_aload_n hx hb dX3_roundedKept_40 rfl (lv_at hl 0 rfl) ?_
    refine va_get (D := D) (ci := 4) (v := .ref ao) (C := RX3) (T := TX3) (N := 7) hx hb hts hi3 hown hK hP 0 rfl rfl 2 (by decide) (hts (.fieldLink RX3 23 "DecimalWords" "outcome" "LDecimalWords$Outcome;") (inW_4 _ (List.mem_of_getElem? (i := 21) rfl))) (fun _ h9 => h9) rfl dX3_roundedKept_41 ?_
    refine va_get (D := D) (ci := 3) (v := .int vos) (C := RX1) (T := TX1) (N := 8) hx hb hts hi1 hown hK hP 2 rfl rfl 7 (by decide) (hts (.fieldLink RX3 177 "DecimalWords$Outcome" "rest" "I") (inW_7 _ (List.mem_of_getElem? (i := 30) rfl))) (fun _ h9 => h9) rfl dX3_roundedKept_44 ?_
    refine lv_iconst (v := 3) hx hb dX3_roundedKept_47 (by decide) ?_
    have J_111 : (∀ z110 : Bool, z110 = Z_X3_roundedKept_J_111 vok vos → ∀ (H : Heap) (locs : List Loc), va_P D vwCl (xw cR ax ar ao ad vrd vtr vsd vrn vom voh vol vop voe vow vok vos vso vmi vco vex) H → va_D A (xw cR ax ar ao ad vrd vtr vsd vrn vom voh vol vop voe vow vok vos vso vmi vco vex) → va_S A s.heap H locs → ∀ ls : Array Slot, lv_has ls 3 [(0, .ref ax)] → W p l e rm_X3_roundedKept s m args below meth c H locs 0 0 Q (F0 m 83 ls [.int (bI z110)])) := by
      intro z110 ez110 H locs hP hD hS ls hl
      have hz := hz _ ez110
      refine lv_istore_n (lv' := [(2, .int (bI z110)), (0, .ref ax)]) hx hb dX3_roundedKept_83 rfl hl (by decide) rfl (fun ls hl => ?_)
      refine lv_goto (tgt := 166) hx hb dX3_roundedKept_84 (by decide) ?_
      have e9 := Eq.symm hz; subst e9
      exact J_129 _ ez9 H locs hP hD hS ls (lv_sub hl [1, 0] rfl)
    obtain ⟨z9, ez9⟩ : ∃ y9 : Bool, y9 = Z_X3_roundedKept_J_111 vok vos := ⟨_, rfl⟩
    have hz := rZ_X3_roundedKept_J_111 vok vos ez9
    unfold RZ_X3_roundedKept_J_111 at hz
    refine lv_icmp_eq (tgt := 78) hx hb dX3_roundedKept_48 (by decide) (fun c_106 => ?_) (fun c_106 => ?_)
    · rw [if_pos c_106] at hz
      refine lv_iconst (v := 1) hx hb dX3_roundedKept_78 (by decide) ?_
      refine lv_goto (tgt := 83) hx hb dX3_roundedKept_79 (by decide) ?_
      have e9 := Eq.symm hz; subst e9
      exact J_111 _ ez9 H locs hP hD hS ls (lv_sub hl [0] rfl)
    · rw [if_neg c_106] at hz
      refine lv_aload_n hx hb dX3_roundedKept_51 rfl (lv_at hl 0 rfl) ?_
      refine va_get (D := D) (ci := 4) (v := .ref ao) (C := RX3) (T := TX3) (N := 7) hx hb hts hi3 hown hK hP 0 rfl rfl 2 (by decide) (hts (.fieldLink RX3 23 "DecimalWords" "outcome" "LDecimalWords$Outcome;") (inW_4 _ (List.mem_of_getElem? (i := 21) rfl))) (fun _ h9 => h9) rfl dX3_roundedKept_52 ?_
      refine va_get (D := D) (ci := 3) (v := .int vos) (C := RX1) (T := TX1) (N := 8) hx hb hts hi1 hown hK hP 2 rfl rfl 7 (by decide) (hts (.fieldLink RX3 177 "DecimalWords$Outcome" "rest" "I") (inW_7 _ (List.mem_of_getElem? (i := 30) rfl))) (fun _ h9 => h9) rfl dX3_roundedKept_55 ?_
      refine lv_iconst (v := 2) hx hb dX3_roundedKept_58 (by decide) ?_
      refine lv_icmp_ne (tgt := 82) hx hb dX3_roundedKept_59 (by decide) (fun c_107 => ?_) (fun c_107 => ?_)
      · rw [if_neg c_107] at hz
        refine lv_iconst (v := 0) hx hb dX3_roundedKept_82 (by decide) ?_
        have e9 := Eq.symm hz; subst e9
        exact J_111 _ ez9 H locs hP hD hS ls (lv_sub hl [0] rfl)
      · rw [if_pos c_107] at hz
        refine lv_aload_n hx hb dX3_roundedKept_62 rfl (lv_at hl 0 rfl) ?_
        refine va_get (D := D) (ci := 4) (v := .ref ao) (C := RX3) (T := TX3) (N := 7) hx hb hts hi3 hown hK hP 0 rfl rfl 2 (by decide) (hts (.fieldLink RX3 23 "DecimalWords" "outcome" "LDecimalWords$Outcome;") (inW_4 _ (List.mem_of_getElem? (i := 21) rfl))) (fun _ h9 => h9) rfl dX3_roundedKept_63 ?_
        refine va_get (D := D) (ci := 3) (v := .long vok) (C := RX1) (T := TX1) (N := 8) hx hb hts hi1 hown hK hP 2 rfl rfl 6 (by decide) (hts (.fieldLink RX3 245 "DecimalWords$Outcome" "kept" "J") (inW_7 _ (List.mem_of_getElem? (i := 31) rfl))) (fun _ h9 => h9) rfl dX3_roundedKept_66 ?_
        refine lv_ldc2 (v := 2) hx hb hown (hts (.constantLong RX3 248 (2)) (inW_7 _ (List.mem_of_getElem? (i := 32) rfl))) dX3_roundedKept_69 ?_
        refine x_lrem hx hb dX3_roundedKept_72 (by decide) ?_
        refine lv_lconst (v := 0) hx hb dX3_roundedKept_73 (by decide) ?_
        refine xl_eq (tgt := 82) hx hb dX3_roundedKept_74 dX3_roundedKept_75 (by decide) (fun c_108 => ?_) (fun c_108 => ?_)
        · rw [if_pos c_108] at hz
          refine lv_iconst (v := 0) hx hb dX3_roundedKept_82 (by decide) ?_
          have e9 := Eq.symm hz; subst e9
          exact J_111 _ ez9 H locs hP hD hS ls (lv_sub hl [0] rfl)
        · rw [if_neg c_108] at hz
          refine lv_iconst (v := 1) hx hb dX3_roundedKept_78 (by decide) ?_
          refine lv_goto (tgt := 83) hx hb dX3_roundedKept_79 (by decide) ?_
          have e9 := Eq.symm hz; subst e9
          exact J_111 _ ez9 H locs hP hD hS ls (lv_sub hl [0] rfl)
  rw [if_neg c_101] at hz
  by_cases c_102 : vrd = 1
  · rw [if_pos c_102] at hz
    refine lv_tableIn (tgt := 87) hx hb dX3_roundedKept_4 (by rw [c_102]; decide) (by rw [c_102]; decide) (by rw [c_102]; rfl) (by decide) ?_
    refine lv_aload_n hx hb dX3_roundedKept_87 rfl (lv_at hl 0 rfl) ?_
    refine va_get (D := D) (ci := 4) (v := .ref ao) (C := RX3) (T := TX3) (N := 7) hx hb hts hi3 hown hK hP 0 rfl rfl 2 (by decide) (hts (.fieldLink RX3 23 "DecimalWords" "outcome" "LDecimalWords$Outcome;") (inW_4 _ (List.mem_of_getElem? (i := 21) rfl))) (fun _ h9 => h9) rfl dX3_roundedKept_88 ?_
    refine va_get (D := D) (ci := 3) (v := .int vos) (C := RX1) (T := TX1) (N := 8) hx hb hts hi1 hown hK hP 2 rfl rfl 7 (by decide) (hts (.fieldLink RX3 177 "DecimalWords$Outcome" "rest" "I") (inW_7 _ (List.mem_of_getElem? (i := 30) rfl))) (fun _ h9 => h9) rfl dX3_roundedKept_91 ?_
    refine lv_iconst (v := 2) hx hb dX3_roundedKept_94 (by decide) ?_
    have J_116 : (∀ z115 : Bool, z115 = Z_X3_roundedKept_J_116 vos → ∀ (H : Heap) (locs : List Loc), va_P D vwCl (xw cR ax ar ao ad vrd vtr vsd vrn vom voh vol vop voe vow vok vos vso vmi vco vex) H → va_D A (xw cR ax ar ao ad vrd vtr vsd vrn vom voh vol vop voe vow vok vos vso vmi vco vex) → va_S A s.heap H locs → ∀ ls : Array Slot, lv_has ls 3 [(0, .ref ax)] → W p l e rm_X3_roundedKept s m args below meth c H locs 0 0 Q (F0 m 114 ls [.int (bI z115)])) := by
      intro z115 ez115 H locs hP hD hS ls hl
      have hz := hz _ ez115
      refine lv_istore_n (lv' := [(2, .int (bI z115)), (0, .ref ax)]) hx hb dX3_roundedKept_114 rfl hl (by decide) rfl (fun ls hl => ?_)
      refine lv_goto (tgt := 166) hx hb dX3_roundedKept_115 (by decide) ?_
      have e9 := Eq.symm hz; subst e9
      exact J_129 _ ez9 H locs hP hD hS ls (lv_sub hl [1, 0] rfl)
    obtain ⟨z9, ez9⟩ : ∃ y9 : Bool, y9 = Z_X3_roundedKept_J_116 vos := ⟨_, rfl⟩
    have hz := rZ_X3_roundedKept_J_116 vos ez9
    unfold RZ_X3_roundedKept_J_116 at hz
    refine lv_icmp_eq (tgt := 109) hx hb dX3_roundedKept_95 (by decide) (fun c_112 => ?_) (fun c_112 => ?_)
    · rw [if_pos c_112] at hz
      refine lv_iconst (v := 1) hx hb dX3_roundedKept_109 (by decide) ?_
      refine lv_goto (tgt := 114) hx hb dX3_roundedKept_110 (by decide) ?_
      have e9 := Eq.symm hz; subst e9
      exact J_116 _ ez9 H locs hP hD hS ls (lv_sub hl [0] rfl)
    · rw [if_neg c_112] at hz
      refine lv_aload_n hx hb dX3_roundedKept_98 rfl (lv_at hl 0 rfl) ?_
      refine va_get (D := D) (ci := 4) (v := .ref ao) (C := RX3) (T := TX3) (N := 7) hx hb hts hi3 hown hK hP 0 rfl rfl 2 (by decide) (hts (.fieldLink RX3 23 "DecimalWords" "outcome" "LDecimalWords$Outcome;") (inW_4 _ (List.mem_of_getElem? (i := 21) rfl))) (fun _ h9 => h9) rfl dX3_roundedKept_99 ?_
      refine va_get (D := D) (ci := 3) (v := .int vos) (C := RX1) (T := TX1) (N := 8) hx hb hts hi1 hown hK hP 2 rfl rfl 7 (by decide) (hts (.fieldLink RX3 177 "DecimalWords$Outcome" "rest" "I") (inW_7 _ (List.mem_of_getElem? (i := 30) rfl))) (fun _ h9 => h9) rfl dX3_roundedKept_102 ?_
      refine lv_iconst (v := 3) hx hb dX3_roundedKept_105 (by decide) ?_
      refine lv_icmp_ne (tgt := 113) hx hb dX3_roundedKept_106 (by decide) (fun c_113 => ?_) (fun c_113 => ?_)
      · rw [if_neg c_113] at hz
        refine lv_iconst (v := 0) hx hb dX3_roundedKept_113 (by decide) ?_
        have e9 := Eq.symm hz; subst e9
        exact J_116 _ ez9 H locs hP hD hS ls (lv_sub hl [0] rfl)
      · rw [if_pos c_113] at hz
        refine lv_iconst (v := 1) hx hb dX3_roundedKept_109 (by decide) ?_
        refine lv_goto (tgt := 114) hx hb dX3_roundedKept_110 (by decide) ?_
        have e9 := Eq.symm hz; subst e9
        exact J_116 _ ez9 H locs hP hD hS ls (lv_sub hl [0] rfl)
  rw [if_neg c_102] at hz
  by_cases c_103 : vrd = 2
  · rw [if_pos c_103] at hz
    refine lv_tableIn (tgt := 164) hx hb dX3_roundedKept_4 (by rw [c_103]; decide) (by rw [c_103]; decide) (by rw [c_103]; rfl) (by decide) ?_
    refine lv_iconst (v := 0) hx hb dX3_roundedKept_164 (by decide) ?_
    refine lv_istore_n (lv' := [(2, .int 0), (0, .ref ax), (1, .int (bI p0))]) hx hb dX3_roundedKept_165 rfl hl (by decide) rfl (fun ls hl => ?_)
    have e9 := Eq.symm hz; subst e9
    exact J_129 _ ez9 H locs hP hD hS ls (lv_sub hl [1, 0] rfl)
  rw [if_neg c_103] at hz
  by_cases c_104 : vrd = 3
  · rw [if_pos c_104] at hz
    refine lv_tableIn (tgt := 118) hx hb dX3_roundedKept_4 (by rw [c_104]; decide) (by rw [c_104]; decide) (by rw [c_104]; rfl) (by decide) ?_
    refine lv_aload_n hx hb dX3_roundedKept_118 rfl (lv_at hl 0 rfl) ?_
    refine va_get (D := D) (ci := 4) (v := .ref ao) (C := RX3) (T := TX3) (N := 7) hx hb hts hi3 hown hK hP 0 rfl rfl 2 (by decide) (hts (.fieldLink RX3 23 "DecimalWords" "outcome" "LDecimalWords$Outcome;") (inW_4 _ (List.mem_of_getElem? (i := 21) rfl))) (fun _ h9 => h9) rfl dX3_roundedKept_119 ?_
    refine va_get (D := D) (ci := 3) (v := .int vos) (C := RX1) (T := TX1) (N := 8) hx hb hts hi1 hown hK hP 2 rfl rfl 7 (by decide) (hts (.fieldLink RX3 177 "DecimalWords$Outcome" "rest" "I") (inW_7 _ (List.mem_of_getElem? (i := 30) rfl))) (fun _ h9 => h9) rfl dX3_roundedKept_122 ?_
    have J_121 : (∀ z120 : Bool, z120 = Z_X3_roundedKept_J_121 vos p0 → ∀ (H : Heap) (locs : List Loc), va_P D vwCl (xw cR ax ar ao ad vrd vtr vsd vrn vom voh vol vop voe vow vok vos vso vmi vco vex) H → va_D A (xw cR ax ar ao ad vrd vtr vsd vrn vom voh vol vop voe vow vok vos vso vmi vco vex) → va_S A s.heap H locs → ∀ ls : Array Slot, lv_has ls 3 [(0, .ref ax)] → W p l e rm_X3_roundedKept s m args below meth c H locs 0 0 Q (F0 m 137 ls [.int (bI z120)])) := by
      intro z120 ez120 H locs hP hD hS ls hl
      have hz := hz _ ez120
      refine lv_istore_n (lv' := [(2, .int (bI z120)), (0, .ref ax)]) hx hb dX3_roundedKept_137 rfl hl (by decide) rfl (fun ls hl => ?_)
      refine lv_goto (tgt := 166) hx hb dX3_roundedKept_138 (by decide) ?_
      have e9 := Eq.symm hz; subst e9
      exact J_129 _ ez9 H locs hP hD hS ls (lv_sub hl [1, 0] rfl)
    obtain ⟨z9, ez9⟩ : ∃ y9 : Bool, y9 = Z_X3_roundedKept_J_121 vos p0 := ⟨_, rfl⟩
    have hz := rZ_X3_roundedKept_J_121 vos p0 ez9
    unfold RZ_X3_roundedKept_J_121 at hz
    refine lv_if_eq (tgt := 136) hx hb dX3_roundedKept_125 (by decide) (fun c_117 => ?_) (fun c_117 => ?_)
    · rw [if_pos c_117] at hz
      refine lv_iconst (v := 0) hx hb dX3_roundedKept_136 (by decide) ?_
      have e9 := Eq.symm hz; subst e9
      exact J_121 _ ez9 H locs hP hD hS ls (lv_sub hl [0] rfl)
    · rw [if_neg c_117] at hz
      refine lv_iload_n hx hb dX3_roundedKept_128 rfl (lv_at hl 1 rfl) ?_
      refine xb_ne (tgt := 136) hx hb dX3_roundedKept_129 (by decide) (fun c_118 => ?_) (fun c_118 => ?_)
      · rw [if_pos c_118] at hz
        refine lv_iconst (v := 0) hx hb dX3_roundedKept_136 (by decide) ?_
        have e9 := Eq.symm hz; subst e9
        exact J_121 _ ez9 H locs hP hD hS ls (lv_sub hl [0] rfl)
      · rw [if_neg c_118] at hz
        refine lv_iconst (v := 1) hx hb dX3_roundedKept_132 (by decide) ?_
        refine lv_goto (tgt := 137) hx hb dX3_roundedKept_133 (by decide) ?_
        have e9 := Eq.symm hz; subst e9
        exact J_121 _ ez9 H locs hP hD hS ls (lv_sub hl [0] rfl)
  rw [if_neg c_104] at hz
  by_cases c_105 : vrd = 4
  · rw [if_pos c_105] at hz
    refine lv_tableIn (tgt := 141) hx hb dX3_roundedKept_4 (by rw [c_105]; decide) (by rw [c_105]; decide) (by rw [c_105]; rfl) (by decide) ?_
    refine lv_aload_n hx hb dX3_roundedKept_141 rfl (lv_at hl 0 rfl) ?_
    refine va_get (D := D) (ci := 4) (v := .ref ao) (C := RX3) (T := TX3) (N := 7) hx hb hts hi3 hown hK hP 0 rfl rfl 2 (by decide) (hts (.fieldLink RX3 23 "DecimalWords" "outcome" "LDecimalWords$Outcome;") (inW_4 _ (List.mem_of_getElem? (i := 21) rfl))) (fun _ h9 => h9) rfl dX3_roundedKept_142 ?_
    refine va_get (D := D) (ci := 3) (v := .int vos) (C := RX1) (T := TX1) (N := 8) hx hb hts hi1 hown hK hP 2 rfl rfl 7 (by decide) (hts (.fieldLink RX3 177 "DecimalWords$Outcome" "rest" "I") (inW_7 _ (List.mem_of_getElem? (i := 30) rfl))) (fun _ h9 => h9) rfl dX3_roundedKept_145 ?_
    have J_126 : (∀ z125 : Bool, z125 = Z_X3_roundedKept_J_126 vos p0 → ∀ (H : Heap) (locs : List Loc), va_P D vwCl (xw cR ax ar ao ad vrd vtr vsd vrn vom voh vol vop voe vow vok vos vso vmi vco vex) H → va_D A (xw cR ax ar ao ad vrd vtr vsd vrn vom voh vol vop voe vow vok vos vso vmi vco vex) → va_S A s.heap H locs → ∀ ls : Array Slot, lv_has ls 3 [(0, .ref ax)] → W p l e rm_X3_roundedKept s m args below meth c H locs 0 0 Q (F0 m 160 ls [.int (bI z125)])) := by
      intro z125 ez125 H locs hP hD hS ls hl
      have hz := hz _ ez125
      refine lv_istore_n (lv' := [(2, .int (bI z125)), (0, .ref ax)]) hx hb dX3_roundedKept_160 rfl hl (by decide) rfl (fun ls hl => ?_)
      refine lv_goto (tgt := 166) hx hb dX3_roundedKept_161 (by decide) ?_
      have e9 := Eq.symm hz; subst e9
      exact J_129 _ ez9 H locs hP hD hS ls (lv_sub hl [1, 0] rfl)
    obtain ⟨z9, ez9⟩ : ∃ y9 : Bool, y9 = Z_X3_roundedKept_J_126 vos p0 := ⟨_, rfl⟩
    have hz := rZ_X3_roundedKept_J_126 vos p0 ez9
    unfold RZ_X3_roundedKept_J_126 at hz
    refine lv_if_eq (tgt := 159) hx hb dX3_roundedKept_148 (by decide) (fun c_122 => ?_) (fun c_122 => ?_)
    · rw [if_pos c_122] at hz
      refine lv_iconst (v := 0) hx hb dX3_roundedKept_159 (by decide) ?_
      have e9 := Eq.symm hz; subst e9
      exact J_126 _ ez9 H locs hP hD hS ls (lv_sub hl [0] rfl)
    · rw [if_neg c_122] at hz
      refine lv_iload_n hx hb dX3_roundedKept_151 rfl (lv_at hl 1 rfl) ?_
      refine xb_eq (tgt := 159) hx hb dX3_roundedKept_152 (by decide) (fun c_123 => ?_) (fun c_123 => ?_)
      · rw [if_neg c_123] at hz
        refine lv_iconst (v := 0) hx hb dX3_roundedKept_159 (by decide) ?_
        have e9 := Eq.symm hz; subst e9
        exact J_126 _ ez9 H locs hP hD hS ls (lv_sub hl [0] rfl)
      · rw [if_pos c_123] at hz
        refine lv_iconst (v := 1) hx hb dX3_roundedKept_155 (by decide) ?_
        refine lv_goto (tgt := 160) hx hb dX3_roundedKept_156 (by decide) ?_
        have e9 := Eq.symm hz; subst e9
        exact J_126 _ ez9 H locs hP hD hS ls (lv_sub hl [0] rfl)
  rw [if_neg c_105] at hz
  refine lv_tableOut (tgt := 164) hx hb dX3_roundedKept_4 (by have kc_101 := lv_neT c_101 (a := 0) (by decide); have kc_102 := lv_neT c_102 (a := 1) (by decide); have kc_103 := lv_neT c_103 (a := 2) (by decide); have kc_104 := lv_neT c_104 (a := 3) (by decide); have kc_105 := lv_neT c_105 (a := 4) (by decide); omega) (by decide) ?_
  refine lv_iconst (v := 0) hx hb dX3_roundedKept_164 (by decide) ?_
  refine lv_istore_n (lv' := [(2, .int 0), (0, .ref ax), (1, .int (bI p0))]) hx hb dX3_roundedKept_165 rfl hl (by decide) rfl (fun ls hl => ?_)
  have e9 := Eq.symm hz; subst e9
  exact J_129 _ ez9 H locs hP hD hS ls (lv_sub hl [1, 0] rfl)

def Z_X3_setTooGreat_J_111 (vrd : Int32) (vom : Bool) : Bool := (if vrd = 2 then true else (if vrd = 3 then (if vom = true then true else (if vrd = 4 then true else false)) else (if vrd = 4 then (if vom = true then false else true) else false)))
def RZ_X3_setTooGreat_J_111 (vrd : Int32) (vom : Bool) (u9 : Bool) : Prop := (if vrd = 2 then u9 = true else (if vrd = 3 then (if vom = true then u9 = true else (if vrd = 4 then u9 = true else u9 = false)) else (if vrd = 4 then (if vom = true then u9 = false else u9 = true) else u9 = false)))
theorem rZ_X3_setTooGreat_J_111 (vrd : Int32) (vom : Bool) {u9 : Bool} (hu : u9 = Z_X3_setTooGreat_J_111 vrd vom) : RZ_X3_setTooGreat_J_111 vrd vom u9 := by
  unfold RZ_X3_setTooGreat_J_111
  refine ite_P (fun c_103 => ?_) (fun c_103 => ?_)
  · have hu := hu.trans (if_pos c_103)
    exact hu
  · have hu := hu.trans (if_neg c_103)
    refine ite_P (fun c_104 => ?_) (fun c_104 => ?_)
    · have hu := hu.trans (if_pos c_104)
      refine ite_P (fun c_107 => ?_) (fun c_107 => ?_)
      · have hu := hu.trans (if_pos c_107)
        exact hu
      · have hu := hu.trans (if_neg c_107)
        refine ite_P (fun c_108 => ?_) (fun c_108 => ?_)
        · have hu := hu.trans (if_pos c_108)
          exact hu
        · have hu := hu.trans (if_neg c_108)
          exact hu
    · have hu := hu.trans (if_neg c_104)
      refine ite_P (fun c_105 => ?_) (fun c_105 => ?_)
      · have hu := hu.trans (if_pos c_105)
        refine ite_P (fun c_106 => ?_) (fun c_106 => ?_)
        · have hu := hu.trans (if_pos c_106)
          exact hu
        · have hu := hu.trans (if_neg c_106)
          exact hu
      · have hu := hu.trans (if_neg c_105)
        exact hu
def F_X3_setTooGreat (vrd : Int32) (vrn : Int32) (vom : Bool) (vso : Nat → Int32) (vmi : Nat → Bool) (vco : Nat → Int64) (vex : Nat → Int32)  : Int32 × (Nat → Int32) × (Nat → Bool) × (Nat → Int64) × (Nat → Int32) := (bnd (F_X3_raise vrn (4 : Int32)) (fun u101 : Int32 => (bnd (Z_X3_setTooGreat_J_111 vrd vom) (fun z110 : Bool => (if z110 = true then (bnd (F_X0_setFinite vso vmi vco vex 8 vom (9999999999999999 : Int64) (369 : Int32)) (fun u115 : (Nat → Int32) × (Nat → Bool) × (Nat → Int64) × (Nat → Int32) => (u101, u115.1, u115.2.1, u115.2.2.1, u115.2.2.2))) else (bnd (F_X0_setInfinity vso vmi vco vex 8 vom) (fun u113 : (Nat → Int32) × (Nat → Bool) × (Nat → Int64) × (Nat → Int32) => (u101, u113.1, u113.2.1, u113.2.2.1, u113.2.2.2))))))))
def RF_X3_setTooGreat (vrd : Int32) (vrn : Int32) (vom : Bool) (vso : Nat → Int32) (vmi : Nat → Bool) (vco : Nat → Int64) (vex : Nat → Int32)  (u9 : Int32 × (Nat → Int32) × (Nat → Bool) × (Nat → Int64) × (Nat → Int32)) : Prop := (∀ u101 : Int32, u101 = F_X3_raise vrn (4 : Int32) → (∀ z110 : Bool, z110 = Z_X3_setTooGreat_J_111 vrd vom → (if z110 = true then (∀ u115 : (Nat → Int32) × (Nat → Bool) × (Nat → Int64) × (Nat → Int32), u115 = F_X0_setFinite vso vmi vco vex 8 vom (9999999999999999 : Int64) (369 : Int32) → u9 = (u101, u115.1, u115.2.1, u115.2.2.1, u115.2.2.2)) else (∀ u113 : (Nat → Int32) × (Nat → Bool) × (Nat → Int64) × (Nat → Int32), u113 = F_X0_setInfinity vso vmi vco vex 8 vom → u9 = (u101, u113.1, u113.2.1, u113.2.2.1, u113.2.2.2)))))
theorem rF_X3_setTooGreat (vrd : Int32) (vrn : Int32) (vom : Bool) (vso : Nat → Int32) (vmi : Nat → Bool) (vco : Nat → Int64) (vex : Nat → Int32)  {u9 : Int32 × (Nat → Int32) × (Nat → Bool) × (Nat → Int64) × (Nat → Int32)} (hu : u9 = F_X3_setTooGreat vrd vrn vom vso vmi vco vex) : RF_X3_setTooGreat vrd vrn vom vso vmi vco vex u9 := by
  unfold RF_X3_setTooGreat
  intro u101 eu101
  have hu := bnd_n hu eu101
  intro z110 ez110
  have hu := bnd_n hu ez110
  refine ite_P (fun c_112 => ?_) (fun c_112 => ?_)
  · have hu := hu.trans (if_pos c_112)
    intro u115 eu115
    have hu := bnd_n hu eu115
    exact hu
  · have hu := hu.trans (if_neg c_112)
    intro u113 eu113
    have hu := bnd_n hu eu113
    exact hu
def rm_X3_setTooGreat : Room := { frames := 1, cells := 0, slots := 0, locals := 24 }
set_option maxHeartbeats 4000000 in
set_option maxRecDepth 100000 in
theorem c_X3_setTooGreat (l : Launch) (D : va_G) (cR cI cJ cZ : ClassId) (t0 : Nat) (ax ar ao : Nat) (ad : Nat → Nat) (vrd : Int32) (vtr : Int32) (vsd : Int32) (vrn : Int32) (vom : Bool) (voh : Int64) (vol : Int64) (vop : Int32) (voe : Bool) (vow : Int32) (vok : Int64) (vos : Int32) (vso : Nat → Int32) (vmi : Nat → Bool) (vco : Nat → Int64) (vex : Nat → Int32)  (u : Int32 × (Nat → Int32) × (Nat → Bool) × (Nat → Int64) × (Nat → Int32)) (hu : u = F_X3_setTooGreat vrd vrn vom vso vmi vco vex) : XM l D (xty cR cI cJ cZ) t0 yX3_setTooGreat cX3_setTooGreat 2 none rm_X3_setTooGreat [.ref ax] none (xw cR ax ar ao ad vrd vtr vsd vrn vom voh vol vop voe vow vok vos vso vmi vco vex) (xw cR ax ar ao ad vrd vtr vsd u.1 vom voh vol vop voe vow vok vos u.2.1 u.2.2.1 u.2.2.2.1 u.2.2.2.2) := by
  refine XM.of (by decide) (Nat.le_of_ble_eq_true rfl) ?_
  intro p e s m args below meth c A Q F hK hP hD hA hSt hS hQ ls hl
  obtain ⟨hx, hb, hr, hts, hown, hlocks, hml⟩ := F
  have hCF : CallFix p m c cX3_setTooGreat 2 s args gW RX3 := ⟨hx, hb, hml, hown, hts⟩
  have hu := rF_X3_setTooGreat vrd vrn vom vso vmi vco vex hu
  unfold RF_X3_setTooGreat at hu
  obtain ⟨H, eH⟩ : ∃ y9 : Heap, y9 = s.heap := ⟨_, rfl⟩
  obtain ⟨locs, eL⟩ : ∃ y9 : List Loc, y9 = [] := ⟨_, rfl⟩
  rw [← eL] at hS ⊢
  have hP : va_P D vwCl (xw cR ax ar ao ad vrd vtr vsd vrn vom voh vol vop voe vow vok vos vso vmi vco vex) H := by rw [eH]; exact hP
  have hS : va_S A s.heap H locs := by rw [eH]; exact hS
  suffices goal9 : W p l e rm_X3_setTooGreat s m args below meth c H locs 0 0 Q (F0 m 0 ls []) from by rw [← eH]; exact goal9
  have hl : lv_has ls 2 [(0, .ref ax)] := hl
  have hi1 : ∀ w ∈ wsX10, w ∈ gW := inW_X1
  have hi3 : ∀ w ∈ wsX30, w ∈ gW := inW_X3
  refine lv_aload_n hx hb dX3_setTooGreat_0 rfl (lv_at hl 0 rfl) ?_
  refine lv_iconst (v := 4) hx hb dX3_setTooGreat_1 (by decide) ?_
  obtain ⟨u101, eu101⟩ : ∃ y9 : Int32, y9 = F_X3_raise vrn (4 : Int32) := ⟨_, rfl⟩
  have hu := hu _ eu101
  refine x_V (As := [.int 4]) (rest := []) hCF (c_X3_raise l D cR cI cJ cZ t0 ax ar ao ad vrd vtr vsd vrn vom voh vol vop voe vow vok vos vso vmi vco vex (4 : Int32) u101 eu101) (x_cwV 1 hts (inW_6 _ (List.mem_of_getElem? (i := 20) rfl)) (inW_6 _ (List.mem_of_getElem? (i := 21) rfl)) (inW_6 _ (List.mem_of_getElem? (i := 22) rfl)) (inW_1 _ (List.mem_of_getElem? (i := 25) rfl)) (inW_6 _ (List.mem_of_getElem? (i := 23) rfl)) rfl rfl (by decide +kernel) ⟨Nat.le_of_ble_eq_true rfl, Nat.le_of_ble_eq_true rfl⟩) hK hP hD hS hA hSt 0 rfl rfl rfl hl.1 rfl (Nat.le_of_ble_eq_true rfl) dX3_setTooGreat_2 ⟨Nat.le_of_ble_eq_true rfl, Nat.le_of_ble_eq_true rfl⟩ (fun H locs hP hD hS => ?_)
  show W p l e _ s m args below meth c H locs 0 0 Q (F0 m 5 ls [])
  refine lv_aload_n hx hb dX3_setTooGreat_5 rfl (lv_at hl 0 rfl) ?_
  refine va_get (D := D) (ci := 4) (v := .int vrd) (C := RX3) (T := TX3) (N := 7) hx hb hts hi3 hown hK hP 0 rfl rfl 3 (by decide) (hts (.fieldLink RX3 27 "DecimalWords" "rounding" "I") (inW_4 _ (List.mem_of_getElem? (i := 22) rfl))) (fun _ h9 => h9) rfl dX3_setTooGreat_6 ?_
  refine lv_iconst (v := 2) hx hb dX3_setTooGreat_9 (by decide) ?_
  have J_111 : (∀ z110 : Bool, z110 = Z_X3_setTooGreat_J_111 vrd vom → ∀ (H : Heap) (locs : List Loc), va_P D vwCl (xw cR ax ar ao ad vrd vtr vsd u101 vom voh vol vop voe vow vok vos vso vmi vco vex) H → va_D A (xw cR ax ar ao ad vrd vtr vsd u101 vom voh vol vop voe vow vok vos vso vmi vco vex) → va_S A s.heap H locs → ∀ ls : Array Slot, lv_has ls 2 [(0, .ref ax)] → W p l e rm_X3_setTooGreat s m args below meth c H locs 0 0 Q (F0 m 54 ls [.int (bI z110)])) := by
    intro z110 ez110 H locs hP hD hS ls hl
    have hu := hu _ ez110
    refine lv_istore_n (lv' := [(1, .int (bI z110)), (0, .ref ax)]) hx hb dX3_setTooGreat_54 rfl hl (by decide) rfl (fun ls hl => ?_)
    refine lv_iload_n hx hb dX3_setTooGreat_55 rfl (lv_at hl 0 rfl) ?_
    refine xb_eq (tgt := 82) hx hb dX3_setTooGreat_56 (by decide) (fun c_112 => ?_) (fun c_112 => ?_)
    · rw [if_neg c_112] at hu
      refine lv_aload_n hx hb dX3_setTooGreat_82 rfl (lv_at hl 1 rfl) ?_
      refine va_get (D := D) (ci := 4) (v := .ref (ad 8)) (C := RX3) (T := TX3) (N := 7) hx hb hts hi3 hown hK hP 0 rfl rfl 1 (by decide) (hts (.fieldLink RX3 16 "DecimalWords" "result" "LDecimalWords$Datum;") (inW_4 _ (List.mem_of_getElem? (i := 18) rfl))) (fun _ h9 => h9) rfl dX3_setTooGreat_83 ?_
      refine lv_aload_n hx hb dX3_setTooGreat_86 rfl (lv_at hl 1 rfl) ?_
      refine va_get (D := D) (ci := 4) (v := .ref ao) (C := RX3) (T := TX3) (N := 7) hx hb hts hi3 hown hK hP 0 rfl rfl 2 (by decide) (hts (.fieldLink RX3 23 "DecimalWords" "outcome" "LDecimalWords$Outcome;") (inW_4 _ (List.mem_of_getElem? (i := 21) rfl))) (fun _ h9 => h9) rfl dX3_setTooGreat_87 ?_
      refine va_get (D := D) (ci := 3) (v := .int (bI vom)) (C := RX1) (T := TX1) (N := 8) hx hb hts hi1 hown hK hP 2 rfl rfl 0 (by decide) (hts (.fieldLink RX3 216 "DecimalWords$Outcome" "minus" "Z") (inW_6 _ (List.mem_of_getElem? (i := 39) rfl))) (fun _ h9 => h9) rfl dX3_setTooGreat_90 ?_
      obtain ⟨u113, eu113⟩ : ∃ y9 : (Nat → Int32) × (Nat → Bool) × (Nat → Int64) × (Nat → Int32), y9 = F_X0_setInfinity vso vmi vco vex 8 vom := ⟨_, rfl⟩
      have hu := hu _ eu113
      refine x_V (As := [.int (bI vom)]) (rest := []) hCF (c_X0_setInfinity l D cR cI cJ cZ t0 ax ar ao ad vrd vtr vsd u101 vom voh vol vop voe vow vok vos vso vmi vco vex 8 vom u113 eu113 (by decide)) (x_cwV 1 hts (inW_5 _ (List.mem_of_getElem? (i := 34) rfl)) (inW_3 _ (List.mem_of_getElem? (i := 24) rfl)) (inW_3 _ (List.mem_of_getElem? (i := 25) rfl)) (inW_1 _ (List.mem_of_getElem? (i := 16) rfl)) (inW_1 _ (List.mem_of_getElem? (i := 8) rfl)) rfl rfl (by decide +kernel) ⟨Nat.le_of_ble_eq_true rfl, Nat.le_of_ble_eq_true rfl⟩) hK hP hD hS hA hSt (3 + 8) (xw_dat (by decide)) rfl rfl hl.1 rfl (Nat.le_of_ble_eq_true rfl) dX3_setTooGreat_93 ⟨Nat.le_of_ble_eq_true rfl, Nat.le_of_ble_eq_true rfl⟩ (fun H locs hP hD hS => ?_)
      show W p l e _ s m args below meth c H locs 0 0 Q (F0 m 96 ls [])
      have e9 := Eq.symm hu; subst e9
      exact x_vret hx hb hr hlocks hQ hK hP hD hS rfl dX3_setTooGreat_96
    · rw [if_pos c_112] at hu
      refine lv_aload_n hx hb dX3_setTooGreat_59 rfl (lv_at hl 1 rfl) ?_
      refine va_get (D := D) (ci := 4) (v := .ref (ad 8)) (C := RX3) (T := TX3) (N := 7) hx hb hts hi3 hown hK hP 0 rfl rfl 1 (by decide) (hts (.fieldLink RX3 16 "DecimalWords" "result" "LDecimalWords$Datum;") (inW_4 _ (List.mem_of_getElem? (i := 18) rfl))) (fun _ h9 => h9) rfl dX3_setTooGreat_60 ?_
      refine lv_aload_n hx hb dX3_setTooGreat_63 rfl (lv_at hl 1 rfl) ?_
      refine va_get (D := D) (ci := 4) (v := .ref ao) (C := RX3) (T := TX3) (N := 7) hx hb hts hi3 hown hK hP 0 rfl rfl 2 (by decide) (hts (.fieldLink RX3 23 "DecimalWords" "outcome" "LDecimalWords$Outcome;") (inW_4 _ (List.mem_of_getElem? (i := 21) rfl))) (fun _ h9 => h9) rfl dX3_setTooGreat_64 ?_
      refine va_get (D := D) (ci := 3) (v := .int (bI vom)) (C := RX1) (T := TX1) (N := 8) hx hb hts hi1 hown hK hP 2 rfl rfl 0 (by decide) (hts (.fieldLink RX3 216 "DecimalWords$Outcome" "minus" "Z") (inW_6 _ (List.mem_of_getElem? (i := 39) rfl))) (fun _ h9 => h9) rfl dX3_setTooGreat_67 ?_
      refine lv_ldc2 (v := 9999999999999999) hx hb hown (hts (.constantLong RX3 192 (9999999999999999)) (inW_5 _ (List.mem_of_getElem? (i := 15) rfl))) dX3_setTooGreat_70 ?_
      refine lv_sipush (v := 369) hx hb dX3_setTooGreat_73 (by decide) ?_
      obtain ⟨u115, eu115⟩ : ∃ y9 : (Nat → Int32) × (Nat → Bool) × (Nat → Int64) × (Nat → Int32), y9 = F_X0_setFinite vso vmi vco vex 8 vom (9999999999999999 : Int64) (369 : Int32) := ⟨_, rfl⟩
      have hu := hu _ eu115
      refine x_V (As := [.int (bI vom), .long 9999999999999999, .int 369]) (rest := []) hCF (c_X0_setFinite l D cR cI cJ cZ t0 ax ar ao ad vrd vtr vsd u101 vom voh vol vop voe vow vok vos vso vmi vco vex 8 vom (9999999999999999 : Int64) (369 : Int32) u115 eu115 (by decide)) (x_cwV 3 hts (inW_4 _ (List.mem_of_getElem? (i := 37) rfl)) (inW_4 _ (List.mem_of_getElem? (i := 5) rfl)) (inW_4 _ (List.mem_of_getElem? (i := 6) rfl)) (inW_1 _ (List.mem_of_getElem? (i := 16) rfl)) (inW_1 _ (List.mem_of_getElem? (i := 3) rfl)) rfl rfl (by decide +kernel) ⟨Nat.le_of_ble_eq_true rfl, Nat.le_of_ble_eq_true rfl⟩) hK hP hD hS hA hSt (3 + 8) (xw_dat (by decide)) rfl rfl hl.1 rfl (Nat.le_of_ble_eq_true rfl) dX3_setTooGreat_76 ⟨Nat.le_of_ble_eq_true rfl, Nat.le_of_ble_eq_true rfl⟩ (fun H locs hP hD hS => ?_)
      show W p l e _ s m args below meth c H locs 0 0 Q (F0 m 79 ls [])
      refine lv_goto (tgt := 96) hx hb dX3_setTooGreat_79 (by decide) ?_
      have e9 := Eq.symm hu; subst e9
      exact x_vret hx hb hr hlocks hQ hK hP hD hS rfl dX3_setTooGreat_96
  obtain ⟨z9, ez9⟩ : ∃ y9 : Bool, y9 = Z_X3_setTooGreat_J_111 vrd vom := ⟨_, rfl⟩
  have hz := rZ_X3_setTooGreat_J_111 vrd vom ez9
  unfold RZ_X3_setTooGreat_J_111 at hz
  refine lv_icmp_eq (tgt := 49) hx hb dX3_setTooGreat_10 (by decide) (fun c_103 => ?_) (fun c_103 => ?_)
  · rw [if_pos c_103] at hz
    refine lv_iconst (v := 1) hx hb dX3_setTooGreat_49 (by decide) ?_
    refine lv_goto (tgt := 54) hx hb dX3_setTooGreat_50 (by decide) ?_
    have e9 := Eq.symm hz; subst e9
    exact J_111 _ ez9 H locs hP hD hS ls (lv_sub hl [0] rfl)
  · rw [if_neg c_103] at hz
    refine lv_aload_n hx hb dX3_setTooGreat_13 rfl (lv_at hl 0 rfl) ?_
    refine va_get (D := D) (ci := 4) (v := .int vrd) (C := RX3) (T := TX3) (N := 7) hx hb hts hi3 hown hK hP 0 rfl rfl 3 (by decide) (hts (.fieldLink RX3 27 "DecimalWords" "rounding" "I") (inW_4 _ (List.mem_of_getElem? (i := 22) rfl))) (fun _ h9 => h9) rfl dX3_setTooGreat_14 ?_
    refine lv_iconst (v := 3) hx hb dX3_setTooGreat_17 (by decide) ?_
    refine lv_icmp_ne (tgt := 31) hx hb dX3_setTooGreat_18 (by decide) (fun c_104 => ?_) (fun c_104 => ?_)
    · rw [if_neg c_104] at hz
      refine lv_aload_n hx hb dX3_setTooGreat_31 rfl (lv_at hl 0 rfl) ?_
      refine va_get (D := D) (ci := 4) (v := .int vrd) (C := RX3) (T := TX3) (N := 7) hx hb hts hi3 hown hK hP 0 rfl rfl 3 (by decide) (hts (.fieldLink RX3 27 "DecimalWords" "rounding" "I") (inW_4 _ (List.mem_of_getElem? (i := 22) rfl))) (fun _ h9 => h9) rfl dX3_setTooGreat_32 ?_
      refine lv_iconst (v := 4) hx hb dX3_setTooGreat_35 (by decide) ?_
      refine lv_icmp_ne (tgt := 53) hx hb dX3_setTooGreat_36 (by decide) (fun c_105 => ?_) (fun c_105 => ?_)
      · rw [if_neg c_105] at hz
        refine lv_iconst (v := 0) hx hb dX3_setTooGreat_53 (by decide) ?_
        have e9 := Eq.symm hz; subst e9
        exact J_111 _ ez9 H locs hP hD hS ls (lv_sub hl [0] rfl)
      · rw [if_pos c_105] at hz
        refine lv_aload_n hx hb dX3_setTooGreat_39 rfl (lv_at hl 0 rfl) ?_
        refine va_get (D := D) (ci := 4) (v := .ref ao) (C := RX3) (T := TX3) (N := 7) hx hb hts hi3 hown hK hP 0 rfl rfl 2 (by decide) (hts (.fieldLink RX3 23 "DecimalWords" "outcome" "LDecimalWords$Outcome;") (inW_4 _ (List.mem_of_getElem? (i := 21) rfl))) (fun _ h9 => h9) rfl dX3_setTooGreat_40 ?_
        refine va_get (D := D) (ci := 3) (v := .int (bI vom)) (C := RX1) (T := TX1) (N := 8) hx hb hts hi1 hown hK hP 2 rfl rfl 0 (by decide) (hts (.fieldLink RX3 216 "DecimalWords$Outcome" "minus" "Z") (inW_6 _ (List.mem_of_getElem? (i := 39) rfl))) (fun _ h9 => h9) rfl dX3_setTooGreat_43 ?_
        refine xb_ne (tgt := 53) hx hb dX3_setTooGreat_46 (by decide) (fun c_106 => ?_) (fun c_106 => ?_)
        · rw [if_pos c_106] at hz
          refine lv_iconst (v := 0) hx hb dX3_setTooGreat_53 (by decide) ?_
          have e9 := Eq.symm hz; subst e9
          exact J_111 _ ez9 H locs hP hD hS ls (lv_sub hl [0] rfl)
        · rw [if_neg c_106] at hz
          refine lv_iconst (v := 1) hx hb dX3_setTooGreat_49 (by decide) ?_
          refine lv_goto (tgt := 54) hx hb dX3_setTooGreat_50 (by decide) ?_
          have e9 := Eq.symm hz; subst e9
          exact J_111 _ ez9 H locs hP hD hS ls (lv_sub hl [0] rfl)
    · rw [if_pos c_104] at hz
      refine lv_aload_n hx hb dX3_setTooGreat_21 rfl (lv_at hl 0 rfl) ?_
      refine va_get (D := D) (ci := 4) (v := .ref ao) (C := RX3) (T := TX3) (N := 7) hx hb hts hi3 hown hK hP 0 rfl rfl 2 (by decide) (hts (.fieldLink RX3 23 "DecimalWords" "outcome" "LDecimalWords$Outcome;") (inW_4 _ (List.mem_of_getElem? (i := 21) rfl))) (fun _ h9 => h9) rfl dX3_setTooGreat_22 ?_
      refine va_get (D := D) (ci := 3) (v := .int (bI vom)) (C := RX1) (T := TX1) (N := 8) hx hb hts hi1 hown hK hP 2 rfl rfl 0 (by decide) (hts (.fieldLink RX3 216 "DecimalWords$Outcome" "minus" "Z") (inW_6 _ (List.mem_of_getElem? (i := 39) rfl))) (fun _ h9 => h9) rfl dX3_setTooGreat_25 ?_
      refine xb_ne (tgt := 49) hx hb dX3_setTooGreat_28 (by decide) (fun c_107 => ?_) (fun c_107 => ?_)
      · rw [if_pos c_107] at hz
        refine lv_iconst (v := 1) hx hb dX3_setTooGreat_49 (by decide) ?_
        refine lv_goto (tgt := 54) hx hb dX3_setTooGreat_50 (by decide) ?_
        have e9 := Eq.symm hz; subst e9
        exact J_111 _ ez9 H locs hP hD hS ls (lv_sub hl [0] rfl)
      · rw [if_neg c_107] at hz
        refine lv_aload_n hx hb dX3_setTooGreat_31 rfl (lv_at hl 0 rfl) ?_
        refine va_get (D := D) (ci := 4) (v := .int vrd) (C := RX3) (T := TX3) (N := 7) hx hb hts hi3 hown hK hP 0 rfl rfl 3 (by decide) (hts (.fieldLink RX3 27 "DecimalWords" "rounding" "I") (inW_4 _ (List.mem_of_getElem? (i := 22) rfl))) (fun _ h9 => h9) rfl dX3_setTooGreat_32 ?_
        refine lv_iconst (v := 4) hx hb dX3_setTooGreat_35 (by decide) ?_
        refine lv_icmp_ne (tgt := 53) hx hb dX3_setTooGreat_36 (by decide) (fun c_108 => ?_) (fun c_108 => ?_)
        · rw [if_neg c_108] at hz
          refine lv_iconst (v := 0) hx hb dX3_setTooGreat_53 (by decide) ?_
          have e9 := Eq.symm hz; subst e9
          exact J_111 _ ez9 H locs hP hD hS ls (lv_sub hl [0] rfl)
        · rw [if_pos c_108] at hz
          refine lv_aload_n hx hb dX3_setTooGreat_39 rfl (lv_at hl 0 rfl) ?_
          refine va_get (D := D) (ci := 4) (v := .ref ao) (C := RX3) (T := TX3) (N := 7) hx hb hts hi3 hown hK hP 0 rfl rfl 2 (by decide) (hts (.fieldLink RX3 23 "DecimalWords" "outcome" "LDecimalWords$Outcome;") (inW_4 _ (List.mem_of_getElem? (i := 21) rfl))) (fun _ h9 => h9) rfl dX3_setTooGreat_40 ?_
          refine va_get (D := D) (ci := 3) (v := .int (bI vom)) (C := RX1) (T := TX1) (N := 8) hx hb hts hi1 hown hK hP 2 rfl rfl 0 (by decide) (hts (.fieldLink RX3 216 "DecimalWords$Outcome" "minus" "Z") (inW_6 _ (List.mem_of_getElem? (i := 39) rfl))) (fun _ h9 => h9) rfl dX3_setTooGreat_43 ?_
          refine xb_ne (tgt := 53) hx hb dX3_setTooGreat_46 (by decide) (fun c9 => absurd c9 c_107) (fun _ => ?_)
          refine lv_iconst (v := 1) hx hb dX3_setTooGreat_49 (by decide) ?_
          refine lv_goto (tgt := 54) hx hb dX3_setTooGreat_50 (by decide) ?_
          have e9 := Eq.symm hz; subst e9
          exact J_111 _ ez9 H locs hP hD hS ls (lv_sub hl [0] rfl)
