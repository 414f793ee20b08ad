def F_X1_isZero (voh : Int64) (vol : Int64) (voe : Bool)  : Bool := (if voh = 0 then (if vol = 0 then (if voe = true then false else true) else false) else false)
def RF_X1_isZero (voh : Int64) (vol : Int64) (voe : Bool)  (u9 : Bool) : Prop := (if voh = 0 then (if vol = 0 then (if voe = true then u9 = false else u9 = true) else u9 = false) else u9 = false)
theorem rF_X1_isZero (voh : Int64) (vol : Int64) (voe : Bool)  {u9 : Bool} (hu : u9 = F_X1_isZero voh vol voe) : RF_X1_isZero voh vol voe u9 := by
  unfold RF_X1_isZero
  refine ite_P (fun c_101 => ?_) (fun c_101 => ?_)
  · have hu := hu.trans (if_pos c_101)
    refine ite_P (fun c_102 => ?_) (fun c_102 => ?_)
    · have hu := hu.trans (if_pos c_102)
      refine ite_P (fun c_103 => ?_) (fun c_103 => ?_)
      · have hu := hu.trans (if_pos c_103)
        exact hu
      · have hu := hu.trans (if_neg c_103)
        exact hu
    · have hu := hu.trans (if_neg c_102)
      exact hu
  · have hu := hu.trans (if_neg c_101)
    exact hu
def rm_X1_isZero : Room := { frames := 0, cells := 0, slots := 0, locals := 0 }
set_option maxHeartbeats 4000000 in
set_option maxRecDepth 100000 in
theorem c_X1_isZero (l : Launch) (D : va_G) (cR cI cJ cZ : ClassId) (t0 : Nat) (ax ar ao : Nat) (ad : Nat → Nat) (vrd : Int32) (vtr : Int32) (vsd : Int32) (vrn : Int32) (vom : Bool) (voh : Int64) (vol : Int64) (vop : Int32) (voe : Bool) (vow : Int32) (vok : Int64) (vos : Int32) (vso : Nat → Int32) (vmi : Nat → Bool) (vco : Nat → Int64) (vex : Nat → Int32)  (u : Bool) (hu : u = F_X1_isZero voh vol voe) : XM l D (xty cR cI cJ cZ) t0 yX1_isZero cX1_isZero 1 (some .boolean) rm_X1_isZero [.ref ao] (some (.int (bI u))) (xw cR ax ar ao ad vrd vtr vsd vrn vom voh vol vop voe vow vok vos vso vmi vco vex) (xw cR ax ar ao ad vrd vtr vsd vrn vom voh vol vop voe vow vok vos vso vmi vco vex) := by
  refine XM.of (by decide) (Nat.le_of_ble_eq_true rfl) ?_
  intro p e s m args below meth c A Q F hK hP hD hA hSt hS hQ ls hl
  obtain ⟨hx, hb, hr, hts, hown, hlocks, hml⟩ := F
  have hCF : CallFix p m c cX1_isZero 1 s args gW RX1 := ⟨hx, hb, hml, hown, hts⟩
  have hu := rF_X1_isZero voh vol voe hu
  unfold RF_X1_isZero at hu
  obtain ⟨H, eH⟩ : ∃ y9 : Heap, y9 = s.heap := ⟨_, rfl⟩
  obtain ⟨locs, eL⟩ : ∃ y9 : List Loc, y9 = [] := ⟨_, rfl⟩
  rw [← eL] at hS ⊢
  have hP : va_P D vwCl (xw cR ax ar ao ad vrd vtr vsd vrn vom voh vol vop voe vow vok vos vso vmi vco vex) H := by rw [eH]; exact hP
  have hS : va_S A s.heap H locs := by rw [eH]; exact hS
  suffices goal9 : W p l e rm_X1_isZero s m args below meth c H locs 0 0 Q (F0 m 0 ls []) from by rw [← eH]; exact goal9
  have hl : lv_has ls 1 [(0, .ref ao)] := hl
  have hi1 : ∀ w ∈ wsX10, w ∈ gW := inW_X1
  refine lv_aload_n hx hb dX1_isZero_0 rfl (lv_at hl 0 rfl) ?_
  refine va_get (D := D) (ci := 3) (v := .long voh) (C := RX1) (T := TX1) (N := 8) hx hb hts hi1 hown hK hP 2 rfl rfl 1 (by decide) (hts (.fieldLink RX1 9 "DecimalWords$Outcome" "high" "J") (inW_1 _ (List.mem_of_getElem? (i := 20) rfl))) (fun _ h9 => h9) rfl dX1_isZero_1 ?_
  refine lv_lconst (v := 0) hx hb dX1_isZero_4 (by decide) ?_
  refine xl_ne (tgt := 29) hx hb dX1_isZero_5 dX1_isZero_6 (by decide) (fun c_101 => ?_) (fun c_101 => ?_)
  · rw [if_neg c_101] at hu
    refine lv_iconst (v := 0) hx hb dX1_isZero_29 (by decide) ?_
    have e9 := Eq.symm hu; subst e9
    exact x_zret (v := false) hx hb hr hlocks hQ hK hP hD hS rfl rfl dX1_isZero_30
  · rw [if_pos c_101] at hu
    refine lv_aload_n hx hb dX1_isZero_9 rfl (lv_at hl 0 rfl) ?_
    refine va_get (D := D) (ci := 3) (v := .long vol) (C := RX1) (T := TX1) (N := 8) hx hb hts hi1 hown hK hP 2 rfl rfl 2 (by decide) (hts (.fieldLink RX1 15 "DecimalWords$Outcome" "low" "J") (inW_1 _ (List.mem_of_getElem? (i := 21) rfl))) (fun _ h9 => h9) rfl dX1_isZero_10 ?_
    refine lv_lconst (v := 0) hx hb dX1_isZero_13 (by decide) ?_
    refine xl_ne (tgt := 29) hx hb dX1_isZero_14 dX1_isZero_15 (by decide) (fun c_102 => ?_) (fun c_102 => ?_)
    · rw [if_neg c_102] at hu
      refine lv_iconst (v := 0) hx hb dX1_isZero_29 (by decide) ?_
      have e9 := Eq.symm hu; subst e9
      exact x_zret (v := false) hx hb hr hlocks hQ hK hP hD hS rfl rfl dX1_isZero_30
    · rw [if_pos c_102] at hu
      refine lv_aload_n hx hb dX1_isZero_18 rfl (lv_at hl 0 rfl) ?_
      refine va_get (D := D) (ci := 3) (v := .int (bI voe)) (C := RX1) (T := TX1) (N := 8) hx hb hts hi1 hown hK hP 2 rfl rfl 4 (by decide) (hts (.fieldLink RX1 18 "DecimalWords$Outcome" "more" "Z") (inW_1 _ (List.mem_of_getElem? (i := 22) rfl))) (fun _ h9 => h9) rfl dX1_isZero_19 ?_
      refine xb_ne (tgt := 29) hx hb dX1_isZero_22 (by decide) (fun c_103 => ?_) (fun c_103 => ?_)
      · rw [if_pos c_103] at hu
        refine lv_iconst (v := 0) hx hb dX1_isZero_29 (by decide) ?_
        have e9 := Eq.symm hu; subst e9
        exact x_zret (v := false) hx hb hr hlocks hQ hK hP hD hS rfl rfl dX1_isZero_30
      · rw [if_neg c_103] at hu
        refine lv_iconst (v := 1) hx hb dX1_isZero_25 (by decide) ?_
        refine lv_goto (tgt := 30) hx hb dX1_isZero_26 (by decide) ?_
        have e9 := Eq.symm hu; subst e9
        exact x_zret (v := true) hx hb hr hlocks hQ hK hP hD hS rfl rfl dX1_isZero_30

def F_X1_digits (voh : Int64) (vol : Int64)  : Int32 := (if voh = 0 then F_X3_digitsOf vol else 16 + (F_X3_digitsOf voh))
def RF_X1_digits (voh : Int64) (vol : Int64)  (u9 : Int32) : Prop := (if voh = 0 then u9 = F_X3_digitsOf vol else u9 = 16 + (F_X3_digitsOf voh))
theorem rF_X1_digits (voh : Int64) (vol : Int64)  {u9 : Int32} (hu : u9 = F_X1_digits voh vol) : RF_X1_digits voh vol u9 := by
  unfold RF_X1_digits
  refine ite_P (fun c_101 => ?_) (fun c_101 => ?_)
  · have hu := hu.trans (if_pos c_101)
    exact hu
  · have hu := hu.trans (if_neg c_101)
    exact hu
def S_X1_digits (voh : Int64) (vol : Int64)  : Prop := (if voh = 0 then S_X3_digitsOf vol else S_X3_digitsOf voh)
def rm_X1_digits : Room := { frames := 1, cells := 0, slots := 0, locals := 22 }
set_option maxHeartbeats 4000000 in
set_option maxRecDepth 100000 in
theorem c_X1_digits (l : Launch) (D : va_G) (cR cI cJ cZ : ClassId) (t0 : Nat) (ax ar ao : Nat) (ad : Nat → Nat) (vrd : Int32) (vtr : Int32) (vsd : Int32) (vrn : Int32) (vom : Bool) (voh : Int64) (vol : Int64) (vop : Int32) (voe : Bool) (vow : Int32) (vok : Int64) (vos : Int32) (vso : Nat → Int32) (vmi : Nat → Bool) (vco : Nat → Int64) (vex : Nat → Int32)  (u : Int32) (hu : u = F_X1_digits voh vol) (hs : S_X1_digits voh vol) : XM l D (xty cR cI cJ cZ) t0 yX1_digits cX1_digits 1 (some .int) rm_X1_digits [.ref ao] (some (.int u)) (xw cR ax ar ao ad vrd vtr vsd vrn vom voh vol vop voe vow vok vos vso vmi vco vex) (xw cR ax ar ao ad vrd vtr vsd vrn vom voh vol vop voe vow vok vos vso vmi vco vex) := by
  refine XM.of (by decide) (Nat.le_of_ble_eq_true rfl) ?_
  intro p e s m args below meth c A Q F hK hP hD hA hSt hS hQ ls hl
  obtain ⟨hx, hb, hr, hts, hown, hlocks, hml⟩ := F
  have hCF : CallFix p m c cX1_digits 1 s args gW RX1 := ⟨hx, hb, hml, hown, hts⟩
  unfold S_X1_digits at hs
  have hu := rF_X1_digits voh vol hu
  unfold RF_X1_digits at hu
  obtain ⟨H, eH⟩ : ∃ y9 : Heap, y9 = s.heap := ⟨_, rfl⟩
  obtain ⟨locs, eL⟩ : ∃ y9 : List Loc, y9 = [] := ⟨_, rfl⟩
  rw [← eL] at hS ⊢
  have hP : va_P D vwCl (xw cR ax ar ao ad vrd vtr vsd vrn vom voh vol vop voe vow vok vos vso vmi vco vex) H := by rw [eH]; exact hP
  have hS : va_S A s.heap H locs := by rw [eH]; exact hS
  suffices goal9 : W p l e rm_X1_digits s m args below meth c H locs 0 0 Q (F0 m 0 ls []) from by rw [← eH]; exact goal9
  have hl : lv_has ls 1 [(0, .ref ao)] := hl
  have hi1 : ∀ w ∈ wsX10, w ∈ gW := inW_X1
  refine lv_aload_n hx hb dX1_digits_0 rfl (lv_at hl 0 rfl) ?_
  refine va_get (D := D) (ci := 3) (v := .long voh) (C := RX1) (T := TX1) (N := 8) hx hb hts hi1 hown hK hP 2 rfl rfl 1 (by decide) (hts (.fieldLink RX1 9 "DecimalWords$Outcome" "high" "J") (inW_1 _ (List.mem_of_getElem? (i := 20) rfl))) (fun _ h9 => h9) rfl dX1_digits_1 ?_
  refine lv_lconst (v := 0) hx hb dX1_digits_4 (by decide) ?_
  refine xl_eq (tgt := 22) hx hb dX1_digits_5 dX1_digits_6 (by decide) (fun c_101 => ?_) (fun c_101 => ?_)
  · rw [if_pos c_101] at hs
    rw [if_pos c_101] at hu
    refine lv_aload_n hx hb dX1_digits_22 rfl (lv_at hl 0 rfl) ?_
    refine va_get (D := D) (ci := 3) (v := .long vol) (C := RX1) (T := TX1) (N := 8) hx hb hts hi1 hown hK hP 2 rfl rfl 2 (by decide) (hts (.fieldLink RX1 15 "DecimalWords$Outcome" "low" "J") (inW_1 _ (List.mem_of_getElem? (i := 21) rfl))) (fun _ h9 => h9) rfl dX1_digits_23 ?_
    have h_102 := hs
    refine x_SN (As := [.long vol]) (rest := []) hCF (c_X3_digitsOf l D cR cI cJ cZ t0 (xw cR ax ar ao ad vrd vtr vsd vrn vom voh vol vop voe vow vok vos vso vmi vco vex) vol _ rfl h_102) (x_cwN 1 hts hSt.2.2.1 (inW_1 _ (List.mem_of_getElem? (i := 24) rfl)) (inW_1 _ (List.mem_of_getElem? (i := 25) rfl)) (inW_1 _ (List.mem_of_getElem? (i := 26) rfl)) rfl rfl (by decide +kernel) ⟨Nat.le_of_ble_eq_true rfl, Nat.le_of_ble_eq_true rfl⟩) hK hP hD hS hA hSt rfl hl.1 rfl (Nat.le_of_ble_eq_true rfl) dX1_digits_26 ⟨Nat.le_of_ble_eq_true rfl, Nat.le_of_ble_eq_true rfl⟩ (fun H locs hP hD hS => ?_)
    show W p l e _ s m args below meth c H locs 0 0 Q (F0 m 29 ls (.int (F_X3_digitsOf vol) :: []))
    have e9 := Eq.symm hu; subst e9
    exact x_iret hx hb hr hlocks hQ hK hP hD hS rfl rfl dX1_digits_29
  · rw [if_neg c_101] at hs
    rw [if_neg c_101] at hu
    refine lv_bipush (v := 16) hx hb dX1_digits_9 (by decide) ?_
    refine lv_aload_n hx hb dX1_digits_11 rfl (lv_at hl 0 rfl) ?_
    refine va_get (D := D) (ci := 3) (v := .long voh) (C := RX1) (T := TX1) (N := 8) hx hb hts hi1 hown hK hP 2 rfl rfl 1 (by decide) (hts (.fieldLink RX1 9 "DecimalWords$Outcome" "high" "J") (inW_1 _ (List.mem_of_getElem? (i := 20) rfl))) (fun _ h9 => h9) rfl dX1_digits_12 ?_
    have h_104 := hs
    refine x_SN (As := [.long voh]) (rest := [.int 16]) hCF (c_X3_digitsOf l D cR cI cJ cZ t0 (xw cR ax ar ao ad vrd vtr vsd vrn vom voh vol vop voe vow vok vos vso vmi vco vex) voh _ rfl h_104) (x_cwN 1 hts hSt.2.2.1 (inW_1 _ (List.mem_of_getElem? (i := 24) rfl)) (inW_1 _ (List.mem_of_getElem? (i := 25) rfl)) (inW_1 _ (List.mem_of_getElem? (i := 26) rfl)) rfl rfl (by decide +kernel) ⟨Nat.le_of_ble_eq_true rfl, Nat.le_of_ble_eq_true rfl⟩) hK hP hD hS hA hSt rfl hl.1 rfl (Nat.le_of_ble_eq_true rfl) dX1_digits_15 ⟨Nat.le_of_ble_eq_true rfl, Nat.le_of_ble_eq_true rfl⟩ (fun H locs hP hD hS => ?_)
    show W p l e _ s m args below meth c H locs 0 0 Q (F0 m 18 ls (.int (F_X3_digitsOf voh) :: [.int 16]))
    refine lv_iadd hx hb dX1_digits_18 ?_
    refine lv_goto (tgt := 29) hx hb dX1_digits_19 (by decide) ?_
    have e9 := Eq.symm hu; subst e9
    exact x_iret hx hb hr hlocks hQ hK hP hD hS rfl rfl dX1_digits_29

def F_X1_setWhole (vmi : Nat → Bool) (vco : Nat → Int64) (vex : Nat → Int32) (i1 : Nat) : Bool × Int64 × Int64 × Int32 × Bool := (bnd (vmi i1) (fun f101 : Bool => (bnd (vco i1) (fun f104 : Int64 => (bnd (vex i1) (fun f106 : Int32 => (f101, 0, f104, f106, false)))))))
def RF_X1_setWhole (vmi : Nat → Bool) (vco : Nat → Int64) (vex : Nat → Int32) (i1 : Nat) (u9 : Bool × Int64 × Int64 × Int32 × Bool) : Prop := (∀ f101 : Bool, f101 = vmi i1 → (∀ f104 : Int64, f104 = vco i1 → (∀ f106 : Int32, f106 = vex i1 → u9 = (f101, 0, f104, f106, false))))
theorem rF_X1_setWhole (vmi : Nat → Bool) (vco : Nat → Int64) (vex : Nat → Int32) (i1 : Nat) {u9 : Bool × Int64 × Int64 × Int32 × Bool} (hu : u9 = F_X1_setWhole vmi vco vex i1) : RF_X1_setWhole vmi vco vex i1 u9 := by
  unfold RF_X1_setWhole
  intro f101 ef101
  have hu := bnd_n hu ef101
  intro f104 ef104
  have hu := bnd_n hu ef104
  intro f106 ef106
  have hu := bnd_n hu ef106
  exact hu
def rm_X1_setWhole : Room := { frames := 0, cells := 0, slots := 0, locals := 0 }
set_option maxHeartbeats 4000000 in
set_option maxRecDepth 100000 in
theorem c_X1_setWhole (l : Launch) (D : va_G) (cR cI cJ cZ : ClassId) (t0 : Nat) (ax ar ao : Nat) (ad : Nat → Nat) (vrd : Int32) (vtr : Int32) (vsd : Int32) (vrn : Int32) (vom : Bool) (voh : Int64) (vol : Int64) (vop : Int32) (voe : Bool) (vow : Int32) (vok : Int64) (vos : Int32) (vso : Nat → Int32) (vmi : Nat → Bool) (vco : Nat → Int64) (vex : Nat → Int32) (i1 : Nat) (u : Bool × Int64 × Int64 × Int32 × Bool) (hu : u = F_X1_setWhole vmi vco vex i1) (hb1 : i1 < 9) : XM l D (xty cR cI cJ cZ) t0 yX1_setWhole cX1_setWhole 2 none rm_X1_setWhole [.ref ao, .ref (ad i1)] none (xw cR ax ar ao ad vrd vtr vsd vrn vom voh vol vop voe vow vok vos vso vmi vco vex) (xw cR ax ar ao ad vrd vtr vsd vrn u.1 u.2.1 u.2.2.1 u.2.2.2.1 u.2.2.2.2 vow vok vos vso vmi vco vex) := by
  refine XM.of (by decide) (Nat.le_of_ble_eq_true rfl) ?_
  intro p e s m args below meth c A Q F hK hP hD hA hSt hS hQ ls hl
  obtain ⟨hx, hb, hr, hts, hown, hlocks, hml⟩ := F
  have hCF : CallFix p m c cX1_setWhole 2 s args gW RX1 := ⟨hx, hb, hml, hown, hts⟩
  have hu := rF_X1_setWhole vmi vco vex i1 hu
  unfold RF_X1_setWhole at hu
  obtain ⟨H, eH⟩ : ∃ y9 : Heap, y9 = s.heap := ⟨_, rfl⟩
  obtain ⟨locs, eL⟩ : ∃ y9 : List Loc, y9 = [] := ⟨_, rfl⟩
  rw [← eL] at hS ⊢
  have hP : va_P D vwCl (xw cR ax ar ao ad vrd vtr vsd vrn vom voh vol vop voe vow vok vos vso vmi vco vex) H := by rw [eH]; exact hP
  have hS : va_S A s.heap H locs := by rw [eH]; exact hS
  suffices goal9 : W p l e rm_X1_setWhole s m args below meth c H locs 0 0 Q (F0 m 0 ls []) from by rw [← eH]; exact goal9
  have hl : lv_has ls 2 [(0, .ref ao), (1, .ref (ad i1))] := hl
  have hi0 : ∀ w ∈ wsX00, w ∈ gW := inW_X0
  have hi1 : ∀ w ∈ wsX10, w ∈ gW := inW_X1
  refine lv_aload_n hx hb dX1_setWhole_0 rfl (lv_at hl 0 rfl) ?_
  refine lv_aload_n hx hb dX1_setWhole_1 rfl (lv_at hl 1 rfl) ?_
  refine g_mi (i := i1) hx hb hts hi0 hown hK hP hb1 (hts (.fieldLink RX1 26 "DecimalWords$Datum" "minus" "Z") (inW_1 _ (List.mem_of_getElem? (i := 29) rfl))) dX1_setWhole_2 ?_
  refine x_topb (fun f101 ef101 => ?_)
  have hu := hu _ ef101
  refine va_put (D := D) (ci := 3) (v := .int (bI f101)) (ty := .boolean) (C := RX1) (T := TX1) (N := 8) hx hb hts hi1 tyX1 tyX1_ok nmX1 hown hK hP hD hS 2 rfl rfl 0 (by decide) (hts (.fieldLink RX1 31 "DecimalWords$Outcome" "minus" "Z") (inW_1 _ (List.mem_of_getElem? (i := 30) rfl))) (fun _ h9 => h9) rfl (by decide +kernel) (bI_nar f101) (bI_fit f101) (Nat.le_of_ble_eq_true rfl) dX1_setWhole_5 (fun H locs hP hD hS => ?_)
  have hP : va_P D vwCl (xw cR ax ar ao ad vrd vtr vsd vrn f101 voh vol vop voe vow vok vos vso vmi vco vex) H := hP
  have hD : va_D A (xw cR ax ar ao ad vrd vtr vsd vrn f101 voh vol vop voe vow vok vos vso vmi vco vex) := hD
  refine lv_aload_n hx hb dX1_setWhole_8 rfl (lv_at hl 0 rfl) ?_
  refine lv_lconst (v := 0) hx hb dX1_setWhole_9 (by decide) ?_
  refine va_put (D := D) (ci := 3) (v := .long 0) (ty := .long) (C := RX1) (T := TX1) (N := 8) hx hb hts hi1 tyX1 tyX1_ok nmX1 hown hK hP hD hS 2 rfl rfl 1 (by decide) (hts (.fieldLink RX1 9 "DecimalWords$Outcome" "high" "J") (inW_1 _ (List.mem_of_getElem? (i := 20) rfl))) (fun _ h9 => h9) rfl (by decide +kernel) rfl rfl (Nat.le_of_ble_eq_true rfl) dX1_setWhole_10 (fun H locs hP hD hS => ?_)
  have hP : va_P D vwCl (xw cR ax ar ao ad vrd vtr vsd vrn f101 0 vol vop voe vow vok vos vso vmi vco vex) H := hP
  have hD : va_D A (xw cR ax ar ao ad vrd vtr vsd vrn f101 0 vol vop voe vow vok vos vso vmi vco vex) := hD
  refine lv_aload_n hx hb dX1_setWhole_13 rfl (lv_at hl 0 rfl) ?_
  refine lv_aload_n hx hb dX1_setWhole_14 rfl (lv_at hl 1 rfl) ?_
  refine g_co (i := i1) hx hb hts hi0 hown hK hP hb1 (hts (.fieldLink RX1 32 "DecimalWords$Datum" "coefficient" "J") (inW_1 _ (List.mem_of_getElem? (i := 31) rfl))) dX1_setWhole_15 ?_
  refine lv_topl (fun f104 ef104 => ?_)
  have hu := hu _ ef104
  refine va_put (D := D) (ci := 3) (v := .long f104) (ty := .long) (C := RX1) (T := TX1) (N := 8) hx hb hts hi1 tyX1 tyX1_ok nmX1 hown hK hP hD hS 2 rfl rfl 2 (by decide) (hts (.fieldLink RX1 15 "DecimalWords$Outcome" "low" "J") (inW_1 _ (List.mem_of_getElem? (i := 21) rfl))) (fun _ h9 => h9) rfl (by decide +kernel) rfl rfl (Nat.le_of_ble_eq_true rfl) dX1_setWhole_18 (fun H locs hP hD hS => ?_)
  have hP : va_P D vwCl (xw cR ax ar ao ad vrd vtr vsd vrn f101 0 f104 vop voe vow vok vos vso vmi vco vex) H := hP
  have hD : va_D A (xw cR ax ar ao ad vrd vtr vsd vrn f101 0 f104 vop voe vow vok vos vso vmi vco vex) := hD
  refine lv_aload_n hx hb dX1_setWhole_21 rfl (lv_at hl 0 rfl) ?_
  refine lv_aload_n hx hb dX1_setWhole_22 rfl (lv_at hl 1 rfl) ?_
  refine g_ex (i := i1) hx hb hts hi0 hown hK hP hb1 (hts (.fieldLink RX1 35 "DecimalWords$Datum" "exponent" "I") (inW_1 _ (List.mem_of_getElem? (i := 32) rfl))) dX1_setWhole_23 ?_
  refine lv_topi (fun f106 ef106 => ?_)
  have hu := hu _ ef106
  refine va_put (D := D) (ci := 3) (v := .int f106) (ty := .int) (C := RX1) (T := TX1) (N := 8) hx hb hts hi1 tyX1 tyX1_ok nmX1 hown hK hP hD hS 2 rfl rfl 3 (by decide) (hts (.fieldLink RX1 39 "DecimalWords$Outcome" "power" "I") (inW_1 _ (List.mem_of_getElem? (i := 33) rfl))) (fun _ h9 => h9) rfl (by decide +kernel) rfl rfl (Nat.le_of_ble_eq_true rfl) dX1_setWhole_26 (fun H locs hP hD hS => ?_)
  have hP : va_P D vwCl (xw cR ax ar ao ad vrd vtr vsd vrn f101 0 f104 f106 voe vow vok vos vso vmi vco vex) H := hP
  have hD : va_D A (xw cR ax ar ao ad vrd vtr vsd vrn f101 0 f104 f106 voe vow vok vos vso vmi vco vex) := hD
  refine lv_aload_n hx hb dX1_setWhole_29 rfl (lv_at hl 0 rfl) ?_
  refine lv_iconst (v := 0) hx hb dX1_setWhole_30 (by decide) ?_
  refine va_put (D := D) (ci := 3) (v := .int (bI false)) (ty := .boolean) (C := RX1) (T := TX1) (N := 8) hx hb hts hi1 tyX1 tyX1_ok nmX1 hown hK hP hD hS 2 rfl rfl 4 (by decide) (hts (.fieldLink RX1 18 "DecimalWords$Outcome" "more" "Z") (inW_1 _ (List.mem_of_getElem? (i := 22) rfl))) (fun _ h9 => h9) rfl (by decide +kernel) (bI_nar false) (bI_fit false) (Nat.le_of_ble_eq_true rfl) dX1_setWhole_31 (fun H locs hP hD hS => ?_)
  have hP : va_P D vwCl (xw cR ax ar ao ad vrd vtr vsd vrn f101 0 f104 f106 false vow vok vos vso vmi vco vex) H := hP
  have hD : va_D A (xw cR ax ar ao ad vrd vtr vsd vrn f101 0 f104 f106 false vow vok vos vso vmi vco vex) := hD
  have e9 := Eq.symm hu; subst e9
  exact x_vret hx hb hr hlocks hQ hK hP hD hS rfl dX1_setWhole_34

def F_X1_addToLow (voh : Int64) (vol : Int64) (p0 : Int64) : Int64 × Int64 := (bnd (vol + p0) (fun f101 : Int64 => (if f101 < 10000000000000000 then (if 0 ≤ f101 then (voh, f101) else (bnd (f101 + 10000000000000000) (fun f105 : Int64 => (bnd (voh - 1) (fun f107 : Int64 => (f107, f105)))))) else (bnd (f101 - 10000000000000000) (fun f109 : Int64 => (bnd (voh + 1) (fun f111 : Int64 => (f111, f109))))))))
def RF_X1_addToLow (voh : Int64) (vol : Int64) (p0 : Int64) (u9 : Int64 × Int64) : Prop := (∀ f101 : Int64, f101 = vol + p0 → (if f101 < 10000000000000000 then (if 0 ≤ f101 then u9 = (voh, f101) else (∀ f105 : Int64, f105 = f101 + 10000000000000000 → (∀ f107 : Int64, f107 = voh - 1 → u9 = (f107, f105)))) else (∀ f109 : Int64, f109 = f101 - 10000000000000000 → (∀ f111 : Int64, f111 = voh + 1 → u9 = (f111, f109)))))
theorem rF_X1_addToLow (voh : Int64) (vol : Int64) (p0 : Int64) {u9 : Int64 × Int64} (hu : u9 = F_X1_addToLow voh vol p0) : RF_X1_addToLow voh vol p0 u9 := by
  unfold RF_X1_addToLow
  intro f101 ef101
  have hu := bnd_n hu ef101
  refine ite_P (fun c_103 => ?_) (fun c_103 => ?_)
  · have hu := hu.trans (if_pos c_103)
    refine ite_P (fun c_104 => ?_) (fun c_104 => ?_)
    · have hu := hu.trans (if_pos c_104)
      exact hu
    · have hu := hu.trans (if_neg c_104)
      intro f105 ef105
      have hu := bnd_n hu ef105
      intro f107 ef107
      have hu := bnd_n hu ef107
      exact hu
  · have hu := hu.trans (if_neg c_103)
    intro f109 ef109
    have hu := bnd_n hu ef109
    intro f111 ef111
    have hu := bnd_n hu ef111
    exact hu
def rm_X1_addToLow : Room := { frames := 0, cells := 0, slots := 0, locals := 0 }
set_option maxHeartbeats 4000000 in
set_option maxRecDepth 100000 in
theorem c_X1_addToLow (l : Launch) (D : va_G) (cR cI cJ cZ : ClassId) (t0 : Nat) (ax ar ao : Nat) (ad : Nat → Nat) (vrd : Int32) (vtr : Int32) (vsd : Int32) (vrn : Int32) (vom : Bool) (voh : Int64) (vol : Int64) (vop : Int32) (voe : Bool) (vow : Int32) (vok : Int64) (vos : Int32) (vso : Nat → Int32) (vmi : Nat → Bool) (vco : Nat → Int64) (vex : Nat → Int32) (p0 : Int64) (u : Int64 × Int64) (hu : u = F_X1_addToLow voh vol p0) : XM l D (xty cR cI cJ cZ) t0 yX1_addToLow cX1_addToLow 3 none rm_X1_addToLow [.ref ao, .long p0] none (xw cR ax ar ao ad vrd vtr vsd vrn vom voh vol vop voe vow vok vos vso vmi vco vex) (xw cR ax ar ao ad vrd vtr vsd vrn vom u.1 u.2 vop voe vow vok vos vso vmi vco vex) := by
  refine XM.of (by decide) (Nat.le_of_ble_eq_true rfl) ?_
  intro p e s m args below meth c A Q F hK hP hD hA hSt hS hQ ls hl
  obtain ⟨hx, hb, hr, hts, hown, hlocks, hml⟩ := F
  have hCF : CallFix p m c cX1_addToLow 3 s args gW RX1 := ⟨hx, hb, hml, hown, hts⟩
  have hu := rF_X1_addToLow voh vol p0 hu
  unfold RF_X1_addToLow at hu
  obtain ⟨H, eH⟩ : ∃ y9 : Heap, y9 = s.heap := ⟨_, rfl⟩
  obtain ⟨locs, eL⟩ : ∃ y9 : List Loc, y9 = [] := ⟨_, rfl⟩
  rw [← eL] at hS ⊢
  have hP : va_P D vwCl (xw cR ax ar ao ad vrd vtr vsd vrn vom voh vol vop voe vow vok vos vso vmi vco vex) H := by rw [eH]; exact hP
  have hS : va_S A s.heap H locs := by rw [eH]; exact hS
  suffices goal9 : W p l e rm_X1_addToLow s m args below meth c H locs 0 0 Q (F0 m 0 ls []) from by rw [← eH]; exact goal9
  have hl : lv_has ls 3 [(0, .ref ao), (1, .long p0)] := hl
  have hi1 : ∀ w ∈ wsX10, w ∈ gW := inW_X1
  refine lv_aload_n hx hb dX1_addToLow_0 rfl (lv_at hl 0 rfl) ?_
  refine lv_dup hx hb dX1_addToLow_1 rfl ?_
  refine va_get (D := D) (ci := 3) (v := .long vol) (C := RX1) (T := TX1) (N := 8) hx hb hts hi1 hown hK hP 2 rfl rfl 2 (by decide) (hts (.fieldLink RX1 15 "DecimalWords$Outcome" "low" "J") (inW_1 _ (List.mem_of_getElem? (i := 21) rfl))) (fun _ h9 => h9) rfl dX1_addToLow_2 ?_
  refine lv_lload_n hx hb dX1_addToLow_5 rfl (lv_at hl 1 rfl) ?_
  refine lv_ladd hx hb dX1_addToLow_6 ?_
  refine lv_topl (fun f101 ef101 => ?_)
  have hu := hu _ ef101
  refine va_put (D := D) (ci := 3) (v := .long f101) (ty := .long) (C := RX1) (T := TX1) (N := 8) hx hb hts hi1 tyX1 tyX1_ok nmX1 hown hK hP hD hS 2 rfl rfl 2 (by decide) (hts (.fieldLink RX1 15 "DecimalWords$Outcome" "low" "J") (inW_1 _ (List.mem_of_getElem? (i := 21) rfl))) (fun _ h9 => h9) rfl (by decide +kernel) rfl rfl (Nat.le_of_ble_eq_true rfl) dX1_addToLow_7 (fun H locs hP hD hS => ?_)
  have hP : va_P D vwCl (xw cR ax ar ao ad vrd vtr vsd vrn vom voh f101 vop voe vow vok vos vso vmi vco vex) H := hP
  have hD : va_D A (xw cR ax ar ao ad vrd vtr vsd vrn vom voh f101 vop voe vow vok vos vso vmi vco vex) := hD
  refine lv_aload_n hx hb dX1_addToLow_10 rfl (lv_at hl 0 rfl) ?_
  refine va_get (D := D) (ci := 3) (v := .long f101) (C := RX1) (T := TX1) (N := 8) hx hb hts hi1 hown hK hP 2 rfl rfl 2 (by decide) (hts (.fieldLink RX1 15 "DecimalWords$Outcome" "low" "J") (inW_1 _ (List.mem_of_getElem? (i := 21) rfl))) (fun _ h9 => h9) rfl dX1_addToLow_11 ?_
  refine lv_ldc2 (v := 10000000000000000) hx hb hown (hts (.constantLong RX1 72 (10000000000000000)) (inW_2 _ (List.mem_of_getElem? (i := 15) rfl))) dX1_addToLow_14 ?_
  refine xl_lt (tgt := 46) hx hb dX1_addToLow_17 dX1_addToLow_18 (by decide) (fun c_103 => ?_) (fun c_103 => ?_)
  · rw [if_pos c_103] at hu
    refine lv_aload_n hx hb dX1_addToLow_46 rfl (lv_at hl 0 rfl) ?_
    refine va_get (D := D) (ci := 3) (v := .long f101) (C := RX1) (T := TX1) (N := 8) hx hb hts hi1 hown hK hP 2 rfl rfl 2 (by decide) (hts (.fieldLink RX1 15 "DecimalWords$Outcome" "low" "J") (inW_1 _ (List.mem_of_getElem? (i := 21) rfl))) (fun _ h9 => h9) rfl dX1_addToLow_47 ?_
    refine lv_lconst (v := 0) hx hb dX1_addToLow_50 (by decide) ?_
    refine xl_ge (tgt := 77) hx hb dX1_addToLow_51 dX1_addToLow_52 (by decide) (fun c_104 => ?_) (fun c_104 => ?_)
    · rw [if_pos c_104] at hu
      have e9 := Eq.symm hu; subst e9
      exact x_vret hx hb hr hlocks hQ hK hP hD hS rfl dX1_addToLow_77
    · rw [if_neg c_104] at hu
      refine lv_aload_n hx hb dX1_addToLow_55 rfl (lv_at hl 0 rfl) ?_
      refine lv_dup hx hb dX1_addToLow_56 rfl ?_
      refine va_get (D := D) (ci := 3) (v := .long f101) (C := RX1) (T := TX1) (N := 8) hx hb hts hi1 hown hK hP 2 rfl rfl 2 (by decide) (hts (.fieldLink RX1 15 "DecimalWords$Outcome" "low" "J") (inW_1 _ (List.mem_of_getElem? (i := 21) rfl))) (fun _ h9 => h9) rfl dX1_addToLow_57 ?_
      refine lv_ldc2 (v := 10000000000000000) hx hb hown (hts (.constantLong RX1 72 (10000000000000000)) (inW_2 _ (List.mem_of_getElem? (i := 15) rfl))) dX1_addToLow_60 ?_
      refine lv_ladd hx hb dX1_addToLow_63 ?_
      refine lv_topl (fun f105 ef105 => ?_)
      have hu := hu _ ef105
      refine va_put (D := D) (ci := 3) (v := .long f105) (ty := .long) (C := RX1) (T := TX1) (N := 8) hx hb hts hi1 tyX1 tyX1_ok nmX1 hown hK hP hD hS 2 rfl rfl 2 (by decide) (hts (.fieldLink RX1 15 "DecimalWords$Outcome" "low" "J") (inW_1 _ (List.mem_of_getElem? (i := 21) rfl))) (fun _ h9 => h9) rfl (by decide +kernel) rfl rfl (Nat.le_of_ble_eq_true rfl) dX1_addToLow_64 (fun H locs hP hD hS => ?_)
      have hP : va_P D vwCl (xw cR ax ar ao ad vrd vtr vsd vrn vom voh f105 vop voe vow vok vos vso vmi vco vex) H := hP
      have hD : va_D A (xw cR ax ar ao ad vrd vtr vsd vrn vom voh f105 vop voe vow vok vos vso vmi vco vex) := hD
      refine lv_aload_n hx hb dX1_addToLow_67 rfl (lv_at hl 0 rfl) ?_
      refine lv_dup hx hb dX1_addToLow_68 rfl ?_
      refine va_get (D := D) (ci := 3) (v := .long voh) (C := RX1) (T := TX1) (N := 8) hx hb hts hi1 hown hK hP 2 rfl rfl 1 (by decide) (hts (.fieldLink RX1 9 "DecimalWords$Outcome" "high" "J") (inW_1 _ (List.mem_of_getElem? (i := 20) rfl))) (fun _ h9 => h9) rfl dX1_addToLow_69 ?_
      refine lv_lconst (v := 1) hx hb dX1_addToLow_72 (by decide) ?_
      refine lv_lsub hx hb dX1_addToLow_73 ?_
      refine lv_topl (fun f107 ef107 => ?_)
      have hu := hu _ ef107
      refine va_put (D := D) (ci := 3) (v := .long f107) (ty := .long) (C := RX1) (T := TX1) (N := 8) hx hb hts hi1 tyX1 tyX1_ok nmX1 hown hK hP hD hS 2 rfl rfl 1 (by decide) (hts (.fieldLink RX1 9 "DecimalWords$Outcome" "high" "J") (inW_1 _ (List.mem_of_getElem? (i := 20) rfl))) (fun _ h9 => h9) rfl (by decide +kernel) rfl rfl (Nat.le_of_ble_eq_true rfl) dX1_addToLow_74 (fun H locs hP hD hS => ?_)
      have hP : va_P D vwCl (xw cR ax ar ao ad vrd vtr vsd vrn vom f107 f105 vop voe vow vok vos vso vmi vco vex) H := hP
      have hD : va_D A (xw cR ax ar ao ad vrd vtr vsd vrn vom f107 f105 vop voe vow vok vos vso vmi vco vex) := hD
      have e9 := Eq.symm hu; subst e9
      exact x_vret hx hb hr hlocks hQ hK hP hD hS rfl dX1_addToLow_77
  · rw [if_neg c_103] at hu
    refine lv_aload_n hx hb dX1_addToLow_21 rfl (lv_at hl 0 rfl) ?_
    refine lv_dup hx hb dX1_addToLow_22 rfl ?_
    refine va_get (D := D) (ci := 3) (v := .long f101) (C := RX1) (T := TX1) (N := 8) hx hb hts hi1 hown hK hP 2 rfl rfl 2 (by decide) (hts (.fieldLink RX1 15 "DecimalWords$Outcome" "low" "J") (inW_1 _ (List.mem_of_getElem? (i := 21) rfl))) (fun _ h9 => h9) rfl dX1_addToLow_23 ?_
    refine lv_ldc2 (v := 10000000000000000) hx hb hown (hts (.constantLong RX1 72 (10000000000000000)) (inW_2 _ (List.mem_of_getElem? (i := 15) rfl))) dX1_addToLow_26 ?_
    refine lv_lsub hx hb dX1_addToLow_29 ?_
    refine lv_topl (fun f109 ef109 => ?_)
    have hu := hu _ ef109
    refine va_put (D := D) (ci := 3) (v := .long f109) (ty := .long) (C := RX1) (T := TX1) (N := 8) hx hb hts hi1 tyX1 tyX1_ok nmX1 hown hK hP hD hS 2 rfl rfl 2 (by decide) (hts (.fieldLink RX1 15 "DecimalWords$Outcome" "low" "J") (inW_1 _ (List.mem_of_getElem? (i := 21) rfl))) (fun _ h9 => h9) rfl (by decide +kernel) rfl rfl (Nat.le_of_ble_eq_true rfl) dX1_addToLow_30 (fun H locs hP hD hS => ?_)
    have hP : va_P D vwCl (xw cR ax ar ao ad vrd vtr vsd vrn vom voh f109 vop voe vow vok vos vso vmi vco vex) H := hP
    have hD : va_D A (xw cR ax ar ao ad vrd vtr vsd vrn vom voh f109 vop voe vow vok vos vso vmi vco vex) := hD
    refine lv_aload_n hx hb dX1_addToLow_33 rfl (lv_at hl 0 rfl) ?_
    refine lv_dup hx hb dX1_addToLow_34 rfl ?_
    refine va_get (D := D) (ci := 3) (v := .long voh) (C := RX1) (T := TX1) (N := 8) hx hb hts hi1 hown hK hP 2 rfl rfl 1 (by decide) (hts (.fieldLink RX1 9 "DecimalWords$Outcome" "high" "J") (inW_1 _ (List.mem_of_getElem? (i := 20) rfl))) (fun _ h9 => h9) rfl dX1_addToLow_35 ?_
    refine lv_lconst (v := 1) hx hb dX1_addToLow_38 (by decide) ?_
    refine lv_ladd hx hb dX1_addToLow_39 ?_
    refine lv_topl (fun f111 ef111 => ?_)
    have hu := hu _ ef111
    refine va_put (D := D) (ci := 3) (v := .long f111) (ty := .long) (C := RX1) (T := TX1) (N := 8) hx hb hts hi1 tyX1 tyX1_ok nmX1 hown hK hP hD hS 2 rfl rfl 1 (by decide) (hts (.fieldLink RX1 9 "DecimalWords$Outcome" "high" "J") (inW_1 _ (List.mem_of_getElem? (i := 20) rfl))) (fun _ h9 => h9) rfl (by decide +kernel) rfl rfl (Nat.le_of_ble_eq_true rfl) dX1_addToLow_40 (fun H locs hP hD hS => ?_)
    have hP : va_P D vwCl (xw cR ax ar ao ad vrd vtr vsd vrn vom f111 f109 vop voe vow vok vos vso vmi vco vex) H := hP
    have hD : va_D A (xw cR ax ar ao ad vrd vtr vsd vrn vom f111 f109 vop voe vow vok vos vso vmi vco vex) := hD
    refine lv_goto (tgt := 77) hx hb dX1_addToLow_43 (by decide) ?_
    have e9 := Eq.symm hu; subst e9
    exact x_vret hx hb hr hlocks hQ hK hP hD hS rfl dX1_addToLow_77

def F_X1_restOf  (p0 : Int64) (p1 : Int64) (p2 : Bool) : Int32 := (bnd (p1 / 2) (fun n101 : Int64 => (if n101 < p0 then 3 else (if p0 = n101 then (if p2 = true then 3 else 2) else (if p0 = 0 then (if p2 = true then 1 else 0) else 1)))))
def RF_X1_restOf  (p0 : Int64) (p1 : Int64) (p2 : Bool) (u9 : Int32) : Prop := (∀ n101 : Int64, n101 = p1 / 2 → (if n101 < p0 then u9 = 3 else (if p0 = n101 then (if p2 = true then u9 = 3 else u9 = 2) else (if p0 = 0 then (if p2 = true then u9 = 1 else u9 = 0) else u9 = 1))))
theorem rF_X1_restOf  (p0 : Int64) (p1 : Int64) (p2 : Bool) {u9 : Int32} (hu : u9 = F_X1_restOf p0 p1 p2) : RF_X1_restOf p0 p1 p2 u9 := by
  unfold RF_X1_restOf
  intro n101 en101
  have hu := bnd_n hu en101
  refine ite_P (fun c_102 => ?_) (fun c_102 => ?_)
  · have hu := hu.trans (if_pos c_102)
    exact hu
  · have hu := hu.trans (if_neg c_102)
    refine ite_P (fun c_103 => ?_) (fun c_103 => ?_)
    · have hu := hu.trans (if_pos c_103)
      refine ite_P (fun c_106 => ?_) (fun c_106 => ?_)
      · have hu := hu.trans (if_pos c_106)
        exact hu
      · have hu := hu.trans (if_neg c_106)
        exact hu
    · have hu := hu.trans (if_neg c_103)
      refine ite_P (fun c_104 => ?_) (fun c_104 => ?_)
      · have hu := hu.trans (if_pos c_104)
        refine ite_P (fun c_105 => ?_) (fun c_105 => ?_)
        · have hu := hu.trans (if_pos c_105)
          exact hu
        · have hu := hu.trans (if_neg c_105)
          exact hu
      · have hu := hu.trans (if_neg c_104)
        exact hu
def rm_X1_restOf : Room := { frames := 0, cells := 0, slots := 0, locals := 0 }
set_option maxHeartbeats 4000000 in
set_option maxRecDepth 100000 in
theorem c_X1_restOf (l : Launch) (D : va_G) (cR cI cJ cZ : ClassId) (t0 : Nat) (w : va_W) (p0 : Int64) (p1 : Int64) (p2 : Bool) (u : Int32) (hu : u = F_X1_restOf p0 p1 p2) : XM l D (xty cR cI cJ cZ) t0 yX1_restOf cX1_restOf 7 (some .int) rm_X1_restOf [.long p0, .long p1, .int (bI p2)] (some (.int u)) (w) (w) := by
  refine XM.of (by decide) (Nat.le_of_ble_eq_true rfl) ?_
  intro p e s m args below meth c A Q F hK hP hD hA hSt hS hQ ls hl
  obtain ⟨hx, hb, hr, hts, hown, hlocks, hml⟩ := F
  have hCF : CallFix p m c cX1_restOf 7 s args gW RX1 := ⟨hx, hb, hml, hown, hts⟩
  have hu := rF_X1_restOf p0 p1 p2 hu
  unfold RF_X1_restOf at hu
  obtain ⟨H, eH⟩ : ∃ y9 : Heap, y9 = s.heap := ⟨_, rfl⟩
  obtain ⟨locs, eL⟩ : ∃ y9 : List Loc, y9 = [] := ⟨_, rfl⟩
  rw [← eL] at hS ⊢
  have hP : va_P D vwCl (w) H := by rw [eH]; exact hP
  have hS : va_S A s.heap H locs := by rw [eH]; exact hS
  suffices goal9 : W p l e rm_X1_restOf s m args below meth c H locs 0 0 Q (F0 m 0 ls []) from by rw [← eH]; exact goal9
  have hl : lv_has ls 7 [(0, .long p0), (2, .long p1), (4, .int (bI p2))] := hl
  refine lv_lload_n hx hb dX1_restOf_0 rfl (lv_at hl 1 rfl) ?_
  refine lv_ldc2 (v := 2) hx hb hown (hts (.constantLong RX1 94 (2)) (inW_2 _ (List.mem_of_getElem? (i := 34) rfl))) dX1_restOf_1 ?_
  refine lv_ldiv hx hb dX1_restOf_4 (by decide) ?_
  refine lv_topl (fun n101 en101 => ?_)
  have hu := hu _ en101
  refine lv_lstore (lv' := [(5, .long n101), (0, .long p0), (2, .long p1), (4, .int (bI p2))]) hx hb dX1_restOf_5 hl (by decide) rfl (fun ls hl => ?_)
  refine lv_lload_n hx hb dX1_restOf_7 rfl (lv_at hl 1 rfl) ?_
  refine lv_lload hx hb dX1_restOf_8 (lv_at hl 0 rfl) ?_
  refine xl_gt (tgt := 26) hx hb dX1_restOf_10 dX1_restOf_11 (by decide) (fun c_102 => ?_) (fun c_102 => ?_)
  · rw [if_pos c_102] at hu
    refine lv_iconst (v := 3) hx hb dX1_restOf_26 (by decide) ?_
    have e9 := Eq.symm hu; subst e9
    exact x_iret hx hb hr hlocks hQ hK hP hD hS rfl rfl dX1_restOf_27
  · rw [if_neg c_102] at hu
    refine lv_lload_n hx hb dX1_restOf_14 rfl (lv_at hl 1 rfl) ?_
    refine lv_lload hx hb dX1_restOf_15 (lv_at hl 0 rfl) ?_
    refine xl_ne (tgt := 28) hx hb dX1_restOf_17 dX1_restOf_18 (by decide) (fun c_103 => ?_) (fun c_103 => ?_)
    · rw [if_neg c_103] at hu
      refine lv_lload_n hx hb dX1_restOf_28 rfl (lv_at hl 1 rfl) ?_
      refine lv_lload hx hb dX1_restOf_29 (lv_at hl 0 rfl) ?_
      refine xl_ne (tgt := 37) hx hb dX1_restOf_31 dX1_restOf_32 (by decide) (fun _ => ?_) (fun c9 => absurd c9 c_103)
      refine lv_lload_n hx hb dX1_restOf_37 rfl (lv_at hl 1 rfl) ?_
      refine lv_lconst (v := 0) hx hb dX1_restOf_38 (by decide) ?_
      refine xl_ne (tgt := 48) hx hb dX1_restOf_39 dX1_restOf_40 (by decide) (fun c_104 => ?_) (fun c_104 => ?_)
      · rw [if_neg c_104] at hu
        refine lv_iconst (v := 1) hx hb dX1_restOf_48 (by decide) ?_
        refine lv_goto (tgt := 53) hx hb dX1_restOf_49 (by decide) ?_
        have e9 := Eq.symm hu; subst e9
        exact x_iret hx hb hr hlocks hQ hK hP hD hS rfl rfl dX1_restOf_53
      · rw [if_pos c_104] at hu
        refine lv_iload hx hb dX1_restOf_43 (lv_at hl 3 rfl) ?_
        refine xb_eq (tgt := 52) hx hb dX1_restOf_45 (by decide) (fun c_105 => ?_) (fun c_105 => ?_)
        · rw [if_neg c_105] at hu
          refine lv_iconst (v := 0) hx hb dX1_restOf_52 (by decide) ?_
          have e9 := Eq.symm hu; subst e9
          exact x_iret hx hb hr hlocks hQ hK hP hD hS rfl rfl dX1_restOf_53
        · rw [if_pos c_105] at hu
          refine lv_iconst (v := 1) hx hb dX1_restOf_48 (by decide) ?_
          refine lv_goto (tgt := 53) hx hb dX1_restOf_49 (by decide) ?_
          have e9 := Eq.symm hu; subst e9
          exact x_iret hx hb hr hlocks hQ hK hP hD hS rfl rfl dX1_restOf_53
    · rw [if_pos c_103] at hu
      refine lv_iload hx hb dX1_restOf_21 (lv_at hl 3 rfl) ?_
      refine xb_eq (tgt := 28) hx hb dX1_restOf_23 (by decide) (fun c_106 => ?_) (fun c_106 => ?_)
      · rw [if_neg c_106] at hu
        refine lv_lload_n hx hb dX1_restOf_28 rfl (lv_at hl 1 rfl) ?_
        refine lv_lload hx hb dX1_restOf_29 (lv_at hl 0 rfl) ?_
        refine xl_ne (tgt := 37) hx hb dX1_restOf_31 dX1_restOf_32 (by decide) (fun c9 => absurd c_103 c9) (fun _ => ?_)
        refine lv_iconst (v := 2) hx hb dX1_restOf_35 (by decide) ?_
        have e9 := Eq.symm hu; subst e9
        exact x_iret hx hb hr hlocks hQ hK hP hD hS rfl rfl dX1_restOf_36
      · rw [if_pos c_106] at hu
        refine lv_iconst (v := 3) hx hb dX1_restOf_26 (by decide) ?_
        have e9 := Eq.symm hu; subst e9
        exact x_iret hx hb hr hlocks hQ hK hP hD hS rfl rfl dX1_restOf_27

def Z_X1_setProduct_J_109 (vmi : Nat → Bool) (i1 : Nat) (i2 : Nat) : Bool := (if vmi i1 = vmi i2 then false else true)
def RZ_X1_setProduct_J_109 (vmi : Nat → Bool) (i1 : Nat) (i2 : Nat) (u9 : Bool) : Prop := (if vmi i1 = vmi i2 then u9 = false else u9 = true)
theorem rZ_X1_setProduct_J_109 (vmi : Nat → Bool) (i1 : Nat) (i2 : Nat) {u9 : Bool} (hu : u9 = Z_X1_setProduct_J_109 vmi i1 i2) : RZ_X1_setProduct_J_109 vmi i1 i2 u9 := by
  unfold RZ_X1_setProduct_J_109
  refine ite_P (fun c_106 => ?_) (fun c_106 => ?_)
  · have hu := hu.trans (if_pos c_106)
    exact hu
  · have hu := hu.trans (if_neg c_106)
    exact hu
def F_X1_setProduct (vmi : Nat → Bool) (vco : Nat → Int64) (vex : Nat → Int32) (i1 : Nat) (i2 : Nat) : Bool × Int64 × Int64 × Int32 × Bool × Int32 := (bnd ((vco i1) / 100000000) (fun n101 : Int64 => (bnd (jremL (vco i1) 100000000) (fun n102 : Int64 => (bnd ((vco i2) / 100000000) (fun n103 : Int64 => (bnd (jremL (vco i2) 100000000) (fun n104 : Int64 => (bnd ((n101 * n104) + (n102 * n103)) (fun n105 : Int64 => (bnd (Z_X1_setProduct_J_109 vmi i1 i2) (fun z108 : Bool => (bnd ((n101 * n103) + (n105 / 100000000)) (fun f111 : Int64 => (bnd ((jremL n105 100000000) * 100000000) (fun f113 : Int64 => (bnd (F_X1_addToLow f111 f113 (n102 * n104)) (fun u115 : Int64 × Int64 => (bnd ((vex i1) + (vex i2)) (fun f117 : Int32 => (z108, u115.1, u115.2, f117, false, f117)))))))))))))))))))))
def RF_X1_setProduct (vmi : Nat → Bool) (vco : Nat → Int64) (vex : Nat → Int32) (i1 : Nat) (i2 : Nat) (u9 : Bool × Int64 × Int64 × Int32 × Bool × Int32) : Prop := (∀ n101 : Int64, n101 = (vco i1) / 100000000 → (∀ n102 : Int64, n102 = jremL (vco i1) 100000000 → (∀ n103 : Int64, n103 = (vco i2) / 100000000 → (∀ n104 : Int64, n104 = jremL (vco i2) 100000000 → (∀ n105 : Int64, n105 = (n101 * n104) + (n102 * n103) → (∀ z108 : Bool, z108 = Z_X1_setProduct_J_109 vmi i1 i2 → (∀ f111 : Int64, f111 = (n101 * n103) + (n105 / 100000000) → (∀ f113 : Int64, f113 = (jremL n105 100000000) * 100000000 → (∀ u115 : Int64 × Int64, u115 = F_X1_addToLow f111 f113 (n102 * n104) → (∀ f117 : Int32, f117 = (vex i1) + (vex i2) → u9 = (z108, u115.1, u115.2, f117, false, f117)))))))))))
theorem rF_X1_setProduct (vmi : Nat → Bool) (vco : Nat → Int64) (vex : Nat → Int32) (i1 : Nat) (i2 : Nat) {u9 : Bool × Int64 × Int64 × Int32 × Bool × Int32} (hu : u9 = F_X1_setProduct vmi vco vex i1 i2) : RF_X1_setProduct vmi vco vex i1 i2 u9 := by
  unfold RF_X1_setProduct
  intro n101 en101
  have hu := bnd_n hu en101
  intro n102 en102
  have hu := bnd_n hu en102
  intro n103 en103
  have hu := bnd_n hu en103
  intro n104 en104
  have hu := bnd_n hu en104
  intro n105 en105
  have hu := bnd_n hu en105
  intro z108 ez108
  have hu := bnd_n hu ez108
  intro f111 ef111
  have hu := bnd_n hu ef111
  intro f113 ef113
  have hu := bnd_n hu ef113
  intro u115 eu115
  have hu := bnd_n hu eu115
  intro f117 ef117
  have hu := bnd_n hu ef117
  exact hu
def rm_X1_setProduct : Room := { frames := 1, cells := 0, slots := 0, locals := 22 }
set_option maxHeartbeats 4000000 in
set_option maxRecDepth 100000 in
theorem c_X1_setProduct (l : Launch) (D : va_G) (cR cI cJ cZ : ClassId) (t0 : Nat) (ax ar ao : Nat) (ad : Nat → Nat) (vrd : Int32) (vtr : Int32) (vsd : Int32) (vrn : Int32) (vom : Bool) (voh : Int64) (vol : Int64) (vop : Int32) (voe : Bool) (vow : Int32) (vok : Int64) (vos : Int32) (vso : Nat → Int32) (vmi : Nat → Bool) (vco : Nat → Int64) (vex : Nat → Int32) (i1 : Nat) (i2 : Nat) (u : Bool × Int64 × Int64 × Int32 × Bool × Int32) (hu : u = F_X1_setProduct vmi vco vex i1 i2) (hb1 : i1 < 9) (hb2 : i2 < 9) : XM l D (xty cR cI cJ cZ) t0 yX1_setProduct cX1_setProduct 13 none rm_X1_setProduct [.ref ao, .ref (ad i1), .ref (ad i2)] none (xw cR ax ar ao ad vrd vtr vsd vrn vom voh vol vop voe vow vok vos vso vmi vco vex) (xw cR ax ar ao ad vrd vtr vsd vrn u.1 u.2.1 u.2.2.1 u.2.2.2.1 u.2.2.2.2.1 u.2.2.2.2.2 vok vos vso vmi vco vex) := by
  refine XM.of (by decide) (Nat.le_of_ble_eq_true rfl) ?_
  intro p e s m args below meth c A Q F hK hP hD hA hSt hS hQ ls hl
  obtain ⟨hx, hb, hr, hts, hown, hlocks, hml⟩ := F
  have hCF : CallFix p m c cX1_setProduct 13 s args gW RX1 := ⟨hx, hb, hml, hown, hts⟩
  have hu := rF_X1_setProduct vmi vco vex i1 i2 hu
  unfold RF_X1_setProduct at hu
  obtain ⟨H, eH⟩ : ∃ y9 : Heap, y9 = s.heap := ⟨_, rfl⟩
  obtain ⟨locs, eL⟩ : ∃ y9 : List Loc, y9 = [] := ⟨_, rfl⟩
  rw [← eL] at hS ⊢
  have hP : va_P D vwCl (xw cR ax ar ao ad vrd vtr vsd vrn vom voh vol vop voe vow vok vos vso vmi vco vex) H := by rw [eH]; exact hP
  have hS : va_S A s.heap H locs := by rw [eH]; exact hS
  suffices goal9 : W p l e rm_X1_setProduct s m args below meth c H locs 0 0 Q (F0 m 0 ls []) from by rw [← eH]; exact goal9
  have hl : lv_has ls 13 [(0, .ref ao), (1, .ref (ad i1)), (2, .ref (ad i2))] := hl
  have hi0 : ∀ w ∈ wsX00, w ∈ gW := inW_X0
  have hi1 : ∀ w ∈ wsX10, w ∈ gW := inW_X1
  refine lv_aload_n hx hb dX1_setProduct_0 rfl (lv_at hl 1 rfl) ?_
  refine g_co (i := i1) hx hb hts hi0 hown hK hP hb1 (hts (.fieldLink RX1 32 "DecimalWords$Datum" "coefficient" "J") (inW_1 _ (List.mem_of_getElem? (i := 31) rfl))) dX1_setProduct_1 ?_
  refine lv_ldc2 (v := 100000000) hx hb hown (hts (.constantLong RX1 74 (100000000)) (inW_2 _ (List.mem_of_getElem? (i := 20) rfl))) dX1_setProduct_4 ?_
  refine lv_ldiv hx hb dX1_setProduct_7 (by decide) ?_
  refine lv_topl (fun n101 en101 => ?_)
  have hu := hu _ en101
  refine lv_lstore_n (lv' := [(3, .long n101), (0, .ref ao), (1, .ref (ad i1)), (2, .ref (ad i2))]) hx hb dX1_setProduct_8 rfl hl (by decide) rfl (fun ls hl => ?_)
  refine lv_aload_n hx hb dX1_setProduct_9 rfl (lv_at hl 2 rfl) ?_
  refine g_co (i := i1) hx hb hts hi0 hown hK hP hb1 (hts (.fieldLink RX1 32 "DecimalWords$Datum" "coefficient" "J") (inW_1 _ (List.mem_of_getElem? (i := 31) rfl))) dX1_setProduct_10 ?_
  refine lv_ldc2 (v := 100000000) hx hb hown (hts (.constantLong RX1 74 (100000000)) (inW_2 _ (List.mem_of_getElem? (i := 20) rfl))) dX1_setProduct_13 ?_
  refine x_lrem hx hb dX1_setProduct_16 (by decide) ?_
  refine lv_topl (fun n102 en102 => ?_)
  have hu := hu _ en102
  refine lv_lstore (lv' := [(5, .long n102), (3, .long n101), (0, .ref ao), (1, .ref (ad i1)), (2, .ref (ad i2))]) hx hb dX1_setProduct_17 hl (by decide) rfl (fun ls hl => ?_)
  refine lv_aload_n hx hb dX1_setProduct_19 rfl (lv_at hl 4 rfl) ?_
  refine g_co (i := i2) hx hb hts hi0 hown hK hP hb2 (hts (.fieldLink RX1 32 "DecimalWords$Datum" "coefficient" "J") (inW_1 _ (List.mem_of_getElem? (i := 31) rfl))) dX1_setProduct_20 ?_
  refine lv_ldc2 (v := 100000000) hx hb hown (hts (.constantLong RX1 74 (100000000)) (inW_2 _ (List.mem_of_getElem? (i := 20) rfl))) dX1_setProduct_23 ?_
  refine lv_ldiv hx hb dX1_setProduct_26 (by decide) ?_
  refine lv_topl (fun n103 en103 => ?_)
  have hu := hu _ en103
  refine lv_lstore (lv' := [(7, .long n103), (5, .long n102), (3, .long n101), (0, .ref ao), (1, .ref (ad i1)), (2, .ref (ad i2))]) hx hb dX1_setProduct_27 hl (by decide) rfl (fun ls hl => ?_)
  refine lv_aload_n hx hb dX1_setProduct_29 rfl (lv_at hl 5 rfl) ?_
  refine g_co (i := i2) hx hb hts hi0 hown hK hP hb2 (hts (.fieldLink RX1 32 "DecimalWords$Datum" "coefficient" "J") (inW_1 _ (List.mem_of_getElem? (i := 31) rfl))) dX1_setProduct_30 ?_
  refine lv_ldc2 (v := 100000000) hx hb hown (hts (.constantLong RX1 74 (100000000)) (inW_2 _ (List.mem_of_getElem? (i := 20) rfl))) dX1_setProduct_33 ?_
  refine x_lrem hx hb dX1_setProduct_36 (by decide) ?_
  refine lv_topl (fun n104 en104 => ?_)
  have hu := hu _ en104
  refine lv_lstore (lv' := [(9, .long n104), (7, .long n103), (5, .long n102), (3, .long n101), (0, .ref ao), (1, .ref (ad i1)), (2, .ref (ad i2))]) hx hb dX1_setProduct_37 hl (by decide) rfl (fun ls hl => ?_)
  refine lv_lload_n hx hb dX1_setProduct_39 rfl (lv_at hl 3 rfl) ?_
  refine lv_lload hx hb dX1_setProduct_40 (lv_at hl 0 rfl) ?_
  refine lv_lmul hx hb dX1_setProduct_42 ?_
  refine lv_lload hx hb dX1_setProduct_43 (lv_at hl 2 rfl) ?_
  refine lv_lload hx hb dX1_setProduct_45 (lv_at hl 1 rfl) ?_
  refine lv_lmul hx hb dX1_setProduct_47 ?_
  refine lv_ladd hx hb dX1_setProduct_48 ?_
  refine lv_topl (fun n105 en105 => ?_)
  have hu := hu _ en105
  refine lv_lstore (lv' := [(11, .long n105), (9, .long n104), (7, .long n103), (5, .long n102), (3, .long n101), (0, .ref ao), (1, .ref (ad i1)), (2, .ref (ad i2))]) hx hb dX1_setProduct_49 hl (by decide) rfl (fun ls hl => ?_)
  refine lv_aload_n hx hb dX1_setProduct_51 rfl (lv_at hl 5 rfl) ?_
  refine lv_aload_n hx hb dX1_setProduct_52 rfl (lv_at hl 6 rfl) ?_
  refine g_mi (i := i1) hx hb hts hi0 hown hK hP hb1 (hts (.fieldLink RX1 26 "DecimalWords$Datum" "minus" "Z") (inW_1 _ (List.mem_of_getElem? (i := 29) rfl))) dX1_setProduct_53 ?_
  refine lv_aload_n hx hb dX1_setProduct_56 rfl (lv_at hl 7 rfl) ?_
  refine g_mi (i := i2) hx hb hts hi0 hown hK hP hb2 (hts (.fieldLink RX1 26 "DecimalWords$Datum" "minus" "Z") (inW_1 _ (List.mem_of_getElem? (i := 29) rfl))) dX1_setProduct_57 ?_
  have J_109 : (∀ z108 : Bool, z108 = Z_X1_setProduct_J_109 vmi i1 i2 → ∀ (H : Heap) (locs : List Loc), va_P D vwCl (xw cR ax ar ao ad vrd vtr vsd vrn vom voh vol vop voe vow vok vos vso vmi vco vex) H → va_D A (xw cR ax ar ao ad vrd vtr vsd vrn vom voh vol vop voe vow vok vos vso vmi vco vex) → va_S A s.heap H locs → ∀ ls : Array Slot, lv_has ls 13 [(0, .ref ao), (1, .ref (ad i1)), (2, .ref (ad i2)), (3, .long n101), (5, .long n102), (7, .long n103), (9, .long n104), (11, .long n105)] → W p l e rm_X1_setProduct s m args below meth c H locs 0 0 Q (F0 m 68 ls [.int (bI z108), .ref ao])) := by
    intro z108 ez108 H locs hP hD hS ls hl
    have hu := hu _ ez108
    refine va_put (D := D) (ci := 3) (v := .int (bI z108)) (ty := .boolean) (C := RX1) (T := TX1) (N := 8) hx hb hts hi1 tyX1 tyX1_ok nmX1 hown hK hP hD hS 2 rfl rfl 0 (by decide) (hts (.fieldLink RX1 31 "DecimalWords$Outcome" "minus" "Z") (inW_1 _ (List.mem_of_getElem? (i := 30) rfl))) (fun _ h9 => h9) rfl (by decide +kernel) (bI_nar z108) (bI_fit z108) (Nat.le_of_ble_eq_true rfl) dX1_setProduct_68 (fun H locs hP hD hS => ?_)
    have hP : va_P D vwCl (xw cR ax ar ao ad vrd vtr vsd vrn z108 voh vol vop voe vow vok vos vso vmi vco vex) H := hP
    have hD : va_D A (xw cR ax ar ao ad vrd vtr vsd vrn z108 voh vol vop voe vow vok vos vso vmi vco vex) := hD
    refine lv_aload_n hx hb dX1_setProduct_71 rfl (lv_at hl 0 rfl) ?_
    refine lv_lload_n hx hb dX1_setProduct_72 rfl (lv_at hl 3 rfl) ?_
    refine lv_lload hx hb dX1_setProduct_73 (lv_at hl 5 rfl) ?_
    refine lv_lmul hx hb dX1_setProduct_75 ?_
    refine lv_lload hx hb dX1_setProduct_76 (lv_at hl 7 rfl) ?_
    refine lv_ldc2 (v := 100000000) hx hb hown (hts (.constantLong RX1 74 (100000000)) (inW_2 _ (List.mem_of_getElem? (i := 20) rfl))) dX1_setProduct_78 ?_
    refine lv_ldiv hx hb dX1_setProduct_81 (by decide) ?_
    refine lv_ladd hx hb dX1_setProduct_82 ?_
    refine lv_topl (fun f111 ef111 => ?_)
    have hu := hu _ ef111
    refine va_put (D := D) (ci := 3) (v := .long f111) (ty := .long) (C := RX1) (T := TX1) (N := 8) hx hb hts hi1 tyX1 tyX1_ok nmX1 hown hK hP hD hS 2 rfl rfl 1 (by decide) (hts (.fieldLink RX1 9 "DecimalWords$Outcome" "high" "J") (inW_1 _ (List.mem_of_getElem? (i := 20) rfl))) (fun _ h9 => h9) rfl (by decide +kernel) rfl rfl (Nat.le_of_ble_eq_true rfl) dX1_setProduct_83 (fun H locs hP hD hS => ?_)
    have hP : va_P D vwCl (xw cR ax ar ao ad vrd vtr vsd vrn z108 f111 vol vop voe vow vok vos vso vmi vco vex) H := hP
    have hD : va_D A (xw cR ax ar ao ad vrd vtr vsd vrn z108 f111 vol vop voe vow vok vos vso vmi vco vex) := hD
    refine lv_aload_n hx hb dX1_setProduct_86 rfl (lv_at hl 0 rfl) ?_
    refine lv_lload hx hb dX1_setProduct_87 (lv_at hl 7 rfl) ?_
    refine lv_ldc2 (v := 100000000) hx hb hown (hts (.constantLong RX1 74 (100000000)) (inW_2 _ (List.mem_of_getElem? (i := 20) rfl))) dX1_setProduct_89 ?_
    refine x_lrem hx hb dX1_setProduct_92 (by decide) ?_
    refine lv_ldc2 (v := 100000000) hx hb hown (hts (.constantLong RX1 74 (100000000)) (inW_2 _ (List.mem_of_getElem? (i := 20) rfl))) dX1_setProduct_93 ?_
    refine lv_lmul hx hb dX1_setProduct_96 ?_
    refine lv_topl (fun f113 ef113 => ?_)
    have hu := hu _ ef113
    refine va_put (D := D) (ci := 3) (v := .long f113) (ty := .long) (C := RX1) (T := TX1) (N := 8) hx hb hts hi1 tyX1 tyX1_ok nmX1 hown hK hP hD hS 2 rfl rfl 2 (by decide) (hts (.fieldLink RX1 15 "DecimalWords$Outcome" "low" "J") (inW_1 _ (List.mem_of_getElem? (i := 21) rfl))) (fun _ h9 => h9) rfl (by decide +kernel) rfl rfl (Nat.le_of_ble_eq_true rfl) dX1_setProduct_97 (fun H locs hP hD hS => ?_)
    have hP : va_P D vwCl (xw cR ax ar ao ad vrd vtr vsd vrn z108 f111 f113 vop voe vow vok vos vso vmi vco vex) H := hP
    have hD : va_D A (xw cR ax ar ao ad vrd vtr vsd vrn z108 f111 f113 vop voe vow vok vos vso vmi vco vex) := hD
    refine lv_aload_n hx hb dX1_setProduct_100 rfl (lv_at hl 0 rfl) ?_
    refine lv_lload hx hb dX1_setProduct_101 (lv_at hl 4 rfl) ?_
    refine lv_lload hx hb dX1_setProduct_103 (lv_at hl 6 rfl) ?_
    refine lv_lmul hx hb dX1_setProduct_105 ?_
    obtain ⟨u115, eu115⟩ : ∃ y9 : Int64 × Int64, y9 = F_X1_addToLow f111 f113 (n102 * n104) := ⟨_, rfl⟩
    have hu := hu _ eu115
    refine x_V (As := [.long (n102 * n104)]) (rest := []) hCF (c_X1_addToLow l D cR cI cJ cZ t0 ax ar ao ad vrd vtr vsd vrn z108 f111 f113 vop voe vow vok vos vso vmi vco vex (n102 * n104) u115 eu115) (x_cwV 1 hts (inW_2 _ (List.mem_of_getElem? (i := 11) rfl)) (inW_2 _ (List.mem_of_getElem? (i := 12) rfl)) (inW_2 _ (List.mem_of_getElem? (i := 13) rfl)) (inW_2 _ (List.mem_of_getElem? (i := 4) rfl)) (inW_2 _ (List.mem_of_getElem? (i := 14) rfl)) rfl rfl (by decide +kernel) ⟨Nat.le_of_ble_eq_true rfl, Nat.le_of_ble_eq_true rfl⟩) hK hP hD hS hA hSt 2 rfl rfl rfl hl.1 rfl (Nat.le_of_ble_eq_true rfl) dX1_setProduct_106 ⟨Nat.le_of_ble_eq_true rfl, Nat.le_of_ble_eq_true rfl⟩ (fun H locs hP hD hS => ?_)
    show W p l e _ s m args below meth c H locs 0 0 Q (F0 m 109 ls [])
    refine lv_aload_n hx hb dX1_setProduct_109 rfl (lv_at hl 0 rfl) ?_
    refine lv_aload_n hx hb dX1_setProduct_110 rfl (lv_at hl 1 rfl) ?_
    refine g_ex (i := i1) hx hb hts hi0 hown hK hP hb1 (hts (.fieldLink RX1 35 "DecimalWords$Datum" "exponent" "I") (inW_1 _ (List.mem_of_getElem? (i := 32) rfl))) dX1_setProduct_111 ?_
    refine lv_aload_n hx hb dX1_setProduct_114 rfl (lv_at hl 2 rfl) ?_
    refine g_ex (i := i2) hx hb hts hi0 hown hK hP hb2 (hts (.fieldLink RX1 35 "DecimalWords$Datum" "exponent" "I") (inW_1 _ (List.mem_of_getElem? (i := 32) rfl))) dX1_setProduct_115 ?_
    refine lv_iadd hx hb dX1_setProduct_118 ?_
    refine lv_topi (fun f117 ef117 => ?_)
    have hu := hu _ ef117
    refine va_put (D := D) (ci := 3) (v := .int f117) (ty := .int) (C := RX1) (T := TX1) (N := 8) hx hb hts hi1 tyX1 tyX1_ok nmX1 hown hK hP hD hS 2 rfl rfl 3 (by decide) (hts (.fieldLink RX1 39 "DecimalWords$Outcome" "power" "I") (inW_1 _ (List.mem_of_getElem? (i := 33) rfl))) (fun _ h9 => h9) rfl (by decide +kernel) rfl rfl (Nat.le_of_ble_eq_true rfl) dX1_setProduct_119 (fun H locs hP hD hS => ?_)
    have hP : va_P D vwCl (xw cR ax ar ao ad vrd vtr vsd vrn z108 u115.1 u115.2 f117 voe vow vok vos vso vmi vco vex) H := hP
    have hD : va_D A (xw cR ax ar ao ad vrd vtr vsd vrn z108 u115.1 u115.2 f117 voe vow vok vos vso vmi vco vex) := hD
    refine lv_aload_n hx hb dX1_setProduct_122 rfl (lv_at hl 0 rfl) ?_
    refine lv_iconst (v := 0) hx hb dX1_setProduct_123 (by decide) ?_
    refine va_put (D := D) (ci := 3) (v := .int (bI false)) (ty := .boolean) (C := RX1) (T := TX1) (N := 8) hx hb hts hi1 tyX1 tyX1_ok nmX1 hown hK hP hD hS 2 rfl rfl 4 (by decide) (hts (.fieldLink RX1 18 "DecimalWords$Outcome" "more" "Z") (inW_1 _ (List.mem_of_getElem? (i := 22) rfl))) (fun _ h9 => h9) rfl (by decide +kernel) (bI_nar false) (bI_fit false) (Nat.le_of_ble_eq_true rfl) dX1_setProduct_124 (fun H locs hP hD hS => ?_)
    have hP : va_P D vwCl (xw cR ax ar ao ad vrd vtr vsd vrn z108 u115.1 u115.2 f117 false vow vok vos vso vmi vco vex) H := hP
    have hD : va_D A (xw cR ax ar ao ad vrd vtr vsd vrn z108 u115.1 u115.2 f117 false vow vok vos vso vmi vco vex) := hD
    refine lv_aload_n hx hb dX1_setProduct_127 rfl (lv_at hl 0 rfl) ?_
    refine lv_aload_n hx hb dX1_setProduct_128 rfl (lv_at hl 0 rfl) ?_
    refine va_get (D := D) (ci := 3) (v := .int f117) (C := RX1) (T := TX1) (N := 8) hx hb hts hi1 hown hK hP 2 rfl rfl 3 (by decide) (hts (.fieldLink RX1 39 "DecimalWords$Outcome" "power" "I") (inW_1 _ (List.mem_of_getElem? (i := 33) rfl))) (fun _ h9 => h9) rfl dX1_setProduct_129 ?_
    refine va_put (D := D) (ci := 3) (v := .int f117) (ty := .int) (C := RX1) (T := TX1) (N := 8) hx hb hts hi1 tyX1 tyX1_ok nmX1 hown hK hP hD hS 2 rfl rfl 5 (by decide) (hts (.fieldLink RX1 61 "DecimalWords$Outcome" "wish" "I") (inW_1 _ (List.mem_of_getElem? (i := 39) rfl))) (fun _ h9 => h9) rfl (by decide +kernel) rfl rfl (Nat.le_of_ble_eq_true rfl) dX1_setProduct_132 (fun H locs hP hD hS => ?_)
    have hP : va_P D vwCl (xw cR ax ar ao ad vrd vtr vsd vrn z108 u115.1 u115.2 f117 false f117 vok vos vso vmi vco vex) H := hP
    have hD : va_D A (xw cR ax ar ao ad vrd vtr vsd vrn z108 u115.1 u115.2 f117 false f117 vok vos vso vmi vco vex) := hD
    have e9 := Eq.symm hu; subst e9
    exact x_vret hx hb hr hlocks hQ hK hP hD hS rfl dX1_setProduct_135
  obtain ⟨z9, ez9⟩ : ∃ y9 : Bool, y9 = Z_X1_setProduct_J_109 vmi i1 i2 := ⟨_, rfl⟩
  have hz := rZ_X1_setProduct_J_109 vmi i1 i2 ez9
  unfold RZ_X1_setProduct_J_109 at hz
  refine xbb_eq (tgt := 67) hx hb dX1_setProduct_60 (by decide) (fun c_106 => ?_) (fun c_106 => ?_)
  · rw [if_pos c_106] at hz
    refine lv_iconst (v := 0) hx hb dX1_setProduct_67 (by decide) ?_
    have e9 := Eq.symm hz; subst e9
    exact J_109 _ ez9 H locs hP hD hS ls (lv_sub hl [5, 6, 7, 4, 3, 2, 1, 0] rfl)
  · rw [if_neg c_106] at hz
    refine lv_iconst (v := 1) hx hb dX1_setProduct_63 (by decide) ?_
    refine lv_goto (tgt := 68) hx hb dX1_setProduct_64 (by decide) ?_
    have e9 := Eq.symm hz; subst e9
    exact J_109 _ ez9 H locs hP hD hS ls (lv_sub hl [5, 6, 7, 4, 3, 2, 1, 0] rfl)

def Z_X1_cut_J_124 (vol : Int64) (voe : Bool) : Bool := (if vol = 0 then (if voe = true then true else false) else true)
def RZ_X1_cut_J_124 (vol : Int64) (voe : Bool) (u9 : Bool) : Prop := (if vol = 0 then (if voe = true then u9 = true else u9 = false) else u9 = true)
theorem rZ_X1_cut_J_124 (vol : Int64) (voe : Bool) {u9 : Bool} (hu : u9 = Z_X1_cut_J_124 vol voe) : RZ_X1_cut_J_124 vol voe u9 := by
  unfold RZ_X1_cut_J_124
  refine ite_P (fun c_120 => ?_) (fun c_120 => ?_)
  · have hu := hu.trans (if_pos c_120)
    refine ite_P (fun c_121 => ?_) (fun c_121 => ?_)
    · have hu := hu.trans (if_pos c_121)
      exact hu
    · have hu := hu.trans (if_neg c_121)
      exact hu
  · have hu := hu.trans (if_neg c_120)
    exact hu
def Z_X1_cut_J_133 (voh : Int64) (vol : Int64) (voe : Bool) : Bool := (if F_X1_isZero voh vol voe = true then false else true)
def RZ_X1_cut_J_133 (voh : Int64) (vol : Int64) (voe : Bool) (u9 : Bool) : Prop := (if F_X1_isZero voh vol voe = true then u9 = false else u9 = true)
theorem rZ_X1_cut_J_133 (voh : Int64) (vol : Int64) (voe : Bool) {u9 : Bool} (hu : u9 = Z_X1_cut_J_133 voh vol voe) : RZ_X1_cut_J_133 voh vol voe u9 := by
  unfold RZ_X1_cut_J_133
  refine ite_P (fun c_130 => ?_) (fun c_130 => ?_)
  · have hu := hu.trans (if_pos c_130)
    exact hu
  · have hu := hu.trans (if_neg c_130)
    exact hu
def F_X1_cut (voh : Int64) (vol : Int64) (voe : Bool) (p0 : Int32) : Int64 × Int32 := (if p0 ≤ 32 then (if p0 ≤ 16 then (bnd (F_X3_tenTo p0) (fun n105 : Int64 => (bnd ((voh * (F_X3_tenTo (16 - p0))) + (vol / n105)) (fun f109 : Int64 => (bnd (F_X1_restOf (jremL vol n105) n105 voe) (fun f112 : Int32 => (f109, f112))))))) else (bnd (F_X3_tenTo (p0 - 16)) (fun n116 : Int64 => (bnd (voh / n116) (fun f118 : Int64 => (bnd (Z_X1_cut_J_124 vol voe) (fun z123 : Bool => (bnd (F_X1_restOf (jremL voh n116) n116 z123) (fun f126 : Int32 => (f118, f126)))))))))) else (bnd (Z_X1_cut_J_133 voh vol voe) (fun z132 : Bool => (0, (bI z132)))))
def RF_X1_cut (voh : Int64) (vol : Int64) (voe : Bool) (p0 : Int32) (u9 : Int64 × Int32) : Prop := (if p0 ≤ 32 then (if p0 ≤ 16 then (∀ n105 : Int64, n105 = F_X3_tenTo p0 → (∀ f109 : Int64, f109 = (voh * (F_X3_tenTo (16 - p0))) + (vol / n105) → (∀ f112 : Int32, f112 = F_X1_restOf (jremL vol n105) n105 voe → u9 = (f109, f112)))) else (∀ n116 : Int64, n116 = F_X3_tenTo (p0 - 16) → (∀ f118 : Int64, f118 = voh / n116 → (∀ z123 : Bool, z123 = Z_X1_cut_J_124 vol voe → (∀ f126 : Int32, f126 = F_X1_restOf (jremL voh n116) n116 z123 → u9 = (f118, f126)))))) else (∀ z132 : Bool, z132 = Z_X1_cut_J_133 voh vol voe → u9 = (0, (bI z132))))
theorem rF_X1_cut (voh : Int64) (vol : Int64) (voe : Bool) (p0 : Int32) {u9 : Int64 × Int32} (hu : u9 = F_X1_cut voh vol voe p0) : RF_X1_cut voh vol voe p0 u9 := by
  unfold RF_X1_cut
  refine ite_P (fun c_101 => ?_) (fun c_101 => ?_)
  · have hu := hu.trans (if_pos c_101)
    refine ite_P (fun c_102 => ?_) (fun c_102 => ?_)
    · have hu := hu.trans (if_pos c_102)
      intro n105 en105
      have hu := bnd_n hu en105
      intro f109 ef109
      have hu := bnd_n hu ef109
      intro f112 ef112
      have hu := bnd_n hu ef112
      exact hu
    · have hu := hu.trans (if_neg c_102)
      intro n116 en116
      have hu := bnd_n hu en116
      intro f118 ef118
      have hu := bnd_n hu ef118
      intro z123 ez123
      have hu := bnd_n hu ez123
      intro f126 ef126
      have hu := bnd_n hu ef126
      exact hu
  · have hu := hu.trans (if_neg c_101)
    intro z132 ez132
    have hu := bnd_n hu ez132
    exact hu
def S_X1_cut (voh : Int64) (vol : Int64) (voe : Bool) (p0 : Int32) : Prop := (if p0 ≤ 32 then (if p0 ≤ 16 then (S_X3_tenTo p0) ∧ (∀ n105 : Int64, n105 = F_X3_tenTo p0 → (S_X3_tenTo (16 - p0)) ∧ ¬ n105 = 0) else (S_X3_tenTo (p0 - 16)) ∧ (∀ n116 : Int64, n116 = F_X3_tenTo (p0 - 16) → ¬ n116 = 0)) else True)
def rm_X1_cut : Room := { frames := 1, cells := 0, slots := 0, locals := 26 }
set_option maxHeartbeats 4000000 in
set_option maxRecDepth 100000 in
theorem c_X1_cut (l : Launch) (D : va_G) (cR cI cJ cZ : ClassId) (t0 : Nat) (ax ar ao : Nat) (ad : Nat → Nat) (vrd : Int32) (vtr : Int32) (vsd : Int32) (vrn : Int32) (vom : Bool) (voh : Int64) (vol : Int64) (vop : Int32) (voe : Bool) (vow : Int32) (vok : Int64) (vos : Int32) (vso : Nat → Int32) (vmi : Nat → Bool) (vco : Nat → Int64) (vex : Nat → Int32) (p0 : Int32) (u : Int64 × Int32) (hu : u = F_X1_cut voh vol voe p0) (hs : S_X1_cut voh vol voe p0) : XM l D (xty cR cI cJ cZ) t0 yX1_cut cX1_cut 4 none rm_X1_cut [.ref ao, .int p0] none (xw cR ax ar ao ad vrd vtr vsd vrn vom voh vol vop voe vow vok vos vso vmi vco vex) (xw cR ax ar ao ad vrd vtr vsd vrn vom voh vol vop voe vow u.1 u.2 vso vmi vco vex) := by
  refine XM.of (by decide) (Nat.le_of_ble_eq_true rfl) ?_
  intro p e s m args below meth c A Q F hK hP hD hA hSt hS hQ ls hl
  obtain ⟨hx, hb, hr, hts, hown, hlocks, hml⟩ := F
  have hCF : CallFix p m c cX1_cut 4 s args gW RX1 := ⟨hx, hb, hml, hown, hts⟩
  unfold S_X1_cut at hs
  have hu := rF_X1_cut voh vol voe p0 hu
  unfold RF_X1_cut at hu
  obtain ⟨H, eH⟩ : ∃ y9 : Heap, y9 = s.heap := ⟨_, rfl⟩
  obtain ⟨locs, eL⟩ : ∃ y9 : List Loc, y9 = [] := ⟨_, rfl⟩
  rw [← eL] at hS ⊢
  have hP : va_P D vwCl (xw cR ax ar ao ad vrd vtr vsd vrn vom voh vol vop voe vow vok vos vso vmi vco vex) H := by rw [eH]; exact hP
  have hS : va_S A s.heap H locs := by rw [eH]; exact hS
  suffices goal9 : W p l e rm_X1_cut s m args below meth c H locs 0 0 Q (F0 m 0 ls []) from by rw [← eH]; exact goal9
  have hl : lv_has ls 4 [(0, .ref ao), (1, .int p0)] := hl
  have hi1 : ∀ w ∈ wsX10, w ∈ gW := inW_X1
  refine lv_iload_n hx hb dX1_cut_0 rfl (lv_at hl 1 rfl) ?_
  refine lv_bipush (v := 32) hx hb dX1_cut_1 (by decide) ?_
  refine lv_icmp_le (tgt := 30) hx hb dX1_cut_3 (by decide) (fun c_101 => ?_) (fun c_101 => ?_)
  · rw [if_pos c_101] at hs
    rw [if_pos c_101] at hu
    refine lv_iload_n hx hb dX1_cut_30 rfl (lv_at hl 1 rfl) ?_
    refine lv_bipush (v := 16) hx hb dX1_cut_31 (by decide) ?_
    refine lv_icmp_le (tgt := 92) hx hb dX1_cut_33 (by decide) (fun c_102 => ?_) (fun c_102 => ?_)
    · rw [if_pos c_102] at hs
      rw [if_pos c_102] at hu
      refine lv_iload_n hx hb dX1_cut_92 rfl (lv_at hl 1 rfl) ?_
      obtain ⟨h_103, hs⟩ := hs
      refine x_SN (As := [.int p0]) (rest := []) hCF (c_X3_tenTo l D cR cI cJ cZ t0 (xw cR ax ar ao ad vrd vtr vsd vrn vom voh vol vop voe vow vok vos vso vmi vco vex) p0 _ rfl h_103) (x_cwN 1 hts hSt.2.2.2.1 (inW_2 _ (List.mem_of_getElem? (i := 9) rfl)) (inW_1 _ (List.mem_of_getElem? (i := 25) rfl)) (inW_2 _ (List.mem_of_getElem? (i := 10) rfl)) rfl rfl (by decide +kernel) ⟨Nat.le_of_ble_eq_true rfl, Nat.le_of_ble_eq_true rfl⟩) hK hP hD hS hA hSt rfl hl.1 rfl (Nat.le_of_ble_eq_true rfl) dX1_cut_93 ⟨Nat.le_of_ble_eq_true rfl, Nat.le_of_ble_eq_true rfl⟩ (fun H locs hP hD hS => ?_)
      show W p l e _ s m args below meth c H locs 0 0 Q (F0 m 96 ls (.long (F_X3_tenTo p0) :: []))
      refine lv_topl (fun n105 en105 => ?_)
      have hs := hs _ en105
      have hu := hu _ en105
      refine lv_lstore_n (lv' := [(2, .long n105), (0, .ref ao), (1, .int p0)]) hx hb dX1_cut_96 rfl hl (by decide) rfl (fun ls hl => ?_)
      refine lv_aload_n hx hb dX1_cut_97 rfl (lv_at hl 1 rfl) ?_
      refine lv_aload_n hx hb dX1_cut_98 rfl (lv_at hl 1 rfl) ?_
      refine va_get (D := D) (ci := 3) (v := .long voh) (C := RX1) (T := TX1) (N := 8) hx hb hts hi1 hown hK hP 2 rfl rfl 1 (by decide) (hts (.fieldLink RX1 9 "DecimalWords$Outcome" "high" "J") (inW_1 _ (List.mem_of_getElem? (i := 20) rfl))) (fun _ h9 => h9) rfl dX1_cut_99 ?_
      refine lv_bipush (v := 16) hx hb dX1_cut_102 (by decide) ?_
      refine lv_iload_n hx hb dX1_cut_104 rfl (lv_at hl 2 rfl) ?_
      refine lv_isub hx hb dX1_cut_105 ?_
      obtain ⟨h_106, hs⟩ := hs
      refine x_SN (As := [.int (16 - p0)]) (rest := [.long voh, .ref ao]) hCF (c_X3_tenTo l D cR cI cJ cZ t0 (xw cR ax ar ao ad vrd vtr vsd vrn vom voh vol vop voe vow vok vos vso vmi vco vex) (16 - p0) _ rfl h_106) (x_cwN 1 hts hSt.2.2.2.1 (inW_2 _ (List.mem_of_getElem? (i := 9) rfl)) (inW_1 _ (List.mem_of_getElem? (i := 25) rfl)) (inW_2 _ (List.mem_of_getElem? (i := 10) rfl)) rfl rfl (by decide +kernel) ⟨Nat.le_of_ble_eq_true rfl, Nat.le_of_ble_eq_true rfl⟩) hK hP hD hS hA hSt rfl hl.1 rfl (Nat.le_of_ble_eq_true rfl) dX1_cut_106 ⟨Nat.le_of_ble_eq_true rfl, Nat.le_of_ble_eq_true rfl⟩ (fun H locs hP hD hS => ?_)
      show W p l e _ s m args below meth c H locs 0 0 Q (F0 m 109 ls (.long (F_X3_tenTo (16 - p0)) :: [.long voh, .ref ao]))
      refine lv_lmul hx hb dX1_cut_109 ?_
      refine lv_aload_n hx hb dX1_cut_110 rfl (lv_at hl 1 rfl) ?_
      refine va_get (D := D) (ci := 3) (v := .long vol) (C := RX1) (T := TX1) (N := 8) hx hb hts hi1 hown hK hP 2 rfl rfl 2 (by decide) (hts (.fieldLink RX1 15 "DecimalWords$Outcome" "low" "J") (inW_1 _ (List.mem_of_getElem? (i := 21) rfl))) (fun _ h9 => h9) rfl dX1_cut_111 ?_
      refine lv_lload_n hx hb dX1_cut_114 rfl (lv_at hl 0 rfl) ?_
      have h_108 := hs
      refine lv_ldiv hx hb dX1_cut_115 h_108 ?_
      refine lv_ladd hx hb dX1_cut_116 ?_
      refine lv_topl (fun f109 ef109 => ?_)
      have hu := hu _ ef109
      refine va_put (D := D) (ci := 3) (v := .long f109) (ty := .long) (C := RX1) (T := TX1) (N := 8) hx hb hts hi1 tyX1 tyX1_ok nmX1 hown hK hP hD hS 2 rfl rfl 6 (by decide) (hts (.fieldLink RX1 84 "DecimalWords$Outcome" "kept" "J") (inW_2 _ (List.mem_of_getElem? (i := 29) rfl))) (fun _ h9 => h9) rfl (by decide +kernel) rfl rfl (Nat.le_of_ble_eq_true rfl) dX1_cut_117 (fun H locs hP hD hS => ?_)
      have hP : va_P D vwCl (xw cR ax ar ao ad vrd vtr vsd vrn vom voh vol vop voe vow f109 vos vso vmi vco vex) H := hP
      have hD : va_D A (xw cR ax ar ao ad vrd vtr vsd vrn vom voh vol vop voe vow f109 vos vso vmi vco vex) := hD
      refine lv_aload_n hx hb dX1_cut_120 rfl (lv_at hl 1 rfl) ?_
      refine lv_aload_n hx hb dX1_cut_121 rfl (lv_at hl 1 rfl) ?_
      refine va_get (D := D) (ci := 3) (v := .long vol) (C := RX1) (T := TX1) (N := 8) hx hb hts hi1 hown hK hP 2 rfl rfl 2 (by decide) (hts (.fieldLink RX1 15 "DecimalWords$Outcome" "low" "J") (inW_1 _ (List.mem_of_getElem? (i := 21) rfl))) (fun _ h9 => h9) rfl dX1_cut_122 ?_
      refine lv_lload_n hx hb dX1_cut_125 rfl (lv_at hl 0 rfl) ?_
      refine x_lrem hx hb dX1_cut_126 h_108 ?_
      refine lv_lload_n hx hb dX1_cut_127 rfl (lv_at hl 0 rfl) ?_
      refine lv_aload_n hx hb dX1_cut_128 rfl (lv_at hl 1 rfl) ?_
      refine va_get (D := D) (ci := 3) (v := .int (bI voe)) (C := RX1) (T := TX1) (N := 8) hx hb hts hi1 hown hK hP 2 rfl rfl 4 (by decide) (hts (.fieldLink RX1 18 "DecimalWords$Outcome" "more" "Z") (inW_1 _ (List.mem_of_getElem? (i := 22) rfl))) (fun _ h9 => h9) rfl dX1_cut_129 ?_
      refine x_S (As := [.long (jremL vol n105), .long n105, .int (bI voe)]) (rest := [.ref ao]) hCF (c_X1_restOf l D cR cI cJ cZ t0 (xw cR ax ar ao ad vrd vtr vsd vrn vom voh vol vop voe vow f109 vos vso vmi vco vex) (jremL vol n105) n105 voe _ rfl) (x_cwS 3 hts (inW_2 _ (List.mem_of_getElem? (i := 31) rfl)) (inW_2 _ (List.mem_of_getElem? (i := 32) rfl)) (inW_2 _ (List.mem_of_getElem? (i := 4) rfl)) (inW_2 _ (List.mem_of_getElem? (i := 33) rfl)) rfl rfl (by decide +kernel) ⟨Nat.le_of_ble_eq_true rfl, Nat.le_of_ble_eq_true rfl⟩) hK hP hD hS hA hSt rfl hl.1 rfl (Nat.le_of_ble_eq_true rfl) dX1_cut_132 ⟨Nat.le_of_ble_eq_true rfl, Nat.le_of_ble_eq_true rfl⟩ (fun H locs hP hD hS => ?_)
      show W p l e _ s m args below meth c H locs 0 0 Q (F0 m 135 ls (.int (F_X1_restOf (jremL vol n105) n105 voe) :: [.ref ao]))
      refine lv_topi (fun f112 ef112 => ?_)
      have hu := hu _ ef112
      refine va_put (D := D) (ci := 3) (v := .int f112) (ty := .int) (C := RX1) (T := TX1) (N := 8) hx hb hts hi1 tyX1 tyX1_ok nmX1 hown hK hP hD hS 2 rfl rfl 7 (by decide) (hts (.fieldLink RX1 87 "DecimalWords$Outcome" "rest" "I") (inW_2 _ (List.mem_of_getElem? (i := 30) rfl))) (fun _ h9 => h9) rfl (by decide +kernel) rfl rfl (Nat.le_of_ble_eq_true rfl) dX1_cut_135 (fun H locs hP hD hS => ?_)
      have hP : va_P D vwCl (xw cR ax ar ao ad vrd vtr vsd vrn vom voh vol vop voe vow f109 f112 vso vmi vco vex) H := hP
      have hD : va_D A (xw cR ax ar ao ad vrd vtr vsd vrn vom voh vol vop voe vow f109 f112 vso vmi vco vex) := hD
      have e9 := Eq.symm hu; subst e9
      exact x_vret hx hb hr hlocks hQ hK hP hD hS rfl dX1_cut_138
    · rw [if_neg c_102] at hs
      rw [if_neg c_102] at hu
      refine lv_iload_n hx hb dX1_cut_36 rfl (lv_at hl 1 rfl) ?_
      refine lv_bipush (v := 16) hx hb dX1_cut_37 (by decide) ?_
      refine lv_isub hx hb dX1_cut_39 ?_
      obtain ⟨h_114, hs⟩ := hs
      refine x_SN (As := [.int (p0 - 16)]) (rest := []) hCF (c_X3_tenTo l D cR cI cJ cZ t0 (xw cR ax ar ao ad vrd vtr vsd vrn vom voh vol vop voe vow vok vos vso vmi vco vex) (p0 - 16) _ rfl h_114) (x_cwN 1 hts hSt.2.2.2.1 (inW_2 _ (List.mem_of_getElem? (i := 9) rfl)) (inW_1 _ (List.mem_of_getElem? (i := 25) rfl)) (inW_2 _ (List.mem_of_getElem? (i := 10) rfl)) rfl rfl (by decide +kernel) ⟨Nat.le_of_ble_eq_true rfl, Nat.le_of_ble_eq_true rfl⟩) hK hP hD hS hA hSt rfl hl.1 rfl (Nat.le_of_ble_eq_true rfl) dX1_cut_40 ⟨Nat.le_of_ble_eq_true rfl, Nat.le_of_ble_eq_true rfl⟩ (fun H locs hP hD hS => ?_)
      show W p l e _ s m args below meth c H locs 0 0 Q (F0 m 43 ls (.long (F_X3_tenTo (p0 - 16)) :: []))
      refine lv_topl (fun n116 en116 => ?_)
      have hs := hs _ en116
      have hu := hu _ en116
      refine lv_lstore_n (lv' := [(2, .long n116), (0, .ref ao), (1, .int p0)]) hx hb dX1_cut_43 rfl hl (by decide) rfl (fun ls hl => ?_)
      refine lv_aload_n hx hb dX1_cut_44 rfl (lv_at hl 1 rfl) ?_
      refine lv_aload_n hx hb dX1_cut_45 rfl (lv_at hl 1 rfl) ?_
      refine va_get (D := D) (ci := 3) (v := .long voh) (C := RX1) (T := TX1) (N := 8) hx hb hts hi1 hown hK hP 2 rfl rfl 1 (by decide) (hts (.fieldLink RX1 9 "DecimalWords$Outcome" "high" "J") (inW_1 _ (List.mem_of_getElem? (i := 20) rfl))) (fun _ h9 => h9) rfl dX1_cut_46 ?_
      refine lv_lload_n hx hb dX1_cut_49 rfl (lv_at hl 0 rfl) ?_
      have h_117 := hs
      refine lv_ldiv hx hb dX1_cut_50 h_117 ?_
      refine lv_topl (fun f118 ef118 => ?_)
      have hu := hu _ ef118
      refine va_put (D := D) (ci := 3) (v := .long f118) (ty := .long) (C := RX1) (T := TX1) (N := 8) hx hb hts hi1 tyX1 tyX1_ok nmX1 hown hK hP hD hS 2 rfl rfl 6 (by decide) (hts (.fieldLink RX1 84 "DecimalWords$Outcome" "kept" "J") (inW_2 _ (List.mem_of_getElem? (i := 29) rfl))) (fun _ h9 => h9) rfl (by decide +kernel) rfl rfl (Nat.le_of_ble_eq_true rfl) dX1_cut_51 (fun H locs hP hD hS => ?_)
      have hP : va_P D vwCl (xw cR ax ar ao ad vrd vtr vsd vrn vom voh vol vop voe vow f118 vos vso vmi vco vex) H := hP
      have hD : va_D A (xw cR ax ar ao ad vrd vtr vsd vrn vom voh vol vop voe vow f118 vos vso vmi vco vex) := hD
      refine lv_aload_n hx hb dX1_cut_54 rfl (lv_at hl 1 rfl) ?_
      refine lv_aload_n hx hb dX1_cut_55 rfl (lv_at hl 1 rfl) ?_
      refine va_get (D := D) (ci := 3) (v := .long voh) (C := RX1) (T := TX1) (N := 8) hx hb hts hi1 hown hK hP 2 rfl rfl 1 (by decide) (hts (.fieldLink RX1 9 "DecimalWords$Outcome" "high" "J") (inW_1 _ (List.mem_of_getElem? (i := 20) rfl))) (fun _ h9 => h9) rfl dX1_cut_56 ?_
      refine lv_lload_n hx hb dX1_cut_59 rfl (lv_at hl 0 rfl) ?_
      refine x_lrem hx hb dX1_cut_60 h_117 ?_
      refine lv_lload_n hx hb dX1_cut_61 rfl (lv_at hl 0 rfl) ?_
      refine lv_aload_n hx hb dX1_cut_62 rfl (lv_at hl 1 rfl) ?_
      refine va_get (D := D) (ci := 3) (v := .long vol) (C := RX1) (T := TX1) (N := 8) hx hb hts hi1 hown hK hP 2 rfl rfl 2 (by decide) (hts (.fieldLink RX1 15 "DecimalWords$Outcome" "low" "J") (inW_1 _ (List.mem_of_getElem? (i := 21) rfl))) (fun _ h9 => h9) rfl dX1_cut_63 ?_
      refine lv_lconst (v := 0) hx hb dX1_cut_66 (by decide) ?_
      have J_124 : (∀ z123 : Bool, z123 = Z_X1_cut_J_124 vol voe → ∀ (H : Heap) (locs : List Loc), va_P D vwCl (xw cR ax ar ao ad vrd vtr vsd vrn vom voh vol vop voe vow f118 vos vso vmi vco vex) H → va_D A (xw cR ax ar ao ad vrd vtr vsd vrn vom voh vol vop voe vow f118 vos vso vmi vco vex) → va_S A s.heap H locs → ∀ ls : Array Slot, lv_has ls 4 [] → W p l e rm_X1_cut s m args below meth c H locs 0 0 Q (F0 m 83 ls [.int (bI z123), .long n116, .long (jremL voh n116), .ref ao])) := by
        intro z123 ez123 H locs hP hD hS ls hl
        have hu := hu _ ez123
        refine x_S (As := [.long (jremL voh n116), .long n116, .int (bI z123)]) (rest := [.ref ao]) hCF (c_X1_restOf l D cR cI cJ cZ t0 (xw cR ax ar ao ad vrd vtr vsd vrn vom voh vol vop voe vow f118 vos vso vmi vco vex) (jremL voh n116) n116 z123 _ rfl) (x_cwS 3 hts (inW_2 _ (List.mem_of_getElem? (i := 31) rfl)) (inW_2 _ (List.mem_of_getElem? (i := 32) rfl)) (inW_2 _ (List.mem_of_getElem? (i := 4) rfl)) (inW_2 _ (List.mem_of_getElem? (i := 33) rfl)) rfl rfl (by decide +kernel) ⟨Nat.le_of_ble_eq_true rfl, Nat.le_of_ble_eq_true rfl⟩) hK hP hD hS hA hSt rfl hl.1 rfl (Nat.le_of_ble_eq_true rfl) dX1_cut_83 ⟨Nat.le_of_ble_eq_true rfl, Nat.le_of_ble_eq_true rfl⟩ (fun H locs hP hD hS => ?_)
        show W p l e _ s m args below meth c H locs 0 0 Q (F0 m 86 ls (.int (F_X1_restOf (jremL voh n116) n116 z123) :: [.ref ao]))
        refine lv_topi (fun f126 ef126 => ?_)
        have hu := hu _ ef126
        refine va_put (D := D) (ci := 3) (v := .int f126) (ty := .int) (C := RX1) (T := TX1) (N := 8) hx hb hts hi1 tyX1 tyX1_ok nmX1 hown hK hP hD hS 2 rfl rfl 7 (by decide) (hts (.fieldLink RX1 87 "DecimalWords$Outcome" "rest" "I") (inW_2 _ (List.mem_of_getElem? (i := 30) rfl))) (fun _ h9 => h9) rfl (by decide +kernel) rfl rfl (Nat.le_of_ble_eq_true rfl) dX1_cut_86 (fun H locs hP hD hS => ?_)
        have hP : va_P D vwCl (xw cR ax ar ao ad vrd vtr vsd vrn vom voh vol vop voe vow f118 f126 vso vmi vco vex) H := hP
        have hD : va_D A (xw cR ax ar ao ad vrd vtr vsd vrn vom voh vol vop voe vow f118 f126 vso vmi vco vex) := hD
        refine lv_goto (tgt := 138) hx hb dX1_cut_89 (by decide) ?_
        have e9 := Eq.symm hu; subst e9
        exact x_vret hx hb hr hlocks hQ hK hP hD hS rfl dX1_cut_138
      obtain ⟨z9, ez9⟩ : ∃ y9 : Bool, y9 = Z_X1_cut_J_124 vol voe := ⟨_, rfl⟩
      have hz := rZ_X1_cut_J_124 vol voe ez9
      unfold RZ_X1_cut_J_124 at hz
      refine xl_ne (tgt := 78) hx hb dX1_cut_67 dX1_cut_68 (by decide) (fun c_120 => ?_) (fun c_120 => ?_)
      · rw [if_neg c_120] at hz
        refine lv_iconst (v := 1) hx hb dX1_cut_78 (by decide) ?_
        refine lv_goto (tgt := 83) hx hb dX1_cut_79 (by decide) ?_
        have e9 := Eq.symm hz; subst e9
        exact J_124 _ ez9 H locs hP hD hS ls (lv_sub hl [] rfl)
      · rw [if_pos c_120] at hz
        refine lv_aload_n hx hb dX1_cut_71 rfl (lv_at hl 1 rfl) ?_
        refine va_get (D := D) (ci := 3) (v := .int (bI voe)) (C := RX1) (T := TX1) (N := 8) hx hb hts hi1 hown hK hP 2 rfl rfl 4 (by decide) (hts (.fieldLink RX1 18 "DecimalWords$Outcome" "more" "Z") (inW_1 _ (List.mem_of_getElem? (i := 22) rfl))) (fun _ h9 => h9) rfl dX1_cut_72 ?_
        refine xb_eq (tgt := 82) hx hb dX1_cut_75 (by decide) (fun c_121 => ?_) (fun c_121 => ?_)
        · rw [if_neg c_121] at hz
          refine lv_iconst (v := 0) hx hb dX1_cut_82 (by decide) ?_
          have e9 := Eq.symm hz; subst e9
          exact J_124 _ ez9 H locs hP hD hS ls (lv_sub hl [] rfl)
        · rw [if_pos c_121] at hz
          refine lv_iconst (v := 1) hx hb dX1_cut_78 (by decide) ?_
          refine lv_goto (tgt := 83) hx hb dX1_cut_79 (by decide) ?_
          have e9 := Eq.symm hz; subst e9
          exact J_124 _ ez9 H locs hP hD hS ls (lv_sub hl [] rfl)
  · rw [if_neg c_101] at hu
    refine lv_aload_n hx hb dX1_cut_6 rfl (lv_at hl 0 rfl) ?_
    refine lv_lconst (v := 0) hx hb dX1_cut_7 (by decide) ?_
    refine va_put (D := D) (ci := 3) (v := .long 0) (ty := .long) (C := RX1) (T := TX1) (N := 8) hx hb hts hi1 tyX1 tyX1_ok nmX1 hown hK hP hD hS 2 rfl rfl 6 (by decide) (hts (.fieldLink RX1 84 "DecimalWords$Outcome" "kept" "J") (inW_2 _ (List.mem_of_getElem? (i := 29) rfl))) (fun _ h9 => h9) rfl (by decide +kernel) rfl rfl (Nat.le_of_ble_eq_true rfl) dX1_cut_8 (fun H locs hP hD hS => ?_)
    have hP : va_P D vwCl (xw cR ax ar ao ad vrd vtr vsd vrn vom voh vol vop voe vow 0 vos vso vmi vco vex) H := hP
    have hD : va_D A (xw cR ax ar ao ad vrd vtr vsd vrn vom voh vol vop voe vow 0 vos vso vmi vco vex) := hD
    refine lv_aload_n hx hb dX1_cut_11 rfl (lv_at hl 0 rfl) ?_
    refine lv_aload_n hx hb dX1_cut_12 rfl (lv_at hl 0 rfl) ?_
    refine x_V (As := []) (rest := [.ref ao]) hCF (c_X1_isZero l D cR cI cJ cZ t0 ax ar ao ad vrd vtr vsd vrn vom voh vol vop voe vow 0 vos vso vmi vco vex _ rfl) (x_cwV 0 hts (inW_2 _ (List.mem_of_getElem? (i := 16) rfl)) (inW_2 _ (List.mem_of_getElem? (i := 17) rfl)) (inW_2 _ (List.mem_of_getElem? (i := 18) rfl)) (inW_2 _ (List.mem_of_getElem? (i := 4) rfl)) (inW_1 _ (List.mem_of_getElem? (i := 19) rfl)) rfl rfl (by decide +kernel) ⟨Nat.le_of_ble_eq_true rfl, Nat.le_of_ble_eq_true rfl⟩) hK hP hD hS hA hSt 2 rfl rfl rfl hl.1 rfl (Nat.le_of_ble_eq_true rfl) dX1_cut_13 ⟨Nat.le_of_ble_eq_true rfl, Nat.le_of_ble_eq_true rfl⟩ (fun H locs hP hD hS => ?_)
    show W p l e _ s m args below meth c H locs 0 0 Q (F0 m 16 ls (.int (bI (F_X1_isZero voh vol voe)) :: [.ref ao]))
    have J_133 : (∀ z132 : Bool, z132 = Z_X1_cut_J_133 voh vol voe → ∀ (H : Heap) (locs : List Loc), va_P D vwCl (xw cR ax ar ao ad vrd vtr vsd vrn vom voh vol vop voe vow 0 vos vso vmi vco vex) H → va_D A (xw cR ax ar ao ad vrd vtr vsd vrn vom voh vol vop voe vow 0 vos vso vmi vco vex) → va_S A s.heap H locs → ∀ ls : Array Slot, lv_has ls 4 [] → W p l e rm_X1_cut s m args below meth c H locs 0 0 Q (F0 m 24 ls [.int (bI z132), .ref ao])) := by
      intro z132 ez132 H locs hP hD hS ls hl
      have hu := hu _ ez132
      refine va_put (D := D) (ci := 3) (v := .int (bI z132)) (ty := .int) (C := RX1) (T := TX1) (N := 8) hx hb hts hi1 tyX1 tyX1_ok nmX1 hown hK hP hD hS 2 rfl rfl 7 (by decide) (hts (.fieldLink RX1 87 "DecimalWords$Outcome" "rest" "I") (inW_2 _ (List.mem_of_getElem? (i := 30) rfl))) (fun _ h9 => h9) rfl (by decide +kernel) rfl rfl (Nat.le_of_ble_eq_true rfl) dX1_cut_24 (fun H locs hP hD hS => ?_)
      have hP : va_P D vwCl (xw cR ax ar ao ad vrd vtr vsd vrn vom voh vol vop voe vow 0 (bI z132) vso vmi vco vex) H := hP
      have hD : va_D A (xw cR ax ar ao ad vrd vtr vsd vrn vom voh vol vop voe vow 0 (bI z132) vso vmi vco vex) := hD
      refine lv_goto (tgt := 138) hx hb dX1_cut_27 (by decide) ?_
      have e9 := Eq.symm hu; subst e9
      exact x_vret hx hb hr hlocks hQ hK hP hD hS rfl dX1_cut_138
    obtain ⟨z9, ez9⟩ : ∃ y9 : Bool, y9 = Z_X1_cut_J_133 voh vol voe := ⟨_, rfl⟩
    have hz := rZ_X1_cut_J_133 voh vol voe ez9
    unfold RZ_X1_cut_J_133 at hz
    refine xb_eq (tgt := 23) hx hb dX1_cut_16 (by decide) (fun c_130 => ?_) (fun c_130 => ?_)
    · rw [if_neg c_130] at hz
      refine lv_iconst (v := 1) hx hb dX1_cut_23 (by decide) ?_
      have e9 := Eq.symm hz; subst e9
      exact J_133 _ ez9 H locs hP hD hS ls (lv_sub hl [] rfl)
    · rw [if_pos c_130] at hz
      refine lv_iconst (v := 0) hx hb dX1_cut_19 (by decide) ?_
      refine lv_goto (tgt := 24) hx hb dX1_cut_20 (by decide) ?_
      have e9 := Eq.symm hz; subst e9
      exact J_133 _ ez9 H locs hP hD hS ls (lv_sub hl [] rfl)
