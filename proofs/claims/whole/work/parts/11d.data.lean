def F_X3_order (vso : Nat → Int32) (vmi : Nat → Bool) (vco : Nat → Int64) (vex : Nat → Int32) (i1 : Nat) (i2 : Nat) : Int32 := (bnd (F_X0_side vso vmi vco i1) (fun n102 : Int32 => (if n102 = F_X0_side vso vmi vco i2 then (if n102 = 0 then 0 else n102 * (F_X3_orderOfSizes vso vco vex i1 i2)) else (if F_X0_side vso vmi vco i2 ≤ n102 then 1 else (-1)))))
def RF_X3_order (vso : Nat → Int32) (vmi : Nat → Bool) (vco : Nat → Int64) (vex : Nat → Int32) (i1 : Nat) (i2 : Nat) (u9 : Int32) : Prop := (∀ n102 : Int32, n102 = F_X0_side vso vmi vco i1 → (if n102 = F_X0_side vso vmi vco i2 then (if n102 = 0 then u9 = 0 else u9 = n102 * (F_X3_orderOfSizes vso vco vex i1 i2)) else (if F_X0_side vso vmi vco i2 ≤ n102 then u9 = 1 else u9 = (-1))))
theorem rF_X3_order (vso : Nat → Int32) (vmi : Nat → Bool) (vco : Nat → Int64) (vex : Nat → Int32) (i1 : Nat) (i2 : Nat) {u9 : Int32} (hu : u9 = F_X3_order vso vmi vco vex i1 i2) : RF_X3_order vso vmi vco vex i1 i2 u9 := by
  unfold RF_X3_order
  intro n102 en102
  have hu := bnd_n hu en102
  refine ite_P (fun c_104 => ?_) (fun c_104 => ?_)
  · have hu := hu.trans (if_pos c_104)
    refine ite_P (fun c_105 => ?_) (fun c_105 => ?_)
    · have hu := hu.trans (if_pos c_105)
      exact hu
    · have hu := hu.trans (if_neg c_105)
      exact hu
  · have hu := hu.trans (if_neg c_104)
    refine ite_P (fun c_109 => ?_) (fun c_109 => ?_)
    · have hu := hu.trans (if_pos c_109)
      exact hu
    · have hu := hu.trans (if_neg c_109)
      exact hu
def S_X3_order (vso : Nat → Int32) (vmi : Nat → Bool) (vco : Nat → Int64) (vex : Nat → Int32) (i1 : Nat) (i2 : Nat) : Prop := (∀ n102 : Int32, n102 = F_X0_side vso vmi vco i1 → (if n102 = F_X0_side vso vmi vco i2 then (if n102 = 0 then True else S_X3_orderOfSizes vso vco vex i1 i2) else True))
def rm_X3_order : Room := { frames := 2, cells := 0, slots := 0, locals := 47 }
set_option maxHeartbeats 4000000 in
set_option maxRecDepth 100000 in
theorem c_X3_order (l : Launch) (D : va_G) (cR cI cJ cZ : ClassId) (t0 : Nat) (ax ar ao : Nat) (ad : Nat → Nat) (vrd : Int32) (vtr : Int32) (vsd : Int32) (vrn : Int32) (vom : Bool) (voh : Int64) (vol : Int64) (vop : Int32) (voe : Bool) (vow : Int32) (vok : Int64) (vos : Int32) (vso : Nat → Int32) (vmi : Nat → Bool) (vco : Nat → Int64) (vex : Nat → Int32) (i1 : Nat) (i2 : Nat) (u : Int32) (hu : u = F_X3_order vso vmi vco vex i1 i2) (hs : S_X3_order vso vmi vco vex i1 i2) (hb1 : i1 < 9) (hb2 : i2 < 9) : XM l D (xty cR cI cJ cZ) t0 yX3_order cX3_order 3 (some .int) rm_X3_order [.ref (ad i1), .ref (ad i2)] (some (.int u)) (xw cR ax ar ao ad vrd vtr vsd vrn vom voh vol vop voe vow vok vos vso vmi vco vex) (xw cR ax ar ao ad vrd vtr vsd vrn vom voh vol vop voe vow vok vos vso vmi vco vex) := by
  refine XM.of (by decide) (Nat.le_of_ble_eq_true rfl) ?_
  intro p e s m args below meth c A Q F hK hP hD hA hSt hS hQ ls hl
  obtain ⟨hx, hb, hr, hts, hown, hlocks, hml⟩ := F
  have hCF : CallFix p m c cX3_order 3 s args gW RX3 := ⟨hx, hb, hml, hown, hts⟩
  unfold S_X3_order at hs
  have hu := rF_X3_order vso vmi vco vex i1 i2 hu
  unfold RF_X3_order at hu
  obtain ⟨H, eH⟩ : ∃ y9 : Heap, y9 = s.heap := ⟨_, rfl⟩
  obtain ⟨locs, eL⟩ : ∃ y9 : List Loc, y9 = [] := ⟨_, rfl⟩
  rw [← eL] at hS ⊢
  have hP : va_P D vwCl (xw cR ax ar ao ad vrd vtr vsd vrn vom voh vol vop voe vow vok vos vso vmi vco vex) H := by rw [eH]; exact hP
  have hS : va_S A s.heap H locs := by rw [eH]; exact hS
  suffices goal9 : W p l e rm_X3_order s m args below meth c H locs 0 0 Q (F0 m 0 ls []) from by rw [← eH]; exact goal9
  have hl : lv_has ls 3 [(0, .ref (ad i1)), (1, .ref (ad i2))] := hl
  refine lv_aload_n hx hb dX3_order_0 rfl (lv_at hl 0 rfl) ?_
  refine x_V (As := []) (rest := []) hCF (c_X0_side l D cR cI cJ cZ t0 ax ar ao ad vrd vtr vsd vrn vom voh vol vop voe vow vok vos vso vmi vco vex i1 _ rfl hb1) (x_cwV 0 hts (inW_5 _ (List.mem_of_getElem? (i := 39) rfl)) (inW_6 _ (List.mem_of_getElem? (i := 0) rfl)) (inW_6 _ (List.mem_of_getElem? (i := 1) rfl)) (inW_1 _ (List.mem_of_getElem? (i := 16) rfl)) (inW_1 _ (List.mem_of_getElem? (i := 12) rfl)) rfl rfl (by decide +kernel) ⟨Nat.le_of_ble_eq_true rfl, Nat.le_of_ble_eq_true rfl⟩) hK hP hD hS hA hSt (3 + i1) (xw_dat hb1) rfl rfl hl.1 rfl (Nat.le_of_ble_eq_true rfl) dX3_order_1 ⟨Nat.le_of_ble_eq_true rfl, Nat.le_of_ble_eq_true rfl⟩ (fun H locs hP hD hS => ?_)
  show W p l e _ s m args below meth c H locs 0 0 Q (F0 m 4 ls (.int (F_X0_side vso vmi vco i1) :: []))
  refine lv_topi (fun n102 en102 => ?_)
  have hs := hs _ en102
  have hu := hu _ en102
  refine lv_istore_n (lv' := [(2, .int n102), (0, .ref (ad i1)), (1, .ref (ad i2))]) hx hb dX3_order_4 rfl hl (by decide) rfl (fun ls hl => ?_)
  refine lv_iload_n hx hb dX3_order_5 rfl (lv_at hl 0 rfl) ?_
  refine lv_aload_n hx hb dX3_order_6 rfl (lv_at hl 2 rfl) ?_
  refine x_V (As := []) (rest := [.int n102]) hCF (c_X0_side l D cR cI cJ cZ t0 ax ar ao ad vrd vtr vsd vrn vom voh vol vop voe vow vok vos vso vmi vco vex i2 _ rfl hb2) (x_cwV 0 hts (inW_5 _ (List.mem_of_getElem? (i := 39) rfl)) (inW_6 _ (List.mem_of_getElem? (i := 0) rfl)) (inW_6 _ (List.mem_of_getElem? (i := 1) rfl)) (inW_1 _ (List.mem_of_getElem? (i := 16) rfl)) (inW_1 _ (List.mem_of_getElem? (i := 12) rfl)) rfl rfl (by decide +kernel) ⟨Nat.le_of_ble_eq_true rfl, Nat.le_of_ble_eq_true rfl⟩) hK hP hD hS hA hSt (3 + i2) (xw_dat hb2) rfl rfl hl.1 rfl (Nat.le_of_ble_eq_true rfl) dX3_order_7 ⟨Nat.le_of_ble_eq_true rfl, Nat.le_of_ble_eq_true rfl⟩ (fun H locs hP hD hS => ?_)
  show W p l e _ s m args below meth c H locs 0 0 Q (F0 m 10 ls (.int (F_X0_side vso vmi vco i2) :: [.int n102]))
  refine lv_icmp_eq (tgt := 27) hx hb dX3_order_10 (by decide) (fun c_104 => ?_) (fun c_104 => ?_)
  · rw [if_pos c_104] at hs
    rw [if_pos c_104] at hu
    refine lv_iload_n hx hb dX3_order_27 rfl (lv_at hl 0 rfl) ?_
    refine lv_if_ne (tgt := 33) hx hb dX3_order_28 (by decide) (fun c_105 => ?_) (fun c_105 => ?_)
    · rw [if_neg c_105] at hs
      rw [if_neg c_105] at hu
      refine lv_iload_n hx hb dX3_order_33 rfl (lv_at hl 0 rfl) ?_
      refine lv_aload_n hx hb dX3_order_34 rfl (lv_at hl 1 rfl) ?_
      refine lv_aload_n hx hb dX3_order_35 rfl (lv_at hl 2 rfl) ?_
      have h_106 := hs
      refine x_S (As := [.ref (ad i1), .ref (ad i2)]) (rest := [.int n102]) hCF (c_X3_orderOfSizes l D cR cI cJ cZ t0 ax ar ao ad vrd vtr vsd vrn vom voh vol vop voe vow vok vos vso vmi vco vex i1 i2 _ rfl h_106 hb1 hb2) (x_cwS 2 hts (inW_6 _ (List.mem_of_getElem? (i := 2) rfl)) (inW_6 _ (List.mem_of_getElem? (i := 3) rfl)) (inW_1 _ (List.mem_of_getElem? (i := 25) rfl)) (inW_6 _ (List.mem_of_getElem? (i := 4) rfl)) rfl rfl (by decide +kernel) ⟨Nat.le_of_ble_eq_true rfl, Nat.le_of_ble_eq_true rfl⟩) hK hP hD hS hA hSt rfl hl.1 rfl (Nat.le_of_ble_eq_true rfl) dX3_order_36 ⟨Nat.le_of_ble_eq_true rfl, Nat.le_of_ble_eq_true rfl⟩ (fun H locs hP hD hS => ?_)
      show W p l e _ s m args below meth c H locs 0 0 Q (F0 m 39 ls (.int (F_X3_orderOfSizes vso vco vex i1 i2) :: [.int n102]))
      refine lv_imul hx hb dX3_order_39 ?_
      have e9 := Eq.symm hu; subst e9
      exact x_iret hx hb hr hlocks hQ hK hP hD hS rfl rfl dX3_order_40
    · rw [if_pos c_105] at hu
      refine lv_iconst (v := 0) hx hb dX3_order_31 (by decide) ?_
      have e9 := Eq.symm hu; subst e9
      exact x_iret hx hb hr hlocks hQ hK hP hD hS rfl rfl dX3_order_32
  · rw [if_neg c_104] at hu
    refine lv_iload_n hx hb dX3_order_13 rfl (lv_at hl 0 rfl) ?_
    refine lv_aload_n hx hb dX3_order_14 rfl (lv_at hl 2 rfl) ?_
    refine x_V (As := []) (rest := [.int n102]) hCF (c_X0_side l D cR cI cJ cZ t0 ax ar ao ad vrd vtr vsd vrn vom voh vol vop voe vow vok vos vso vmi vco vex i2 _ rfl hb2) (x_cwV 0 hts (inW_5 _ (List.mem_of_getElem? (i := 39) rfl)) (inW_6 _ (List.mem_of_getElem? (i := 0) rfl)) (inW_6 _ (List.mem_of_getElem? (i := 1) rfl)) (inW_1 _ (List.mem_of_getElem? (i := 16) rfl)) (inW_1 _ (List.mem_of_getElem? (i := 12) rfl)) rfl rfl (by decide +kernel) ⟨Nat.le_of_ble_eq_true rfl, Nat.le_of_ble_eq_true rfl⟩) hK hP hD hS hA hSt (3 + i2) (xw_dat hb2) rfl rfl hl.1 rfl (Nat.le_of_ble_eq_true rfl) dX3_order_15 ⟨Nat.le_of_ble_eq_true rfl, Nat.le_of_ble_eq_true rfl⟩ (fun H locs hP hD hS => ?_)
    show W p l e _ s m args below meth c H locs 0 0 Q (F0 m 18 ls (.int (F_X0_side vso vmi vco i2) :: [.int n102]))
    refine lv_icmp_ge (tgt := 25) hx hb dX3_order_18 (by decide) (fun c_109 => ?_) (fun c_109 => ?_)
    · rw [if_pos c_109] at hu
      refine lv_iconst (v := 1) hx hb dX3_order_25 (by decide) ?_
      have e9 := Eq.symm hu; subst e9
      exact x_iret hx hb hr hlocks hQ hK hP hD hS rfl rfl dX3_order_26
    · rw [if_neg c_109] at hu
      refine lv_iconst (v := (-1)) hx hb dX3_order_21 (by decide) ?_
      refine lv_goto (tgt := 26) hx hb dX3_order_22 (by decide) ?_
      have e9 := Eq.symm hu; subst e9
      exact x_iret hx hb hr hlocks hQ hK hP hD hS rfl rfl dX3_order_26
