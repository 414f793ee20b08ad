def Z_X1_join_J_51 (z27 : Int64) (z35 : Bool) : Int64 := (if z35 = true then (-z27) - 1 else -z27)
def RZ_X1_join_J_51 (z27 : Int64) (z35 : Bool) (u9 : Int64) : Prop := (if z35 = true then u9 = (-z27) - 1 else u9 = -z27)
theorem rZ_X1_join_J_51 (z27 : Int64) (z35 : Bool) {u9 : Int64} (hu : u9 = Z_X1_join_J_51 z27 z35) : RZ_X1_join_J_51 z27 z35 u9 := by
  unfold RZ_X1_join_J_51
  refine ite_P (fun c_48 => ?_) (fun c_48 => ?_)
  · have hu := hu.trans (if_pos c_48)
    exact hu
  · have hu := hu.trans (if_neg c_48)
    exact hu
def Z_X1_join_J_44 (z27 : Int64) (z35 : Bool) : Int64 := (if z35 = true then (-z27) - 1 else -z27)
def RZ_X1_join_J_44 (z27 : Int64) (z35 : Bool) (u9 : Int64) : Prop := (if z35 = true then u9 = (-z27) - 1 else u9 = -z27)
theorem rZ_X1_join_J_44 (z27 : Int64) (z35 : Bool) {u9 : Int64} (hu : u9 = Z_X1_join_J_44 z27 z35) : RZ_X1_join_J_44 z27 z35 u9 := by
  unfold RZ_X1_join_J_44
  refine ite_P (fun c_41 => ?_) (fun c_41 => ?_)
  · have hu := hu.trans (if_pos c_41)
    exact hu
  · have hu := hu.trans (if_neg c_41)
    exact hu
def Z_X1_join_J_36 (vco : Nat → Int64) (i2 : Nat) (n21 : Int32) : Bool := (if 16 < n21 then true else (if jremL (vco i2) (F_X3_tenTo n21) = 0 then false else true))
def RZ_X1_join_J_36 (vco : Nat → Int64) (i2 : Nat) (n21 : Int32) (u9 : Bool) : Prop := (if 16 < n21 then u9 = true else (if jremL (vco i2) (F_X3_tenTo n21) = 0 then u9 = false else u9 = true))
theorem rZ_X1_join_J_36 (vco : Nat → Int64) (i2 : Nat) (n21 : Int32) {u9 : Bool} (hu : u9 = Z_X1_join_J_36 vco i2 n21) : RZ_X1_join_J_36 vco i2 n21 u9 := by
  unfold RZ_X1_join_J_36
  refine ite_P (fun c_29 => ?_) (fun c_29 => ?_)
  · have hu := hu.trans (if_pos c_29)
    exact hu
  · have hu := hu.trans (if_neg c_29)
    refine ite_P (fun c_33 => ?_) (fun c_33 => ?_)
    · have hu := hu.trans (if_pos c_33)
      exact hu
    · have hu := hu.trans (if_neg c_33)
      exact hu
def Z_X1_join_J_28 (vco : Nat → Int64) (i2 : Nat) (n21 : Int32) : Int64 := (if n21 ≤ 16 then (vco i2) / (F_X3_tenTo n21) else 0)
def RZ_X1_join_J_28 (vco : Nat → Int64) (i2 : Nat) (n21 : Int32) (u9 : Int64) : Prop := (if n21 ≤ 16 then u9 = (vco i2) / (F_X3_tenTo n21) else u9 = 0)
theorem rZ_X1_join_J_28 (vco : Nat → Int64) (i2 : Nat) (n21 : Int32) {u9 : Int64} (hu : u9 = Z_X1_join_J_28 vco i2 n21) : RZ_X1_join_J_28 vco i2 n21 u9 := by
  unfold RZ_X1_join_J_28
  refine ite_P (fun c_22 => ?_) (fun c_22 => ?_)
  · have hu := hu.trans (if_pos c_22)
    exact hu
  · have hu := hu.trans (if_neg c_22)
    exact hu
def F_X1_join (vco : Nat → Int64) (vex : Nat → Int32) (i1 : Nat) (i2 : Nat) (p2 : Bool) : Bool × Int64 × Int64 × Int32 × Bool := (bnd ((vex i1) - (vex i2)) (fun n1 : Int32 => (bnd (jmin n1 (16 - (F_X3_digitsOf (vco i1)))) (fun n4 : Int32 => (bnd (jmin (n1 - n4) 16) (fun n5 : Int32 => (bnd ((vco i1) * (F_X3_tenTo n4)) (fun n8 : Int64 => (bnd (n8 / (F_X3_tenTo (16 - n5))) (fun f12 : Int64 => (bnd ((jremL n8 (F_X3_tenTo (16 - n5))) * (F_X3_tenTo n5)) (fun f17 : Int64 => (bnd (((vex i1) - n4) - n5) (fun f19 : Int32 => (bnd ((n1 - n4) - n5) (fun n21 : Int32 => (bnd (Z_X1_join_J_28 vco i2 n21) (fun z27 : Int64 => (bnd (Z_X1_join_J_36 vco i2 n21) (fun z35 : Bool => (if p2 = true then (bnd (F_X1_addToLow f12 f17 z27) (fun u57 : Int64 × Int64 => (false, u57.1, u57.2, f19, z35))) else (if f12 = 0 then (if z27 ≤ f17 then (bnd (Z_X1_join_J_51 z27 z35) (fun z50 : Int64 => (bnd (F_X1_addToLow f12 f17 z50) (fun u52 : Int64 × Int64 => (false, u52.1, u52.2, f19, z35))))) else (bnd (z27 - f17) (fun f54 : Int64 => (true, f12, f54, f19, z35)))) else (bnd (Z_X1_join_J_44 z27 z35) (fun z43 : Int64 => (bnd (F_X1_addToLow f12 f17 z43) (fun u45 : Int64 × Int64 => (false, u45.1, u45.2, f19, z35)))))))))))))))))))))))))))
def RF_X1_join (vco : Nat → Int64) (vex : Nat → Int32) (i1 : Nat) (i2 : Nat) (p2 : Bool) (u9 : Bool × Int64 × Int64 × Int32 × Bool) : Prop := (∀ n1 : Int32, n1 = (vex i1) - (vex i2) → (∀ n4 : Int32, n4 = jmin n1 (16 - (F_X3_digitsOf (vco i1))) → (∀ n5 : Int32, n5 = jmin (n1 - n4) 16 → (∀ n8 : Int64, n8 = (vco i1) * (F_X3_tenTo n4) → (∀ f12 : Int64, f12 = n8 / (F_X3_tenTo (16 - n5)) → (∀ f17 : Int64, f17 = (jremL n8 (F_X3_tenTo (16 - n5))) * (F_X3_tenTo n5) → (∀ f19 : Int32, f19 = ((vex i1) - n4) - n5 → (∀ n21 : Int32, n21 = (n1 - n4) - n5 → (∀ z27 : Int64, z27 = Z_X1_join_J_28 vco i2 n21 → (∀ z35 : Bool, z35 = Z_X1_join_J_36 vco i2 n21 → (if p2 = true then (∀ u57 : Int64 × Int64, u57 = F_X1_addToLow f12 f17 z27 → u9 = (false, u57.1, u57.2, f19, z35)) else (if f12 = 0 then (if z27 ≤ f17 then (∀ z50 : Int64, z50 = Z_X1_join_J_51 z27 z35 → (∀ u52 : Int64 × Int64, u52 = F_X1_addToLow f12 f17 z50 → u9 = (false, u52.1, u52.2, f19, z35))) else (∀ f54 : Int64, f54 = z27 - f17 → u9 = (true, f12, f54, f19, z35))) else (∀ z43 : Int64, z43 = Z_X1_join_J_44 z27 z35 → (∀ u45 : Int64 × Int64, u45 = F_X1_addToLow f12 f17 z43 → u9 = (false, u45.1, u45.2, f19, z35)))))))))))))))
theorem rF_X1_join (vco : Nat → Int64) (vex : Nat → Int32) (i1 : Nat) (i2 : Nat) (p2 : Bool) {u9 : Bool × Int64 × Int64 × Int32 × Bool} (hu : u9 = F_X1_join vco vex i1 i2 p2) : RF_X1_join vco vex i1 i2 p2 u9 := by
  unfold RF_X1_join
  intro n1 en1
  have hu := bnd_n hu en1
  intro n4 en4
  have hu := bnd_n hu en4
  intro n5 en5
  have hu := bnd_n hu en5
  intro n8 en8
  have hu := bnd_n hu en8
  intro f12 ef12
  have hu := bnd_n hu ef12
  intro f17 ef17
  have hu := bnd_n hu ef17
  intro f19 ef19
  have hu := bnd_n hu ef19
  intro n21 en21
  have hu := bnd_n hu en21
  intro z27 ez27
  have hu := bnd_n hu ez27
  intro z35 ez35
  have hu := bnd_n hu ez35
  refine ite_P (fun c_39 => ?_) (fun c_39 => ?_)
  · have hu := hu.trans (if_pos c_39)
    intro u57 eu57
    have hu := bnd_n hu eu57
    exact hu
  · have hu := hu.trans (if_neg c_39)
    refine ite_P (fun c_40 => ?_) (fun c_40 => ?_)
    · have hu := hu.trans (if_pos c_40)
      refine ite_P (fun c_47 => ?_) (fun c_47 => ?_)
      · have hu := hu.trans (if_pos c_47)
        intro z50 ez50
        have hu := bnd_n hu ez50
        intro u52 eu52
        have hu := bnd_n hu eu52
        exact hu
      · have hu := hu.trans (if_neg c_47)
        intro f54 ef54
        have hu := bnd_n hu ef54
        exact hu
    · have hu := hu.trans (if_neg c_40)
      intro z43 ez43
      have hu := bnd_n hu ez43
      intro u45 eu45
      have hu := bnd_n hu eu45
      exact hu
def S_X1_join (vco : Nat → Int64) (vex : Nat → Int32) (i1 : Nat) (i2 : Nat) (p2 : Bool) : Prop := (∀ n1 : Int32, n1 = (vex i1) - (vex i2) → (S_X3_digitsOf (vco i1)) ∧ (∀ n4 : Int32, n4 = jmin n1 (16 - (F_X3_digitsOf (vco i1))) → (∀ n5 : Int32, n5 = jmin (n1 - n4) 16 → (S_X3_tenTo n4) ∧ (∀ n8 : Int64, n8 = (vco i1) * (F_X3_tenTo n4) → (S_X3_tenTo (16 - n5)) ∧ (¬ (F_X3_tenTo (16 - n5)) = 0) ∧ (∀ f12 : Int64, f12 = n8 / (F_X3_tenTo (16 - n5)) → (S_X3_tenTo n5) ∧ (∀ f17 : Int64, f17 = (jremL n8 (F_X3_tenTo (16 - n5))) * (F_X3_tenTo n5) → (∀ f19 : Int32, f19 = ((vex i1) - n4) - n5 → (∀ n21 : Int32, n21 = (n1 - n4) - n5 → ((if n21 ≤ 16 then (S_X3_tenTo n21) ∧ ¬ (F_X3_tenTo n21) = 0 else True)) ∧ (∀ z27 : Int64, z27 = Z_X1_join_J_28 vco i2 n21 → (if 16 < n21 then True else (S_X3_tenTo n21) ∧ ¬ (F_X3_tenTo n21) = 0))))))))))
def rm_X1_join : Room := { frames := 2, cells := 0, slots := 0, locals := 60 }
set_option maxHeartbeats 4000000 in
set_option maxRecDepth 100000 in
theorem c_X1_join (l : Launch) (D : va_G) (cR cI cJ cZ : ClassId) (t0 : Nat) (ax ar ao : Nat) (ad : Nat → Nat) (vrd : Int32) (vtr : Int32) (vsd : Int32) (vrn : Int32) (vom : Bool) (voh : Int64) (vol : Int64) (vop : Int32) (voe : Bool) (vow : Int32) (vok : Int64) (vos : Int32) (vso : Nat → Int32) (vmi : Nat → Bool) (vco : Nat → Int64) (vex : Nat → Int32) (i1 : Nat) (i2 : Nat) (p2 : Bool) (u : Bool × Int64 × Int64 × Int32 × Bool) (hu : u = F_X1_join vco vex i1 i2 p2) (hs : S_X1_join vco vex i1 i2 p2) (hb1 : i1 < 9) (hb2 : i2 < 9) : XM l D (xty cR cI cJ cZ) t0 yX1_join cX1_join 12 none rm_X1_join [.ref ao, .ref (ad i1), .ref (ad i2), .int (bI p2)] none (xw cR ax ar ao ad vrd vtr vsd vrn vom voh vol vop voe vow vok vos vso vmi vco vex) (xw cR ax ar ao ad vrd vtr vsd vrn u.1 u.2.1 u.2.2.1 u.2.2.2.1 u.2.2.2.2 vow vok vos vso vmi vco vex) := by
  refine XM.of (by decide) (Nat.le_of_ble_eq_true rfl) ?_
  intro p e s m args below meth c A Q F hK hP hD hA hSt hS hQ ls hl
  obtain ⟨hx, hb, hr, hts, hown, hlocks, hml⟩ := F
  have hCF : CallFix p m c cX1_join 12 s args gW RX1 := ⟨hx, hb, hml, hown, hts⟩
  unfold S_X1_join at hs
  have hu := rF_X1_join vco vex i1 i2 p2 hu
  unfold RF_X1_join at hu
  obtain ⟨H, eH⟩ : ∃ y9 : Heap, y9 = s.heap := ⟨_, rfl⟩
  obtain ⟨locs, eL⟩ : ∃ y9 : List Loc, y9 = [] := ⟨_, rfl⟩
  rw [← eL] at hS ⊢
  have hP : va_P D vwCl (xw cR ax ar ao ad vrd vtr vsd vrn vom voh vol vop voe vow vok vos vso vmi vco vex) H := by rw [eH]; exact hP
  have hS : va_S A s.heap H locs := by rw [eH]; exact hS
  suffices goal9 : W p l e rm_X1_join s m args below meth c H locs 0 0 Q (F0 m 0 ls []) from by rw [← eH]; exact goal9
  have hl : lv_has ls 12 [(0, .ref ao), (1, .ref (ad i1)), (2, .ref (ad i2)), (3, .int (bI p2))] := hl
  have hi0 : ∀ w ∈ wsX00, w ∈ gW := inW_X0
  have hi1 : ∀ w ∈ wsX10, w ∈ gW := inW_X1
  refine lv_aload_n hx hb dX1_join_0 rfl (lv_at hl 1 rfl) ?_
  refine g_ex (i := i1) hx hb hts hi0 hown hK hP hb1 (hts (.fieldLink RX1 35 "DecimalWords$Datum" "exponent" "I") (inW_1 _ (List.mem_of_getElem? (i := 32) rfl))) dX1_join_1 ?_
  refine lv_aload_n hx hb dX1_join_4 rfl (lv_at hl 2 rfl) ?_
  refine g_ex (i := i2) hx hb hts hi0 hown hK hP hb2 (hts (.fieldLink RX1 35 "DecimalWords$Datum" "exponent" "I") (inW_1 _ (List.mem_of_getElem? (i := 32) rfl))) dX1_join_5 ?_
  refine lv_isub hx hb dX1_join_8 ?_
  refine lv_topi (fun n1 en1 => ?_)
  have hs := hs _ en1
  have hu := hu _ en1
  refine lv_istore (lv' := [(4, .int n1), (0, .ref ao), (1, .ref (ad i1)), (2, .ref (ad i2)), (3, .int (bI p2))]) hx hb dX1_join_9 hl (by decide) rfl (fun ls hl => ?_)
  refine lv_iload hx hb dX1_join_11 (lv_at hl 0 rfl) ?_
  refine lv_bipush (v := 16) hx hb dX1_join_13 (by decide) ?_
  refine lv_aload_n hx hb dX1_join_15 rfl (lv_at hl 2 rfl) ?_
  refine g_co (i := i1) hx hb hts hi0 hown hK hP hb1 (hts (.fieldLink RX1 32 "DecimalWords$Datum" "coefficient" "J") (inW_1 _ (List.mem_of_getElem? (i := 31) rfl))) dX1_join_16 ?_
  obtain ⟨h_2, hs⟩ := hs
  refine x_SN (As := [.long (vco i1)]) (rest := [.int 16, .int n1]) hCF (c_X3_digitsOf l D cR cI cJ cZ t0 (xw cR ax ar ao ad vrd vtr vsd vrn vom voh vol vop voe vow vok vos vso vmi vco vex) (vco i1) _ rfl h_2) (x_cwN 1 hts hSt.2.2.1 (inW_1 _ (List.mem_of_getElem? (i := 24) rfl)) (inW_1 _ (List.mem_of_getElem? (i := 25) rfl)) (inW_1 _ (List.mem_of_getElem? (i := 26) rfl)) rfl rfl (by decide +kernel) ⟨Nat.le_of_ble_eq_true rfl, Nat.le_of_ble_eq_true rfl⟩) hK hP hD hS hA hSt rfl hl.1 rfl (Nat.le_of_ble_eq_true rfl) dX1_join_19 ⟨Nat.le_of_ble_eq_true rfl, Nat.le_of_ble_eq_true rfl⟩ (fun H locs hP hD hS => ?_)
  show W p l e _ s m args below meth c H locs 0 0 Q (F0 m 22 ls (.int (F_X3_digitsOf (vco i1)) :: [.int 16, .int n1]))
  refine lv_isub hx hb dX1_join_22 ?_
  refine x_min hx hb hml hl.1 hts hown (inW_1 _ (List.mem_of_getElem? (i := 35) rfl)) (inW_1 _ (List.mem_of_getElem? (i := 36) rfl)) (inW_1 _ (List.mem_of_getElem? (i := 37) rfl)) (inW_1 _ (List.mem_of_getElem? (i := 38) rfl)) (Nat.le_of_ble_eq_true rfl) (Nat.le_of_ble_eq_true rfl) (Nat.le_of_ble_eq_true rfl) (Nat.le_of_ble_eq_true rfl) dX1_join_23 ?_
  refine lv_topi (fun n4 en4 => ?_)
  have hs := hs _ en4
  have hu := hu _ en4
  refine lv_istore (lv' := [(5, .int n4), (4, .int n1), (0, .ref ao), (1, .ref (ad i1)), (2, .ref (ad i2)), (3, .int (bI p2))]) hx hb dX1_join_26 hl (by decide) rfl (fun ls hl => ?_)
  refine lv_iload hx hb dX1_join_28 (lv_at hl 1 rfl) ?_
  refine lv_iload hx hb dX1_join_30 (lv_at hl 0 rfl) ?_
  refine lv_isub hx hb dX1_join_32 ?_
  refine lv_bipush (v := 16) hx hb dX1_join_33 (by decide) ?_
  refine x_min hx hb hml hl.1 hts hown (inW_1 _ (List.mem_of_getElem? (i := 35) rfl)) (inW_1 _ (List.mem_of_getElem? (i := 36) rfl)) (inW_1 _ (List.mem_of_getElem? (i := 37) rfl)) (inW_1 _ (List.mem_of_getElem? (i := 38) rfl)) (Nat.le_of_ble_eq_true rfl) (Nat.le_of_ble_eq_true rfl) (Nat.le_of_ble_eq_true rfl) (Nat.le_of_ble_eq_true rfl) dX1_join_35 ?_
  refine lv_topi (fun n5 en5 => ?_)
  have hs := hs _ en5
  have hu := hu _ en5
  refine lv_istore (lv' := [(6, .int n5), (5, .int n4), (4, .int n1), (0, .ref ao), (1, .ref (ad i1)), (2, .ref (ad i2)), (3, .int (bI p2))]) hx hb dX1_join_38 hl (by decide) rfl (fun ls hl => ?_)
  refine lv_aload_n hx hb dX1_join_40 rfl (lv_at hl 4 rfl) ?_
  refine g_co (i := i1) hx hb hts hi0 hown hK hP hb1 (hts (.fieldLink RX1 32 "DecimalWords$Datum" "coefficient" "J") (inW_1 _ (List.mem_of_getElem? (i := 31) rfl))) dX1_join_41 ?_
  refine lv_iload hx hb dX1_join_44 (lv_at hl 1 rfl) ?_
  obtain ⟨h_6, hs⟩ := hs
  refine x_SN (As := [.int n4]) (rest := [.long (vco i1)]) hCF (c_X3_tenTo l D cR cI cJ cZ t0 (xw cR ax ar ao ad vrd vtr vsd vrn vom voh vol vop voe vow vok vos vso vmi vco vex) n4 _ rfl h_6) (x_cwN 1 hts hSt.2.2.2.1 (inW_2 _ (List.mem_of_getElem? (i := 9) rfl)) (inW_1 _ (List.mem_of_getElem? (i := 25) rfl)) (inW_2 _ (List.mem_of_getElem? (i := 10) rfl)) rfl rfl (by decide +kernel) ⟨Nat.le_of_ble_eq_true rfl, Nat.le_of_ble_eq_true rfl⟩) hK hP hD hS hA hSt rfl hl.1 rfl (Nat.le_of_ble_eq_true rfl) dX1_join_46 ⟨Nat.le_of_ble_eq_true rfl, Nat.le_of_ble_eq_true rfl⟩ (fun H locs hP hD hS => ?_)
  show W p l e _ s m args below meth c H locs 0 0 Q (F0 m 49 ls (.long (F_X3_tenTo n4) :: [.long (vco i1)]))
  refine lv_lmul hx hb dX1_join_49 ?_
  refine lv_topl (fun n8 en8 => ?_)
  have hs := hs _ en8
  have hu := hu _ en8
  refine lv_lstore (lv' := [(7, .long n8), (6, .int n5), (5, .int n4), (4, .int n1), (0, .ref ao), (1, .ref (ad i1)), (2, .ref (ad i2)), (3, .int (bI p2))]) hx hb dX1_join_50 hl (by decide) rfl (fun ls hl => ?_)
  refine lv_aload_n hx hb dX1_join_52 rfl (lv_at hl 4 rfl) ?_
  refine lv_lload hx hb dX1_join_53 (lv_at hl 0 rfl) ?_
  refine lv_bipush (v := 16) hx hb dX1_join_55 (by decide) ?_
  refine lv_iload hx hb dX1_join_57 (lv_at hl 1 rfl) ?_
  refine lv_isub hx hb dX1_join_59 ?_
  obtain ⟨h_9, hs⟩ := hs
  refine x_SN (As := [.int (16 - n5)]) (rest := [.long n8, .ref ao]) hCF (c_X3_tenTo l D cR cI cJ cZ t0 (xw cR ax ar ao ad vrd vtr vsd vrn vom voh vol vop voe vow vok vos vso vmi vco vex) (16 - n5) _ rfl h_9) (x_cwN 1 hts hSt.2.2.2.1 (inW_2 _ (List.mem_of_getElem? (i := 9) rfl)) (inW_1 _ (List.mem_of_getElem? (i := 25) rfl)) (inW_2 _ (List.mem_of_getElem? (i := 10) rfl)) rfl rfl (by decide +kernel) ⟨Nat.le_of_ble_eq_true rfl, Nat.le_of_ble_eq_true rfl⟩) hK hP hD hS hA hSt rfl hl.1 rfl (Nat.le_of_ble_eq_true rfl) dX1_join_60 ⟨Nat.le_of_ble_eq_true rfl, Nat.le_of_ble_eq_true rfl⟩ (fun H locs hP hD hS => ?_)
  show W p l e _ s m args below meth c H locs 0 0 Q (F0 m 63 ls (.long (F_X3_tenTo (16 - n5)) :: [.long n8, .ref ao]))
  obtain ⟨h_11, hs⟩ := hs
  refine lv_ldiv hx hb dX1_join_63 h_11 ?_
  refine lv_topl (fun f12 ef12 => ?_)
  have hs := hs _ ef12
  have hu := hu _ ef12
  refine va_put (D := D) (ci := 3) (v := .long f12) (ty := .long) (C := RX1) (T := TX1) (N := 8) hx hb hts hi1 tyX1 tyX1_ok nmX1 hown hK hP hD hS 2 rfl rfl 1 (by decide) (hts (.fieldLink RX1 9 "DecimalWords$Outcome" "high" "J") (inW_1 _ (List.mem_of_getElem? (i := 20) rfl))) (fun _ h9 => h9) rfl (by decide +kernel) rfl rfl (Nat.le_of_ble_eq_true rfl) dX1_join_64 (fun H locs hP hD hS => ?_)
  have hP : va_P D vwCl (xw cR ax ar ao ad vrd vtr vsd vrn vom f12 vol vop voe vow vok vos vso vmi vco vex) H := hP
  have hD : va_D A (xw cR ax ar ao ad vrd vtr vsd vrn vom f12 vol vop voe vow vok vos vso vmi vco vex) := hD
  refine lv_aload_n hx hb dX1_join_67 rfl (lv_at hl 4 rfl) ?_
  refine lv_lload hx hb dX1_join_68 (lv_at hl 0 rfl) ?_
  refine lv_bipush (v := 16) hx hb dX1_join_70 (by decide) ?_
  refine lv_iload hx hb dX1_join_72 (lv_at hl 1 rfl) ?_
  refine lv_isub hx hb dX1_join_74 ?_
  refine x_SN (As := [.int (16 - n5)]) (rest := [.long n8, .ref ao]) hCF (c_X3_tenTo l D cR cI cJ cZ t0 (xw cR ax ar ao ad vrd vtr vsd vrn vom f12 vol vop voe vow vok vos vso vmi vco vex) (16 - n5) _ rfl h_9) (x_cwN 1 hts hSt.2.2.2.1 (inW_2 _ (List.mem_of_getElem? (i := 9) rfl)) (inW_1 _ (List.mem_of_getElem? (i := 25) rfl)) (inW_2 _ (List.mem_of_getElem? (i := 10) rfl)) rfl rfl (by decide +kernel) ⟨Nat.le_of_ble_eq_true rfl, Nat.le_of_ble_eq_true rfl⟩) hK hP hD hS hA hSt rfl hl.1 rfl (Nat.le_of_ble_eq_true rfl) dX1_join_75 ⟨Nat.le_of_ble_eq_true rfl, Nat.le_of_ble_eq_true rfl⟩ (fun H locs hP hD hS => ?_)
  show W p l e _ s m args below meth c H locs 0 0 Q (F0 m 78 ls (.long (F_X3_tenTo (16 - n5)) :: [.long n8, .ref ao]))
  refine x_lrem hx hb dX1_join_78 h_11 ?_
  refine lv_iload hx hb dX1_join_79 (lv_at hl 1 rfl) ?_
  obtain ⟨h_15, hs⟩ := hs
  refine x_SN (As := [.int n5]) (rest := [.long (jremL n8 (F_X3_tenTo (16 - n5))), .ref ao]) hCF (c_X3_tenTo l D cR cI cJ cZ t0 (xw cR ax ar ao ad vrd vtr vsd vrn vom f12 vol vop voe vow vok vos vso vmi vco vex) n5 _ rfl h_15) (x_cwN 1 hts hSt.2.2.2.1 (inW_2 _ (List.mem_of_getElem? (i := 9) rfl)) (inW_1 _ (List.mem_of_getElem? (i := 25) rfl)) (inW_2 _ (List.mem_of_getElem? (i := 10) rfl)) rfl rfl (by decide +kernel) ⟨Nat.le_of_ble_eq_true rfl, Nat.le_of_ble_eq_true rfl⟩) hK hP hD hS hA hSt rfl hl.1 rfl (Nat.le_of_ble_eq_true rfl) dX1_join_81 ⟨Nat.le_of_ble_eq_true rfl, Nat.le_of_ble_eq_true rfl⟩ (fun H locs hP hD hS => ?_)
  show W p l e _ s m args below meth c H locs 0 0 Q (F0 m 84 ls (.long (F_X3_tenTo n5) :: [.long (jremL n8 (F_X3_tenTo (16 - n5))), .ref ao]))
  refine lv_lmul hx hb dX1_join_84 ?_
  refine lv_topl (fun f17 ef17 => ?_)
  have hs := hs _ ef17
  have hu := hu _ ef17
  refine va_put (D := D) (ci := 3) (v := .long f17) (ty := .long) (C := RX1) (T := TX1) (N := 8) hx hb hts hi1 tyX1 tyX1_ok nmX1 hown hK hP hD hS 2 rfl rfl 2 (by decide) (hts (.fieldLink RX1 15 "DecimalWords$Outcome" "low" "J") (inW_1 _ (List.mem_of_getElem? (i := 21) rfl))) (fun _ h9 => h9) rfl (by decide +kernel) rfl rfl (Nat.le_of_ble_eq_true rfl) dX1_join_85 (fun H locs hP hD hS => ?_)
  have hP : va_P D vwCl (xw cR ax ar ao ad vrd vtr vsd vrn vom f12 f17 vop voe vow vok vos vso vmi vco vex) H := hP
  have hD : va_D A (xw cR ax ar ao ad vrd vtr vsd vrn vom f12 f17 vop voe vow vok vos vso vmi vco vex) := hD
  refine lv_aload_n hx hb dX1_join_88 rfl (lv_at hl 4 rfl) ?_
  refine lv_aload_n hx hb dX1_join_89 rfl (lv_at hl 5 rfl) ?_
  refine g_ex (i := i1) hx hb hts hi0 hown hK hP hb1 (hts (.fieldLink RX1 35 "DecimalWords$Datum" "exponent" "I") (inW_1 _ (List.mem_of_getElem? (i := 32) rfl))) dX1_join_90 ?_
  refine lv_iload hx hb dX1_join_93 (lv_at hl 2 rfl) ?_
  refine lv_isub hx hb dX1_join_95 ?_
  refine lv_iload hx hb dX1_join_96 (lv_at hl 1 rfl) ?_
  refine lv_isub hx hb dX1_join_98 ?_
  refine lv_topi (fun f19 ef19 => ?_)
  have hs := hs _ ef19
  have hu := hu _ ef19
  refine va_put (D := D) (ci := 3) (v := .int f19) (ty := .int) (C := RX1) (T := TX1) (N := 8) hx hb hts hi1 tyX1 tyX1_ok nmX1 hown hK hP hD hS 2 rfl rfl 3 (by decide) (hts (.fieldLink RX1 39 "DecimalWords$Outcome" "power" "I") (inW_1 _ (List.mem_of_getElem? (i := 33) rfl))) (fun _ h9 => h9) rfl (by decide +kernel) rfl rfl (Nat.le_of_ble_eq_true rfl) dX1_join_99 (fun H locs hP hD hS => ?_)
  have hP : va_P D vwCl (xw cR ax ar ao ad vrd vtr vsd vrn vom f12 f17 f19 voe vow vok vos vso vmi vco vex) H := hP
  have hD : va_D A (xw cR ax ar ao ad vrd vtr vsd vrn vom f12 f17 f19 voe vow vok vos vso vmi vco vex) := hD
  refine lv_iload hx hb dX1_join_102 (lv_at hl 3 rfl) ?_
  refine lv_iload hx hb dX1_join_104 (lv_at hl 2 rfl) ?_
  refine lv_isub hx hb dX1_join_106 ?_
  refine lv_iload hx hb dX1_join_107 (lv_at hl 1 rfl) ?_
  refine lv_isub hx hb dX1_join_109 ?_
  refine lv_topi (fun n21 en21 => ?_)
  have hs := hs _ en21
  have hu := hu _ en21
  refine lv_istore (lv' := [(9, .int n21), (7, .long n8), (6, .int n5), (5, .int n4), (4, .int n1), (0, .ref ao), (1, .ref (ad i1)), (2, .ref (ad i2)), (3, .int (bI p2))]) hx hb dX1_join_110 hl (by decide) rfl (fun ls hl => ?_)
  refine lv_iload hx hb dX1_join_112 (lv_at hl 0 rfl) ?_
  refine lv_bipush (v := 16) hx hb dX1_join_114 (by decide) ?_
  have J_28 : (∀ z27 : Int64, z27 = Z_X1_join_J_28 vco i2 n21 → ∀ (H : Heap) (locs : List Loc), va_P D vwCl (xw cR ax ar ao ad vrd vtr vsd vrn vom f12 f17 f19 voe vow vok vos vso vmi vco vex) H → va_D A (xw cR ax ar ao ad vrd vtr vsd vrn vom f12 f17 f19 voe vow vok vos vso vmi vco vex) → va_S A s.heap H locs → ∀ ls : Array Slot, lv_has ls 12 [(0, .ref ao), (2, .ref (ad i2)), (3, .int (bI p2)), (9, .int n21)] → W p l e rm_X1_join s m args below meth c H locs 0 0 Q (F0 m 133 ls [.long z27])) := by
    intro z27 ez27 H locs hP hD hS ls hl
    have hs := hs.2
    have hs := hs _ ez27
    have hu := hu _ ez27
    refine lv_lstore (lv' := [(10, .long z27), (0, .ref ao), (2, .ref (ad i2)), (3, .int (bI p2)), (9, .int n21)]) hx hb dX1_join_133 hl (by decide) rfl (fun ls hl => ?_)
    refine lv_aload_n hx hb dX1_join_135 rfl (lv_at hl 1 rfl) ?_
    refine lv_iload hx hb dX1_join_136 (lv_at hl 4 rfl) ?_
    refine lv_bipush (v := 16) hx hb dX1_join_138 (by decide) ?_
    have J_36 : (∀ z35 : Bool, z35 = Z_X1_join_J_36 vco i2 n21 → ∀ (H : Heap) (locs : List Loc), va_P D vwCl (xw cR ax ar ao ad vrd vtr vsd vrn vom f12 f17 f19 voe vow vok vos vso vmi vco vex) H → va_D A (xw cR ax ar ao ad vrd vtr vsd vrn vom f12 f17 f19 voe vow vok vos vso vmi vco vex) → va_S A s.heap H locs → ∀ ls : Array Slot, lv_has ls 12 [(0, .ref ao), (3, .int (bI p2)), (10, .long z27)] → W p l e rm_X1_join s m args below meth c H locs 0 0 Q (F0 m 163 ls [.int (bI z35), .ref ao])) := by
      intro z35 ez35 H locs hP hD hS ls hl
      have hu := hu _ ez35
      refine va_put (D := D) (ci := 3) (v := .int (bI z35)) (ty := .boolean) (C := RX1) (T := TX1) (N := 8) hx hb hts hi1 tyX1 tyX1_ok nmX1 hown hK hP hD hS 2 rfl rfl 4 (by decide) (hts (.fieldLink RX1 18 "DecimalWords$Outcome" "more" "Z") (inW_1 _ (List.mem_of_getElem? (i := 22) rfl))) (fun _ h9 => h9) rfl (by decide +kernel) (bI_nar z35) (bI_fit z35) (Nat.le_of_ble_eq_true rfl) dX1_join_163 (fun H locs hP hD hS => ?_)
      have hP : va_P D vwCl (xw cR ax ar ao ad vrd vtr vsd vrn vom f12 f17 f19 z35 vow vok vos vso vmi vco vex) H := hP
      have hD : va_D A (xw cR ax ar ao ad vrd vtr vsd vrn vom f12 f17 f19 z35 vow vok vos vso vmi vco vex) := hD
      refine lv_aload_n hx hb dX1_join_166 rfl (lv_at hl 0 rfl) ?_
      refine lv_iconst (v := 0) hx hb dX1_join_167 (by decide) ?_
      refine va_put (D := D) (ci := 3) (v := .int (bI false)) (ty := .boolean) (C := RX1) (T := TX1) (N := 8) hx hb hts hi1 tyX1 tyX1_ok nmX1 hown hK hP hD hS 2 rfl rfl 0 (by decide) (hts (.fieldLink RX1 31 "DecimalWords$Outcome" "minus" "Z") (inW_1 _ (List.mem_of_getElem? (i := 30) rfl))) (fun _ h9 => h9) rfl (by decide +kernel) (bI_nar false) (bI_fit false) (Nat.le_of_ble_eq_true rfl) dX1_join_168 (fun H locs hP hD hS => ?_)
      have hP : va_P D vwCl (xw cR ax ar ao ad vrd vtr vsd vrn false f12 f17 f19 z35 vow vok vos vso vmi vco vex) H := hP
      have hD : va_D A (xw cR ax ar ao ad vrd vtr vsd vrn false f12 f17 f19 z35 vow vok vos vso vmi vco vex) := hD
      refine lv_iload_n hx hb dX1_join_171 rfl (lv_at hl 1 rfl) ?_
      refine xb_eq (tgt := 184) hx hb dX1_join_172 (by decide) (fun c_39 => ?_) (fun c_39 => ?_)
      · rw [if_neg c_39] at hu
        refine lv_aload_n hx hb dX1_join_184 rfl (lv_at hl 0 rfl) ?_
        refine va_get (D := D) (ci := 3) (v := .long f12) (C := RX1) (T := TX1) (N := 8) hx hb hts hi1 hown hK hP 2 rfl rfl 1 (by decide) (hts (.fieldLink RX1 9 "DecimalWords$Outcome" "high" "J") (inW_1 _ (List.mem_of_getElem? (i := 20) rfl))) (fun _ h9 => h9) rfl dX1_join_185 ?_
        refine lv_lconst (v := 0) hx hb dX1_join_188 (by decide) ?_
        refine xl_ne (tgt := 222) hx hb dX1_join_189 dX1_join_190 (by decide) (fun c_40 => ?_) (fun c_40 => ?_)
        · rw [if_neg c_40] at hu
          refine lv_aload_n hx hb dX1_join_222 rfl (lv_at hl 0 rfl) ?_
          refine lv_aload_n hx hb dX1_join_223 rfl (lv_at hl 0 rfl) ?_
          refine va_get (D := D) (ci := 3) (v := .int (bI z35)) (C := RX1) (T := TX1) (N := 8) hx hb hts hi1 hown hK hP 2 rfl rfl 4 (by decide) (hts (.fieldLink RX1 18 "DecimalWords$Outcome" "more" "Z") (inW_1 _ (List.mem_of_getElem? (i := 22) rfl))) (fun _ h9 => h9) rfl dX1_join_224 ?_
          have J_44 : (∀ z43 : Int64, z43 = Z_X1_join_J_44 z27 z35 → ∀ (H : Heap) (locs : List Loc), va_P D vwCl (xw cR ax ar ao ad vrd vtr vsd vrn false f12 f17 f19 z35 vow vok vos vso vmi vco vex) H → va_D A (xw cR ax ar ao ad vrd vtr vsd vrn false f12 f17 f19 z35 vow vok vos vso vmi vco vex) → va_S A s.heap H locs → ∀ ls : Array Slot, lv_has ls 12 [] → W p l e rm_X1_join s m args below meth c H locs 0 0 Q (F0 m 241 ls [.long z43, .ref ao])) := by
            intro z43 ez43 H locs hP hD hS ls hl
            have hu := hu _ ez43
            obtain ⟨u45, eu45⟩ : ∃ y9 : Int64 × Int64, y9 = F_X1_addToLow f12 f17 z43 := ⟨_, rfl⟩
            have hu := hu _ eu45
            refine x_V (As := [.long z43]) (rest := []) hCF (c_X1_addToLow l D cR cI cJ cZ t0 ax ar ao ad vrd vtr vsd vrn false f12 f17 f19 z35 vow vok vos vso vmi vco vex z43 u45 eu45) (x_cwV 1 hts (inW_2 _ (List.mem_of_getElem? (i := 15) rfl)) (inW_2 _ (List.mem_of_getElem? (i := 16) rfl)) (inW_2 _ (List.mem_of_getElem? (i := 17) rfl)) (inW_2 _ (List.mem_of_getElem? (i := 4) rfl)) (inW_2 _ (List.mem_of_getElem? (i := 18) rfl)) rfl rfl (by decide +kernel) ⟨Nat.le_of_ble_eq_true rfl, Nat.le_of_ble_eq_true rfl⟩) hK hP hD hS hA hSt 2 rfl rfl rfl hl.1 rfl (Nat.le_of_ble_eq_true rfl) dX1_join_241 ⟨Nat.le_of_ble_eq_true rfl, Nat.le_of_ble_eq_true rfl⟩ (fun H locs hP hD hS => ?_)
            show W p l e _ s m args below meth c H locs 0 0 Q (F0 m 244 ls [])
            have e9 := Eq.symm hu; subst e9
            exact x_vret hx hb hr hlocks hQ hK hP hD hS rfl dX1_join_244
          obtain ⟨z9, ez9⟩ : ∃ y9 : Int64, y9 = Z_X1_join_J_44 z27 z35 := ⟨_, rfl⟩
          have hz := rZ_X1_join_J_44 z27 z35 ez9
          unfold RZ_X1_join_J_44 at hz
          refine xb_eq (tgt := 238) hx hb dX1_join_227 (by decide) (fun c_41 => ?_) (fun c_41 => ?_)
          · rw [if_neg c_41] at hz
            refine lv_lload hx hb dX1_join_238 (lv_at hl 2 rfl) ?_
            refine lv_lneg hx hb dX1_join_240 ?_
            have e9 := Eq.symm hz; subst e9
            exact J_44 _ ez9 H locs hP hD hS ls (lv_sub hl [] rfl)
          · rw [if_pos c_41] at hz
            refine lv_lload hx hb dX1_join_230 (lv_at hl 2 rfl) ?_
            refine lv_lneg hx hb dX1_join_232 ?_
            refine lv_lconst (v := 1) hx hb dX1_join_233 (by decide) ?_
            refine lv_lsub hx hb dX1_join_234 ?_
            refine lv_goto (tgt := 241) hx hb dX1_join_235 (by decide) ?_
            have e9 := Eq.symm hz; subst e9
            exact J_44 _ ez9 H locs hP hD hS ls (lv_sub hl [] rfl)
        · rw [if_pos c_40] at hu
          refine lv_aload_n hx hb dX1_join_193 rfl (lv_at hl 0 rfl) ?_
          refine va_get (D := D) (ci := 3) (v := .long f17) (C := RX1) (T := TX1) (N := 8) hx hb hts hi1 hown hK hP 2 rfl rfl 2 (by decide) (hts (.fieldLink RX1 15 "DecimalWords$Outcome" "low" "J") (inW_1 _ (List.mem_of_getElem? (i := 21) rfl))) (fun _ h9 => h9) rfl dX1_join_194 ?_
          refine lv_lload hx hb dX1_join_197 (lv_at hl 2 rfl) ?_
          refine xl_ge (tgt := 222) hx hb dX1_join_199 dX1_join_200 (by decide) (fun c_47 => ?_) (fun c_47 => ?_)
          · rw [if_pos c_47] at hu
            refine lv_aload_n hx hb dX1_join_222 rfl (lv_at hl 0 rfl) ?_
            refine lv_aload_n hx hb dX1_join_223 rfl (lv_at hl 0 rfl) ?_
            refine va_get (D := D) (ci := 3) (v := .int (bI z35)) (C := RX1) (T := TX1) (N := 8) hx hb hts hi1 hown hK hP 2 rfl rfl 4 (by decide) (hts (.fieldLink RX1 18 "DecimalWords$Outcome" "more" "Z") (inW_1 _ (List.mem_of_getElem? (i := 22) rfl))) (fun _ h9 => h9) rfl dX1_join_224 ?_
            have J_51 : (∀ z50 : Int64, z50 = Z_X1_join_J_51 z27 z35 → ∀ (H : Heap) (locs : List Loc), va_P D vwCl (xw cR ax ar ao ad vrd vtr vsd vrn false f12 f17 f19 z35 vow vok vos vso vmi vco vex) H → va_D A (xw cR ax ar ao ad vrd vtr vsd vrn false f12 f17 f19 z35 vow vok vos vso vmi vco vex) → va_S A s.heap H locs → ∀ ls : Array Slot, lv_has ls 12 [] → W p l e rm_X1_join s m args below meth c H locs 0 0 Q (F0 m 241 ls [.long z50, .ref ao])) := by
              intro z50 ez50 H locs hP hD hS ls hl
              have hu := hu _ ez50
              obtain ⟨u52, eu52⟩ : ∃ y9 : Int64 × Int64, y9 = F_X1_addToLow f12 f17 z50 := ⟨_, rfl⟩
              have hu := hu _ eu52
              refine x_V (As := [.long z50]) (rest := []) hCF (c_X1_addToLow l D cR cI cJ cZ t0 ax ar ao ad vrd vtr vsd vrn false f12 f17 f19 z35 vow vok vos vso vmi vco vex z50 u52 eu52) (x_cwV 1 hts (inW_2 _ (List.mem_of_getElem? (i := 15) rfl)) (inW_2 _ (List.mem_of_getElem? (i := 16) rfl)) (inW_2 _ (List.mem_of_getElem? (i := 17) rfl)) (inW_2 _ (List.mem_of_getElem? (i := 4) rfl)) (inW_2 _ (List.mem_of_getElem? (i := 18) rfl)) rfl rfl (by decide +kernel) ⟨Nat.le_of_ble_eq_true rfl, Nat.le_of_ble_eq_true rfl⟩) hK hP hD hS hA hSt 2 rfl rfl rfl hl.1 rfl (Nat.le_of_ble_eq_true rfl) dX1_join_241 ⟨Nat.le_of_ble_eq_true rfl, Nat.le_of_ble_eq_true rfl⟩ (fun H locs hP hD hS => ?_)
              show W p l e _ s m args below meth c H locs 0 0 Q (F0 m 244 ls [])
              have e9 := Eq.symm hu; subst e9
              exact x_vret hx hb hr hlocks hQ hK hP hD hS rfl dX1_join_244
            obtain ⟨z9, ez9⟩ : ∃ y9 : Int64, y9 = Z_X1_join_J_51 z27 z35 := ⟨_, rfl⟩
            have hz := rZ_X1_join_J_51 z27 z35 ez9
            unfold RZ_X1_join_J_51 at hz
            refine xb_eq (tgt := 238) hx hb dX1_join_227 (by decide) (fun c_48 => ?_) (fun c_48 => ?_)
            · rw [if_neg c_48] at hz
              refine lv_lload hx hb dX1_join_238 (lv_at hl 2 rfl) ?_
              refine lv_lneg hx hb dX1_join_240 ?_
              have e9 := Eq.symm hz; subst e9
              exact J_51 _ ez9 H locs hP hD hS ls (lv_sub hl [] rfl)
            · rw [if_pos c_48] at hz
              refine lv_lload hx hb dX1_join_230 (lv_at hl 2 rfl) ?_
              refine lv_lneg hx hb dX1_join_232 ?_
              refine lv_lconst (v := 1) hx hb dX1_join_233 (by decide) ?_
              refine lv_lsub hx hb dX1_join_234 ?_
              refine lv_goto (tgt := 241) hx hb dX1_join_235 (by decide) ?_
              have e9 := Eq.symm hz; subst e9
              exact J_51 _ ez9 H locs hP hD hS ls (lv_sub hl [] rfl)
          · rw [if_neg c_47] at hu
            refine lv_aload_n hx hb dX1_join_203 rfl (lv_at hl 0 rfl) ?_
            refine lv_lload hx hb dX1_join_204 (lv_at hl 2 rfl) ?_
            refine lv_aload_n hx hb dX1_join_206 rfl (lv_at hl 0 rfl) ?_
            refine va_get (D := D) (ci := 3) (v := .long f17) (C := RX1) (T := TX1) (N := 8) hx hb hts hi1 hown hK hP 2 rfl rfl 2 (by decide) (hts (.fieldLink RX1 15 "DecimalWords$Outcome" "low" "J") (inW_1 _ (List.mem_of_getElem? (i := 21) rfl))) (fun _ h9 => h9) rfl dX1_join_207 ?_
            refine lv_lsub hx hb dX1_join_210 ?_
            refine lv_topl (fun f54 ef54 => ?_)
            have hu := hu _ ef54
            refine va_put (D := D) (ci := 3) (v := .long f54) (ty := .long) (C := RX1) (T := TX1) (N := 8) hx hb hts hi1 tyX1 tyX1_ok nmX1 hown hK hP hD hS 2 rfl rfl 2 (by decide) (hts (.fieldLink RX1 15 "DecimalWords$Outcome" "low" "J") (inW_1 _ (List.mem_of_getElem? (i := 21) rfl))) (fun _ h9 => h9) rfl (by decide +kernel) rfl rfl (Nat.le_of_ble_eq_true rfl) dX1_join_211 (fun H locs hP hD hS => ?_)
            have hP : va_P D vwCl (xw cR ax ar ao ad vrd vtr vsd vrn false f12 f54 f19 z35 vow vok vos vso vmi vco vex) H := hP
            have hD : va_D A (xw cR ax ar ao ad vrd vtr vsd vrn false f12 f54 f19 z35 vow vok vos vso vmi vco vex) := hD
            refine lv_aload_n hx hb dX1_join_214 rfl (lv_at hl 0 rfl) ?_
            refine lv_iconst (v := 1) hx hb dX1_join_215 (by decide) ?_
            refine va_put (D := D) (ci := 3) (v := .int (bI true)) (ty := .boolean) (C := RX1) (T := TX1) (N := 8) hx hb hts hi1 tyX1 tyX1_ok nmX1 hown hK hP hD hS 2 rfl rfl 0 (by decide) (hts (.fieldLink RX1 31 "DecimalWords$Outcome" "minus" "Z") (inW_1 _ (List.mem_of_getElem? (i := 30) rfl))) (fun _ h9 => h9) rfl (by decide +kernel) (bI_nar true) (bI_fit true) (Nat.le_of_ble_eq_true rfl) dX1_join_216 (fun H locs hP hD hS => ?_)
            have hP : va_P D vwCl (xw cR ax ar ao ad vrd vtr vsd vrn true f12 f54 f19 z35 vow vok vos vso vmi vco vex) H := hP
            have hD : va_D A (xw cR ax ar ao ad vrd vtr vsd vrn true f12 f54 f19 z35 vow vok vos vso vmi vco vex) := hD
            refine lv_goto (tgt := 244) hx hb dX1_join_219 (by decide) ?_
            have e9 := Eq.symm hu; subst e9
            exact x_vret hx hb hr hlocks hQ hK hP hD hS rfl dX1_join_244
      · rw [if_pos c_39] at hu
        refine lv_aload_n hx hb dX1_join_175 rfl (lv_at hl 0 rfl) ?_
        refine lv_lload hx hb dX1_join_176 (lv_at hl 2 rfl) ?_
        obtain ⟨u57, eu57⟩ : ∃ y9 : Int64 × Int64, y9 = F_X1_addToLow f12 f17 z27 := ⟨_, rfl⟩
        have hu := hu _ eu57
        refine x_V (As := [.long z27]) (rest := []) hCF (c_X1_addToLow l D cR cI cJ cZ t0 ax ar ao ad vrd vtr vsd vrn false f12 f17 f19 z35 vow vok vos vso vmi vco vex z27 u57 eu57) (x_cwV 1 hts (inW_2 _ (List.mem_of_getElem? (i := 15) rfl)) (inW_2 _ (List.mem_of_getElem? (i := 16) rfl)) (inW_2 _ (List.mem_of_getElem? (i := 17) rfl)) (inW_2 _ (List.mem_of_getElem? (i := 4) rfl)) (inW_2 _ (List.mem_of_getElem? (i := 18) rfl)) rfl rfl (by decide +kernel) ⟨Nat.le_of_ble_eq_true rfl, Nat.le_of_ble_eq_true rfl⟩) hK hP hD hS hA hSt 2 rfl rfl rfl hl.1 rfl (Nat.le_of_ble_eq_true rfl) dX1_join_178 ⟨Nat.le_of_ble_eq_true rfl, Nat.le_of_ble_eq_true rfl⟩ (fun H locs hP hD hS => ?_)
        show W p l e _ s m args below meth c H locs 0 0 Q (F0 m 181 ls [])
        refine lv_goto (tgt := 244) hx hb dX1_join_181 (by decide) ?_
        have e9 := Eq.symm hu; subst e9
        exact x_vret hx hb hr hlocks hQ hK hP hD hS rfl dX1_join_244
    obtain ⟨z9, ez9⟩ : ∃ y9 : Bool, y9 = Z_X1_join_J_36 vco i2 n21 := ⟨_, rfl⟩
    have hz := rZ_X1_join_J_36 vco i2 n21 ez9
    unfold RZ_X1_join_J_36 at hz
    refine lv_icmp_gt (tgt := 158) hx hb dX1_join_140 (by decide) (fun c_29 => ?_) (fun c_29 => ?_)
    · rw [if_pos c_29] at hz
      refine lv_iconst (v := 1) hx hb dX1_join_158 (by decide) ?_
      refine lv_goto (tgt := 163) hx hb dX1_join_159 (by decide) ?_
      have e9 := Eq.symm hz; subst e9
      exact J_36 _ ez9 H locs hP hD hS ls (lv_sub hl [1, 3, 0] rfl)
    · rw [if_neg c_29] at hs
      rw [if_neg c_29] at hz
      refine lv_aload_n hx hb dX1_join_143 rfl (lv_at hl 2 rfl) ?_
      refine g_co (i := i2) hx hb hts hi0 hown hK hP hb2 (hts (.fieldLink RX1 32 "DecimalWords$Datum" "coefficient" "J") (inW_1 _ (List.mem_of_getElem? (i := 31) rfl))) dX1_join_144 ?_
      refine lv_iload hx hb dX1_join_147 (lv_at hl 4 rfl) ?_
      obtain ⟨h_30, hs⟩ := hs
      refine x_SN (As := [.int n21]) (rest := [.long (vco i2), .ref ao]) hCF (c_X3_tenTo l D cR cI cJ cZ t0 (xw cR ax ar ao ad vrd vtr vsd vrn vom f12 f17 f19 voe vow vok vos vso vmi vco vex) n21 _ rfl h_30) (x_cwN 1 hts hSt.2.2.2.1 (inW_2 _ (List.mem_of_getElem? (i := 9) rfl)) (inW_1 _ (List.mem_of_getElem? (i := 25) rfl)) (inW_2 _ (List.mem_of_getElem? (i := 10) rfl)) rfl rfl (by decide +kernel) ⟨Nat.le_of_ble_eq_true rfl, Nat.le_of_ble_eq_true rfl⟩) hK hP hD hS hA hSt rfl hl.1 rfl (Nat.le_of_ble_eq_true rfl) dX1_join_149 ⟨Nat.le_of_ble_eq_true rfl, Nat.le_of_ble_eq_true rfl⟩ (fun H locs hP hD hS => ?_)
      show W p l e _ s m args below meth c H locs 0 0 Q (F0 m 152 ls (.long (F_X3_tenTo n21) :: [.long (vco i2), .ref ao]))
      have h_32 := hs
      refine x_lrem hx hb dX1_join_152 h_32 ?_
      refine lv_lconst (v := 0) hx hb dX1_join_153 (by decide) ?_
      refine xl_eq (tgt := 162) hx hb dX1_join_154 dX1_join_155 (by decide) (fun c_33 => ?_) (fun c_33 => ?_)
      · rw [if_pos c_33] at hz
        refine lv_iconst (v := 0) hx hb dX1_join_162 (by decide) ?_
        have e9 := Eq.symm hz; subst e9
        exact J_36 _ ez9 H locs hP hD hS ls (lv_sub hl [1, 3, 0] rfl)
      · rw [if_neg c_33] at hz
        refine lv_iconst (v := 1) hx hb dX1_join_158 (by decide) ?_
        refine lv_goto (tgt := 163) hx hb dX1_join_159 (by decide) ?_
        have e9 := Eq.symm hz; subst e9
        exact J_36 _ ez9 H locs hP hD hS ls (lv_sub hl [1, 3, 0] rfl)
  have hs := hs.1
  obtain ⟨z9, ez9⟩ : ∃ y9 : Int64, y9 = Z_X1_join_J_28 vco i2 n21 := ⟨_, rfl⟩
  have hz := rZ_X1_join_J_28 vco i2 n21 ez9
  unfold RZ_X1_join_J_28 at hz
  refine lv_icmp_le (tgt := 123) hx hb dX1_join_116 (by decide) (fun c_22 => ?_) (fun c_22 => ?_)
  · rw [if_pos c_22] at hs
    rw [if_pos c_22] at hz
    refine lv_aload_n hx hb dX1_join_123 rfl (lv_at hl 7 rfl) ?_
    refine g_co (i := i2) hx hb hts hi0 hown hK hP hb2 (hts (.fieldLink RX1 32 "DecimalWords$Datum" "coefficient" "J") (inW_1 _ (List.mem_of_getElem? (i := 31) rfl))) dX1_join_124 ?_
    refine lv_iload hx hb dX1_join_127 (lv_at hl 0 rfl) ?_
    obtain ⟨h_23, hs⟩ := hs
    refine x_SN (As := [.int n21]) (rest := [.long (vco i2)]) hCF (c_X3_tenTo l D cR cI cJ cZ t0 (xw cR ax ar ao ad vrd vtr vsd vrn vom f12 f17 f19 voe vow vok vos vso vmi vco vex) n21 _ rfl h_23) (x_cwN 1 hts hSt.2.2.2.1 (inW_2 _ (List.mem_of_getElem? (i := 9) rfl)) (inW_1 _ (List.mem_of_getElem? (i := 25) rfl)) (inW_2 _ (List.mem_of_getElem? (i := 10) rfl)) rfl rfl (by decide +kernel) ⟨Nat.le_of_ble_eq_true rfl, Nat.le_of_ble_eq_true rfl⟩) hK hP hD hS hA hSt rfl hl.1 rfl (Nat.le_of_ble_eq_true rfl) dX1_join_129 ⟨Nat.le_of_ble_eq_true rfl, Nat.le_of_ble_eq_true rfl⟩ (fun H locs hP hD hS => ?_)
    show W p l e _ s m args below meth c H locs 0 0 Q (F0 m 132 ls (.long (F_X3_tenTo n21) :: [.long (vco i2)]))
    have h_25 := hs
    refine lv_ldiv hx hb dX1_join_132 h_25 ?_
    have e9 := Eq.symm hz; subst e9
    exact J_28 _ ez9 H locs hP hD hS ls (lv_sub hl [5, 7, 8, 0] rfl)
  · rw [if_neg c_22] at hz
    refine lv_lconst (v := 0) hx hb dX1_join_119 (by decide) ?_
    refine lv_goto (tgt := 133) hx hb dX1_join_120 (by decide) ?_
    have e9 := Eq.symm hz; subst e9
    exact J_28 _ ez9 H locs hP hD hS ls (lv_sub hl [5, 7, 8, 0] rfl)

def Z_X1_setSum_J_39 (p2 : Bool) (p3 : Bool) (z3 : Bool) : Bool := (if z3 = true then p2 else p3)
def RZ_X1_setSum_J_39 (p2 : Bool) (p3 : Bool) (z3 : Bool) (u9 : Bool) : Prop := (if z3 = true then u9 = p2 else u9 = p3)
theorem rZ_X1_setSum_J_39 (p2 : Bool) (p3 : Bool) (z3 : Bool) {u9 : Bool} (hu : u9 = Z_X1_setSum_J_39 p2 p3 z3) : RZ_X1_setSum_J_39 p2 p3 z3 u9 := by
  unfold RZ_X1_setSum_J_39
  refine ite_P (fun c_36 => ?_) (fun c_36 => ?_)
  · have hu := hu.trans (if_pos c_36)
    exact hu
  · have hu := hu.trans (if_neg c_36)
    exact hu
def Z_X1_setSum_J_43 (p2 : Bool) (p3 : Bool) (z3 : Bool) (z32 : Bool × Int64 × Int64 × Int32 × Bool) : Bool := (if F_X1_isZero z32.2.1 z32.2.2.1 z32.2.2.2.2 = true then (bnd (Z_X1_setSum_J_39 p2 p3 z3) (fun z38 : Bool => z38)) else z32.1)
def RZ_X1_setSum_J_43 (p2 : Bool) (p3 : Bool) (z3 : Bool) (z32 : Bool × Int64 × Int64 × Int32 × Bool) (u9 : Bool) : Prop := (if F_X1_isZero z32.2.1 z32.2.2.1 z32.2.2.2.2 = true then (∀ z38 : Bool, z38 = Z_X1_setSum_J_39 p2 p3 z3 → u9 = z38) else u9 = z32.1)
theorem rZ_X1_setSum_J_43 (p2 : Bool) (p3 : Bool) (z3 : Bool) (z32 : Bool × Int64 × Int64 × Int32 × Bool) {u9 : Bool} (hu : u9 = Z_X1_setSum_J_43 p2 p3 z3 z32) : RZ_X1_setSum_J_43 p2 p3 z3 z32 u9 := by
  unfold RZ_X1_setSum_J_43
  refine ite_P (fun c_35 => ?_) (fun c_35 => ?_)
  · have hu := hu.trans (if_pos c_35)
    intro z38 ez38
    have hu := bnd_n hu ez38
    exact hu
  · have hu := hu.trans (if_neg c_35)
    exact hu
def Z_X1_setSum_J_16 (p2 : Bool) (u11 : Bool × Int64 × Int64 × Int32 × Bool) : Bool := (if p2 = u11.1 then false else true)
def RZ_X1_setSum_J_16 (p2 : Bool) (u11 : Bool × Int64 × Int64 × Int32 × Bool) (u9 : Bool) : Prop := (if p2 = u11.1 then u9 = false else u9 = true)
theorem rZ_X1_setSum_J_16 (p2 : Bool) (u11 : Bool × Int64 × Int64 × Int32 × Bool) {u9 : Bool} (hu : u9 = Z_X1_setSum_J_16 p2 u11) : RZ_X1_setSum_J_16 p2 u11 u9 := by
  unfold RZ_X1_setSum_J_16
  refine ite_P (fun c_13 => ?_) (fun c_13 => ?_)
  · have hu := hu.trans (if_pos c_13)
    exact hu
  · have hu := hu.trans (if_neg c_13)
    exact hu
def Z_X1_setSum_J_24 (vmi : Nat → Bool) (i1 : Nat) (u19 : Bool × Int64 × Int64 × Int32 × Bool) : Bool := (if vmi i1 = u19.1 then false else true)
def RZ_X1_setSum_J_24 (vmi : Nat → Bool) (i1 : Nat) (u19 : Bool × Int64 × Int64 × Int32 × Bool) (u9 : Bool) : Prop := (if vmi i1 = u19.1 then u9 = false else u9 = true)
theorem rZ_X1_setSum_J_24 (vmi : Nat → Bool) (i1 : Nat) (u19 : Bool × Int64 × Int64 × Int32 × Bool) {u9 : Bool} (hu : u9 = Z_X1_setSum_J_24 vmi i1 u19) : RZ_X1_setSum_J_24 vmi i1 u19 u9 := by
  unfold RZ_X1_setSum_J_24
  refine ite_P (fun c_21 => ?_) (fun c_21 => ?_)
  · have hu := hu.trans (if_pos c_21)
    exact hu
  · have hu := hu.trans (if_neg c_21)
    exact hu
def Z_X1_setSum_J_33 (vso : Nat → Int32) (vmi : Nat → Bool) (vco : Nat → Int64) (vex : Nat → Int32) (i1 : Nat) (i2 : Nat) (p2 : Bool) (z3 : Bool) : Bool × Int64 × Int64 × Int32 × Bool := (if F_X0_isZero vso vco i1 = true then (bnd (F_X1_setWhole vmi vco vex i2) (fun u28 : Bool × Int64 × Int64 × Int32 × Bool => (p2, u28.2.1, u28.2.2.1, u28.2.2.2.1, u28.2.2.2.2))) else (if F_X0_isZero vso vco i2 = true then (bnd (F_X1_setWhole vmi vco vex i1) (fun u26 : Bool × Int64 × Int64 × Int32 × Bool => (u26.1, u26.2.1, u26.2.2.1, u26.2.2.2.1, u26.2.2.2.2))) else (if vex i1 < vex i2 then (bnd (F_X1_join vco vex i2 i1 z3) (fun u11 : Bool × Int64 × Int64 × Int32 × Bool => (bnd (Z_X1_setSum_J_16 p2 u11) (fun z15 : Bool => (z15, u11.2.1, u11.2.2.1, u11.2.2.2.1, u11.2.2.2.2))))) else (bnd (F_X1_join vco vex i1 i2 z3) (fun u19 : Bool × Int64 × Int64 × Int32 × Bool => (bnd (Z_X1_setSum_J_24 vmi i1 u19) (fun z23 : Bool => (z23, u19.2.1, u19.2.2.1, u19.2.2.2.1, u19.2.2.2.2))))))))
def RZ_X1_setSum_J_33 (vso : Nat → Int32) (vmi : Nat → Bool) (vco : Nat → Int64) (vex : Nat → Int32) (i1 : Nat) (i2 : Nat) (p2 : Bool) (z3 : Bool) (u9 : Bool × Int64 × Int64 × Int32 × Bool) : Prop := (if F_X0_isZero vso vco i1 = true then (∀ u28 : Bool × Int64 × Int64 × Int32 × Bool, u28 = F_X1_setWhole vmi vco vex i2 → u9 = (p2, u28.2.1, u28.2.2.1, u28.2.2.2.1, u28.2.2.2.2)) else (if F_X0_isZero vso vco i2 = true then (∀ u26 : Bool × Int64 × Int64 × Int32 × Bool, u26 = F_X1_setWhole vmi vco vex i1 → u9 = (u26.1, u26.2.1, u26.2.2.1, u26.2.2.2.1, u26.2.2.2.2)) else (if vex i1 < vex i2 then (∀ u11 : Bool × Int64 × Int64 × Int32 × Bool, u11 = F_X1_join vco vex i2 i1 z3 → (∀ z15 : Bool, z15 = Z_X1_setSum_J_16 p2 u11 → u9 = (z15, u11.2.1, u11.2.2.1, u11.2.2.2.1, u11.2.2.2.2))) else (∀ u19 : Bool × Int64 × Int64 × Int32 × Bool, u19 = F_X1_join vco vex i1 i2 z3 → (∀ z23 : Bool, z23 = Z_X1_setSum_J_24 vmi i1 u19 → u9 = (z23, u19.2.1, u19.2.2.1, u19.2.2.2.1, u19.2.2.2.2))))))
theorem rZ_X1_setSum_J_33 (vso : Nat → Int32) (vmi : Nat → Bool) (vco : Nat → Int64) (vex : Nat → Int32) (i1 : Nat) (i2 : Nat) (p2 : Bool) (z3 : Bool) {u9 : Bool × Int64 × Int64 × Int32 × Bool} (hu : u9 = Z_X1_setSum_J_33 vso vmi vco vex i1 i2 p2 z3) : RZ_X1_setSum_J_33 vso vmi vco vex i1 i2 p2 z3 u9 := by
  unfold RZ_X1_setSum_J_33
  refine ite_P (fun c_6 => ?_) (fun c_6 => ?_)
  · have hu := hu.trans (if_pos c_6)
    intro u28 eu28
    have hu := bnd_n hu eu28
    exact hu
  · have hu := hu.trans (if_neg c_6)
    refine ite_P (fun c_8 => ?_) (fun c_8 => ?_)
    · have hu := hu.trans (if_pos c_8)
      intro u26 eu26
      have hu := bnd_n hu eu26
      exact hu
    · have hu := hu.trans (if_neg c_8)
      refine ite_P (fun c_9 => ?_) (fun c_9 => ?_)
      · have hu := hu.trans (if_pos c_9)
        intro u11 eu11
        have hu := bnd_n hu eu11
        intro z15 ez15
        have hu := bnd_n hu ez15
        exact hu
      · have hu := hu.trans (if_neg c_9)
        intro u19 eu19
        have hu := bnd_n hu eu19
        intro z23 ez23
        have hu := bnd_n hu ez23
        exact hu
def Z_X1_setSum_J_4 (vmi : Nat → Bool) (i1 : Nat) (p2 : Bool) : Bool := (if vmi i1 = p2 then true else false)
def RZ_X1_setSum_J_4 (vmi : Nat → Bool) (i1 : Nat) (p2 : Bool) (u9 : Bool) : Prop := (if vmi i1 = p2 then u9 = true else u9 = false)
theorem rZ_X1_setSum_J_4 (vmi : Nat → Bool) (i1 : Nat) (p2 : Bool) {u9 : Bool} (hu : u9 = Z_X1_setSum_J_4 vmi i1 p2) : RZ_X1_setSum_J_4 vmi i1 p2 u9 := by
  unfold RZ_X1_setSum_J_4
  refine ite_P (fun c_1 => ?_) (fun c_1 => ?_)
  · have hu := hu.trans (if_pos c_1)
    exact hu
  · have hu := hu.trans (if_neg c_1)
    exact hu
def F_X1_setSum (vso : Nat → Int32) (vmi : Nat → Bool) (vco : Nat → Int64) (vex : Nat → Int32) (i1 : Nat) (i2 : Nat) (p2 : Bool) (p3 : Bool) : Bool × Int64 × Int64 × Int32 × Bool × Int32 := (bnd (Z_X1_setSum_J_4 vmi i1 p2) (fun z3 : Bool => (bnd (Z_X1_setSum_J_33 vso vmi vco vex i1 i2 p2 z3) (fun z32 : Bool × Int64 × Int64 × Int32 × Bool => (bnd (Z_X1_setSum_J_43 p2 p3 z3 z32) (fun z42 : Bool => (bnd (jmin (vex i1) (vex i2)) (fun f44 : Int32 => (z42, z32.2.1, z32.2.2.1, z32.2.2.2.1, z32.2.2.2.2, f44)))))))))
def RF_X1_setSum (vso : Nat → Int32) (vmi : Nat → Bool) (vco : Nat → Int64) (vex : Nat → Int32) (i1 : Nat) (i2 : Nat) (p2 : Bool) (p3 : Bool) (u9 : Bool × Int64 × Int64 × Int32 × Bool × Int32) : Prop := (∀ z3 : Bool, z3 = Z_X1_setSum_J_4 vmi i1 p2 → (∀ z32 : Bool × Int64 × Int64 × Int32 × Bool, z32 = Z_X1_setSum_J_33 vso vmi vco vex i1 i2 p2 z3 → (∀ z42 : Bool, z42 = Z_X1_setSum_J_43 p2 p3 z3 z32 → (∀ f44 : Int32, f44 = jmin (vex i1) (vex i2) → u9 = (z42, z32.2.1, z32.2.2.1, z32.2.2.2.1, z32.2.2.2.2, f44)))))
theorem rF_X1_setSum (vso : Nat → Int32) (vmi : Nat → Bool) (vco : Nat → Int64) (vex : Nat → Int32) (i1 : Nat) (i2 : Nat) (p2 : Bool) (p3 : Bool) {u9 : Bool × Int64 × Int64 × Int32 × Bool × Int32} (hu : u9 = F_X1_setSum vso vmi vco vex i1 i2 p2 p3) : RF_X1_setSum vso vmi vco vex i1 i2 p2 p3 u9 := by
  unfold RF_X1_setSum
  intro z3 ez3
  have hu := bnd_n hu ez3
  intro z32 ez32
  have hu := bnd_n hu ez32
  intro z42 ez42
  have hu := bnd_n hu ez42
  intro f44 ef44
  have hu := bnd_n hu ef44
  exact hu
def S_X1_setSum (vso : Nat → Int32) (vmi : Nat → Bool) (vco : Nat → Int64) (vex : Nat → Int32) (i1 : Nat) (i2 : Nat) (p2 : Bool) (p3 : Bool) : Prop := (∀ z3 : Bool, z3 = Z_X1_setSum_J_4 vmi i1 p2 → (if F_X0_isZero vso vco i1 = true then True else (if F_X0_isZero vso vco i2 = true then True else (if vex i1 < vex i2 then S_X1_join vco vex i2 i1 z3 else S_X1_join vco vex i1 i2 z3))))
def rm_X1_setSum : Room := { frames := 3, cells := 0, slots := 0, locals := 91 }
set_option maxHeartbeats 4000000 in
set_option maxRecDepth 100000 in
theorem c_X1_setSum (l : Launch) (D : va_G) (cR cI cJ cZ : ClassId) (t0 : Nat) (ax ar ao : Nat) (ad : Nat → Nat) (vrd : Int32) (vtr : Int32) (vsd : Int32) (vrn : Int32) (vom : Bool) (voh : Int64) (vol : Int64) (vop : Int32) (voe : Bool) (vow : Int32) (vok : Int64) (vos : Int32) (vso : Nat → Int32) (vmi : Nat → Bool) (vco : Nat → Int64) (vex : Nat → Int32) (i1 : Nat) (i2 : Nat) (p2 : Bool) (p3 : Bool) (u : Bool × Int64 × Int64 × Int32 × Bool × Int32) (hu : u = F_X1_setSum vso vmi vco vex i1 i2 p2 p3) (hs : S_X1_setSum vso vmi vco vex i1 i2 p2 p3) (hb1 : i1 < 9) (hb2 : i2 < 9) : XM l D (xty cR cI cJ cZ) t0 yX1_setSum cX1_setSum 6 none rm_X1_setSum [.ref ao, .ref (ad i1), .ref (ad i2), .int (bI p2), .int (bI p3)] none (xw cR ax ar ao ad vrd vtr vsd vrn vom voh vol vop voe vow vok vos vso vmi vco vex) (xw cR ax ar ao ad vrd vtr vsd vrn u.1 u.2.1 u.2.2.1 u.2.2.2.1 u.2.2.2.2.1 u.2.2.2.2.2 vok vos vso vmi vco vex) := by
  refine XM.of (by decide) (Nat.le_of_ble_eq_true rfl) ?_
  intro p e s m args below meth c A Q F hK hP hD hA hSt hS hQ ls hl
  obtain ⟨hx, hb, hr, hts, hown, hlocks, hml⟩ := F
  have hCF : CallFix p m c cX1_setSum 6 s args gW RX1 := ⟨hx, hb, hml, hown, hts⟩
  unfold S_X1_setSum at hs
  have hu := rF_X1_setSum vso vmi vco vex i1 i2 p2 p3 hu
  unfold RF_X1_setSum at hu
  obtain ⟨H, eH⟩ : ∃ y9 : Heap, y9 = s.heap := ⟨_, rfl⟩
  obtain ⟨locs, eL⟩ : ∃ y9 : List Loc, y9 = [] := ⟨_, rfl⟩
  rw [← eL] at hS ⊢
  have hP : va_P D vwCl (xw cR ax ar ao ad vrd vtr vsd vrn vom voh vol vop voe vow vok vos vso vmi vco vex) H := by rw [eH]; exact hP
  have hS : va_S A s.heap H locs := by rw [eH]; exact hS
  suffices goal9 : W p l e rm_X1_setSum s m args below meth c H locs 0 0 Q (F0 m 0 ls []) from by rw [← eH]; exact goal9
  have hl : lv_has ls 6 [(0, .ref ao), (1, .ref (ad i1)), (2, .ref (ad i2)), (3, .int (bI p2)), (4, .int (bI p3))] := hl
  have hi0 : ∀ w ∈ wsX00, w ∈ gW := inW_X0
  have hi1 : ∀ w ∈ wsX10, w ∈ gW := inW_X1
  refine lv_aload_n hx hb dX1_setSum_0 rfl (lv_at hl 1 rfl) ?_
  refine g_mi (i := i1) hx hb hts hi0 hown hK hP hb1 (hts (.fieldLink RX1 26 "DecimalWords$Datum" "minus" "Z") (inW_1 _ (List.mem_of_getElem? (i := 29) rfl))) dX1_setSum_1 ?_
  refine lv_iload_n hx hb dX1_setSum_4 rfl (lv_at hl 3 rfl) ?_
  have J_4 : (∀ z3 : Bool, z3 = Z_X1_setSum_J_4 vmi i1 p2 → ∀ (H : Heap) (locs : List Loc), va_P D vwCl (xw cR ax ar ao ad vrd vtr vsd vrn vom voh vol vop voe vow vok vos vso vmi vco vex) H → va_D A (xw cR ax ar ao ad vrd vtr vsd vrn vom voh vol vop voe vow vok vos vso vmi vco vex) → va_S A s.heap H locs → ∀ ls : Array Slot, lv_has ls 6 [(0, .ref ao), (1, .ref (ad i1)), (2, .ref (ad i2)), (3, .int (bI p2)), (4, .int (bI p3))] → W p l e rm_X1_setSum s m args below meth c H locs 0 0 Q (F0 m 13 ls [.int (bI z3)])) := by
    intro z3 ez3 H locs hP hD hS ls hl
    have hs := hs _ ez3
    have hu := hu _ ez3
    refine lv_istore (lv' := [(5, .int (bI z3)), (0, .ref ao), (1, .ref (ad i1)), (2, .ref (ad i2)), (3, .int (bI p2)), (4, .int (bI p3))]) hx hb dX1_setSum_13 hl (by decide) rfl (fun ls hl => ?_)
    refine lv_aload_n hx hb dX1_setSum_15 rfl (lv_at hl 2 rfl) ?_
    refine x_V (As := []) (rest := []) hCF (c_X0_isZero l D cR cI cJ cZ t0 ax ar ao ad vrd vtr vsd vrn vom voh vol vop voe vow vok vos vso vmi vco vex i1 _ rfl hb1) (x_cwV 0 hts (inW_2 _ (List.mem_of_getElem? (i := 0) rfl)) (inW_1 _ (List.mem_of_getElem? (i := 14) rfl)) (inW_1 _ (List.mem_of_getElem? (i := 15) rfl)) (inW_1 _ (List.mem_of_getElem? (i := 16) rfl)) (inW_1 _ (List.mem_of_getElem? (i := 11) rfl)) rfl rfl (by decide +kernel) ⟨Nat.le_of_ble_eq_true rfl, Nat.le_of_ble_eq_true rfl⟩) hK hP hD hS hA hSt (3 + i1) (xw_dat hb1) rfl rfl hl.1 rfl (Nat.le_of_ble_eq_true rfl) dX1_setSum_16 ⟨Nat.le_of_ble_eq_true rfl, Nat.le_of_ble_eq_true rfl⟩ (fun H locs hP hD hS => ?_)
    show W p l e _ s m args below meth c H locs 0 0 Q (F0 m 19 ls (.int (bI (F_X0_isZero vso vco i1)) :: []))
    have J_33 : (∀ z32 : Bool × Int64 × Int64 × Int32 × Bool, z32 = Z_X1_setSum_J_33 vso vmi vco vex i1 i2 p2 z3 → ∀ (H : Heap) (locs : List Loc), va_P D vwCl (xw cR ax ar ao ad vrd vtr vsd vrn z32.1 z32.2.1 z32.2.2.1 z32.2.2.2.1 z32.2.2.2.2 vow vok vos vso vmi vco vex) H → va_D A (xw cR ax ar ao ad vrd vtr vsd vrn z32.1 z32.2.1 z32.2.2.1 z32.2.2.2.1 z32.2.2.2.2 vow vok vos vso vmi vco vex) → va_S A s.heap H locs → ∀ ls : Array Slot, lv_has ls 6 [(0, .ref ao), (1, .ref (ad i1)), (2, .ref (ad i2)), (3, .int (bI p2)), (4, .int (bI p3)), (5, .int (bI z3))] → W p l e rm_X1_setSum s m args below meth c H locs 0 0 Q (F0 m 117 ls [])) := by
      intro z32 ez32 H locs hP hD hS ls hl
      have hu := hu _ ez32
      refine lv_aload_n hx hb dX1_setSum_117 rfl (lv_at hl 0 rfl) ?_
      refine x_V (As := []) (rest := []) hCF (c_X1_isZero l D cR cI cJ cZ t0 ax ar ao ad vrd vtr vsd vrn z32.1 z32.2.1 z32.2.2.1 z32.2.2.2.1 z32.2.2.2.2 vow vok vos vso vmi vco vex _ rfl) (x_cwV 0 hts (inW_2 _ (List.mem_of_getElem? (i := 20) rfl)) (inW_2 _ (List.mem_of_getElem? (i := 21) rfl)) (inW_2 _ (List.mem_of_getElem? (i := 22) rfl)) (inW_2 _ (List.mem_of_getElem? (i := 4) rfl)) (inW_1 _ (List.mem_of_getElem? (i := 19) rfl)) rfl rfl (by decide +kernel) ⟨Nat.le_of_ble_eq_true rfl, Nat.le_of_ble_eq_true rfl⟩) hK hP hD hS hA hSt 2 rfl rfl rfl hl.1 rfl (Nat.le_of_ble_eq_true rfl) dX1_setSum_118 ⟨Nat.le_of_ble_eq_true rfl, Nat.le_of_ble_eq_true rfl⟩ (fun H locs hP hD hS => ?_)
      show W p l e _ s m args below meth c H locs 0 0 Q (F0 m 121 ls (.int (bI (F_X1_isZero z32.2.1 z32.2.2.1 z32.2.2.2.2)) :: []))
      have J_43 : (∀ z42 : Bool, z42 = Z_X1_setSum_J_43 p2 p3 z3 z32 → ∀ (H : Heap) (locs : List Loc), va_P D vwCl (xw cR ax ar ao ad vrd vtr vsd vrn z42 z32.2.1 z32.2.2.1 z32.2.2.2.1 z32.2.2.2.2 vow vok vos vso vmi vco vex) H → va_D A (xw cR ax ar ao ad vrd vtr vsd vrn z42 z32.2.1 z32.2.2.1 z32.2.2.2.1 z32.2.2.2.2 vow vok vos vso vmi vco vex) → va_S A s.heap H locs → ∀ ls : Array Slot, lv_has ls 6 [(0, .ref ao), (1, .ref (ad i1)), (2, .ref (ad i2))] → W p l e rm_X1_setSum s m args below meth c H locs 0 0 Q (F0 m 139 ls [])) := by
        intro z42 ez42 H locs hP hD hS ls hl
        have hu := hu _ ez42
        refine lv_aload_n hx hb dX1_setSum_139 rfl (lv_at hl 0 rfl) ?_
        refine lv_aload_n hx hb dX1_setSum_140 rfl (lv_at hl 1 rfl) ?_
        refine g_ex (i := i1) hx hb hts hi0 hown hK hP hb1 (hts (.fieldLink RX1 35 "DecimalWords$Datum" "exponent" "I") (inW_1 _ (List.mem_of_getElem? (i := 32) rfl))) dX1_setSum_141 ?_
        refine lv_aload_n hx hb dX1_setSum_144 rfl (lv_at hl 2 rfl) ?_
        refine g_ex (i := i2) hx hb hts hi0 hown hK hP hb2 (hts (.fieldLink RX1 35 "DecimalWords$Datum" "exponent" "I") (inW_1 _ (List.mem_of_getElem? (i := 32) rfl))) dX1_setSum_145 ?_
        refine x_min hx hb hml hl.1 hts hown (inW_1 _ (List.mem_of_getElem? (i := 35) rfl)) (inW_1 _ (List.mem_of_getElem? (i := 36) rfl)) (inW_1 _ (List.mem_of_getElem? (i := 37) rfl)) (inW_1 _ (List.mem_of_getElem? (i := 38) rfl)) (Nat.le_of_ble_eq_true rfl) (Nat.le_of_ble_eq_true rfl) (Nat.le_of_ble_eq_true rfl) (Nat.le_of_ble_eq_true rfl) dX1_setSum_148 ?_
        refine lv_topi (fun f44 ef44 => ?_)
        have hu := hu _ ef44
        refine va_put (D := D) (ci := 3) (v := .int f44) (ty := .int) (C := RX1) (T := TX1) (N := 8) hx hb hts hi1 tyX1 tyX1_ok nmX1 hown hK hP hD hS 2 rfl rfl 5 (by decide) (hts (.fieldLink RX1 61 "DecimalWords$Outcome" "wish" "I") (inW_1 _ (List.mem_of_getElem? (i := 39) rfl))) (fun _ h9 => h9) rfl (by decide +kernel) rfl rfl (Nat.le_of_ble_eq_true rfl) dX1_setSum_151 (fun H locs hP hD hS => ?_)
        have hP : va_P D vwCl (xw cR ax ar ao ad vrd vtr vsd vrn z42 z32.2.1 z32.2.2.1 z32.2.2.2.1 z32.2.2.2.2 f44 vok vos vso vmi vco vex) H := hP
        have hD : va_D A (xw cR ax ar ao ad vrd vtr vsd vrn z42 z32.2.1 z32.2.2.1 z32.2.2.2.1 z32.2.2.2.2 f44 vok vos vso vmi vco vex) := hD
        have e9 := Eq.symm hu; subst e9
        exact x_vret hx hb hr hlocks hQ hK hP hD hS rfl dX1_setSum_154
      obtain ⟨z9, ez9⟩ : ∃ y9 : Bool, y9 = Z_X1_setSum_J_43 p2 p3 z3 z32 := ⟨_, rfl⟩
      have hz := rZ_X1_setSum_J_43 p2 p3 z3 z32 ez9
      unfold RZ_X1_setSum_J_43 at hz
      refine xb_eq (tgt := 139) hx hb dX1_setSum_121 (by decide) (fun c_35 => ?_) (fun c_35 => ?_)
      · rw [if_neg c_35] at hz
        have e9 := Eq.symm hz; subst e9
        exact J_43 _ ez9 H locs hP hD hS ls (lv_sub hl [0, 1, 2] rfl)
      · rw [if_pos c_35] at hz
        refine lv_aload_n hx hb dX1_setSum_124 rfl (lv_at hl 0 rfl) ?_
        refine lv_iload hx hb dX1_setSum_125 (lv_at hl 5 rfl) ?_
        have J_39 : (∀ z38 : Bool, z38 = Z_X1_setSum_J_39 p2 p3 z3 → ∀ (H : Heap) (locs : List Loc), va_P D vwCl (xw cR ax ar ao ad vrd vtr vsd vrn z32.1 z32.2.1 z32.2.2.1 z32.2.2.2.1 z32.2.2.2.2 vow vok vos vso vmi vco vex) H → va_D A (xw cR ax ar ao ad vrd vtr vsd vrn z32.1 z32.2.1 z32.2.2.1 z32.2.2.2.1 z32.2.2.2.2 vow vok vos vso vmi vco vex) → va_S A s.heap H locs → ∀ ls : Array Slot, lv_has ls 6 [(0, .ref ao), (1, .ref (ad i1)), (2, .ref (ad i2))] → W p l e rm_X1_setSum s m args below meth c H locs 0 0 Q (F0 m 136 ls [.int (bI z38), .ref ao])) := by
          intro z38 ez38 H locs hP hD hS ls hl
          have hz := hz _ ez38
          refine va_put (D := D) (ci := 3) (v := .int (bI z38)) (ty := .boolean) (C := RX1) (T := TX1) (N := 8) hx hb hts hi1 tyX1 tyX1_ok nmX1 hown hK hP hD hS 2 rfl rfl 0 (by decide) (hts (.fieldLink RX1 31 "DecimalWords$Outcome" "minus" "Z") (inW_1 _ (List.mem_of_getElem? (i := 30) rfl))) (fun _ h9 => h9) rfl (by decide +kernel) (bI_nar z38) (bI_fit z38) (Nat.le_of_ble_eq_true rfl) dX1_setSum_136 (fun H locs hP hD hS => ?_)
          have hP : va_P D vwCl (xw cR ax ar ao ad vrd vtr vsd vrn z38 z32.2.1 z32.2.2.1 z32.2.2.2.1 z32.2.2.2.2 vow vok vos vso vmi vco vex) H := hP
          have hD : va_D A (xw cR ax ar ao ad vrd vtr vsd vrn z38 z32.2.1 z32.2.2.1 z32.2.2.2.1 z32.2.2.2.2 vow vok vos vso vmi vco vex) := hD
          have e9 := Eq.symm hz; subst e9
          exact J_43 _ ez9 H locs hP hD hS ls (lv_sub hl [0, 1, 2] rfl)
        obtain ⟨z9, ez9⟩ : ∃ y9 : Bool, y9 = Z_X1_setSum_J_39 p2 p3 z3 := ⟨_, rfl⟩
        have hz := rZ_X1_setSum_J_39 p2 p3 z3 ez9
        unfold RZ_X1_setSum_J_39 at hz
        refine xb_eq (tgt := 134) hx hb dX1_setSum_127 (by decide) (fun c_36 => ?_) (fun c_36 => ?_)
        · rw [if_neg c_36] at hz
          refine lv_iload hx hb dX1_setSum_134 (lv_at hl 4 rfl) ?_
          have e9 := Eq.symm hz; subst e9
          exact J_39 _ ez9 H locs hP hD hS ls (lv_sub hl [0, 1, 2] rfl)
        · rw [if_pos c_36] at hz
          refine lv_iload_n hx hb dX1_setSum_130 rfl (lv_at hl 3 rfl) ?_
          refine lv_goto (tgt := 136) hx hb dX1_setSum_131 (by decide) ?_
          have e9 := Eq.symm hz; subst e9
          exact J_39 _ ez9 H locs hP hD hS ls (lv_sub hl [0, 1, 2] rfl)
    obtain ⟨z9, ez9⟩ : ∃ y9 : Bool × Int64 × Int64 × Int32 × Bool, y9 = Z_X1_setSum_J_33 vso vmi vco vex i1 i2 p2 z3 := ⟨_, rfl⟩
    have hz := rZ_X1_setSum_J_33 vso vmi vco vex i1 i2 p2 z3 ez9
    unfold RZ_X1_setSum_J_33 at hz
    refine xb_eq (tgt := 35) hx hb dX1_setSum_19 (by decide) (fun c_6 => ?_) (fun c_6 => ?_)
    · rw [if_neg c_6] at hs
      rw [if_neg c_6] at hz
      refine lv_aload_n hx hb dX1_setSum_35 rfl (lv_at hl 3 rfl) ?_
      refine x_V (As := []) (rest := []) hCF (c_X0_isZero l D cR cI cJ cZ t0 ax ar ao ad vrd vtr vsd vrn vom voh vol vop voe vow vok vos vso vmi vco vex i2 _ rfl hb2) (x_cwV 0 hts (inW_2 _ (List.mem_of_getElem? (i := 0) rfl)) (inW_1 _ (List.mem_of_getElem? (i := 14) rfl)) (inW_1 _ (List.mem_of_getElem? (i := 15) rfl)) (inW_1 _ (List.mem_of_getElem? (i := 16) rfl)) (inW_1 _ (List.mem_of_getElem? (i := 11) rfl)) rfl rfl (by decide +kernel) ⟨Nat.le_of_ble_eq_true rfl, Nat.le_of_ble_eq_true rfl⟩) hK hP hD hS hA hSt (3 + i2) (xw_dat hb2) rfl rfl hl.1 rfl (Nat.le_of_ble_eq_true rfl) dX1_setSum_36 ⟨Nat.le_of_ble_eq_true rfl, Nat.le_of_ble_eq_true rfl⟩ (fun H locs hP hD hS => ?_)
      show W p l e _ s m args below meth c H locs 0 0 Q (F0 m 39 ls (.int (bI (F_X0_isZero vso vco i2)) :: []))
      refine xb_eq (tgt := 50) hx hb dX1_setSum_39 (by decide) (fun c_8 => ?_) (fun c_8 => ?_)
      · rw [if_neg c_8] at hs
        rw [if_neg c_8] at hz
        refine lv_aload_n hx hb dX1_setSum_50 rfl (lv_at hl 2 rfl) ?_
        refine g_ex (i := i1) hx hb hts hi0 hown hK hP hb1 (hts (.fieldLink RX1 35 "DecimalWords$Datum" "exponent" "I") (inW_1 _ (List.mem_of_getElem? (i := 32) rfl))) dX1_setSum_51 ?_
        refine lv_aload_n hx hb dX1_setSum_54 rfl (lv_at hl 3 rfl) ?_
        refine g_ex (i := i2) hx hb hts hi0 hown hK hP hb2 (hts (.fieldLink RX1 35 "DecimalWords$Datum" "exponent" "I") (inW_1 _ (List.mem_of_getElem? (i := 32) rfl))) dX1_setSum_55 ?_
        refine lv_icmp_lt (tgt := 92) hx hb dX1_setSum_58 (by decide) (fun c_9 => ?_) (fun c_9 => ?_)
        · rw [if_pos c_9] at hs
          rw [if_pos c_9] at hz
          refine lv_aload_n hx hb dX1_setSum_92 rfl (lv_at hl 1 rfl) ?_
          refine lv_aload_n hx hb dX1_setSum_93 rfl (lv_at hl 3 rfl) ?_
          refine lv_aload_n hx hb dX1_setSum_94 rfl (lv_at hl 2 rfl) ?_
          refine lv_iload hx hb dX1_setSum_95 (lv_at hl 0 rfl) ?_
          have h_10 := hs
          obtain ⟨u11, eu11⟩ : ∃ y9 : Bool × Int64 × Int64 × Int32 × Bool, y9 = F_X1_join vco vex i2 i1 z3 := ⟨_, rfl⟩
          have hz := hz _ eu11
          refine x_V (As := [.ref (ad i2), .ref (ad i1), .int (bI z3)]) (rest := []) hCF (c_X1_join l D cR cI cJ cZ t0 ax ar ao ad vrd vtr vsd vrn vom voh vol vop voe vow vok vos vso vmi vco vex i2 i1 z3 u11 eu11 h_10 hb2 hb1) (x_cwV 3 hts (inW_2 _ (List.mem_of_getElem? (i := 5) rfl)) (inW_2 _ (List.mem_of_getElem? (i := 6) rfl)) (inW_2 _ (List.mem_of_getElem? (i := 7) rfl)) (inW_2 _ (List.mem_of_getElem? (i := 4) rfl)) (inW_2 _ (List.mem_of_getElem? (i := 8) rfl)) rfl rfl (by decide +kernel) ⟨Nat.le_of_ble_eq_true rfl, Nat.le_of_ble_eq_true rfl⟩) hK hP hD hS hA hSt 2 rfl rfl rfl hl.1 rfl (Nat.le_of_ble_eq_true rfl) dX1_setSum_97 ⟨Nat.le_of_ble_eq_true rfl, Nat.le_of_ble_eq_true rfl⟩ (fun H locs hP hD hS => ?_)
          show W p l e _ s m args below meth c H locs 0 0 Q (F0 m 100 ls [])
          refine lv_aload_n hx hb dX1_setSum_100 rfl (lv_at hl 1 rfl) ?_
          refine lv_iload_n hx hb dX1_setSum_101 rfl (lv_at hl 4 rfl) ?_
          refine lv_aload_n hx hb dX1_setSum_102 rfl (lv_at hl 1 rfl) ?_
          refine va_get (D := D) (ci := 3) (v := .int (bI u11.1)) (C := RX1) (T := TX1) (N := 8) hx hb hts hi1 hown hK hP 2 rfl rfl 0 (by decide) (hts (.fieldLink RX1 31 "DecimalWords$Outcome" "minus" "Z") (inW_1 _ (List.mem_of_getElem? (i := 30) rfl))) (fun _ h9 => h9) rfl dX1_setSum_103 ?_
          have J_16 : (∀ z15 : Bool, z15 = Z_X1_setSum_J_16 p2 u11 → ∀ (H : Heap) (locs : List Loc), va_P D vwCl (xw cR ax ar ao ad vrd vtr vsd vrn u11.1 u11.2.1 u11.2.2.1 u11.2.2.2.1 u11.2.2.2.2 vow vok vos vso vmi vco vex) H → va_D A (xw cR ax ar ao ad vrd vtr vsd vrn u11.1 u11.2.1 u11.2.2.1 u11.2.2.2.1 u11.2.2.2.2 vow vok vos vso vmi vco vex) → va_S A s.heap H locs → ∀ ls : Array Slot, lv_has ls 6 [(0, .ref ao), (1, .ref (ad i1)), (2, .ref (ad i2)), (3, .int (bI p2)), (4, .int (bI p3)), (5, .int (bI z3))] → W p l e rm_X1_setSum s m args below meth c H locs 0 0 Q (F0 m 114 ls [.int (bI z15), .ref ao])) := by
            intro z15 ez15 H locs hP hD hS ls hl
            have hz := hz _ ez15
            refine va_put (D := D) (ci := 3) (v := .int (bI z15)) (ty := .boolean) (C := RX1) (T := TX1) (N := 8) hx hb hts hi1 tyX1 tyX1_ok nmX1 hown hK hP hD hS 2 rfl rfl 0 (by decide) (hts (.fieldLink RX1 31 "DecimalWords$Outcome" "minus" "Z") (inW_1 _ (List.mem_of_getElem? (i := 30) rfl))) (fun _ h9 => h9) rfl (by decide +kernel) (bI_nar z15) (bI_fit z15) (Nat.le_of_ble_eq_true rfl) dX1_setSum_114 (fun H locs hP hD hS => ?_)
            have hP : va_P D vwCl (xw cR ax ar ao ad vrd vtr vsd vrn z15 u11.2.1 u11.2.2.1 u11.2.2.2.1 u11.2.2.2.2 vow vok vos vso vmi vco vex) H := hP
            have hD : va_D A (xw cR ax ar ao ad vrd vtr vsd vrn z15 u11.2.1 u11.2.2.1 u11.2.2.2.1 u11.2.2.2.2 vow vok vos vso vmi vco vex) := hD
            have e9 := Eq.symm hz; subst e9
            exact J_33 _ ez9 H locs hP hD hS ls (lv_sub hl [0, 1, 2, 3, 4, 5] rfl)
          obtain ⟨z9, ez9⟩ : ∃ y9 : Bool, y9 = Z_X1_setSum_J_16 p2 u11 := ⟨_, rfl⟩
          have hz := rZ_X1_setSum_J_16 p2 u11 ez9
          unfold RZ_X1_setSum_J_16 at hz
          refine xbb_eq (tgt := 113) hx hb dX1_setSum_106 (by decide) (fun c_13 => ?_) (fun c_13 => ?_)
          · rw [if_pos c_13] at hz
            refine lv_iconst (v := 0) hx hb dX1_setSum_113 (by decide) ?_
            have e9 := Eq.symm hz; subst e9
            exact J_16 _ ez9 H locs hP hD hS ls (lv_sub hl [1, 2, 3, 4, 5, 0] rfl)
          · rw [if_neg c_13] at hz
            refine lv_iconst (v := 1) hx hb dX1_setSum_109 (by decide) ?_
            refine lv_goto (tgt := 114) hx hb dX1_setSum_110 (by decide) ?_
            have e9 := Eq.symm hz; subst e9
            exact J_16 _ ez9 H locs hP hD hS ls (lv_sub hl [1, 2, 3, 4, 5, 0] rfl)
        · rw [if_neg c_9] at hs
          rw [if_neg c_9] at hz
          refine lv_aload_n hx hb dX1_setSum_61 rfl (lv_at hl 1 rfl) ?_
          refine lv_aload_n hx hb dX1_setSum_62 rfl (lv_at hl 2 rfl) ?_
          refine lv_aload_n hx hb dX1_setSum_63 rfl (lv_at hl 3 rfl) ?_
          refine lv_iload hx hb dX1_setSum_64 (lv_at hl 0 rfl) ?_
          have h_18 := hs
          obtain ⟨u19, eu19⟩ : ∃ y9 : Bool × Int64 × Int64 × Int32 × Bool, y9 = F_X1_join vco vex i1 i2 z3 := ⟨_, rfl⟩
          have hz := hz _ eu19
          refine x_V (As := [.ref (ad i1), .ref (ad i2), .int (bI z3)]) (rest := []) hCF (c_X1_join l D cR cI cJ cZ t0 ax ar ao ad vrd vtr vsd vrn vom voh vol vop voe vow vok vos vso vmi vco vex i1 i2 z3 u19 eu19 h_18 hb1 hb2) (x_cwV 3 hts (inW_2 _ (List.mem_of_getElem? (i := 5) rfl)) (inW_2 _ (List.mem_of_getElem? (i := 6) rfl)) (inW_2 _ (List.mem_of_getElem? (i := 7) rfl)) (inW_2 _ (List.mem_of_getElem? (i := 4) rfl)) (inW_2 _ (List.mem_of_getElem? (i := 8) rfl)) rfl rfl (by decide +kernel) ⟨Nat.le_of_ble_eq_true rfl, Nat.le_of_ble_eq_true rfl⟩) hK hP hD hS hA hSt 2 rfl rfl rfl hl.1 rfl (Nat.le_of_ble_eq_true rfl) dX1_setSum_66 ⟨Nat.le_of_ble_eq_true rfl, Nat.le_of_ble_eq_true rfl⟩ (fun H locs hP hD hS => ?_)
          show W p l e _ s m args below meth c H locs 0 0 Q (F0 m 69 ls [])
          refine lv_aload_n hx hb dX1_setSum_69 rfl (lv_at hl 1 rfl) ?_
          refine lv_aload_n hx hb dX1_setSum_70 rfl (lv_at hl 2 rfl) ?_
          refine g_mi (i := i1) hx hb hts hi0 hown hK hP hb1 (hts (.fieldLink RX1 26 "DecimalWords$Datum" "minus" "Z") (inW_1 _ (List.mem_of_getElem? (i := 29) rfl))) dX1_setSum_71 ?_
          refine lv_aload_n hx hb dX1_setSum_74 rfl (lv_at hl 1 rfl) ?_
          refine va_get (D := D) (ci := 3) (v := .int (bI u19.1)) (C := RX1) (T := TX1) (N := 8) hx hb hts hi1 hown hK hP 2 rfl rfl 0 (by decide) (hts (.fieldLink RX1 31 "DecimalWords$Outcome" "minus" "Z") (inW_1 _ (List.mem_of_getElem? (i := 30) rfl))) (fun _ h9 => h9) rfl dX1_setSum_75 ?_
          have J_24 : (∀ z23 : Bool, z23 = Z_X1_setSum_J_24 vmi i1 u19 → ∀ (H : Heap) (locs : List Loc), va_P D vwCl (xw cR ax ar ao ad vrd vtr vsd vrn u19.1 u19.2.1 u19.2.2.1 u19.2.2.2.1 u19.2.2.2.2 vow vok vos vso vmi vco vex) H → va_D A (xw cR ax ar ao ad vrd vtr vsd vrn u19.1 u19.2.1 u19.2.2.1 u19.2.2.2.1 u19.2.2.2.2 vow vok vos vso vmi vco vex) → va_S A s.heap H locs → ∀ ls : Array Slot, lv_has ls 6 [(0, .ref ao), (1, .ref (ad i1)), (2, .ref (ad i2)), (3, .int (bI p2)), (4, .int (bI p3)), (5, .int (bI z3))] → W p l e rm_X1_setSum s m args below meth c H locs 0 0 Q (F0 m 86 ls [.int (bI z23), .ref ao])) := by
            intro z23 ez23 H locs hP hD hS ls hl
            have hz := hz _ ez23
            refine va_put (D := D) (ci := 3) (v := .int (bI z23)) (ty := .boolean) (C := RX1) (T := TX1) (N := 8) hx hb hts hi1 tyX1 tyX1_ok nmX1 hown hK hP hD hS 2 rfl rfl 0 (by decide) (hts (.fieldLink RX1 31 "DecimalWords$Outcome" "minus" "Z") (inW_1 _ (List.mem_of_getElem? (i := 30) rfl))) (fun _ h9 => h9) rfl (by decide +kernel) (bI_nar z23) (bI_fit z23) (Nat.le_of_ble_eq_true rfl) dX1_setSum_86 (fun H locs hP hD hS => ?_)
            have hP : va_P D vwCl (xw cR ax ar ao ad vrd vtr vsd vrn z23 u19.2.1 u19.2.2.1 u19.2.2.2.1 u19.2.2.2.2 vow vok vos vso vmi vco vex) H := hP
            have hD : va_D A (xw cR ax ar ao ad vrd vtr vsd vrn z23 u19.2.1 u19.2.2.1 u19.2.2.2.1 u19.2.2.2.2 vow vok vos vso vmi vco vex) := hD
            refine lv_goto (tgt := 117) hx hb dX1_setSum_89 (by decide) ?_
            have e9 := Eq.symm hz; subst e9
            exact J_33 _ ez9 H locs hP hD hS ls (lv_sub hl [0, 1, 2, 3, 4, 5] rfl)
          obtain ⟨z9, ez9⟩ : ∃ y9 : Bool, y9 = Z_X1_setSum_J_24 vmi i1 u19 := ⟨_, rfl⟩
          have hz := rZ_X1_setSum_J_24 vmi i1 u19 ez9
          unfold RZ_X1_setSum_J_24 at hz
          refine xbb_eq (tgt := 85) hx hb dX1_setSum_78 (by decide) (fun c_21 => ?_) (fun c_21 => ?_)
          · rw [if_pos c_21] at hz
            refine lv_iconst (v := 0) hx hb dX1_setSum_85 (by decide) ?_
            have e9 := Eq.symm hz; subst e9
            exact J_24 _ ez9 H locs hP hD hS ls (lv_sub hl [1, 2, 3, 4, 5, 0] rfl)
          · rw [if_neg c_21] at hz
            refine lv_iconst (v := 1) hx hb dX1_setSum_81 (by decide) ?_
            refine lv_goto (tgt := 86) hx hb dX1_setSum_82 (by decide) ?_
            have e9 := Eq.symm hz; subst e9
            exact J_24 _ ez9 H locs hP hD hS ls (lv_sub hl [1, 2, 3, 4, 5, 0] rfl)
      · rw [if_pos c_8] at hz
        refine lv_aload_n hx hb dX1_setSum_42 rfl (lv_at hl 1 rfl) ?_
        refine lv_aload_n hx hb dX1_setSum_43 rfl (lv_at hl 2 rfl) ?_
        obtain ⟨u26, eu26⟩ : ∃ y9 : Bool × Int64 × Int64 × Int32 × Bool, y9 = F_X1_setWhole vmi vco vex i1 := ⟨_, rfl⟩
        have hz := hz _ eu26
        refine x_V (As := [.ref (ad i1)]) (rest := []) hCF (c_X1_setWhole l D cR cI cJ cZ t0 ax ar ao ad vrd vtr vsd vrn vom voh vol vop voe vow vok vos vso vmi vco vex i1 u26 eu26 hb1) (x_cwV 1 hts (inW_2 _ (List.mem_of_getElem? (i := 1) rfl)) (inW_2 _ (List.mem_of_getElem? (i := 2) rfl)) (inW_2 _ (List.mem_of_getElem? (i := 3) rfl)) (inW_2 _ (List.mem_of_getElem? (i := 4) rfl)) (inW_1 _ (List.mem_of_getElem? (i := 28) rfl)) rfl rfl (by decide +kernel) ⟨Nat.le_of_ble_eq_true rfl, Nat.le_of_ble_eq_true rfl⟩) hK hP hD hS hA hSt 2 rfl rfl rfl hl.1 rfl (Nat.le_of_ble_eq_true rfl) dX1_setSum_44 ⟨Nat.le_of_ble_eq_true rfl, Nat.le_of_ble_eq_true rfl⟩ (fun H locs hP hD hS => ?_)
        show W p l e _ s m args below meth c H locs 0 0 Q (F0 m 47 ls [])
        refine lv_goto (tgt := 117) hx hb dX1_setSum_47 (by decide) ?_
        have e9 := Eq.symm hz; subst e9
        exact J_33 _ ez9 H locs hP hD hS ls (lv_sub hl [1, 2, 3, 4, 5, 0] rfl)
    · rw [if_pos c_6] at hz
      refine lv_aload_n hx hb dX1_setSum_22 rfl (lv_at hl 1 rfl) ?_
      refine lv_aload_n hx hb dX1_setSum_23 rfl (lv_at hl 3 rfl) ?_
      obtain ⟨u28, eu28⟩ : ∃ y9 : Bool × Int64 × Int64 × Int32 × Bool, y9 = F_X1_setWhole vmi vco vex i2 := ⟨_, rfl⟩
      have hz := hz _ eu28
      refine x_V (As := [.ref (ad i2)]) (rest := []) hCF (c_X1_setWhole l D cR cI cJ cZ t0 ax ar ao ad vrd vtr vsd vrn vom voh vol vop voe vow vok vos vso vmi vco vex i2 u28 eu28 hb2) (x_cwV 1 hts (inW_2 _ (List.mem_of_getElem? (i := 1) rfl)) (inW_2 _ (List.mem_of_getElem? (i := 2) rfl)) (inW_2 _ (List.mem_of_getElem? (i := 3) rfl)) (inW_2 _ (List.mem_of_getElem? (i := 4) rfl)) (inW_1 _ (List.mem_of_getElem? (i := 28) rfl)) rfl rfl (by decide +kernel) ⟨Nat.le_of_ble_eq_true rfl, Nat.le_of_ble_eq_true rfl⟩) hK hP hD hS hA hSt 2 rfl rfl rfl hl.1 rfl (Nat.le_of_ble_eq_true rfl) dX1_setSum_24 ⟨Nat.le_of_ble_eq_true rfl, Nat.le_of_ble_eq_true rfl⟩ (fun H locs hP hD hS => ?_)
      show W p l e _ s m args below meth c H locs 0 0 Q (F0 m 27 ls [])
      refine lv_aload_n hx hb dX1_setSum_27 rfl (lv_at hl 1 rfl) ?_
      refine lv_iload_n hx hb dX1_setSum_28 rfl (lv_at hl 4 rfl) ?_
      refine va_put (D := D) (ci := 3) (v := .int (bI p2)) (ty := .boolean) (C := RX1) (T := TX1) (N := 8) hx hb hts hi1 tyX1 tyX1_ok nmX1 hown hK hP hD hS 2 rfl rfl 0 (by decide) (hts (.fieldLink RX1 31 "DecimalWords$Outcome" "minus" "Z") (inW_1 _ (List.mem_of_getElem? (i := 30) rfl))) (fun _ h9 => h9) rfl (by decide +kernel) (bI_nar p2) (bI_fit p2) (Nat.le_of_ble_eq_true rfl) dX1_setSum_29 (fun H locs hP hD hS => ?_)
      have hP : va_P D vwCl (xw cR ax ar ao ad vrd vtr vsd vrn p2 u28.2.1 u28.2.2.1 u28.2.2.2.1 u28.2.2.2.2 vow vok vos vso vmi vco vex) H := hP
      have hD : va_D A (xw cR ax ar ao ad vrd vtr vsd vrn p2 u28.2.1 u28.2.2.1 u28.2.2.2.1 u28.2.2.2.2 vow vok vos vso vmi vco vex) := hD
      refine lv_goto (tgt := 117) hx hb dX1_setSum_32 (by decide) ?_
      have e9 := Eq.symm hz; subst e9
      exact J_33 _ ez9 H locs hP hD hS ls (lv_sub hl [1, 2, 3, 4, 5, 0] rfl)
  obtain ⟨z9, ez9⟩ : ∃ y9 : Bool, y9 = Z_X1_setSum_J_4 vmi i1 p2 := ⟨_, rfl⟩
  have hz := rZ_X1_setSum_J_4 vmi i1 p2 ez9
  unfold RZ_X1_setSum_J_4 at hz
  refine xbb_ne (tgt := 12) hx hb dX1_setSum_5 (by decide) (fun c_1 => ?_) (fun c_1 => ?_)
  · rw [if_neg c_1] at hz
    refine lv_iconst (v := 0) hx hb dX1_setSum_12 (by decide) ?_
    have e9 := Eq.symm hz; subst e9
    exact J_4 _ ez9 H locs hP hD hS ls (lv_sub hl [0, 1, 2, 3, 4] rfl)
  · rw [if_pos c_1] at hz
    refine lv_iconst (v := 1) hx hb dX1_setSum_8 (by decide) ?_
    refine lv_goto (tgt := 13) hx hb dX1_setSum_9 (by decide) ?_
    have e9 := Eq.symm hz; subst e9
    exact J_4 _ ez9 H locs hP hD hS ls (lv_sub hl [0, 1, 2, 3, 4] rfl)

def B_X1_setQuotient_59 (n1 : Int64) (t_ : Int64 × Int32 × Int32) : Int64 × Int32 × Int32 := (if 16 ≤ t_.2.1 then t_ else (if n1 ≤ t_.1 then t_ else (bnd (t_.1 * 10) (fun n13 : Int64 => (bnd (t_.2.2 - 1) (fun f14 : Int32 => (bnd (t_.2.1 + 1) (fun n16 : Int32 => (n13, n16, f14)))))))))
def G_X1_setQuotient_59 (n1 : Int64) (t_ : Int64 × Int32 × Int32) : Bool := (if 16 ≤ t_.2.1 then false else (if n1 ≤ t_.1 then false else (bnd (t_.1 * 10) (fun n13 : Int64 => (bnd (t_.2.2 - 1) (fun f14 : Int32 => (bnd (t_.2.1 + 1) (fun n16 : Int32 => true))))))))
def RB_X1_setQuotient_59 (n1 : Int64) (t_ : Int64 × Int32 × Int32) (u9 : Int64 × Int32 × Int32) : Prop := (if 16 ≤ t_.2.1 then True else (if n1 ≤ t_.1 then True else (∀ n13 : Int64, n13 = t_.1 * 10 → (∀ f14 : Int32, f14 = t_.2.2 - 1 → (∀ n16 : Int32, n16 = t_.2.1 + 1 → u9 = (n13, n16, f14))))))
def RG_X1_setQuotient_59 (n1 : Int64) (t_ : Int64 × Int32 × Int32) (u9 : Bool) : Prop := (if 16 ≤ t_.2.1 then u9 = false else (if n1 ≤ t_.1 then u9 = false else u9 = true))
theorem rB_X1_setQuotient_59 (n1 : Int64) (t_ : Int64 × Int32 × Int32) {u9 : Int64 × Int32 × Int32} (hu : u9 = B_X1_setQuotient_59 n1 t_) : RB_X1_setQuotient_59 n1 t_ u9 := by
  unfold RB_X1_setQuotient_59
  refine ite_P (fun c_11 => ?_) (fun c_11 => ?_)
  · have hu := hu.trans (if_pos c_11)
    trivial
  · have hu := hu.trans (if_neg c_11)
    refine ite_P (fun c_12 => ?_) (fun c_12 => ?_)
    · have hu := hu.trans (if_pos c_12)
      trivial
    · have hu := hu.trans (if_neg c_12)
      intro n13 en13
      have hu := bnd_n hu en13
      intro f14 ef14
      have hu := bnd_n hu ef14
      intro n16 en16
      have hu := bnd_n hu en16
      exact hu
theorem rG_X1_setQuotient_59 (n1 : Int64) (t_ : Int64 × Int32 × Int32) {u9 : Bool} (hu : u9 = G_X1_setQuotient_59 n1 t_) : RG_X1_setQuotient_59 n1 t_ u9 := by
  unfold RG_X1_setQuotient_59
  refine ite_P (fun c_11 => ?_) (fun c_11 => ?_)
  · have hu := hu.trans (if_pos c_11)
    exact hu
  · have hu := hu.trans (if_neg c_11)
    refine ite_P (fun c_12 => ?_) (fun c_12 => ?_)
    · have hu := hu.trans (if_pos c_12)
      exact hu
    · have hu := hu.trans (if_neg c_12)
      exact hu
def B_X1_setQuotient_119 (n1 : Int64) (t_ : Int64 × Int32 × Int64 × Int32) : Int64 × Int32 × Int64 × Int32 := (if 16 ≤ t_.2.1 then t_ else (bnd (t_.1 * 10) (fun n29 : Int64 => (bnd ((t_.2.2.1 * 10) + (n29 / n1)) (fun f31 : Int64 => (bnd (jremL n29 n1) (fun n33 : Int64 => (bnd (t_.2.2.2 - 1) (fun f34 : Int32 => (bnd (t_.2.1 + 1) (fun n36 : Int32 => (n33, n36, f31, f34))))))))))))
def G_X1_setQuotient_119 (n1 : Int64) (t_ : Int64 × Int32 × Int64 × Int32) : Bool := (if 16 ≤ t_.2.1 then false else (bnd (t_.1 * 10) (fun n29 : Int64 => (bnd ((t_.2.2.1 * 10) + (n29 / n1)) (fun f31 : Int64 => (bnd (jremL n29 n1) (fun n33 : Int64 => (bnd (t_.2.2.2 - 1) (fun f34 : Int32 => (bnd (t_.2.1 + 1) (fun n36 : Int32 => true)))))))))))
def RB_X1_setQuotient_119 (n1 : Int64) (t_ : Int64 × Int32 × Int64 × Int32) (u9 : Int64 × Int32 × Int64 × Int32) : Prop := (if 16 ≤ t_.2.1 then True else (∀ n29 : Int64, n29 = t_.1 * 10 → (∀ f31 : Int64, f31 = (t_.2.2.1 * 10) + (n29 / n1) → (∀ n33 : Int64, n33 = jremL n29 n1 → (∀ f34 : Int32, f34 = t_.2.2.2 - 1 → (∀ n36 : Int32, n36 = t_.2.1 + 1 → u9 = (n33, n36, f31, f34)))))))
def RG_X1_setQuotient_119 (n1 : Int64) (t_ : Int64 × Int32 × Int64 × Int32) (u9 : Bool) : Prop := (if 16 ≤ t_.2.1 then u9 = false else u9 = true)
theorem rB_X1_setQuotient_119 (n1 : Int64) (t_ : Int64 × Int32 × Int64 × Int32) {u9 : Int64 × Int32 × Int64 × Int32} (hu : u9 = B_X1_setQuotient_119 n1 t_) : RB_X1_setQuotient_119 n1 t_ u9 := by
  unfold RB_X1_setQuotient_119
  refine ite_P (fun c_28 => ?_) (fun c_28 => ?_)
  · have hu := hu.trans (if_pos c_28)
    trivial
  · have hu := hu.trans (if_neg c_28)
    intro n29 en29
    have hu := bnd_n hu en29
    intro f31 ef31
    have hu := bnd_n hu ef31
    intro n33 en33
    have hu := bnd_n hu en33
    intro f34 ef34
    have hu := bnd_n hu ef34
    intro n36 en36
    have hu := bnd_n hu en36
    exact hu
theorem rG_X1_setQuotient_119 (n1 : Int64) (t_ : Int64 × Int32 × Int64 × Int32) {u9 : Bool} (hu : u9 = G_X1_setQuotient_119 n1 t_) : RG_X1_setQuotient_119 n1 t_ u9 := by
  unfold RG_X1_setQuotient_119
  refine ite_P (fun c_28 => ?_) (fun c_28 => ?_)
  · have hu := hu.trans (if_pos c_28)
    exact hu
  · have hu := hu.trans (if_neg c_28)
    exact hu
def SB_X1_setQuotient_119 (n1 : Int64) (t_ : Int64 × Int32 × Int64 × Int32) : Prop := (if 16 ≤ t_.2.1 then True else (∀ n29 : Int64, n29 = t_.1 * 10 → ¬ n1 = 0))
def Z_X1_setQuotient_J_45 (z37 : Int64 × Int32 × Int64 × Int32) : Bool := (if z37.1 = 0 then false else true)
def RZ_X1_setQuotient_J_45 (z37 : Int64 × Int32 × Int64 × Int32) (u9 : Bool) : Prop := (if z37.1 = 0 then u9 = false else u9 = true)
theorem rZ_X1_setQuotient_J_45 (z37 : Int64 × Int32 × Int64 × Int32) {u9 : Bool} (hu : u9 = Z_X1_setQuotient_J_45 z37) : RZ_X1_setQuotient_J_45 z37 u9 := by
  unfold RZ_X1_setQuotient_J_45
  refine ite_P (fun c_42 => ?_) (fun c_42 => ?_)
  · have hu := hu.trans (if_pos c_42)
    exact hu
  · have hu := hu.trans (if_neg c_42)
    exact hu
def Z_X1_setQuotient_J_6 (vmi : Nat → Bool) (i1 : Nat) (i2 : Nat) : Bool := (if vmi i1 = vmi i2 then false else true)
def RZ_X1_setQuotient_J_6 (vmi : Nat → Bool) (i1 : Nat) (i2 : Nat) (u9 : Bool) : Prop := (if vmi i1 = vmi i2 then u9 = false else u9 = true)
theorem rZ_X1_setQuotient_J_6 (vmi : Nat → Bool) (i1 : Nat) (i2 : Nat) {u9 : Bool} (hu : u9 = Z_X1_setQuotient_J_6 vmi i1 i2) : RZ_X1_setQuotient_J_6 vmi i1 i2 u9 := by
  unfold RZ_X1_setQuotient_J_6
  refine ite_P (fun c_3 => ?_) (fun c_3 => ?_)
  · have hu := hu.trans (if_pos c_3)
    exact hu
  · have hu := hu.trans (if_neg c_3)
    exact hu
def F_X1_setQuotient (vmi : Nat → Bool) (vco : Nat → Int64) (vex : Nat → Int32) (i1 : Nat) (i2 : Nat) : Bool × Int64 × Int64 × Int32 × Bool × Int32 := (bnd (jmaxL 1 (vco i2)) (fun n1 : Int64 => (bnd (vco i1) (fun n2 : Int64 => (bnd (Z_X1_setQuotient_J_6 vmi i1 i2) (fun z5 : Bool => (bnd ((vex i1) - (vex i2)) (fun f8 : Int32 => (bnd (wl (G_X1_setQuotient_59 n1) (B_X1_setQuotient_59 n1) 17 (n2, 0, f8)) (fun z17 : Int64 × Int32 × Int32 => (bnd (z17.1 / n1) (fun f24 : Int64 => (bnd (jremL z17.1 n1) (fun n26 : Int64 => (bnd (wl (G_X1_setQuotient_119 n1) (B_X1_setQuotient_119 n1) 17 (n26, 0, 0, z17.2.2)) (fun z37 : Int64 × Int32 × Int64 × Int32 => (bnd (Z_X1_setQuotient_J_45 z37) (fun z44 : Bool => (z5, f24, z37.2.2.1, z37.2.2.2, z44, f8)))))))))))))))))))
def RF_X1_setQuotient (vmi : Nat → Bool) (vco : Nat → Int64) (vex : Nat → Int32) (i1 : Nat) (i2 : Nat) (u9 : Bool × Int64 × Int64 × Int32 × Bool × Int32) : Prop := (∀ n1 : Int64, n1 = jmaxL 1 (vco i2) → (∀ n2 : Int64, n2 = vco i1 → (∀ z5 : Bool, z5 = Z_X1_setQuotient_J_6 vmi i1 i2 → (∀ f8 : Int32, f8 = (vex i1) - (vex i2) → (∀ z17 : Int64 × Int32 × Int32, z17 = wl (G_X1_setQuotient_59 n1) (B_X1_setQuotient_59 n1) 17 (n2, 0, f8) → (∀ f24 : Int64, f24 = z17.1 / n1 → (∀ n26 : Int64, n26 = jremL z17.1 n1 → (∀ z37 : Int64 × Int32 × Int64 × Int32, z37 = wl (G_X1_setQuotient_119 n1) (B_X1_setQuotient_119 n1) 17 (n26, 0, 0, z17.2.2) → (∀ z44 : Bool, z44 = Z_X1_setQuotient_J_45 z37 → u9 = (z5, f24, z37.2.2.1, z37.2.2.2, z44, f8))))))))))
theorem rF_X1_setQuotient (vmi : Nat → Bool) (vco : Nat → Int64) (vex : Nat → Int32) (i1 : Nat) (i2 : Nat) {u9 : Bool × Int64 × Int64 × Int32 × Bool × Int32} (hu : u9 = F_X1_setQuotient vmi vco vex i1 i2) : RF_X1_setQuotient vmi vco vex i1 i2 u9 := by
  unfold RF_X1_setQuotient
  intro n1 en1
  have hu := bnd_n hu en1
  intro n2 en2
  have hu := bnd_n hu en2
  intro z5 ez5
  have hu := bnd_n hu ez5
  intro f8 ef8
  have hu := bnd_n hu ef8
  intro z17 ez17
  have hu := bnd_n hu ez17
  intro f24 ef24
  have hu := bnd_n hu ef24
  intro n26 en26
  have hu := bnd_n hu en26
  intro z37 ez37
  have hu := bnd_n hu ez37
  intro z44 ez44
  have hu := bnd_n hu ez44
  exact hu
def S_X1_setQuotient (vmi : Nat → Bool) (vco : Nat → Int64) (vex : Nat → Int32) (i1 : Nat) (i2 : Nat) : Prop := (∀ n1 : Int64, n1 = jmaxL 1 (vco i2) → (∀ n2 : Int64, n2 = vco i1 → (∀ z5 : Bool, z5 = Z_X1_setQuotient_J_6 vmi i1 i2 → (∀ f8 : Int32, f8 = (vex i1) - (vex i2) → G_X1_setQuotient_59 n1 (wl (G_X1_setQuotient_59 n1) (B_X1_setQuotient_59 n1) 17 (n2, 0, f8)) = false ∧ (∀ z17 : Int64 × Int32 × Int32, z17 = wl (G_X1_setQuotient_59 n1) (B_X1_setQuotient_59 n1) 17 (n2, 0, f8) → (¬ n1 = 0) ∧ (∀ f24 : Int64, f24 = z17.1 / n1 → (∀ n26 : Int64, n26 = jremL z17.1 n1 → (∀ j : Nat, j < nW (G_X1_setQuotient_119 n1) (B_X1_setQuotient_119 n1) 17 (n26, 0, 0, z17.2.2) → SB_X1_setQuotient_119 n1 (itn (B_X1_setQuotient_119 n1) j (n26, 0, 0, z17.2.2))) ∧ G_X1_setQuotient_119 n1 (wl (G_X1_setQuotient_119 n1) (B_X1_setQuotient_119 n1) 17 (n26, 0, 0, z17.2.2)) = false)))))))
def rm_X1_setQuotient : Room := { frames := 1, cells := 0, slots := 0, locals := 40 }
set_option maxHeartbeats 4000000 in
set_option maxRecDepth 100000 in
theorem c_X1_setQuotient (l : Launch) (D : va_G) (cR cI cJ cZ : ClassId) (t0 : Nat) (ax ar ao : Nat) (ad : Nat → Nat) (vrd : Int32) (vtr : Int32) (vsd : Int32) (vrn : Int32) (vom : Bool) (voh : Int64) (vol : Int64) (vop : Int32) (voe : Bool) (vow : Int32) (vok : Int64) (vos : Int32) (vso : Nat → Int32) (vmi : Nat → Bool) (vco : Nat → Int64) (vex : Nat → Int32) (i1 : Nat) (i2 : Nat) (u : Bool × Int64 × Int64 × Int32 × Bool × Int32) (hu : u = F_X1_setQuotient vmi vco vex i1 i2) (hs : S_X1_setQuotient vmi vco vex i1 i2) (hb1 : i1 < 9) (hb2 : i2 < 9) : XM l D (xty cR cI cJ cZ) t0 yX1_setQuotient cX1_setQuotient 8 none rm_X1_setQuotient [.ref ao, .ref (ad i1), .ref (ad i2)] none (xw cR ax ar ao ad vrd vtr vsd vrn vom voh vol vop voe vow vok vos vso vmi vco vex) (xw cR ax ar ao ad vrd vtr vsd vrn u.1 u.2.1 u.2.2.1 u.2.2.2.1 u.2.2.2.2.1 u.2.2.2.2.2 vok vos vso vmi vco vex) := by
  refine XM.of (by decide) (Nat.le_of_ble_eq_true rfl) ?_
  intro p e s m args below meth c A Q F hK hP hD hA hSt hS hQ ls hl
  obtain ⟨hx, hb, hr, hts, hown, hlocks, hml⟩ := F
  have hCF : CallFix p m c cX1_setQuotient 8 s args gW RX1 := ⟨hx, hb, hml, hown, hts⟩
  unfold S_X1_setQuotient at hs
  have hu := rF_X1_setQuotient vmi vco vex i1 i2 hu
  unfold RF_X1_setQuotient at hu
  obtain ⟨H, eH⟩ : ∃ y9 : Heap, y9 = s.heap := ⟨_, rfl⟩
  obtain ⟨locs, eL⟩ : ∃ y9 : List Loc, y9 = [] := ⟨_, rfl⟩
  rw [← eL] at hS ⊢
  have hP : va_P D vwCl (xw cR ax ar ao ad vrd vtr vsd vrn vom voh vol vop voe vow vok vos vso vmi vco vex) H := by rw [eH]; exact hP
  have hS : va_S A s.heap H locs := by rw [eH]; exact hS
  suffices goal9 : W p l e rm_X1_setQuotient s m args below meth c H locs 0 0 Q (F0 m 0 ls []) from by rw [← eH]; exact goal9
  have hl : lv_has ls 8 [(0, .ref ao), (1, .ref (ad i1)), (2, .ref (ad i2))] := hl
  have hi0 : ∀ w ∈ wsX00, w ∈ gW := inW_X0
  have hi1 : ∀ w ∈ wsX10, w ∈ gW := inW_X1
  refine lv_lconst (v := 1) hx hb dX1_setQuotient_0 (by decide) ?_
  refine lv_aload_n hx hb dX1_setQuotient_1 rfl (lv_at hl 2 rfl) ?_
  refine g_co (i := i2) hx hb hts hi0 hown hK hP hb2 (hts (.fieldLink RX1 32 "DecimalWords$Datum" "coefficient" "J") (inW_1 _ (List.mem_of_getElem? (i := 31) rfl))) dX1_setQuotient_2 ?_
  refine x_maxL hx hb hml hl.1 hts hown (inW_2 _ (List.mem_of_getElem? (i := 26) rfl)) (inW_2 _ (List.mem_of_getElem? (i := 27) rfl)) (inW_1 _ (List.mem_of_getElem? (i := 37) rfl)) (inW_2 _ (List.mem_of_getElem? (i := 28) rfl)) (Nat.le_of_ble_eq_true rfl) (Nat.le_of_ble_eq_true rfl) (Nat.le_of_ble_eq_true rfl) (Nat.le_of_ble_eq_true rfl) dX1_setQuotient_5 ?_
  refine lv_topl (fun n1 en1 => ?_)
  have hs := hs _ en1
  have hu := hu _ en1
  refine lv_lstore_n (lv' := [(3, .long n1), (0, .ref ao), (1, .ref (ad i1)), (2, .ref (ad i2))]) hx hb dX1_setQuotient_8 rfl hl (by decide) rfl (fun ls hl => ?_)
  refine lv_aload_n hx hb dX1_setQuotient_9 rfl (lv_at hl 2 rfl) ?_
  refine g_co (i := i1) hx hb hts hi0 hown hK hP hb1 (hts (.fieldLink RX1 32 "DecimalWords$Datum" "coefficient" "J") (inW_1 _ (List.mem_of_getElem? (i := 31) rfl))) dX1_setQuotient_10 ?_
  refine lv_topl (fun n2 en2 => ?_)
  have hs := hs _ en2
  have hu := hu _ en2
  refine lv_lstore (lv' := [(5, .long n2), (3, .long n1), (0, .ref ao), (1, .ref (ad i1)), (2, .ref (ad i2))]) hx hb dX1_setQuotient_13 hl (by decide) rfl (fun ls hl => ?_)
  refine lv_aload_n hx hb dX1_setQuotient_15 rfl (lv_at hl 2 rfl) ?_
  refine lv_aload_n hx hb dX1_setQuotient_16 rfl (lv_at hl 3 rfl) ?_
  refine g_mi (i := i1) hx hb hts hi0 hown hK hP hb1 (hts (.fieldLink RX1 26 "DecimalWords$Datum" "minus" "Z") (inW_1 _ (List.mem_of_getElem? (i := 29) rfl))) dX1_setQuotient_17 ?_
  refine lv_aload_n hx hb dX1_setQuotient_20 rfl (lv_at hl 4 rfl) ?_
  refine g_mi (i := i2) hx hb hts hi0 hown hK hP hb2 (hts (.fieldLink RX1 26 "DecimalWords$Datum" "minus" "Z") (inW_1 _ (List.mem_of_getElem? (i := 29) rfl))) dX1_setQuotient_21 ?_
  have J_6 : (∀ z5 : Bool, z5 = Z_X1_setQuotient_J_6 vmi i1 i2 → ∀ (H : Heap) (locs : List Loc), va_P D vwCl (xw cR ax ar ao ad vrd vtr vsd vrn vom voh vol vop voe vow vok vos vso vmi vco vex) H → va_D A (xw cR ax ar ao ad vrd vtr vsd vrn vom voh vol vop voe vow vok vos vso vmi vco vex) → va_S A s.heap H locs → ∀ ls : Array Slot, lv_has ls 8 [(0, .ref ao), (1, .ref (ad i1)), (2, .ref (ad i2)), (3, .long n1), (5, .long n2)] → W p l e rm_X1_setQuotient s m args below meth c H locs 0 0 Q (F0 m 32 ls [.int (bI z5), .ref ao])) := by
    intro z5 ez5 H locs hP hD hS ls hl
    have hs := hs _ ez5
    have hu := hu _ ez5
    refine va_put (D := D) (ci := 3) (v := .int (bI z5)) (ty := .boolean) (C := RX1) (T := TX1) (N := 8) hx hb hts hi1 tyX1 tyX1_ok nmX1 hown hK hP hD hS 2 rfl rfl 0 (by decide) (hts (.fieldLink RX1 31 "DecimalWords$Outcome" "minus" "Z") (inW_1 _ (List.mem_of_getElem? (i := 30) rfl))) (fun _ h9 => h9) rfl (by decide +kernel) (bI_nar z5) (bI_fit z5) (Nat.le_of_ble_eq_true rfl) dX1_setQuotient_32 (fun H locs hP hD hS => ?_)
    have hP : va_P D vwCl (xw cR ax ar ao ad vrd vtr vsd vrn z5 voh vol vop voe vow vok vos vso vmi vco vex) H := hP
    have hD : va_D A (xw cR ax ar ao ad vrd vtr vsd vrn z5 voh vol vop voe vow vok vos vso vmi vco vex) := hD
    refine lv_aload_n hx hb dX1_setQuotient_35 rfl (lv_at hl 0 rfl) ?_
    refine lv_aload_n hx hb dX1_setQuotient_36 rfl (lv_at hl 1 rfl) ?_
    refine g_ex (i := i1) hx hb hts hi0 hown hK hP hb1 (hts (.fieldLink RX1 35 "DecimalWords$Datum" "exponent" "I") (inW_1 _ (List.mem_of_getElem? (i := 32) rfl))) dX1_setQuotient_37 ?_
    refine lv_aload_n hx hb dX1_setQuotient_40 rfl (lv_at hl 2 rfl) ?_
    refine g_ex (i := i2) hx hb hts hi0 hown hK hP hb2 (hts (.fieldLink RX1 35 "DecimalWords$Datum" "exponent" "I") (inW_1 _ (List.mem_of_getElem? (i := 32) rfl))) dX1_setQuotient_41 ?_
    refine lv_isub hx hb dX1_setQuotient_44 ?_
    refine lv_topi (fun f8 ef8 => ?_)
    have hs := hs _ ef8
    have hu := hu _ ef8
    refine va_put (D := D) (ci := 3) (v := .int f8) (ty := .int) (C := RX1) (T := TX1) (N := 8) hx hb hts hi1 tyX1 tyX1_ok nmX1 hown hK hP hD hS 2 rfl rfl 3 (by decide) (hts (.fieldLink RX1 39 "DecimalWords$Outcome" "power" "I") (inW_1 _ (List.mem_of_getElem? (i := 33) rfl))) (fun _ h9 => h9) rfl (by decide +kernel) rfl rfl (Nat.le_of_ble_eq_true rfl) dX1_setQuotient_45 (fun H locs hP hD hS => ?_)
    have hP : va_P D vwCl (xw cR ax ar ao ad vrd vtr vsd vrn z5 voh vol f8 voe vow vok vos vso vmi vco vex) H := hP
    have hD : va_D A (xw cR ax ar ao ad vrd vtr vsd vrn z5 voh vol f8 voe vow vok vos vso vmi vco vex) := hD
    refine lv_aload_n hx hb dX1_setQuotient_48 rfl (lv_at hl 0 rfl) ?_
    refine lv_aload_n hx hb dX1_setQuotient_49 rfl (lv_at hl 0 rfl) ?_
    refine va_get (D := D) (ci := 3) (v := .int f8) (C := RX1) (T := TX1) (N := 8) hx hb hts hi1 hown hK hP 2 rfl rfl 3 (by decide) (hts (.fieldLink RX1 39 "DecimalWords$Outcome" "power" "I") (inW_1 _ (List.mem_of_getElem? (i := 33) rfl))) (fun _ h9 => h9) rfl dX1_setQuotient_50 ?_
    refine va_put (D := D) (ci := 3) (v := .int f8) (ty := .int) (C := RX1) (T := TX1) (N := 8) hx hb hts hi1 tyX1 tyX1_ok nmX1 hown hK hP hD hS 2 rfl rfl 5 (by decide) (hts (.fieldLink RX1 61 "DecimalWords$Outcome" "wish" "I") (inW_1 _ (List.mem_of_getElem? (i := 39) rfl))) (fun _ h9 => h9) rfl (by decide +kernel) rfl rfl (Nat.le_of_ble_eq_true rfl) dX1_setQuotient_53 (fun H locs hP hD hS => ?_)
    have hP : va_P D vwCl (xw cR ax ar ao ad vrd vtr vsd vrn z5 voh vol f8 voe f8 vok vos vso vmi vco vex) H := hP
    have hD : va_D A (xw cR ax ar ao ad vrd vtr vsd vrn z5 voh vol f8 voe f8 vok vos vso vmi vco vex) := hD
    refine lv_iconst (v := 0) hx hb dX1_setQuotient_56 (by decide) ?_
    refine lv_istore (lv' := [(7, .int 0), (0, .ref ao), (1, .ref (ad i1)), (2, .ref (ad i2)), (3, .long n1), (5, .long n2)]) hx hb dX1_setQuotient_57 hl (by decide) rfl (fun ls hl => ?_)
    have L_47 : ∀ (n9 : Nat) (t_ : Int64 × Int32 × Int32), (∀ j : Nat, j < n9 → G_X1_setQuotient_59 n1 (itn (B_X1_setQuotient_59 n1) j t_) = true) → (∀ (H : Heap) (locs : List Loc), va_P D vwCl (xw cR ax ar ao ad vrd vtr vsd vrn z5 voh vol ((itn (B_X1_setQuotient_59 n1) n9 t_).2.2) voe f8 vok vos vso vmi vco vex) H → va_D A (xw cR ax ar ao ad vrd vtr vsd vrn z5 voh vol ((itn (B_X1_setQuotient_59 n1) n9 t_).2.2) voe f8 vok vos vso vmi vco vex) → va_S A s.heap H locs → ∀ ls : Array Slot, lv_has ls 8 [(0, .ref ao), (3, .long n1), (5, .long ((itn (B_X1_setQuotient_59 n1) n9 t_).1)), (7, .int ((itn (B_X1_setQuotient_59 n1) n9 t_).2.1))] → W p l e rm_X1_setQuotient s m args below meth c H locs 0 0 Q (F0 m 59 ls [])) → ∀ (H : Heap) (locs : List Loc), va_P D vwCl (xw cR ax ar ao ad vrd vtr vsd vrn z5 voh vol t_.2.2 voe f8 vok vos vso vmi vco vex) H → va_D A (xw cR ax ar ao ad vrd vtr vsd vrn z5 voh vol t_.2.2 voe f8 vok vos vso vmi vco vex) → va_S A s.heap H locs → ∀ ls : Array Slot, lv_has ls 8 [(0, .ref ao), (3, .long n1), (5, .long t_.1), (7, .int t_.2.1)] → W p l e rm_X1_setQuotient s m args below meth c H locs 0 0 Q (F0 m 59 ls []) := by
      intro n9
      induction n9 with
      | zero => exact fun t_ _ k9 => k9
      | succ n9 ih9 =>
        intro t_ hG9 k9 H locs hP hD hS ls hl
        have hG0 : G_X1_setQuotient_59 n1 t_ = true := hG9 0 (Nat.succ_pos n9)
        have hg := rG_X1_setQuotient_59 n1 t_ (Eq.symm hG0)
        unfold RG_X1_setQuotient_59 at hg
        obtain ⟨t9, et9⟩ : ∃ y9 : Int64 × Int32 × Int32, y9 = (B_X1_setQuotient_59 n1) t_ := ⟨_, rfl⟩
        have hb9 := rB_X1_setQuotient_59 n1 t_ et9
        unfold RB_X1_setQuotient_59 at hb9
        refine lv_iload hx hb dX1_setQuotient_59 (lv_at hl 3 rfl) ?_
        refine lv_bipush (v := 16) hx hb dX1_setQuotient_61 (by decide) ?_
        refine lv_icmp_ge (tgt := 97) hx hb dX1_setQuotient_63 (by decide) (fun c_11 => ?_) (fun c_11 => ?_)
        · rw [if_pos c_11] at hg
          exact absurd hg (by decide)
        · rw [if_neg c_11] at hg
          rw [if_neg c_11] at hb9
          refine lv_lload hx hb dX1_setQuotient_66 (lv_at hl 2 rfl) ?_
          refine lv_lload_n hx hb dX1_setQuotient_68 rfl (lv_at hl 1 rfl) ?_
          refine xl_ge (tgt := 97) hx hb dX1_setQuotient_69 dX1_setQuotient_70 (by decide) (fun c_12 => ?_) (fun c_12 => ?_)
          · rw [if_pos c_12] at hg
            exact absurd hg (by decide)
          · rw [if_neg c_12] at hg
            rw [if_neg c_12] at hb9
            refine lv_lload hx hb dX1_setQuotient_73 (lv_at hl 2 rfl) ?_
            refine lv_ldc2 (v := 10) hx hb hown (hts (.constantLong RX1 80 (10)) (inW_2 _ (List.mem_of_getElem? (i := 29) rfl))) dX1_setQuotient_75 ?_
            refine lv_lmul hx hb dX1_setQuotient_78 ?_
            refine lv_topl (fun n13 en13 => ?_)
            have hb9 := hb9 _ en13
            refine lv_lstore (lv' := [(5, .long n13), (0, .ref ao), (3, .long n1), (7, .int t_.2.1)]) hx hb dX1_setQuotient_79 hl (by decide) rfl (fun ls hl => ?_)
            refine lv_aload_n hx hb dX1_setQuotient_81 rfl (lv_at hl 1 rfl) ?_
            refine lv_dup hx hb dX1_setQuotient_82 rfl ?_
            refine va_get (D := D) (ci := 3) (v := .int t_.2.2) (C := RX1) (T := TX1) (N := 8) hx hb hts hi1 hown hK hP 2 rfl rfl 3 (by decide) (hts (.fieldLink RX1 39 "DecimalWords$Outcome" "power" "I") (inW_1 _ (List.mem_of_getElem? (i := 33) rfl))) (fun _ h9 => h9) rfl dX1_setQuotient_83 ?_
            refine lv_iconst (v := 1) hx hb dX1_setQuotient_86 (by decide) ?_
            refine lv_isub hx hb dX1_setQuotient_87 ?_
            refine lv_topi (fun f14 ef14 => ?_)
            have hb9 := hb9 _ ef14
            refine va_put (D := D) (ci := 3) (v := .int f14) (ty := .int) (C := RX1) (T := TX1) (N := 8) hx hb hts hi1 tyX1 tyX1_ok nmX1 hown hK hP hD hS 2 rfl rfl 3 (by decide) (hts (.fieldLink RX1 39 "DecimalWords$Outcome" "power" "I") (inW_1 _ (List.mem_of_getElem? (i := 33) rfl))) (fun _ h9 => h9) rfl (by decide +kernel) rfl rfl (Nat.le_of_ble_eq_true rfl) dX1_setQuotient_88 (fun H locs hP hD hS => ?_)
            have hP : va_P D vwCl (xw cR ax ar ao ad vrd vtr vsd vrn z5 voh vol f14 voe f8 vok vos vso vmi vco vex) H := hP
            have hD : va_D A (xw cR ax ar ao ad vrd vtr vsd vrn z5 voh vol f14 voe f8 vok vos vso vmi vco vex) := hD
            obtain ⟨n16, en16⟩ : ∃ y9 : Int32, y9 = t_.2.1 + 1 := ⟨_, rfl⟩
            have hb9 := hb9 _ en16
            refine lv_iinc (v := n16) (lv' := [(7, .int n16), (5, .long n13), (0, .ref ao), (3, .long n1)]) hx hb dX1_setQuotient_91 hl (k := 3) rfl (by rw [en16]; rfl) (by decide) rfl (fun ls hl => ?_)
            refine lv_goto (tgt := 59) hx hb dX1_setQuotient_94 (by decide) ?_
            have e9 := Eq.symm hb9; subst e9
            have key9 := ih9 ((B_X1_setQuotient_59 n1) t_) (fun j hj => hG9 (j + 1) (Nat.succ_lt_succ hj)) k9
            rw [← et9] at key9
            exact key9 H locs hP hD hS ls (lv_sub hl [2, 3, 1, 0] rfl)
    obtain ⟨hG1, hs⟩ := hs
    refine L_47 (nW (G_X1_setQuotient_59 n1) (B_X1_setQuotient_59 n1) 17 (n2, 0, f8)) (n2, 0, f8) (nW_lt _ _ _ _) (fun H locs hP hD hS ls hl => ?_) H locs hP hD hS ls (lv_sub hl [1, 4, 5, 0] rfl)
    obtain ⟨z17, ez17⟩ : ∃ y9 : Int64 × Int32 × Int32, y9 = wl (G_X1_setQuotient_59 n1) (B_X1_setQuotient_59 n1) 17 (n2, 0, f8) := ⟨_, rfl⟩
    have e9 : z17 = itn (B_X1_setQuotient_59 n1) (nW (G_X1_setQuotient_59 n1) (B_X1_setQuotient_59 n1) 17 (n2, 0, f8)) (n2, 0, f8) := ez17
    try rw [← e9] at hP
    try rw [← e9] at hD
    try rw [← e9] at hl
    rw [← ez17] at hG1
    clear e9
    have hg := rG_X1_setQuotient_59 n1 z17 (Eq.symm hG1)
    unfold RG_X1_setQuotient_59 at hg
    have hs := hs _ ez17
    have hu := hu _ ez17
    refine lv_iload hx hb dX1_setQuotient_59 (lv_at hl 3 rfl) ?_
    refine lv_bipush (v := 16) hx hb dX1_setQuotient_61 (by decide) ?_
    have J_22 : ∀ (H : Heap) (locs : List Loc), va_P D vwCl (xw cR ax ar ao ad vrd vtr vsd vrn z5 voh vol z17.2.2 voe f8 vok vos vso vmi vco vex) H → va_D A (xw cR ax ar ao ad vrd vtr vsd vrn z5 voh vol z17.2.2 voe f8 vok vos vso vmi vco vex) → va_S A s.heap H locs → ∀ ls : Array Slot, lv_has ls 8 [(0, .ref ao), (3, .long n1), (5, .long z17.1)] → W p l e rm_X1_setQuotient s m args below meth c H locs 0 0 Q (F0 m 97 ls []) := by
      intro H locs hP hD hS ls hl
      refine lv_aload_n hx hb dX1_setQuotient_97 rfl (lv_at hl 0 rfl) ?_
      refine lv_lload hx hb dX1_setQuotient_98 (lv_at hl 2 rfl) ?_
      refine lv_lload_n hx hb dX1_setQuotient_100 rfl (lv_at hl 1 rfl) ?_
      obtain ⟨h_23, hs⟩ := hs
      refine lv_ldiv hx hb dX1_setQuotient_101 h_23 ?_
      refine lv_topl (fun f24 ef24 => ?_)
      have hs := hs _ ef24
      have hu := hu _ ef24
      refine va_put (D := D) (ci := 3) (v := .long f24) (ty := .long) (C := RX1) (T := TX1) (N := 8) hx hb hts hi1 tyX1 tyX1_ok nmX1 hown hK hP hD hS 2 rfl rfl 1 (by decide) (hts (.fieldLink RX1 9 "DecimalWords$Outcome" "high" "J") (inW_1 _ (List.mem_of_getElem? (i := 20) rfl))) (fun _ h9 => h9) rfl (by decide +kernel) rfl rfl (Nat.le_of_ble_eq_true rfl) dX1_setQuotient_102 (fun H locs hP hD hS => ?_)
      have hP : va_P D vwCl (xw cR ax ar ao ad vrd vtr vsd vrn z5 f24 vol z17.2.2 voe f8 vok vos vso vmi vco vex) H := hP
      have hD : va_D A (xw cR ax ar ao ad vrd vtr vsd vrn z5 f24 vol z17.2.2 voe f8 vok vos vso vmi vco vex) := hD
      refine lv_lload hx hb dX1_setQuotient_105 (lv_at hl 2 rfl) ?_
      refine lv_lload_n hx hb dX1_setQuotient_107 rfl (lv_at hl 1 rfl) ?_
      refine x_lrem hx hb dX1_setQuotient_108 h_23 ?_
      refine lv_topl (fun n26 en26 => ?_)
      have hs := hs _ en26
      have hu := hu _ en26
      refine lv_lstore (lv' := [(5, .long n26), (0, .ref ao), (3, .long n1)]) hx hb dX1_setQuotient_109 hl (by decide) rfl (fun ls hl => ?_)
      refine lv_aload_n hx hb dX1_setQuotient_111 rfl (lv_at hl 1 rfl) ?_
      refine lv_lconst (v := 0) hx hb dX1_setQuotient_112 (by decide) ?_
      refine va_put (D := D) (ci := 3) (v := .long 0) (ty := .long) (C := RX1) (T := TX1) (N := 8) hx hb hts hi1 tyX1 tyX1_ok nmX1 hown hK hP hD hS 2 rfl rfl 2 (by decide) (hts (.fieldLink RX1 15 "DecimalWords$Outcome" "low" "J") (inW_1 _ (List.mem_of_getElem? (i := 21) rfl))) (fun _ h9 => h9) rfl (by decide +kernel) rfl rfl (Nat.le_of_ble_eq_true rfl) dX1_setQuotient_113 (fun H locs hP hD hS => ?_)
      have hP : va_P D vwCl (xw cR ax ar ao ad vrd vtr vsd vrn z5 f24 0 z17.2.2 voe f8 vok vos vso vmi vco vex) H := hP
      have hD : va_D A (xw cR ax ar ao ad vrd vtr vsd vrn z5 f24 0 z17.2.2 voe f8 vok vos vso vmi vco vex) := hD
      refine lv_iconst (v := 0) hx hb dX1_setQuotient_116 (by decide) ?_
      refine lv_istore (lv' := [(7, .int 0), (5, .long n26), (0, .ref ao), (3, .long n1)]) hx hb dX1_setQuotient_117 hl (by decide) rfl (fun ls hl => ?_)
      have L_48 : ∀ (n9 : Nat) (t_ : Int64 × Int32 × Int64 × Int32), (∀ j : Nat, j < n9 → G_X1_setQuotient_119 n1 (itn (B_X1_setQuotient_119 n1) j t_) = true) → (∀ j : Nat, j < n9 → SB_X1_setQuotient_119 n1 (itn (B_X1_setQuotient_119 n1) j t_)) → (∀ (H : Heap) (locs : List Loc), va_P D vwCl (xw cR ax ar ao ad vrd vtr vsd vrn z5 f24 ((itn (B_X1_setQuotient_119 n1) n9 t_).2.2.1) ((itn (B_X1_setQuotient_119 n1) n9 t_).2.2.2) voe f8 vok vos vso vmi vco vex) H → va_D A (xw cR ax ar ao ad vrd vtr vsd vrn z5 f24 ((itn (B_X1_setQuotient_119 n1) n9 t_).2.2.1) ((itn (B_X1_setQuotient_119 n1) n9 t_).2.2.2) voe f8 vok vos vso vmi vco vex) → va_S A s.heap H locs → ∀ ls : Array Slot, lv_has ls 8 [(0, .ref ao), (3, .long n1), (5, .long ((itn (B_X1_setQuotient_119 n1) n9 t_).1)), (7, .int ((itn (B_X1_setQuotient_119 n1) n9 t_).2.1))] → W p l e rm_X1_setQuotient s m args below meth c H locs 0 0 Q (F0 m 119 ls [])) → ∀ (H : Heap) (locs : List Loc), va_P D vwCl (xw cR ax ar ao ad vrd vtr vsd vrn z5 f24 t_.2.2.1 t_.2.2.2 voe f8 vok vos vso vmi vco vex) H → va_D A (xw cR ax ar ao ad vrd vtr vsd vrn z5 f24 t_.2.2.1 t_.2.2.2 voe f8 vok vos vso vmi vco vex) → va_S A s.heap H locs → ∀ ls : Array Slot, lv_has ls 8 [(0, .ref ao), (3, .long n1), (5, .long t_.1), (7, .int t_.2.1)] → W p l e rm_X1_setQuotient s m args below meth c H locs 0 0 Q (F0 m 119 ls []) := by
        intro n9
        induction n9 with
        | zero => exact fun t_ _ _ k9 => k9
        | succ n9 ih9 =>
          intro t_ hG9 hs9 k9 H locs hP hD hS ls hl
          have hG0 : G_X1_setQuotient_119 n1 t_ = true := hG9 0 (Nat.succ_pos n9)
          have hg := rG_X1_setQuotient_119 n1 t_ (Eq.symm hG0)
          unfold RG_X1_setQuotient_119 at hg
          obtain ⟨t9, et9⟩ : ∃ y9 : Int64 × Int32 × Int64 × Int32, y9 = (B_X1_setQuotient_119 n1) t_ := ⟨_, rfl⟩
          have hb9 := rB_X1_setQuotient_119 n1 t_ et9
          unfold RB_X1_setQuotient_119 at hb9
          have hs : SB_X1_setQuotient_119 n1 t_ := hs9 0 (Nat.succ_pos n9)
          unfold SB_X1_setQuotient_119 at hs
          refine lv_iload hx hb dX1_setQuotient_119 (lv_at hl 3 rfl) ?_
          refine lv_bipush (v := 16) hx hb dX1_setQuotient_121 (by decide) ?_
          refine lv_icmp_ge (tgt := 173) hx hb dX1_setQuotient_123 (by decide) (fun c_28 => ?_) (fun c_28 => ?_)
          · rw [if_pos c_28] at hg
            exact absurd hg (by decide)
          · rw [if_neg c_28] at hs
            rw [if_neg c_28] at hg
            rw [if_neg c_28] at hb9
            refine lv_lload hx hb dX1_setQuotient_126 (lv_at hl 2 rfl) ?_
            refine lv_ldc2 (v := 10) hx hb hown (hts (.constantLong RX1 80 (10)) (inW_2 _ (List.mem_of_getElem? (i := 29) rfl))) dX1_setQuotient_128 ?_
            refine lv_lmul hx hb dX1_setQuotient_131 ?_
            refine lv_topl (fun n29 en29 => ?_)
            have hs := hs _ en29
            have hb9 := hb9 _ en29
            refine lv_lstore (lv' := [(5, .long n29), (0, .ref ao), (3, .long n1), (7, .int t_.2.1)]) hx hb dX1_setQuotient_132 hl (by decide) rfl (fun ls hl => ?_)
            refine lv_aload_n hx hb dX1_setQuotient_134 rfl (lv_at hl 1 rfl) ?_
            refine lv_aload_n hx hb dX1_setQuotient_135 rfl (lv_at hl 1 rfl) ?_
            refine va_get (D := D) (ci := 3) (v := .long t_.2.2.1) (C := RX1) (T := TX1) (N := 8) hx hb hts hi1 hown hK hP 2 rfl rfl 2 (by decide) (hts (.fieldLink RX1 15 "DecimalWords$Outcome" "low" "J") (inW_1 _ (List.mem_of_getElem? (i := 21) rfl))) (fun _ h9 => h9) rfl dX1_setQuotient_136 ?_
            refine lv_ldc2 (v := 10) hx hb hown (hts (.constantLong RX1 80 (10)) (inW_2 _ (List.mem_of_getElem? (i := 29) rfl))) dX1_setQuotient_139 ?_
            refine lv_lmul hx hb dX1_setQuotient_142 ?_
            refine lv_lload hx hb dX1_setQuotient_143 (lv_at hl 0 rfl) ?_
            refine lv_lload_n hx hb dX1_setQuotient_145 rfl (lv_at hl 2 rfl) ?_
            have h_30 := hs
            refine lv_ldiv hx hb dX1_setQuotient_146 h_30 ?_
            refine lv_ladd hx hb dX1_setQuotient_147 ?_
            refine lv_topl (fun f31 ef31 => ?_)
            have hb9 := hb9 _ ef31
            refine va_put (D := D) (ci := 3) (v := .long f31) (ty := .long) (C := RX1) (T := TX1) (N := 8) hx hb hts hi1 tyX1 tyX1_ok nmX1 hown hK hP hD hS 2 rfl rfl 2 (by decide) (hts (.fieldLink RX1 15 "DecimalWords$Outcome" "low" "J") (inW_1 _ (List.mem_of_getElem? (i := 21) rfl))) (fun _ h9 => h9) rfl (by decide +kernel) rfl rfl (Nat.le_of_ble_eq_true rfl) dX1_setQuotient_148 (fun H locs hP hD hS => ?_)
            have hP : va_P D vwCl (xw cR ax ar ao ad vrd vtr vsd vrn z5 f24 f31 t_.2.2.2 voe f8 vok vos vso vmi vco vex) H := hP
            have hD : va_D A (xw cR ax ar ao ad vrd vtr vsd vrn z5 f24 f31 t_.2.2.2 voe f8 vok vos vso vmi vco vex) := hD
            refine lv_lload hx hb dX1_setQuotient_151 (lv_at hl 0 rfl) ?_
            refine lv_lload_n hx hb dX1_setQuotient_153 rfl (lv_at hl 2 rfl) ?_
            refine x_lrem hx hb dX1_setQuotient_154 h_30 ?_
            refine lv_topl (fun n33 en33 => ?_)
            have hb9 := hb9 _ en33
            refine lv_lstore (lv' := [(5, .long n33), (0, .ref ao), (3, .long n1), (7, .int t_.2.1)]) hx hb dX1_setQuotient_155 hl (by decide) rfl (fun ls hl => ?_)
            refine lv_aload_n hx hb dX1_setQuotient_157 rfl (lv_at hl 1 rfl) ?_
            refine lv_dup hx hb dX1_setQuotient_158 rfl ?_
            refine va_get (D := D) (ci := 3) (v := .int t_.2.2.2) (C := RX1) (T := TX1) (N := 8) hx hb hts hi1 hown hK hP 2 rfl rfl 3 (by decide) (hts (.fieldLink RX1 39 "DecimalWords$Outcome" "power" "I") (inW_1 _ (List.mem_of_getElem? (i := 33) rfl))) (fun _ h9 => h9) rfl dX1_setQuotient_159 ?_
            refine lv_iconst (v := 1) hx hb dX1_setQuotient_162 (by decide) ?_
            refine lv_isub hx hb dX1_setQuotient_163 ?_
            refine lv_topi (fun f34 ef34 => ?_)
            have hb9 := hb9 _ ef34
            refine va_put (D := D) (ci := 3) (v := .int f34) (ty := .int) (C := RX1) (T := TX1) (N := 8) hx hb hts hi1 tyX1 tyX1_ok nmX1 hown hK hP hD hS 2 rfl rfl 3 (by decide) (hts (.fieldLink RX1 39 "DecimalWords$Outcome" "power" "I") (inW_1 _ (List.mem_of_getElem? (i := 33) rfl))) (fun _ h9 => h9) rfl (by decide +kernel) rfl rfl (Nat.le_of_ble_eq_true rfl) dX1_setQuotient_164 (fun H locs hP hD hS => ?_)
            have hP : va_P D vwCl (xw cR ax ar ao ad vrd vtr vsd vrn z5 f24 f31 f34 voe f8 vok vos vso vmi vco vex) H := hP
            have hD : va_D A (xw cR ax ar ao ad vrd vtr vsd vrn z5 f24 f31 f34 voe f8 vok vos vso vmi vco vex) := hD
            obtain ⟨n36, en36⟩ : ∃ y9 : Int32, y9 = t_.2.1 + 1 := ⟨_, rfl⟩
            have hb9 := hb9 _ en36
            refine lv_iinc (v := n36) (lv' := [(7, .int n36), (5, .long n33), (0, .ref ao), (3, .long n1)]) hx hb dX1_setQuotient_167 hl (k := 3) rfl (by rw [en36]; rfl) (by decide) rfl (fun ls hl => ?_)
            refine lv_goto (tgt := 119) hx hb dX1_setQuotient_170 (by decide) ?_
            have e9 := Eq.symm hb9; subst e9
            have key9 := ih9 ((B_X1_setQuotient_119 n1) t_) (fun j hj => hG9 (j + 1) (Nat.succ_lt_succ hj)) (fun j hj => hs9 (j + 1) (Nat.succ_lt_succ hj)) k9
            rw [← et9] at key9
            exact key9 H locs hP hD hS ls (lv_sub hl [2, 3, 1, 0] rfl)
      obtain ⟨hsL, hG1⟩ := hs
      refine L_48 (nW (G_X1_setQuotient_119 n1) (B_X1_setQuotient_119 n1) 17 (n26, 0, 0, z17.2.2)) (n26, 0, 0, z17.2.2) (nW_lt _ _ _ _) hsL (fun H locs hP hD hS ls hl => ?_) H locs hP hD hS ls (lv_sub hl [2, 3, 1, 0] rfl)
      obtain ⟨z37, ez37⟩ : ∃ y9 : Int64 × Int32 × Int64 × Int32, y9 = wl (G_X1_setQuotient_119 n1) (B_X1_setQuotient_119 n1) 17 (n26, 0, 0, z17.2.2) := ⟨_, rfl⟩
      have e9 : z37 = itn (B_X1_setQuotient_119 n1) (nW (G_X1_setQuotient_119 n1) (B_X1_setQuotient_119 n1) 17 (n26, 0, 0, z17.2.2)) (n26, 0, 0, z17.2.2) := ez37
      try rw [← e9] at hP
      try rw [← e9] at hD
      try rw [← e9] at hl
      rw [← ez37] at hG1
      clear e9
      have hg := rG_X1_setQuotient_119 n1 z37 (Eq.symm hG1)
      unfold RG_X1_setQuotient_119 at hg
      have hu := hu _ ez37
      refine lv_iload hx hb dX1_setQuotient_119 (lv_at hl 3 rfl) ?_
      refine lv_bipush (v := 16) hx hb dX1_setQuotient_121 (by decide) ?_
      have J_41 : ∀ (H : Heap) (locs : List Loc), va_P D vwCl (xw cR ax ar ao ad vrd vtr vsd vrn z5 f24 z37.2.2.1 z37.2.2.2 voe f8 vok vos vso vmi vco vex) H → va_D A (xw cR ax ar ao ad vrd vtr vsd vrn z5 f24 z37.2.2.1 z37.2.2.2 voe f8 vok vos vso vmi vco vex) → va_S A s.heap H locs → ∀ ls : Array Slot, lv_has ls 8 [(0, .ref ao), (5, .long z37.1)] → W p l e rm_X1_setQuotient s m args below meth c H locs 0 0 Q (F0 m 173 ls []) := by
        intro H locs hP hD hS ls hl
        refine lv_aload_n hx hb dX1_setQuotient_173 rfl (lv_at hl 0 rfl) ?_
        refine lv_lload hx hb dX1_setQuotient_174 (lv_at hl 1 rfl) ?_
        refine lv_lconst (v := 0) hx hb dX1_setQuotient_176 (by decide) ?_
        have J_45 : (∀ z44 : Bool, z44 = Z_X1_setQuotient_J_45 z37 → ∀ (H : Heap) (locs : List Loc), va_P D vwCl (xw cR ax ar ao ad vrd vtr vsd vrn z5 f24 z37.2.2.1 z37.2.2.2 voe f8 vok vos vso vmi vco vex) H → va_D A (xw cR ax ar ao ad vrd vtr vsd vrn z5 f24 z37.2.2.1 z37.2.2.2 voe f8 vok vos vso vmi vco vex) → va_S A s.heap H locs → ∀ ls : Array Slot, lv_has ls 8 [] → W p l e rm_X1_setQuotient s m args below meth c H locs 0 0 Q (F0 m 186 ls [.int (bI z44), .ref ao])) := by
          intro z44 ez44 H locs hP hD hS ls hl
          have hu := hu _ ez44
          refine va_put (D := D) (ci := 3) (v := .int (bI z44)) (ty := .boolean) (C := RX1) (T := TX1) (N := 8) hx hb hts hi1 tyX1 tyX1_ok nmX1 hown hK hP hD hS 2 rfl rfl 4 (by decide) (hts (.fieldLink RX1 18 "DecimalWords$Outcome" "more" "Z") (inW_1 _ (List.mem_of_getElem? (i := 22) rfl))) (fun _ h9 => h9) rfl (by decide +kernel) (bI_nar z44) (bI_fit z44) (Nat.le_of_ble_eq_true rfl) dX1_setQuotient_186 (fun H locs hP hD hS => ?_)
          have hP : va_P D vwCl (xw cR ax ar ao ad vrd vtr vsd vrn z5 f24 z37.2.2.1 z37.2.2.2 z44 f8 vok vos vso vmi vco vex) H := hP
          have hD : va_D A (xw cR ax ar ao ad vrd vtr vsd vrn z5 f24 z37.2.2.1 z37.2.2.2 z44 f8 vok vos vso vmi vco vex) := hD
          have e9 := Eq.symm hu; subst e9
          exact x_vret hx hb hr hlocks hQ hK hP hD hS rfl dX1_setQuotient_189
        obtain ⟨z9, ez9⟩ : ∃ y9 : Bool, y9 = Z_X1_setQuotient_J_45 z37 := ⟨_, rfl⟩
        have hz := rZ_X1_setQuotient_J_45 z37 ez9
        unfold RZ_X1_setQuotient_J_45 at hz
        refine xl_eq (tgt := 185) hx hb dX1_setQuotient_177 dX1_setQuotient_178 (by decide) (fun c_42 => ?_) (fun c_42 => ?_)
        · rw [if_pos c_42] at hz
          refine lv_iconst (v := 0) hx hb dX1_setQuotient_185 (by decide) ?_
          have e9 := Eq.symm hz; subst e9
          exact J_45 _ ez9 H locs hP hD hS ls (lv_sub hl [] rfl)
        · rw [if_neg c_42] at hz
          refine lv_iconst (v := 1) hx hb dX1_setQuotient_181 (by decide) ?_
          refine lv_goto (tgt := 186) hx hb dX1_setQuotient_182 (by decide) ?_
          have e9 := Eq.symm hz; subst e9
          exact J_45 _ ez9 H locs hP hD hS ls (lv_sub hl [] rfl)
      refine lv_icmp_ge (tgt := 173) hx hb dX1_setQuotient_123 (by decide) (fun c_39 => ?_) (fun c_39 => ?_)
      · rw [if_pos c_39] at hg
        exact J_41 H locs hP hD hS ls (lv_sub hl [0, 2] rfl)
      · rw [if_neg c_39] at hg
        exact absurd hg (by decide)
    refine lv_icmp_ge (tgt := 97) hx hb dX1_setQuotient_63 (by decide) (fun c_19 => ?_) (fun c_19 => ?_)
    · rw [if_pos c_19] at hg
      exact J_22 H locs hP hD hS ls (lv_sub hl [0, 1, 2] rfl)
    · rw [if_neg c_19] at hg
      refine lv_lload hx hb dX1_setQuotient_66 (lv_at hl 2 rfl) ?_
      refine lv_lload_n hx hb dX1_setQuotient_68 rfl (lv_at hl 1 rfl) ?_
      refine xl_ge (tgt := 97) hx hb dX1_setQuotient_69 dX1_setQuotient_70 (by decide) (fun c_20 => ?_) (fun c_20 => ?_)
      · rw [if_pos c_20] at hg
        exact J_22 H locs hP hD hS ls (lv_sub hl [0, 1, 2] rfl)
      · rw [if_neg c_20] at hg
        exact absurd hg (by decide)
  obtain ⟨z9, ez9⟩ : ∃ y9 : Bool, y9 = Z_X1_setQuotient_J_6 vmi i1 i2 := ⟨_, rfl⟩
  have hz := rZ_X1_setQuotient_J_6 vmi i1 i2 ez9
  unfold RZ_X1_setQuotient_J_6 at hz
  refine xbb_eq (tgt := 31) hx hb dX1_setQuotient_24 (by decide) (fun c_3 => ?_) (fun c_3 => ?_)
  · rw [if_pos c_3] at hz
    refine lv_iconst (v := 0) hx hb dX1_setQuotient_31 (by decide) ?_
    have e9 := Eq.symm hz; subst e9
    exact J_6 _ ez9 H locs hP hD hS ls (lv_sub hl [2, 3, 4, 1, 0] rfl)
  · rw [if_neg c_3] at hz
    refine lv_iconst (v := 1) hx hb dX1_setQuotient_27 (by decide) ?_
    refine lv_goto (tgt := 32) hx hb dX1_setQuotient_28 (by decide) ?_
    have e9 := Eq.symm hz; subst e9
    exact J_6 _ ez9 H locs hP hD hS ls (lv_sub hl [2, 3, 4, 1, 0] rfl)

def B_X1_dropZeros_35  (t_ : Int32 × Int64 × Int64 × Int32) : Int32 × Int64 × Int64 × Int32 := (if 16 ≤ t_.1 then t_ else (if t_.2.2.1 = 0 then t_ else (if jremL t_.2.2.1 10 = 0 then (bnd ((t_.2.2.1 / 10) + ((jremL t_.2.1 10) * 1000000000000000)) (fun f12 : Int64 => (bnd (t_.2.1 / 10) (fun f14 : Int64 => (bnd (t_.2.2.2 + 1) (fun f16 : Int32 => (bnd (t_.1 + 1) (fun n18 : Int32 => (n18, f14, f12, f16))))))))) else t_)))
def G_X1_dropZeros_35  (t_ : Int32 × Int64 × Int64 × Int32) : Bool := (if 16 ≤ t_.1 then false else (if t_.2.2.1 = 0 then false else (if jremL t_.2.2.1 10 = 0 then (bnd ((t_.2.2.1 / 10) + ((jremL t_.2.1 10) * 1000000000000000)) (fun f12 : Int64 => (bnd (t_.2.1 / 10) (fun f14 : Int64 => (bnd (t_.2.2.2 + 1) (fun f16 : Int32 => (bnd (t_.1 + 1) (fun n18 : Int32 => true)))))))) else false)))
def RB_X1_dropZeros_35  (t_ : Int32 × Int64 × Int64 × Int32) (u9 : Int32 × Int64 × Int64 × Int32) : Prop := (if 16 ≤ t_.1 then True else (if t_.2.2.1 = 0 then True else (if jremL t_.2.2.1 10 = 0 then (∀ f12 : Int64, f12 = (t_.2.2.1 / 10) + ((jremL t_.2.1 10) * 1000000000000000) → (∀ f14 : Int64, f14 = t_.2.1 / 10 → (∀ f16 : Int32, f16 = t_.2.2.2 + 1 → (∀ n18 : Int32, n18 = t_.1 + 1 → u9 = (n18, f14, f12, f16))))) else True)))
def RG_X1_dropZeros_35  (t_ : Int32 × Int64 × Int64 × Int32) (u9 : Bool) : Prop := (if 16 ≤ t_.1 then u9 = false else (if t_.2.2.1 = 0 then u9 = false else (if jremL t_.2.2.1 10 = 0 then u9 = true else u9 = false)))
theorem rB_X1_dropZeros_35  (t_ : Int32 × Int64 × Int64 × Int32) {u9 : Int32 × Int64 × Int64 × Int32} (hu : u9 = B_X1_dropZeros_35  t_) : RB_X1_dropZeros_35  t_ u9 := by
  unfold RB_X1_dropZeros_35
  refine ite_P (fun c_9 => ?_) (fun c_9 => ?_)
  · have hu := hu.trans (if_pos c_9)
    trivial
  · have hu := hu.trans (if_neg c_9)
    refine ite_P (fun c_10 => ?_) (fun c_10 => ?_)
    · have hu := hu.trans (if_pos c_10)
      trivial
    · have hu := hu.trans (if_neg c_10)
      refine ite_P (fun c_11 => ?_) (fun c_11 => ?_)
      · have hu := hu.trans (if_pos c_11)
        intro f12 ef12
        have hu := bnd_n hu ef12
        intro f14 ef14
        have hu := bnd_n hu ef14
        intro f16 ef16
        have hu := bnd_n hu ef16
        intro n18 en18
        have hu := bnd_n hu en18
        exact hu
      · have hu := hu.trans (if_neg c_11)
        trivial
theorem rG_X1_dropZeros_35  (t_ : Int32 × Int64 × Int64 × Int32) {u9 : Bool} (hu : u9 = G_X1_dropZeros_35  t_) : RG_X1_dropZeros_35  t_ u9 := by
  unfold RG_X1_dropZeros_35
  refine ite_P (fun c_9 => ?_) (fun c_9 => ?_)
  · have hu := hu.trans (if_pos c_9)
    exact hu
  · have hu := hu.trans (if_neg c_9)
    refine ite_P (fun c_10 => ?_) (fun c_10 => ?_)
    · have hu := hu.trans (if_pos c_10)
      exact hu
    · have hu := hu.trans (if_neg c_10)
      refine ite_P (fun c_11 => ?_) (fun c_11 => ?_)
      · have hu := hu.trans (if_pos c_11)
        exact hu
      · have hu := hu.trans (if_neg c_11)
        exact hu
def Z_X1_dropZeros_J_8 (voh : Int64) (vol : Int64) (vop : Int32) : Int64 × Int64 × Int32 := (if vol = 0 then (bnd (vop + 16) (fun f4 : Int32 => (0, voh, f4))) else (voh, vol, vop))
def RZ_X1_dropZeros_J_8 (voh : Int64) (vol : Int64) (vop : Int32) (u9 : Int64 × Int64 × Int32) : Prop := (if vol = 0 then (∀ f4 : Int32, f4 = vop + 16 → u9 = (0, voh, f4)) else u9 = (voh, vol, vop))
theorem rZ_X1_dropZeros_J_8 (voh : Int64) (vol : Int64) (vop : Int32) {u9 : Int64 × Int64 × Int32} (hu : u9 = Z_X1_dropZeros_J_8 voh vol vop) : RZ_X1_dropZeros_J_8 voh vol vop u9 := by
  unfold RZ_X1_dropZeros_J_8
  refine ite_P (fun c_1 => ?_) (fun c_1 => ?_)
  · have hu := hu.trans (if_pos c_1)
    intro f4 ef4
    have hu := bnd_n hu ef4
    exact hu
  · have hu := hu.trans (if_neg c_1)
    exact hu
def F_X1_dropZeros (voh : Int64) (vol : Int64) (vop : Int32)  : Int64 × Int64 × Int32 := (bnd (Z_X1_dropZeros_J_8 voh vol vop) (fun z7 : Int64 × Int64 × Int32 => (bnd (wl (G_X1_dropZeros_35) (B_X1_dropZeros_35) 17 (0, z7.1, z7.2.1, z7.2.2)) (fun z19 : Int32 × Int64 × Int64 × Int32 => (if 16 ≤ z19.1 then (z19.2.1, z19.2.2.1, z19.2.2.2) else (if z19.2.2.1 = 0 then (z19.2.1, z19.2.2.1, z19.2.2.2) else (if jremL z19.2.2.1 10 = 0 then default else (z19.2.1, z19.2.2.1, z19.2.2.2))))))))
def RF_X1_dropZeros (voh : Int64) (vol : Int64) (vop : Int32)  (u9 : Int64 × Int64 × Int32) : Prop := (∀ z7 : Int64 × Int64 × Int32, z7 = Z_X1_dropZeros_J_8 voh vol vop → (∀ z19 : Int32 × Int64 × Int64 × Int32, z19 = wl (G_X1_dropZeros_35) (B_X1_dropZeros_35) 17 (0, z7.1, z7.2.1, z7.2.2) → (if 16 ≤ z19.1 then u9 = (z19.2.1, z19.2.2.1, z19.2.2.2) else (if z19.2.2.1 = 0 then u9 = (z19.2.1, z19.2.2.1, z19.2.2.2) else (if jremL z19.2.2.1 10 = 0 then True else u9 = (z19.2.1, z19.2.2.1, z19.2.2.2))))))
theorem rF_X1_dropZeros (voh : Int64) (vol : Int64) (vop : Int32)  {u9 : Int64 × Int64 × Int32} (hu : u9 = F_X1_dropZeros voh vol vop) : RF_X1_dropZeros voh vol vop u9 := by
  unfold RF_X1_dropZeros
  intro z7 ez7
  have hu := bnd_n hu ez7
  intro z19 ez19
  have hu := bnd_n hu ez19
  refine ite_P (fun c_21 => ?_) (fun c_21 => ?_)
  · have hu := hu.trans (if_pos c_21)
    exact hu
  · have hu := hu.trans (if_neg c_21)
    refine ite_P (fun c_22 => ?_) (fun c_22 => ?_)
    · have hu := hu.trans (if_pos c_22)
      exact hu
    · have hu := hu.trans (if_neg c_22)
      refine ite_P (fun c_23 => ?_) (fun c_23 => ?_)
      · have hu := hu.trans (if_pos c_23)
        trivial
      · have hu := hu.trans (if_neg c_23)
        exact hu
def S_X1_dropZeros (voh : Int64) (vol : Int64) (vop : Int32)  : Prop := (∀ z7 : Int64 × Int64 × Int32, z7 = Z_X1_dropZeros_J_8 voh vol vop → G_X1_dropZeros_35  (wl (G_X1_dropZeros_35) (B_X1_dropZeros_35) 17 (0, z7.1, z7.2.1, z7.2.2)) = false)
def rm_X1_dropZeros : Room := { frames := 0, cells := 0, slots := 0, locals := 0 }
set_option maxHeartbeats 4000000 in
set_option maxRecDepth 100000 in
theorem c_X1_dropZeros (l : Launch) (D : va_G) (cR cI cJ cZ : ClassId) (t0 : Nat) (ax ar ao : Nat) (ad : Nat → Nat) (vrd : Int32) (vtr : Int32) (vsd : Int32) (vrn : Int32) (vom : Bool) (voh : Int64) (vol : Int64) (vop : Int32) (voe : Bool) (vow : Int32) (vok : Int64) (vos : Int32) (vso : Nat → Int32) (vmi : Nat → Bool) (vco : Nat → Int64) (vex : Nat → Int32)  (u : Int64 × Int64 × Int32) (hu : u = F_X1_dropZeros voh vol vop) (hs : S_X1_dropZeros voh vol vop) : XM l D (xty cR cI cJ cZ) t0 yX1_dropZeros cX1_dropZeros 2 none rm_X1_dropZeros [.ref ao] none (xw cR ax ar ao ad vrd vtr vsd vrn vom voh vol vop voe vow vok vos vso vmi vco vex) (xw cR ax ar ao ad vrd vtr vsd vrn vom u.1 u.2.1 u.2.2 voe vow vok vos vso vmi vco vex) := by
  refine XM.of (by decide) (Nat.le_of_ble_eq_true rfl) ?_
  intro p e s m args below meth c A Q F hK hP hD hA hSt hS hQ ls hl
  obtain ⟨hx, hb, hr, hts, hown, hlocks, hml⟩ := F
  have hCF : CallFix p m c cX1_dropZeros 2 s args gW RX1 := ⟨hx, hb, hml, hown, hts⟩
  unfold S_X1_dropZeros at hs
  have hu := rF_X1_dropZeros voh vol vop hu
  unfold RF_X1_dropZeros at hu
  obtain ⟨H, eH⟩ : ∃ y9 : Heap, y9 = s.heap := ⟨_, rfl⟩
  obtain ⟨locs, eL⟩ : ∃ y9 : List Loc, y9 = [] := ⟨_, rfl⟩
  rw [← eL] at hS ⊢
  have hP : va_P D vwCl (xw cR ax ar ao ad vrd vtr vsd vrn vom voh vol vop voe vow vok vos vso vmi vco vex) H := by rw [eH]; exact hP
  have hS : va_S A s.heap H locs := by rw [eH]; exact hS
  suffices goal9 : W p l e rm_X1_dropZeros s m args below meth c H locs 0 0 Q (F0 m 0 ls []) from by rw [← eH]; exact goal9
  have hl : lv_has ls 2 [(0, .ref ao)] := hl
  have hi1 : ∀ w ∈ wsX10, w ∈ gW := inW_X1
  refine lv_aload_n hx hb dX1_dropZeros_0 rfl (lv_at hl 0 rfl) ?_
  refine va_get (D := D) (ci := 3) (v := .long vol) (C := RX1) (T := TX1) (N := 8) hx hb hts hi1 hown hK hP 2 rfl rfl 2 (by decide) (hts (.fieldLink RX1 15 "DecimalWords$Outcome" "low" "J") (inW_1 _ (List.mem_of_getElem? (i := 21) rfl))) (fun _ h9 => h9) rfl dX1_dropZeros_1 ?_
  refine lv_lconst (v := 0) hx hb dX1_dropZeros_4 (by decide) ?_
  have J_8 : (∀ z7 : Int64 × Int64 × Int32, z7 = Z_X1_dropZeros_J_8 voh vol vop → ∀ (H : Heap) (locs : List Loc), va_P D vwCl (xw cR ax ar ao ad vrd vtr vsd vrn vom z7.1 z7.2.1 z7.2.2 voe vow vok vos vso vmi vco vex) H → va_D A (xw cR ax ar ao ad vrd vtr vsd vrn vom z7.1 z7.2.1 z7.2.2 voe vow vok vos vso vmi vco vex) → va_S A s.heap H locs → ∀ ls : Array Slot, lv_has ls 2 [(0, .ref ao)] → W p l e rm_X1_dropZeros s m args below meth c H locs 0 0 Q (F0 m 33 ls [])) := by
    intro z7 ez7 H locs hP hD hS ls hl
    have hs := hs _ ez7
    have hu := hu _ ez7
    refine lv_iconst (v := 0) hx hb dX1_dropZeros_33 (by decide) ?_
    refine lv_istore_n (lv' := [(1, .int 0), (0, .ref ao)]) hx hb dX1_dropZeros_34 rfl hl (by decide) rfl (fun ls hl => ?_)
    have L_24 : ∀ (n9 : Nat) (t_ : Int32 × Int64 × Int64 × Int32), (∀ j : Nat, j < n9 → G_X1_dropZeros_35  (itn (B_X1_dropZeros_35) j t_) = true) → (∀ (H : Heap) (locs : List Loc), va_P D vwCl (xw cR ax ar ao ad vrd vtr vsd vrn vom ((itn (B_X1_dropZeros_35) n9 t_).2.1) ((itn (B_X1_dropZeros_35) n9 t_).2.2.1) ((itn (B_X1_dropZeros_35) n9 t_).2.2.2) voe vow vok vos vso vmi vco vex) H → va_D A (xw cR ax ar ao ad vrd vtr vsd vrn vom ((itn (B_X1_dropZeros_35) n9 t_).2.1) ((itn (B_X1_dropZeros_35) n9 t_).2.2.1) ((itn (B_X1_dropZeros_35) n9 t_).2.2.2) voe vow vok vos vso vmi vco vex) → va_S A s.heap H locs → ∀ ls : Array Slot, lv_has ls 2 [(0, .ref ao), (1, .int ((itn (B_X1_dropZeros_35) n9 t_).1))] → W p l e rm_X1_dropZeros s m args below meth c H locs 0 0 Q (F0 m 35 ls [])) → ∀ (H : Heap) (locs : List Loc), va_P D vwCl (xw cR ax ar ao ad vrd vtr vsd vrn vom t_.2.1 t_.2.2.1 t_.2.2.2 voe vow vok vos vso vmi vco vex) H → va_D A (xw cR ax ar ao ad vrd vtr vsd vrn vom t_.2.1 t_.2.2.1 t_.2.2.2 voe vow vok vos vso vmi vco vex) → va_S A s.heap H locs → ∀ ls : Array Slot, lv_has ls 2 [(0, .ref ao), (1, .int t_.1)] → W p l e rm_X1_dropZeros s m args below meth c H locs 0 0 Q (F0 m 35 ls []) := by
      intro n9
      induction n9 with
      | zero => exact fun t_ _ k9 => k9
      | succ n9 ih9 =>
        intro t_ hG9 k9 H locs hP hD hS ls hl
        have hG0 : G_X1_dropZeros_35  t_ = true := hG9 0 (Nat.succ_pos n9)
        have hg := rG_X1_dropZeros_35  t_ (Eq.symm hG0)
        unfold RG_X1_dropZeros_35 at hg
        obtain ⟨t9, et9⟩ : ∃ y9 : Int32 × Int64 × Int64 × Int32, y9 = (B_X1_dropZeros_35) t_ := ⟨_, rfl⟩
        have hb9 := rB_X1_dropZeros_35  t_ et9
        unfold RB_X1_dropZeros_35 at hb9
        refine lv_iload_n hx hb dX1_dropZeros_35 rfl (lv_at hl 1 rfl) ?_
        refine lv_bipush (v := 16) hx hb dX1_dropZeros_36 (by decide) ?_
        refine lv_icmp_ge (tgt := 116) hx hb dX1_dropZeros_38 (by decide) (fun c_9 => ?_) (fun c_9 => ?_)
        · rw [if_pos c_9] at hg
          exact absurd hg (by decide)
        · rw [if_neg c_9] at hg
          rw [if_neg c_9] at hb9
          refine lv_aload_n hx hb dX1_dropZeros_41 rfl (lv_at hl 0 rfl) ?_
          refine va_get (D := D) (ci := 3) (v := .long t_.2.2.1) (C := RX1) (T := TX1) (N := 8) hx hb hts hi1 hown hK hP 2 rfl rfl 2 (by decide) (hts (.fieldLink RX1 15 "DecimalWords$Outcome" "low" "J") (inW_1 _ (List.mem_of_getElem? (i := 21) rfl))) (fun _ h9 => h9) rfl dX1_dropZeros_42 ?_
          refine lv_lconst (v := 0) hx hb dX1_dropZeros_45 (by decide) ?_
          refine xl_eq (tgt := 116) hx hb dX1_dropZeros_46 dX1_dropZeros_47 (by decide) (fun c_10 => ?_) (fun c_10 => ?_)
          · rw [if_pos c_10] at hg
            exact absurd hg (by decide)
          · rw [if_neg c_10] at hg
            rw [if_neg c_10] at hb9
            refine lv_aload_n hx hb dX1_dropZeros_50 rfl (lv_at hl 0 rfl) ?_
            refine va_get (D := D) (ci := 3) (v := .long t_.2.2.1) (C := RX1) (T := TX1) (N := 8) hx hb hts hi1 hown hK hP 2 rfl rfl 2 (by decide) (hts (.fieldLink RX1 15 "DecimalWords$Outcome" "low" "J") (inW_1 _ (List.mem_of_getElem? (i := 21) rfl))) (fun _ h9 => h9) rfl dX1_dropZeros_51 ?_
            refine lv_ldc2 (v := 10) hx hb hown (hts (.constantLong RX1 80 (10)) (inW_2 _ (List.mem_of_getElem? (i := 29) rfl))) dX1_dropZeros_54 ?_
            refine x_lrem hx hb dX1_dropZeros_57 (by decide) ?_
            refine lv_lconst (v := 0) hx hb dX1_dropZeros_58 (by decide) ?_
            refine xl_ne (tgt := 116) hx hb dX1_dropZeros_59 dX1_dropZeros_60 (by decide) (fun c_11 => ?_) (fun c_11 => ?_)
            · rw [if_neg c_11] at hg
              exact absurd hg (by decide)
            · rw [if_pos c_11] at hg
              rw [if_pos c_11] at hb9
              refine lv_aload_n hx hb dX1_dropZeros_63 rfl (lv_at hl 0 rfl) ?_
              refine lv_aload_n hx hb dX1_dropZeros_64 rfl (lv_at hl 0 rfl) ?_
              refine va_get (D := D) (ci := 3) (v := .long t_.2.2.1) (C := RX1) (T := TX1) (N := 8) hx hb hts hi1 hown hK hP 2 rfl rfl 2 (by decide) (hts (.fieldLink RX1 15 "DecimalWords$Outcome" "low" "J") (inW_1 _ (List.mem_of_getElem? (i := 21) rfl))) (fun _ h9 => h9) rfl dX1_dropZeros_65 ?_
              refine lv_ldc2 (v := 10) hx hb hown (hts (.constantLong RX1 80 (10)) (inW_2 _ (List.mem_of_getElem? (i := 29) rfl))) dX1_dropZeros_68 ?_
              refine lv_ldiv hx hb dX1_dropZeros_71 (by decide) ?_
              refine lv_aload_n hx hb dX1_dropZeros_72 rfl (lv_at hl 0 rfl) ?_
              refine va_get (D := D) (ci := 3) (v := .long t_.2.1) (C := RX1) (T := TX1) (N := 8) hx hb hts hi1 hown hK hP 2 rfl rfl 1 (by decide) (hts (.fieldLink RX1 9 "DecimalWords$Outcome" "high" "J") (inW_1 _ (List.mem_of_getElem? (i := 20) rfl))) (fun _ h9 => h9) rfl dX1_dropZeros_73 ?_
              refine lv_ldc2 (v := 10) hx hb hown (hts (.constantLong RX1 80 (10)) (inW_2 _ (List.mem_of_getElem? (i := 29) rfl))) dX1_dropZeros_76 ?_
              refine x_lrem hx hb dX1_dropZeros_79 (by decide) ?_
              refine lv_ldc2 (v := 1000000000000000) hx hb hown (hts (.constantLong RX1 82 (1000000000000000)) (inW_2 _ (List.mem_of_getElem? (i := 31) rfl))) dX1_dropZeros_80 ?_
              refine lv_lmul hx hb dX1_dropZeros_83 ?_
              refine lv_ladd hx hb dX1_dropZeros_84 ?_
              refine lv_topl (fun f12 ef12 => ?_)
              have hb9 := hb9 _ ef12
              refine va_put (D := D) (ci := 3) (v := .long f12) (ty := .long) (C := RX1) (T := TX1) (N := 8) hx hb hts hi1 tyX1 tyX1_ok nmX1 hown hK hP hD hS 2 rfl rfl 2 (by decide) (hts (.fieldLink RX1 15 "DecimalWords$Outcome" "low" "J") (inW_1 _ (List.mem_of_getElem? (i := 21) rfl))) (fun _ h9 => h9) rfl (by decide +kernel) rfl rfl (Nat.le_of_ble_eq_true rfl) dX1_dropZeros_85 (fun H locs hP hD hS => ?_)
              have hP : va_P D vwCl (xw cR ax ar ao ad vrd vtr vsd vrn vom t_.2.1 f12 t_.2.2.2 voe vow vok vos vso vmi vco vex) H := hP
              have hD : va_D A (xw cR ax ar ao ad vrd vtr vsd vrn vom t_.2.1 f12 t_.2.2.2 voe vow vok vos vso vmi vco vex) := hD
              refine lv_aload_n hx hb dX1_dropZeros_88 rfl (lv_at hl 0 rfl) ?_
              refine lv_dup hx hb dX1_dropZeros_89 rfl ?_
              refine va_get (D := D) (ci := 3) (v := .long t_.2.1) (C := RX1) (T := TX1) (N := 8) hx hb hts hi1 hown hK hP 2 rfl rfl 1 (by decide) (hts (.fieldLink RX1 9 "DecimalWords$Outcome" "high" "J") (inW_1 _ (List.mem_of_getElem? (i := 20) rfl))) (fun _ h9 => h9) rfl dX1_dropZeros_90 ?_
              refine lv_ldc2 (v := 10) hx hb hown (hts (.constantLong RX1 80 (10)) (inW_2 _ (List.mem_of_getElem? (i := 29) rfl))) dX1_dropZeros_93 ?_
              refine lv_ldiv hx hb dX1_dropZeros_96 (by decide) ?_
              refine lv_topl (fun f14 ef14 => ?_)
              have hb9 := hb9 _ ef14
              refine va_put (D := D) (ci := 3) (v := .long f14) (ty := .long) (C := RX1) (T := TX1) (N := 8) hx hb hts hi1 tyX1 tyX1_ok nmX1 hown hK hP hD hS 2 rfl rfl 1 (by decide) (hts (.fieldLink RX1 9 "DecimalWords$Outcome" "high" "J") (inW_1 _ (List.mem_of_getElem? (i := 20) rfl))) (fun _ h9 => h9) rfl (by decide +kernel) rfl rfl (Nat.le_of_ble_eq_true rfl) dX1_dropZeros_97 (fun H locs hP hD hS => ?_)
              have hP : va_P D vwCl (xw cR ax ar ao ad vrd vtr vsd vrn vom f14 f12 t_.2.2.2 voe vow vok vos vso vmi vco vex) H := hP
              have hD : va_D A (xw cR ax ar ao ad vrd vtr vsd vrn vom f14 f12 t_.2.2.2 voe vow vok vos vso vmi vco vex) := hD
              refine lv_aload_n hx hb dX1_dropZeros_100 rfl (lv_at hl 0 rfl) ?_
              refine lv_dup hx hb dX1_dropZeros_101 rfl ?_
              refine va_get (D := D) (ci := 3) (v := .int t_.2.2.2) (C := RX1) (T := TX1) (N := 8) hx hb hts hi1 hown hK hP 2 rfl rfl 3 (by decide) (hts (.fieldLink RX1 39 "DecimalWords$Outcome" "power" "I") (inW_1 _ (List.mem_of_getElem? (i := 33) rfl))) (fun _ h9 => h9) rfl dX1_dropZeros_102 ?_
              refine lv_iconst (v := 1) hx hb dX1_dropZeros_105 (by decide) ?_
              refine lv_iadd hx hb dX1_dropZeros_106 ?_
              refine lv_topi (fun f16 ef16 => ?_)
              have hb9 := hb9 _ ef16
              refine va_put (D := D) (ci := 3) (v := .int f16) (ty := .int) (C := RX1) (T := TX1) (N := 8) hx hb hts hi1 tyX1 tyX1_ok nmX1 hown hK hP hD hS 2 rfl rfl 3 (by decide) (hts (.fieldLink RX1 39 "DecimalWords$Outcome" "power" "I") (inW_1 _ (List.mem_of_getElem? (i := 33) rfl))) (fun _ h9 => h9) rfl (by decide +kernel) rfl rfl (Nat.le_of_ble_eq_true rfl) dX1_dropZeros_107 (fun H locs hP hD hS => ?_)
              have hP : va_P D vwCl (xw cR ax ar ao ad vrd vtr vsd vrn vom f14 f12 f16 voe vow vok vos vso vmi vco vex) H := hP
              have hD : va_D A (xw cR ax ar ao ad vrd vtr vsd vrn vom f14 f12 f16 voe vow vok vos vso vmi vco vex) := hD
              obtain ⟨n18, en18⟩ : ∃ y9 : Int32, y9 = t_.1 + 1 := ⟨_, rfl⟩
              have hb9 := hb9 _ en18
              refine lv_iinc (v := n18) (lv' := [(1, .int n18), (0, .ref ao)]) hx hb dX1_dropZeros_110 hl (k := 1) rfl (by rw [en18]; rfl) (by decide) rfl (fun ls hl => ?_)
              refine lv_goto (tgt := 35) hx hb dX1_dropZeros_113 (by decide) ?_
              have e9 := Eq.symm hb9; subst e9
              have key9 := ih9 ((B_X1_dropZeros_35) t_) (fun j hj => hG9 (j + 1) (Nat.succ_lt_succ hj)) k9
              rw [← et9] at key9
              exact key9 H locs hP hD hS ls (lv_sub hl [1, 0] rfl)
    have hG1 := hs
    refine L_24 (nW (G_X1_dropZeros_35) (B_X1_dropZeros_35) 17 (0, z7.1, z7.2.1, z7.2.2)) (0, z7.1, z7.2.1, z7.2.2) (nW_lt _ _ _ _) (fun H locs hP hD hS ls hl => ?_) H locs hP hD hS ls (lv_sub hl [1, 0] rfl)
    obtain ⟨z19, ez19⟩ : ∃ y9 : Int32 × Int64 × Int64 × Int32, y9 = wl (G_X1_dropZeros_35) (B_X1_dropZeros_35) 17 (0, z7.1, z7.2.1, z7.2.2) := ⟨_, rfl⟩
    have e9 : z19 = itn (B_X1_dropZeros_35) (nW (G_X1_dropZeros_35) (B_X1_dropZeros_35) 17 (0, z7.1, z7.2.1, z7.2.2)) (0, z7.1, z7.2.1, z7.2.2) := ez19
    try rw [← e9] at hP
    try rw [← e9] at hD
    try rw [← e9] at hl
    rw [← ez19] at hG1
    clear e9
    have hg := rG_X1_dropZeros_35  z19 (Eq.symm hG1)
    unfold RG_X1_dropZeros_35 at hg
    have hu := hu _ ez19
    refine lv_iload_n hx hb dX1_dropZeros_35 rfl (lv_at hl 1 rfl) ?_
    refine lv_bipush (v := 16) hx hb dX1_dropZeros_36 (by decide) ?_
    refine lv_icmp_ge (tgt := 116) hx hb dX1_dropZeros_38 (by decide) (fun c_21 => ?_) (fun c_21 => ?_)
    · rw [if_pos c_21] at hu
      rw [if_pos c_21] at hg
      have e9 := Eq.symm hu; subst e9
      exact x_vret hx hb hr hlocks hQ hK hP hD hS rfl dX1_dropZeros_116
    · rw [if_neg c_21] at hu
      rw [if_neg c_21] at hg
      refine lv_aload_n hx hb dX1_dropZeros_41 rfl (lv_at hl 0 rfl) ?_
      refine va_get (D := D) (ci := 3) (v := .long z19.2.2.1) (C := RX1) (T := TX1) (N := 8) hx hb hts hi1 hown hK hP 2 rfl rfl 2 (by decide) (hts (.fieldLink RX1 15 "DecimalWords$Outcome" "low" "J") (inW_1 _ (List.mem_of_getElem? (i := 21) rfl))) (fun _ h9 => h9) rfl dX1_dropZeros_42 ?_
      refine lv_lconst (v := 0) hx hb dX1_dropZeros_45 (by decide) ?_
      refine xl_eq (tgt := 116) hx hb dX1_dropZeros_46 dX1_dropZeros_47 (by decide) (fun c_22 => ?_) (fun c_22 => ?_)
      · rw [if_pos c_22] at hu
        rw [if_pos c_22] at hg
        have e9 := Eq.symm hu; subst e9
        exact x_vret hx hb hr hlocks hQ hK hP hD hS rfl dX1_dropZeros_116
      · rw [if_neg c_22] at hu
        rw [if_neg c_22] at hg
        refine lv_aload_n hx hb dX1_dropZeros_50 rfl (lv_at hl 0 rfl) ?_
        refine va_get (D := D) (ci := 3) (v := .long z19.2.2.1) (C := RX1) (T := TX1) (N := 8) hx hb hts hi1 hown hK hP 2 rfl rfl 2 (by decide) (hts (.fieldLink RX1 15 "DecimalWords$Outcome" "low" "J") (inW_1 _ (List.mem_of_getElem? (i := 21) rfl))) (fun _ h9 => h9) rfl dX1_dropZeros_51 ?_
        refine lv_ldc2 (v := 10) hx hb hown (hts (.constantLong RX1 80 (10)) (inW_2 _ (List.mem_of_getElem? (i := 29) rfl))) dX1_dropZeros_54 ?_
        refine x_lrem hx hb dX1_dropZeros_57 (by decide) ?_
        refine lv_lconst (v := 0) hx hb dX1_dropZeros_58 (by decide) ?_
        refine xl_ne (tgt := 116) hx hb dX1_dropZeros_59 dX1_dropZeros_60 (by decide) (fun c_23 => ?_) (fun c_23 => ?_)
        · rw [if_neg c_23] at hu
          rw [if_neg c_23] at hg
          have e9 := Eq.symm hu; subst e9
          exact x_vret hx hb hr hlocks hQ hK hP hD hS rfl dX1_dropZeros_116
        · rw [if_pos c_23] at hg
          exact absurd hg (by decide)
  obtain ⟨z9, ez9⟩ : ∃ y9 : Int64 × Int64 × Int32, y9 = Z_X1_dropZeros_J_8 voh vol vop := ⟨_, rfl⟩
  have hz := rZ_X1_dropZeros_J_8 voh vol vop ez9
  unfold RZ_X1_dropZeros_J_8 at hz
  refine xl_ne (tgt := 33) hx hb dX1_dropZeros_5 dX1_dropZeros_6 (by decide) (fun c_1 => ?_) (fun c_1 => ?_)
  · rw [if_neg c_1] at hz
    have e9 := Eq.symm hz; subst e9
    exact J_8 _ ez9 H locs hP hD hS ls (lv_sub hl [0] rfl)
  · rw [if_pos c_1] at hz
    refine lv_aload_n hx hb dX1_dropZeros_9 rfl (lv_at hl 0 rfl) ?_
    refine lv_aload_n hx hb dX1_dropZeros_10 rfl (lv_at hl 0 rfl) ?_
    refine va_get (D := D) (ci := 3) (v := .long voh) (C := RX1) (T := TX1) (N := 8) hx hb hts hi1 hown hK hP 2 rfl rfl 1 (by decide) (hts (.fieldLink RX1 9 "DecimalWords$Outcome" "high" "J") (inW_1 _ (List.mem_of_getElem? (i := 20) rfl))) (fun _ h9 => h9) rfl dX1_dropZeros_11 ?_
    refine va_put (D := D) (ci := 3) (v := .long voh) (ty := .long) (C := RX1) (T := TX1) (N := 8) hx hb hts hi1 tyX1 tyX1_ok nmX1 hown hK hP hD hS 2 rfl rfl 2 (by decide) (hts (.fieldLink RX1 15 "DecimalWords$Outcome" "low" "J") (inW_1 _ (List.mem_of_getElem? (i := 21) rfl))) (fun _ h9 => h9) rfl (by decide +kernel) rfl rfl (Nat.le_of_ble_eq_true rfl) dX1_dropZeros_14 (fun H locs hP hD hS => ?_)
    have hP : va_P D vwCl (xw cR ax ar ao ad vrd vtr vsd vrn vom voh voh vop voe vow vok vos vso vmi vco vex) H := hP
    have hD : va_D A (xw cR ax ar ao ad vrd vtr vsd vrn vom voh voh vop voe vow vok vos vso vmi vco vex) := hD
    refine lv_aload_n hx hb dX1_dropZeros_17 rfl (lv_at hl 0 rfl) ?_
    refine lv_lconst (v := 0) hx hb dX1_dropZeros_18 (by decide) ?_
    refine va_put (D := D) (ci := 3) (v := .long 0) (ty := .long) (C := RX1) (T := TX1) (N := 8) hx hb hts hi1 tyX1 tyX1_ok nmX1 hown hK hP hD hS 2 rfl rfl 1 (by decide) (hts (.fieldLink RX1 9 "DecimalWords$Outcome" "high" "J") (inW_1 _ (List.mem_of_getElem? (i := 20) rfl))) (fun _ h9 => h9) rfl (by decide +kernel) rfl rfl (Nat.le_of_ble_eq_true rfl) dX1_dropZeros_19 (fun H locs hP hD hS => ?_)
    have hP : va_P D vwCl (xw cR ax ar ao ad vrd vtr vsd vrn vom 0 voh vop voe vow vok vos vso vmi vco vex) H := hP
    have hD : va_D A (xw cR ax ar ao ad vrd vtr vsd vrn vom 0 voh vop voe vow vok vos vso vmi vco vex) := hD
    refine lv_aload_n hx hb dX1_dropZeros_22 rfl (lv_at hl 0 rfl) ?_
    refine lv_dup hx hb dX1_dropZeros_23 rfl ?_
    refine va_get (D := D) (ci := 3) (v := .int vop) (C := RX1) (T := TX1) (N := 8) hx hb hts hi1 hown hK hP 2 rfl rfl 3 (by decide) (hts (.fieldLink RX1 39 "DecimalWords$Outcome" "power" "I") (inW_1 _ (List.mem_of_getElem? (i := 33) rfl))) (fun _ h9 => h9) rfl dX1_dropZeros_24 ?_
    refine lv_bipush (v := 16) hx hb dX1_dropZeros_27 (by decide) ?_
    refine lv_iadd hx hb dX1_dropZeros_29 ?_
    refine lv_topi (fun f4 ef4 => ?_)
    have hz := hz _ ef4
    refine va_put (D := D) (ci := 3) (v := .int f4) (ty := .int) (C := RX1) (T := TX1) (N := 8) hx hb hts hi1 tyX1 tyX1_ok nmX1 hown hK hP hD hS 2 rfl rfl 3 (by decide) (hts (.fieldLink RX1 39 "DecimalWords$Outcome" "power" "I") (inW_1 _ (List.mem_of_getElem? (i := 33) rfl))) (fun _ h9 => h9) rfl (by decide +kernel) rfl rfl (Nat.le_of_ble_eq_true rfl) dX1_dropZeros_30 (fun H locs hP hD hS => ?_)
    have hP : va_P D vwCl (xw cR ax ar ao ad vrd vtr vsd vrn vom 0 voh f4 voe vow vok vos vso vmi vco vex) H := hP
    have hD : va_D A (xw cR ax ar ao ad vrd vtr vsd vrn vom 0 voh f4 voe vow vok vos vso vmi vco vex) := hD
    have e9 := Eq.symm hz; subst e9
    exact J_8 _ ez9 H locs hP hD hS ls (lv_sub hl [0] rfl)
