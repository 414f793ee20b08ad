def Z_X1_join_J_151 (z127 : Int64) (z135 : Bool) : Int64 := (if z135 = true then (-z127) - 1 else -z127)
def RZ_X1_join_J_151 (z127 : Int64) (z135 : Bool) (u9 : Int64) : Prop := (if z135 = true then u9 = (-z127) - 1 else u9 = -z127)
theorem rZ_X1_join_J_151 (z127 : Int64) (z135 : Bool) {u9 : Int64} (hu : u9 = Z_X1_join_J_151 z127 z135) : RZ_X1_join_J_151 z127 z135 u9 := by
  unfold RZ_X1_join_J_151
  refine ite_P (fun c_148 => ?_) (fun c_148 => ?_)
  · have hu := hu.trans (if_pos c_148)
    exact hu
  · have hu := hu.trans (if_neg c_148)
    exact hu
def Z_X1_join_J_136 (vco : Nat → Int64) (i2 : Nat) (n121 : Int32) : Bool := (if 16 < n121 then true else (if jremL (vco i2) (F_X3_tenTo n121) = 0 then false else true))
def RZ_X1_join_J_136 (vco : Nat → Int64) (i2 : Nat) (n121 : Int32) (u9 : Bool) : Prop := (if 16 < n121 then u9 = true else (if jremL (vco i2) (F_X3_tenTo n121) = 0 then u9 = false else u9 = true))
theorem rZ_X1_join_J_136 (vco : Nat → Int64) (i2 : Nat) (n121 : Int32) {u9 : Bool} (hu : u9 = Z_X1_join_J_136 vco i2 n121) : RZ_X1_join_J_136 vco i2 n121 u9 := by
  unfold RZ_X1_join_J_136
  refine ite_P (fun c_129 => ?_) (fun c_129 => ?_)
  · have hu := hu.trans (if_pos c_129)
    exact hu
  · have hu := hu.trans (if_neg c_129)
    refine ite_P (fun c_133 => ?_) (fun c_133 => ?_)
    · have hu := hu.trans (if_pos c_133)
      exact hu
    · have hu := hu.trans (if_neg c_133)
      exact hu
def Z_X1_join_J_128 (vco : Nat → Int64) (i2 : Nat) (n121 : Int32) : Int64 := (if n121 ≤ 16 then (vco i2) / (F_X3_tenTo n121) else 0)
def RZ_X1_join_J_128 (vco : Nat → Int64) (i2 : Nat) (n121 : Int32) (u9 : Int64) : Prop := (if n121 ≤ 16 then u9 = (vco i2) / (F_X3_tenTo n121) else u9 = 0)
theorem rZ_X1_join_J_128 (vco : Nat → Int64) (i2 : Nat) (n121 : Int32) {u9 : Int64} (hu : u9 = Z_X1_join_J_128 vco i2 n121) : RZ_X1_join_J_128 vco i2 n121 u9 := by
  unfold RZ_X1_join_J_128
  refine ite_P (fun c_122 => ?_) (fun c_122 => ?_)
  · have hu := hu.trans (if_pos c_122)
    exact hu
  · have hu := hu.trans (if_neg c_122)
    exact hu
def F_X1_join (vco : Nat → Int64) (vex : Nat → Int32) (i1 : Nat) (i2 : Nat) (p2 : Bool) : Bool × Int64 × Int64 × Int32 × Bool := (bnd ((vex i1) - (vex i2)) (fun n101 : Int32 => (bnd (jmin n101 (16 - (F_X3_digitsOf (vco i1)))) (fun n104 : Int32 => (bnd (jmin (n101 - n104) 16) (fun n105 : Int32 => (bnd ((vco i1) * (F_X3_tenTo n104)) (fun n108 : Int64 => (bnd (n108 / (F_X3_tenTo (16 - n105))) (fun f112 : Int64 => (bnd ((jremL n108 (F_X3_tenTo (16 - n105))) * (F_X3_tenTo n105)) (fun f117 : Int64 => (bnd (((vex i1) - n104) - n105) (fun f119 : Int32 => (bnd ((n101 - n104) - n105) (fun n121 : Int32 => (bnd (Z_X1_join_J_128 vco i2 n121) (fun z127 : Int64 => (bnd (Z_X1_join_J_136 vco i2 n121) (fun z135 : Bool => (if p2 = true then (bnd (F_X1_addToLow f112 f117 z127) (fun u157 : Int64 × Int64 => (false, u157.1, u157.2, f119, z135))) else (if f112 = 0 then (if z127 ≤ f117 then (bnd (Z_X1_join_J_151 z127 z135) (fun z150 : Int64 => (bnd (F_X1_addToLow f112 f117 z150) (fun u152 : Int64 × Int64 => (false, u152.1, u152.2, f119, z135))))) else (bnd (z127 - f117) (fun f154 : Int64 => (true, f112, f154, f119, z135)))) else (bnd (Z_X1_join_J_151 z127 z135) (fun z143 : Int64 => (bnd (F_X1_addToLow f112 f117 z143) (fun u145 : Int64 × Int64 => (false, u145.1, u145.2, f119, z135)))))))))))))))))))))))))))
def RF_X1_join (vco : Nat → Int64) (vex : Nat → Int32) (i1 : Nat) (i2 : Nat) (p2 : Bool) (u9 : Bool × Int64 × Int64 × Int32 × Bool) : Prop := (∀ n101 : Int32, n101 = (vex i1) - (vex i2) → (∀ n104 : Int32, n104 = jmin n101 (16 - (F_X3_digitsOf (vco i1))) → (∀ n105 : Int32, n105 = jmin (n101 - n104) 16 → (∀ n108 : Int64, n108 = (vco i1) * (F_X3_tenTo n104) → (∀ f112 : Int64, f112 = n108 / (F_X3_tenTo (16 - n105)) → (∀ f117 : Int64, f117 = (jremL n108 (F_X3_tenTo (16 - n105))) * (F_X3_tenTo n105) → (∀ f119 : Int32, f119 = ((vex i1) - n104) - n105 → (∀ n121 : Int32, n121 = (n101 - n104) - n105 → (∀ z127 : Int64, z127 = Z_X1_join_J_128 vco i2 n121 → (∀ z135 : Bool, z135 = Z_X1_join_J_136 vco i2 n121 → (if p2 = true then (∀ u157 : Int64 × Int64, u157 = F_X1_addToLow f112 f117 z127 → u9 = (false, u157.1, u157.2, f119, z135)) else (if f112 = 0 then (if z127 ≤ f117 then (∀ z150 : Int64, z150 = Z_X1_join_J_151 z127 z135 → (∀ u152 : Int64 × Int64, u152 = F_X1_addToLow f112 f117 z150 → u9 = (false, u152.1, u152.2, f119, z135))) else (∀ f154 : Int64, f154 = z127 - f117 → u9 = (true, f112, f154, f119, z135))) else (∀ z143 : Int64, z143 = Z_X1_join_J_151 z127 z135 → (∀ u145 : Int64 × Int64, u145 = F_X1_addToLow f112 f117 z143 → u9 = (false, u145.1, u145.2, f119, z135)))))))))))))))
theorem rF_X1_join (vco : Nat → Int64) (vex : Nat → Int32) (i1 : Nat) (i2 : Nat) (p2 : Bool) {u9 : Bool × Int64 × Int64 × Int32 × Bool} (hu : u9 = F_X1_join vco vex i1 i2 p2) : RF_X1_join vco vex i1 i2 p2 u9 := by
  unfold RF_X1_join
  intro n101 en101
  have hu := bnd_n hu en101
  intro n104 en104
  have hu := bnd_n hu en104
  intro n105 en105
  have hu := bnd_n hu en105
  intro n108 en108
  have hu := bnd_n hu en108
  intro f112 ef112
  have hu := bnd_n hu ef112
  intro f117 ef117
  have hu := bnd_n hu ef117
  intro f119 ef119
  have hu := bnd_n hu ef119
  intro n121 en121
  have hu := bnd_n hu en121
  intro z127 ez127
  have hu := bnd_n hu ez127
  intro z135 ez135
  have hu := bnd_n hu ez135
  refine ite_P (fun c_139 => ?_) (fun c_139 => ?_)
  · have hu := hu.trans (if_pos c_139)
    intro u157 eu157
    have hu := bnd_n hu eu157
    exact hu
  · have hu := hu.trans (if_neg c_139)
    refine ite_P (fun c_140 => ?_) (fun c_140 => ?_)
    · have hu := hu.trans (if_pos c_140)
      refine ite_P (fun c_147 => ?_) (fun c_147 => ?_)
      · have hu := hu.trans (if_pos c_147)
        intro z150 ez150
        have hu := bnd_n hu ez150
        intro u152 eu152
        have hu := bnd_n hu eu152
        exact hu
      · have hu := hu.trans (if_neg c_147)
        intro f154 ef154
        have hu := bnd_n hu ef154
        exact hu
    · have hu := hu.trans (if_neg c_140)
      intro z143 ez143
      have hu := bnd_n hu ez143
      intro u145 eu145
      have hu := bnd_n hu eu145
      exact hu
def S_X1_join (vco : Nat → Int64) (vex : Nat → Int32) (i1 : Nat) (i2 : Nat) (p2 : Bool) : Prop := (∀ n101 : Int32, n101 = (vex i1) - (vex i2) → (S_X3_digitsOf (vco i1)) ∧ (∀ n104 : Int32, n104 = jmin n101 (16 - (F_X3_digitsOf (vco i1))) → (∀ n105 : Int32, n105 = jmin (n101 - n104) 16 → (S_X3_tenTo n104) ∧ (∀ n108 : Int64, n108 = (vco i1) * (F_X3_tenTo n104) → (S_X3_tenTo (16 - n105)) ∧ (¬ (F_X3_tenTo (16 - n105)) = 0) ∧ (∀ f112 : Int64, f112 = n108 / (F_X3_tenTo (16 - n105)) → (S_X3_tenTo n105) ∧ (∀ f117 : Int64, f117 = (jremL n108 (F_X3_tenTo (16 - n105))) * (F_X3_tenTo n105) → (∀ f119 : Int32, f119 = ((vex i1) - n104) - n105 → (∀ n121 : Int32, n121 = (n101 - n104) - n105 → ((if n121 ≤ 16 then (S_X3_tenTo n121) ∧ ¬ (F_X3_tenTo n121) = 0 else True)) ∧ (∀ z127 : Int64, z127 = Z_X1_join_J_128 vco i2 n121 → (if 16 < n121 then True else (S_X3_tenTo n121) ∧ ¬ (F_X3_tenTo n121) = 0))))))))))
def rm_X1_join : Room := { frames := 1, cells := 0, slots := 0, locals := 40 }
set_option maxHeartbeats 4000000 in
set_option maxRecDepth 100000 in
theorem c_X1_join (l : Launch) (D : va_G) (cR cI cJ cZ : ClassId) (t0 : Nat) (ax ar ao : Nat) (ad : Nat → Nat) (vrd : Int32) (vtr : Int32) (vsd : Int32) (vrn : Int32) (vom : Bool) (voh : Int64) (vol : Int64) (vop : Int32) (voe : Bool) (vow : Int32) (vok : Int64) (vos : Int32) (vso : Nat → Int32) (vmi : Nat → Bool) (vco : Nat → Int64) (vex : Nat → Int32) (i1 : Nat) (i2 : Nat) (p2 : Bool) (u : Bool × Int64 × Int64 × Int32 × Bool) (hu : u = F_X1_join vco vex i1 i2 p2) (hs : S_X1_join vco vex i1 i2 p2) (hb1 : i1 < 9) (hb2 : i2 < 9) : XM l D (xty cR cI cJ cZ) t0 yX1_join cX1_join 12 none rm_X1_join [.ref ao, .ref (ad i1), .ref (ad i2), .int (bI p2)] none (xw cR ax ar ao ad vrd vtr vsd vrn vom voh vol vop voe vow vok vos vso vmi vco vex) (xw cR ax ar ao ad vrd vtr vsd vrn u.1 u.2.1 u.2.2.1 u.2.2.2.1 u.2.2.2.2 vow vok vos vso vmi vco vex) := by
  refine XM.of (by decide) (Nat.le_of_ble_eq_true rfl) ?_
  intro p e s m args below meth c A Q F hK hP hD hA hSt hS hQ ls hl
  obtain ⟨hx, hb, hr, hts, hown, hlocks, hml⟩ := F
  have hCF : CallFix p m c cX1_join 12 s args gW RX1 := ⟨hx, hb, hml, hown, hts⟩
  unfold S_X1_join at hs
  have hu := rF_X1_join vco vex i1 i2 p2 hu
  unfold RF_X1_join at hu
  obtain ⟨H, eH⟩ : ∃ y9 : Heap, y9 = s.heap := ⟨_, rfl⟩
  obtain ⟨locs, eL⟩ : ∃ y9 : List Loc, y9 = [] := ⟨_, rfl⟩
  rw [← eL] at hS ⊢
  have hP : va_P D vwCl (xw cR ax ar ao ad vrd vtr vsd vrn vom voh vol vop voe vow vok vos vso vmi vco vex) H := by rw [eH]; exact hP
  have hS : va_S A s.heap H locs := by rw [eH]; exact hS
  suffices goal9 : W p l e rm_X1_join s m args below meth c H locs 0 0 Q (F0 m 0 ls []) from by rw [← eH]; exact goal9
  have hl : lv_has ls 12 [(0, .ref ao), (1, .ref (ad i1)), (2, .ref (ad i2)), (3, .int (bI p2))] := hl
  have hi0 : ∀ w ∈ wsX00, w ∈ gW := inW_X0
  have hi1 : ∀ w ∈ wsX10, w ∈ gW := inW_X1
  refine lv_aload_n hx hb dX1_join_0 rfl (lv_at hl 1 rfl) ?_
  refine g_ex (i := i1) hx hb hts hi0 hown hK hP hb1 (hts (.fieldLink RX1 35 "DecimalWords$Datum" "exponent" "I") (inW_1 _ (List.mem_of_getElem? (i := 32) rfl))) dX1_join_1 ?_
  refine lv_aload_n hx hb dX1_join_4 rfl (lv_at hl 2 rfl) ?_
  refine g_ex (i := i2) hx hb hts hi0 hown hK hP hb2 (hts (.fieldLink RX1 35 "DecimalWords$Datum" "exponent" "I") (inW_1 _ (List.mem_of_getElem? (i := 32) rfl))) dX1_join_5 ?_
  refine lv_isub hx hb dX1_join_8 ?_
  refine lv_topi (fun n101 en101 => ?_)
  have hs := hs _ en101
  have hu := hu _ en101
  refine lv_istore (lv' := [(4, .int n101), (0, .ref ao), (1, .ref (ad i1)), (2, .ref (ad i2)), (3, .int (bI p2))]) hx hb dX1_join_9 hl (by decide) rfl (fun ls hl => ?_)
  refine lv_iload hx hb dX1_join_11 (lv_at hl 0 rfl) ?_
  refine lv_bipush (v := 16) hx hb dX1_join_13 (by decide) ?_
  refine lv_aload_n hx hb dX1_join_15 rfl (lv_at hl 2 rfl) ?_
  refine g_co (i := i1) hx hb hts hi0 hown hK hP hb1 (hts (.fieldLink RX1 32 "DecimalWords$Datum" "coefficient" "J") (inW_1 _ (List.mem_of_getElem? (i := 31) rfl))) dX1_join_16 ?_
  obtain ⟨h_102, hs⟩ := hs
  refine x_SN (As := [.long (vco i1)]) (rest := [.int 16, .int n101]) hCF (c_X3_digitsOf l D cR cI cJ cZ t0 (xw cR ax ar ao ad vrd vtr vsd vrn vom voh vol vop voe vow vok vos vso vmi vco vex) (vco i1) _ rfl h_102) (x_cwN 1 hts hSt.2.2.1 (inW_1 _ (List.mem_of_getElem? (i := 24) rfl)) (inW_1 _ (List.mem_of_getElem? (i := 25) rfl)) (inW_1 _ (List.mem_of_getElem? (i := 26) rfl)) rfl rfl (by decide +kernel) ⟨Nat.le_of_ble_eq_true rfl, Nat.le_of_ble_eq_true rfl⟩) hK hP hD hS hA hSt rfl hl.1 rfl (Nat.le_of_ble_eq_true rfl) dX1_join_19 ⟨Nat.le_of_ble_eq_true rfl, Nat.le_of_ble_eq_true rfl⟩ (fun H locs hP hD hS => ?_)
  show W p l e _ s m args below meth c H locs 0 0 Q (F0 m 22 ls (.int (F_X3_digitsOf (vco i1)) :: [.int 16, .int n101]))
  refine lv_isub hx hb dX1_join_22 ?_
  refine x_min hx hb hml hl.1 hts hown (inW_1 _ (List.mem_of_getElem? (i := 35) rfl)) (inW_1 _ (List.mem_of_getElem? (i := 36) rfl)) (inW_1 _ (List.mem_of_getElem? (i := 37) rfl)) (inW_1 _ (List.mem_of_getElem? (i := 38) rfl)) (Nat.le_of_ble_eq_true rfl) (Nat.le_of_ble_eq_true rfl) (Nat.le_of_ble_eq_true rfl) (Nat.le_of_ble_eq_true rfl) dX1_join_23 ?_
  refine lv_topi (fun n104 en104 => ?_)
  have hs := hs _ en104
  have hu := hu _ en104
  refine lv_istore (lv' := [(5, .int n104), (4, .int n101), (0, .ref ao), (1, .ref (ad i1)), (2, .ref (ad i2)), (3, .int (bI p2))]) hx hb dX1_join_26 hl (by decide) rfl (fun ls hl => ?_)
  refine lv_iload hx hb dX1_join_28 (lv_at hl 1 rfl) ?_
  refine lv_iload hx hb dX1_join_30 (lv_at hl 0 rfl) ?_
  refine lv_isub hx hb dX1_join_32 ?_
  refine lv_bipush (v := 16) hx hb dX1_join_33 (by decide) ?_
  refine x_min hx hb hml hl.1 hts hown (inW_1 _ (List.mem_of_getElem? (i := 35) rfl)) (inW_1 _ (List.mem_of_getElem? (i := 36) rfl)) (inW_1 _ (List.mem_of_getElem? (i := 37) rfl)) (inW_1 _ (List.mem_of_getElem? (i := 38) rfl)) (Nat.le_of_ble_eq_true rfl) (Nat.le_of_ble_eq_true rfl) (Nat.le_of_ble_eq_true rfl) (Nat.le_of_ble_eq_true rfl) dX1_join_35 ?_
  refine lv_topi (fun n105 en105 => ?_)
  have hs := hs _ en105
  have hu := hu _ en105
  refine lv_istore (lv' := [(6, .int n105), (5, .int n104), (4, .int n101), (0, .ref ao), (1, .ref (ad i1)), (2, .ref (ad i2)), (3, .int (bI p2))]) hx hb dX1_join_38 hl (by decide) rfl (fun ls hl => ?_)
  refine lv_aload_n hx hb dX1_join_40 rfl (lv_at hl 4 rfl) ?_
  refine g_co (i := i1) hx hb hts hi0 hown hK hP hb1 (hts (.fieldLink RX1 32 "DecimalWords$Datum" "coefficient" "J") (inW_1 _ (List.mem_of_getElem? (i := 31) rfl))) dX1_join_41 ?_
  refine lv_iload hx hb dX1_join_44 (lv_at hl 1 rfl) ?_
  obtain ⟨h_106, hs⟩ := hs
  refine x_SN (As := [.int n104]) (rest := [.long (vco i1)]) hCF (c_X3_tenTo l D cR cI cJ cZ t0 (xw cR ax ar ao ad vrd vtr vsd vrn vom voh vol vop voe vow vok vos vso vmi vco vex) n104 _ rfl h_106) (x_cwN 1 hts hSt.2.2.2.1 (inW_2 _ (List.mem_of_getElem? (i := 9) rfl)) (inW_1 _ (List.mem_of_getElem? (i := 25) rfl)) (inW_2 _ (List.mem_of_getElem? (i := 10) rfl)) rfl rfl (by decide +kernel) ⟨Nat.le_of_ble_eq_true rfl, Nat.le_of_ble_eq_true rfl⟩) hK hP hD hS hA hSt rfl hl.1 rfl (Nat.le_of_ble_eq_true rfl) dX1_join_46 ⟨Nat.le_of_ble_eq_true rfl, Nat.le_of_ble_eq_true rfl⟩ (fun H locs hP hD hS => ?_)
  show W p l e _ s m args below meth c H locs 0 0 Q (F0 m 49 ls (.long (F_X3_tenTo n104) :: [.long (vco i1)]))
  refine lv_lmul hx hb dX1_join_49 ?_
  refine lv_topl (fun n108 en108 => ?_)
  have hs := hs _ en108
  have hu := hu _ en108
  refine lv_lstore (lv' := [(7, .long n108), (6, .int n105), (5, .int n104), (4, .int n101), (0, .ref ao), (1, .ref (ad i1)), (2, .ref (ad i2)), (3, .int (bI p2))]) hx hb dX1_join_50 hl (by decide) rfl (fun ls hl => ?_)
  refine lv_aload_n hx hb dX1_join_52 rfl (lv_at hl 4 rfl) ?_
  refine lv_lload hx hb dX1_join_53 (lv_at hl 0 rfl) ?_
  refine lv_bipush (v := 16) hx hb dX1_join_55 (by decide) ?_
  refine lv_iload hx hb dX1_join_57 (lv_at hl 1 rfl) ?_
  refine lv_isub hx hb dX1_join_59 ?_
  obtain ⟨h_109, hs⟩ := hs
  refine x_SN (As := [.int (16 - n105)]) (rest := [.long n108, .ref ao]) hCF (c_X3_tenTo l D cR cI cJ cZ t0 (xw cR ax ar ao ad vrd vtr vsd vrn vom voh vol vop voe vow vok vos vso vmi vco vex) (16 - n105) _ rfl h_109) (x_cwN 1 hts hSt.2.2.2.1 (inW_2 _ (List.mem_of_getElem? (i := 9) rfl)) (inW_1 _ (List.mem_of_getElem? (i := 25) rfl)) (inW_2 _ (List.mem_of_getElem? (i := 10) rfl)) rfl rfl (by decide +kernel) ⟨Nat.le_of_ble_eq_true rfl, Nat.le_of_ble_eq_true rfl⟩) hK hP hD hS hA hSt rfl hl.1 rfl (Nat.le_of_ble_eq_true rfl) dX1_join_60 ⟨Nat.le_of_ble_eq_true rfl, Nat.le_of_ble_eq_true rfl⟩ (fun H locs hP hD hS => ?_)
  show W p l e _ s m args below meth c H locs 0 0 Q (F0 m 63 ls (.long (F_X3_tenTo (16 - n105)) :: [.long n108, .ref ao]))
  obtain ⟨h_111, hs⟩ := hs
  refine lv_ldiv hx hb dX1_join_63 h_111 ?_
  refine lv_topl (fun f112 ef112 => ?_)
  have hs := hs _ ef112
  have hu := hu _ ef112
  refine va_put (D := D) (ci := 3) (v := .long f112) (ty := .long) (C := RX1) (T := TX1) (N := 8) hx hb hts hi1 tyX1 tyX1_ok nmX1 hown hK hP hD hS 2 rfl rfl 1 (by decide) (hts (.fieldLink RX1 9 "DecimalWords$Outcome" "high" "J") (inW_1 _ (List.mem_of_getElem? (i := 20) rfl))) (fun _ h9 => h9) rfl (by decide +kernel) rfl rfl (Nat.le_of_ble_eq_true rfl) dX1_join_64 (fun H locs hP hD hS => ?_)
  have hP : va_P D vwCl (xw cR ax ar ao ad vrd vtr vsd vrn vom f112 vol vop voe vow vok vos vso vmi vco vex) H := hP
  have hD : va_D A (xw cR ax ar ao ad vrd vtr vsd vrn vom f112 vol vop voe vow vok vos vso vmi vco vex) := hD
  refine lv_aload_n hx hb dX1_join_67 rfl (lv_at hl 4 rfl) ?_
  refine lv_lload hx hb dX1_join_68 (lv_at hl 0 rfl) ?_
  refine lv_bipush (v := 16) hx hb dX1_join_70 (by decide) ?_
  refine lv_iload hx hb dX1_join_72 (lv_at hl 1 rfl) ?_
  refine lv_isub hx hb dX1_join_74 ?_
  refine x_SN (As := [.int (16 - n105)]) (rest := [.long n108, .ref ao]) hCF (c_X3_tenTo l D cR cI cJ cZ t0 (xw cR ax ar ao ad vrd vtr vsd vrn vom f112 vol vop voe vow vok vos vso vmi vco vex) (16 - n105) _ rfl h_109) (x_cwN 1 hts hSt.2.2.2.1 (inW_2 _ (List.mem_of_getElem? (i := 9) rfl)) (inW_1 _ (List.mem_of_getElem? (i := 25) rfl)) (inW_2 _ (List.mem_of_getElem? (i := 10) rfl)) rfl rfl (by decide +kernel) ⟨Nat.le_of_ble_eq_true rfl, Nat.le_of_ble_eq_true rfl⟩) hK hP hD hS hA hSt rfl hl.1 rfl (Nat.le_of_ble_eq_true rfl) dX1_join_75 ⟨Nat.le_of_ble_eq_true rfl, Nat.le_of_ble_eq_true rfl⟩ (fun H locs hP hD hS => ?_)
  show W p l e _ s m args below meth c H locs 0 0 Q (F0 m 78 ls (.long (F_X3_tenTo (16 - n105)) :: [.long n108, .ref ao]))
  refine x_lrem hx hb dX1_join_78 h_111 ?_
  refine lv_iload hx hb dX1_join_79 (lv_at hl 1 rfl) ?_
  obtain ⟨h_115, hs⟩ := hs
  refine x_SN (As := [.int n105]) (rest := [.long (jremL n108 (F_X3_tenTo (16 - n105))), .ref ao]) hCF (c_X3_tenTo l D cR cI cJ cZ t0 (xw cR ax ar ao ad vrd vtr vsd vrn vom f112 vol vop voe vow vok vos vso vmi vco vex) n105 _ rfl h_115) (x_cwN 1 hts hSt.2.2.2.1 (inW_2 _ (List.mem_of_getElem? (i := 9) rfl)) (inW_1 _ (List.mem_of_getElem? (i := 25) rfl)) (inW_2 _ (List.mem_of_getElem? (i := 10) rfl)) rfl rfl (by decide +kernel) ⟨Nat.le_of_ble_eq_true rfl, Nat.le_of_ble_eq_true rfl⟩) hK hP hD hS hA hSt rfl hl.1 rfl (Nat.le_of_ble_eq_true rfl) dX1_join_81 ⟨Nat.le_of_ble_eq_true rfl, Nat.le_of_ble_eq_true rfl⟩ (fun H locs hP hD hS => ?_)
  show W p l e _ s m args below meth c H locs 0 0 Q (F0 m 84 ls (.long (F_X3_tenTo n105) :: [.long (jremL n108 (F_X3_tenTo (16 - n105))), .ref ao]))
  refine lv_lmul hx hb dX1_join_84 ?_
  refine lv_topl (fun f117 ef117 => ?_)
  have hs := hs _ ef117
  have hu := hu _ ef117
  refine va_put (D := D) (ci := 3) (v := .long f117) (ty := .long) (C := RX1) (T := TX1) (N := 8) hx hb hts hi1 tyX1 tyX1_ok nmX1 hown hK hP hD hS 2 rfl rfl 2 (by decide) (hts (.fieldLink RX1 15 "DecimalWords$Outcome" "low" "J") (inW_1 _ (List.mem_of_getElem? (i := 21) rfl))) (fun _ h9 => h9) rfl (by decide +kernel) rfl rfl (Nat.le_of_ble_eq_true rfl) dX1_join_85 (fun H locs hP hD hS => ?_)
  have hP : va_P D vwCl (xw cR ax ar ao ad vrd vtr vsd vrn vom f112 f117 vop voe vow vok vos vso vmi vco vex) H := hP
  have hD : va_D A (xw cR ax ar ao ad vrd vtr vsd vrn vom f112 f117 vop voe vow vok vos vso vmi vco vex) := hD
  refine lv_aload_n hx hb dX1_join_88 rfl (lv_at hl 4 rfl) ?_
  refine lv_aload_n hx hb dX1_join_89 rfl (lv_at hl 5 rfl) ?_
  refine g_ex (i := i1) hx hb hts hi0 hown hK hP hb1 (hts (.fieldLink RX1 35 "DecimalWords$Datum" "exponent" "I") (inW_1 _ (List.mem_of_getElem? (i := 32) rfl))) dX1_join_90 ?_
  refine lv_iload hx hb dX1_join_93 (lv_at hl 2 rfl) ?_
  refine lv_isub hx hb dX1_join_95 ?_
  refine lv_iload hx hb dX1_join_96 (lv_at hl 1 rfl) ?_
  refine lv_isub hx hb dX1_join_98 ?_
  refine lv_topi (fun f119 ef119 => ?_)
  have hs := hs _ ef119
  have hu := hu _ ef119
  refine va_put (D := D) (ci := 3) (v := .int f119) (ty := .int) (C := RX1) (T := TX1) (N := 8) hx hb hts hi1 tyX1 tyX1_ok nmX1 hown hK hP hD hS 2 rfl rfl 3 (by decide) (hts (.fieldLink RX1 39 "DecimalWords$Outcome" "power" "I") (inW_1 _ (List.mem_of_getElem? (i := 33) rfl))) (fun _ h9 => h9) rfl (by decide +kernel) rfl rfl (Nat.le_of_ble_eq_true rfl) dX1_join_99 (fun H locs hP hD hS => ?_)
  have hP : va_P D vwCl (xw cR ax ar ao ad vrd vtr vsd vrn vom f112 f117 f119 voe vow vok vos vso vmi vco vex) H := hP
  have hD : va_D A (xw cR ax ar ao ad vrd vtr vsd vrn vom f112 f117 f119 voe vow vok vos vso vmi vco vex) := hD
  refine lv_iload hx hb dX1_join_102 (lv_at hl 3 rfl) ?_
  refine lv_iload hx hb dX1_join_104 (lv_at hl 2 rfl) ?_
  refine lv_isub hx hb dX1_join_106 ?_
  refine lv_iload hx hb dX1_join_107 (lv_at hl 1 rfl) ?_
  refine lv_isub hx hb dX1_join_109 ?_
  refine lv_topi (fun n121 en121 => ?_)
  have hs := hs _ en121
  have hu := hu _ en121
  refine lv_istore (lv' := [(9, .int n121), (7, .long n108), (6, .int n105), (5, .int n104), (4, .int n101), (0, .ref ao), (1, .ref (ad i1)), (2, .ref (ad i2)), (3, .int (bI p2))]) hx hb dX1_join_110 hl (by decide) rfl (fun ls hl => ?_)
  refine lv_iload hx hb dX1_join_112 (lv_at hl 0 rfl) ?_
  refine lv_bipush (v := 16) hx hb dX1_join_114 (by decide) ?_
  have J_128 : (∀ z127 : Int64, z127 = Z_X1_join_J_128 vco i2 n121 → ∀ (H : Heap) (locs : List Loc), va_P D vwCl (xw cR ax ar ao ad vrd vtr vsd vrn vom f112 f117 f119 voe vow vok vos vso vmi vco vex) H → va_D A (xw cR ax ar ao ad vrd vtr vsd vrn vom f112 f117 f119 voe vow vok vos vso vmi vco vex) → va_S A s.heap H locs → ∀ ls : Array Slot, lv_has ls 12 [(0, .ref ao), (2, .ref (ad i2)), (3, .int (bI p2)), (9, .int n121)] → W p l e rm_X1_join s m args below meth c H locs 0 0 Q (F0 m 133 ls [.long z127])) := by
    intro z127 ez127 H locs hP hD hS ls hl
    have hs := hs.2
    have hs := hs _ ez127
    have hu := hu _ ez127
    refine lv_lstore (lv' := [(10, .long z127), (0, .ref ao), (2, .ref (ad i2)), (3, .int (bI p2)), (9, .int n121)]) hx hb dX1_join_133 hl (by decide) rfl (fun ls hl => ?_)
    refine lv_aload_n hx hb dX1_join_135 rfl (lv_at hl 1 rfl) ?_
    refine lv_iload hx hb dX1_join_136 (lv_at hl 4 rfl) ?_
    refine lv_bipush (v := 16) hx hb dX1_join_138 (by decide) ?_
    have J_136 : (∀ z135 : Bool, z135 = Z_X1_join_J_136 vco i2 n121 → ∀ (H : Heap) (locs : List Loc), va_P D vwCl (xw cR ax ar ao ad vrd vtr vsd vrn vom f112 f117 f119 voe vow vok vos vso vmi vco vex) H → va_D A (xw cR ax ar ao ad vrd vtr vsd vrn vom f112 f117 f119 voe vow vok vos vso vmi vco vex) → va_S A s.heap H locs → ∀ ls : Array Slot, lv_has ls 12 [(0, .ref ao), (3, .int (bI p2)), (10, .long z127)] → W p l e rm_X1_join s m args below meth c H locs 0 0 Q (F0 m 163 ls [.int (bI z135), .ref ao])) := by
      intro z135 ez135 H locs hP hD hS ls hl
      have hu := hu _ ez135
      refine va_put (D := D) (ci := 3) (v := .int (bI z135)) (ty := .boolean) (C := RX1) (T := TX1) (N := 8) hx hb hts hi1 tyX1 tyX1_ok nmX1 hown hK hP hD hS 2 rfl rfl 4 (by decide) (hts (.fieldLink RX1 18 "DecimalWords$Outcome" "more" "Z") (inW_1 _ (List.mem_of_getElem? (i := 22) rfl))) (fun _ h9 => h9) rfl (by decide +kernel) (bI_nar z135) (bI_fit z135) (Nat.le_of_ble_eq_true rfl) dX1_join_163 (fun H locs hP hD hS => ?_)
      have hP : va_P D vwCl (xw cR ax ar ao ad vrd vtr vsd vrn vom f112 f117 f119 z135 vow vok vos vso vmi vco vex) H := hP
      have hD : va_D A (xw cR ax ar ao ad vrd vtr vsd vrn vom f112 f117 f119 z135 vow vok vos vso vmi vco vex) := hD
      refine lv_aload_n hx hb dX1_join_166 rfl (lv_at hl 0 rfl) ?_
      refine lv_iconst (v := 0) hx hb dX1_join_167 (by decide) ?_
      refine va_put (D := D) (ci := 3) (v := .int (bI false)) (ty := .boolean) (C := RX1) (T := TX1) (N := 8) hx hb hts hi1 tyX1 tyX1_ok nmX1 hown hK hP hD hS 2 rfl rfl 0 (by decide) (hts (.fieldLink RX1 31 "DecimalWords$Outcome" "minus" "Z") (inW_1 _ (List.mem_of_getElem? (i := 30) rfl))) (fun _ h9 => h9) rfl (by decide +kernel) (bI_nar false) (bI_fit false) (Nat.le_of_ble_eq_true rfl) dX1_join_168 (fun H locs hP hD hS => ?_)
      have hP : va_P D vwCl (xw cR ax ar ao ad vrd vtr vsd vrn false f112 f117 f119 z135 vow vok vos vso vmi vco vex) H := hP
      have hD : va_D A (xw cR ax ar ao ad vrd vtr vsd vrn false f112 f117 f119 z135 vow vok vos vso vmi vco vex) := hD
      refine lv_iload_n hx hb dX1_join_171 rfl (lv_at hl 1 rfl) ?_
      refine xb_eq (tgt := 184) hx hb dX1_join_172 (by decide) (fun c_139 => ?_) (fun c_139 => ?_)
      · rw [if_neg c_139] at hu
        refine lv_aload_n hx hb dX1_join_184 rfl (lv_at hl 0 rfl) ?_
        refine va_get (D := D) (ci := 3) (v := .long f112) (C := RX1) (T := TX1) (N := 8) hx hb hts hi1 hown hK hP 2 rfl rfl 1 (by decide) (hts (.fieldLink RX1 9 "DecimalWords$Outcome" "high" "J") (inW_1 _ (List.mem_of_getElem? (i := 20) rfl))) (fun _ h9 => h9) rfl dX1_join_185 ?_
        refine lv_lconst (v := 0) hx hb dX1_join_188 (by decide) ?_
        refine xl_ne (tgt := 222) hx hb dX1_join_189 dX1_join_190 (by decide) (fun c_140 => ?_) (fun c_140 => ?_)
        · rw [if_neg c_140] at hu
          refine lv_aload_n hx hb dX1_join_222 rfl (lv_at hl 0 rfl) ?_
          refine lv_aload_n hx hb dX1_join_223 rfl (lv_at hl 0 rfl) ?_
          refine va_get (D := D) (ci := 3) (v := .int (bI z135)) (C := RX1) (T := TX1) (N := 8) hx hb hts hi1 hown hK hP 2 rfl rfl 4 (by decide) (hts (.fieldLink RX1 18 "DecimalWords$Outcome" "more" "Z") (inW_1 _ (List.mem_of_getElem? (i := 22) rfl))) (fun _ h9 => h9) rfl dX1_join_224 ?_
          have J_144 : (∀ z143 : Int64, z143 = Z_X1_join_J_151 z127 z135 → ∀ (H : Heap) (locs : List Loc), va_P D vwCl (xw cR ax ar ao ad vrd vtr vsd vrn false f112 f117 f119 z135 vow vok vos vso vmi vco vex) H → va_D A (xw cR ax ar ao ad vrd vtr vsd vrn false f112 f117 f119 z135 vow vok vos vso vmi vco vex) → va_S A s.heap H locs → ∀ ls : Array Slot, lv_has ls 12 [] → W p l e rm_X1_join s m args below meth c H locs 0 0 Q (F0 m 241 ls [.long z143, .ref ao])) := by
            intro z143 ez143 H locs hP hD hS ls hl
            have hu := hu _ ez143
            obtain ⟨u145, eu145⟩ : ∃ y9 : Int64 × Int64, y9 = F_X1_addToLow f112 f117 z143 := ⟨_, rfl⟩
            have hu := hu _ eu145
            refine x_V (As := [.long z143]) (rest := []) hCF (c_X1_addToLow l D cR cI cJ cZ t0 ax ar ao ad vrd vtr vsd vrn false f112 f117 f119 z135 vow vok vos vso vmi vco vex z143 u145 eu145) (x_cwV 1 hts (inW_2 _ (List.mem_of_getElem? (i := 11) rfl)) (inW_2 _ (List.mem_of_getElem? (i := 12) rfl)) (inW_2 _ (List.mem_of_getElem? (i := 13) rfl)) (inW_2 _ (List.mem_of_getElem? (i := 4) rfl)) (inW_2 _ (List.mem_of_getElem? (i := 14) rfl)) rfl rfl (by decide +kernel) ⟨Nat.le_of_ble_eq_true rfl, Nat.le_of_ble_eq_true rfl⟩) hK hP hD hS hA hSt 2 rfl rfl rfl hl.1 rfl (Nat.le_of_ble_eq_true rfl) dX1_join_241 ⟨Nat.le_of_ble_eq_true rfl, Nat.le_of_ble_eq_true rfl⟩ (fun H locs hP hD hS => ?_)
            show W p l e _ s m args below meth c H locs 0 0 Q (F0 m 244 ls [])
            have e9 := Eq.symm hu; subst e9
            exact x_vret hx hb hr hlocks hQ hK hP hD hS rfl dX1_join_244
          obtain ⟨z9, ez9⟩ : ∃ y9 : Int64, y9 = Z_X1_join_J_151 z127 z135 := ⟨_, rfl⟩
          have hz := rZ_X1_join_J_151 z127 z135 ez9
          unfold RZ_X1_join_J_151 at hz
          refine xb_eq (tgt := 238) hx hb dX1_join_227 (by decide) (fun c_141 => ?_) (fun c_141 => ?_)
          · rw [if_neg c_141] at hz
            refine lv_lload hx hb dX1_join_238 (lv_at hl 2 rfl) ?_
            refine lv_lneg hx hb dX1_join_240 ?_
            have e9 := Eq.symm hz; subst e9
            exact J_144 _ ez9 H locs hP hD hS ls (lv_sub hl [] rfl)
          · rw [if_pos c_141] at hz
            refine lv_lload hx hb dX1_join_230 (lv_at hl 2 rfl) ?_
            refine lv_lneg hx hb dX1_join_232 ?_
            refine lv_lconst (v := 1) hx hb dX1_join_233 (by decide) ?_
            refine lv_lsub hx hb dX1_join_234 ?_
            refine lv_goto (tgt := 241) hx hb dX1_join_235 (by decide) ?_
            have e9 := Eq.symm hz; subst e9
            exact J_144 _ ez9 H locs hP hD hS ls (lv_sub hl [] rfl)
        · rw [if_pos c_140] at hu
          refine lv_aload_n hx hb dX1_join_193 rfl (lv_at hl 0 rfl) ?_
          refine va_get (D := D) (ci := 3) (v := .long f117) (C := RX1) (T := TX1) (N := 8) hx hb hts hi1 hown hK hP 2 rfl rfl 2 (by decide) (hts (.fieldLink RX1 15 "DecimalWords$Outcome" "low" "J") (inW_1 _ (List.mem_of_getElem? (i := 21) rfl))) (fun _ h9 => h9) rfl dX1_join_194 ?_
          refine lv_lload hx hb dX1_join_197 (lv_at hl 2 rfl) ?_
          refine xl_ge (tgt := 222) hx hb dX1_join_199 dX1_join_200 (by decide) (fun c_147 => ?_) (fun c_147 => ?_)
          · rw [if_pos c_147] at hu
            refine lv_aload_n hx hb dX1_join_222 rfl (lv_at hl 0 rfl) ?_
            refine lv_aload_n hx hb dX1_join_223 rfl (lv_at hl 0 rfl) ?_
            refine va_get (D := D) (ci := 3) (v := .int (bI z135)) (C := RX1) (T := TX1) (N := 8) hx hb hts hi1 hown hK hP 2 rfl rfl 4 (by decide) (hts (.fieldLink RX1 18 "DecimalWords$Outcome" "more" "Z") (inW_1 _ (List.mem_of_getElem? (i := 22) rfl))) (fun _ h9 => h9) rfl dX1_join_224 ?_
            have J_151 : (∀ z150 : Int64, z150 = Z_X1_join_J_151 z127 z135 → ∀ (H : Heap) (locs : List Loc), va_P D vwCl (xw cR ax ar ao ad vrd vtr vsd vrn false f112 f117 f119 z135 vow vok vos vso vmi vco vex) H → va_D A (xw cR ax ar ao ad vrd vtr vsd vrn false f112 f117 f119 z135 vow vok vos vso vmi vco vex) → va_S A s.heap H locs → ∀ ls : Array Slot, lv_has ls 12 [] → W p l e rm_X1_join s m args below meth c H locs 0 0 Q (F0 m 241 ls [.long z150, .ref ao])) := by
              intro z150 ez150 H locs hP hD hS ls hl
              have hu := hu _ ez150
              obtain ⟨u152, eu152⟩ : ∃ y9 : Int64 × Int64, y9 = F_X1_addToLow f112 f117 z150 := ⟨_, rfl⟩
              have hu := hu _ eu152
              refine x_V (As := [.long z150]) (rest := []) hCF (c_X1_addToLow l D cR cI cJ cZ t0 ax ar ao ad vrd vtr vsd vrn false f112 f117 f119 z135 vow vok vos vso vmi vco vex z150 u152 eu152) (x_cwV 1 hts (inW_2 _ (List.mem_of_getElem? (i := 11) rfl)) (inW_2 _ (List.mem_of_getElem? (i := 12) rfl)) (inW_2 _ (List.mem_of_getElem? (i := 13) rfl)) (inW_2 _ (List.mem_of_getElem? (i := 4) rfl)) (inW_2 _ (List.mem_of_getElem? (i := 14) rfl)) rfl rfl (by decide +kernel) ⟨Nat.le_of_ble_eq_true rfl, Nat.le_of_ble_eq_true rfl⟩) hK hP hD hS hA hSt 2 rfl rfl rfl hl.1 rfl (Nat.le_of_ble_eq_true rfl) dX1_join_241 ⟨Nat.le_of_ble_eq_true rfl, Nat.le_of_ble_eq_true rfl⟩ (fun H locs hP hD hS => ?_)
              show W p l e _ s m args below meth c H locs 0 0 Q (F0 m 244 ls [])
              have e9 := Eq.symm hu; subst e9
              exact x_vret hx hb hr hlocks hQ hK hP hD hS rfl dX1_join_244
            obtain ⟨z9, ez9⟩ : ∃ y9 : Int64, y9 = Z_X1_join_J_151 z127 z135 := ⟨_, rfl⟩
            have hz := rZ_X1_join_J_151 z127 z135 ez9
            unfold RZ_X1_join_J_151 at hz
            refine xb_eq (tgt := 238) hx hb dX1_join_227 (by decide) (fun c_148 => ?_) (fun c_148 => ?_)
            · rw [if_neg c_148] at hz
              refine lv_lload hx hb dX1_join_238 (lv_at hl 2 rfl) ?_
              refine lv_lneg hx hb dX1_join_240 ?_
              have e9 := Eq.symm hz; subst e9
              exact J_151 _ ez9 H locs hP hD hS ls (lv_sub hl [] rfl)
            · rw [if_pos c_148] at hz
              refine lv_lload hx hb dX1_join_230 (lv_at hl 2 rfl) ?_
              refine lv_lneg hx hb dX1_join_232 ?_
              refine lv_lconst (v := 1) hx hb dX1_join_233 (by decide) ?_
              refine lv_lsub hx hb dX1_join_234 ?_
              refine lv_goto (tgt := 241) hx hb dX1_join_235 (by decide) ?_
              have e9 := Eq.symm hz; subst e9
              exact J_151 _ ez9 H locs hP hD hS ls (lv_sub hl [] rfl)
          · rw [if_neg c_147] at hu
            refine lv_aload_n hx hb dX1_join_203 rfl (lv_at hl 0 rfl) ?_
            refine lv_lload hx hb dX1_join_204 (lv_at hl 2 rfl) ?_
            refine lv_aload_n hx hb dX1_join_206 rfl (lv_at hl 0 rfl) ?_
            refine va_get (D := D) (ci := 3) (v := .long f117) (C := RX1) (T := TX1) (N := 8) hx hb hts hi1 hown hK hP 2 rfl rfl 2 (by decide) (hts (.fieldLink RX1 15 "DecimalWords$Outcome" "low" "J") (inW_1 _ (List.mem_of_getElem? (i := 21) rfl))) (fun _ h9 => h9) rfl dX1_join_207 ?_
            refine lv_lsub hx hb dX1_join_210 ?_
            refine lv_topl (fun f154 ef154 => ?_)
            have hu := hu _ ef154
            refine va_put (D := D) (ci := 3) (v := .long f154) (ty := .long) (C := RX1) (T := TX1) (N := 8) hx hb hts hi1 tyX1 tyX1_ok nmX1 hown hK hP hD hS 2 rfl rfl 2 (by decide) (hts (.fieldLink RX1 15 "DecimalWords$Outcome" "low" "J") (inW_1 _ (List.mem_of_getElem? (i := 21) rfl))) (fun _ h9 => h9) rfl (by decide +kernel) rfl rfl (Nat.le_of_ble_eq_true rfl) dX1_join_211 (fun H locs hP hD hS => ?_)
            have hP : va_P D vwCl (xw cR ax ar ao ad vrd vtr vsd vrn false f112 f154 f119 z135 vow vok vos vso vmi vco vex) H := hP
            have hD : va_D A (xw cR ax ar ao ad vrd vtr vsd vrn false f112 f154 f119 z135 vow vok vos vso vmi vco vex) := hD
            refine lv_aload_n hx hb dX1_join_214 rfl (lv_at hl 0 rfl) ?_
            refine lv_iconst (v := 1) hx hb dX1_join_215 (by decide) ?_
            refine va_put (D := D) (ci := 3) (v := .int (bI true)) (ty := .boolean) (C := RX1) (T := TX1) (N := 8) hx hb hts hi1 tyX1 tyX1_ok nmX1 hown hK hP hD hS 2 rfl rfl 0 (by decide) (hts (.fieldLink RX1 31 "DecimalWords$Outcome" "minus" "Z") (inW_1 _ (List.mem_of_getElem? (i := 30) rfl))) (fun _ h9 => h9) rfl (by decide +kernel) (bI_nar true) (bI_fit true) (Nat.le_of_ble_eq_true rfl) dX1_join_216 (fun H locs hP hD hS => ?_)
            have hP : va_P D vwCl (xw cR ax ar ao ad vrd vtr vsd vrn true f112 f154 f119 z135 vow vok vos vso vmi vco vex) H := hP
            have hD : va_D A (xw cR ax ar ao ad vrd vtr vsd vrn true f112 f154 f119 z135 vow vok vos vso vmi vco vex) := hD
            refine lv_goto (tgt := 244) hx hb dX1_join_219 (by decide) ?_
            have e9 := Eq.symm hu; subst e9
            exact x_vret hx hb hr hlocks hQ hK hP hD hS rfl dX1_join_244
      · rw [if_pos c_139] at hu
        refine lv_aload_n hx hb dX1_join_175 rfl (lv_at hl 0 rfl) ?_
        refine lv_lload hx hb dX1_join_176 (lv_at hl 2 rfl) ?_
        obtain ⟨u157, eu157⟩ : ∃ y9 : Int64 × Int64, y9 = F_X1_addToLow f112 f117 z127 := ⟨_, rfl⟩
        have hu := hu _ eu157
        refine x_V (As := [.long z127]) (rest := []) hCF (c_X1_addToLow l D cR cI cJ cZ t0 ax ar ao ad vrd vtr vsd vrn false f112 f117 f119 z135 vow vok vos vso vmi vco vex z127 u157 eu157) (x_cwV 1 hts (inW_2 _ (List.mem_of_getElem? (i := 11) rfl)) (inW_2 _ (List.mem_of_getElem? (i := 12) rfl)) (inW_2 _ (List.mem_of_getElem? (i := 13) rfl)) (inW_2 _ (List.mem_of_getElem? (i := 4) rfl)) (inW_2 _ (List.mem_of_getElem? (i := 14) rfl)) rfl rfl (by decide +kernel) ⟨Nat.le_of_ble_eq_true rfl, Nat.le_of_ble_eq_true rfl⟩) hK hP hD hS hA hSt 2 rfl rfl rfl hl.1 rfl (Nat.le_of_ble_eq_true rfl) dX1_join_178 ⟨Nat.le_of_ble_eq_true rfl, Nat.le_of_ble_eq_true rfl⟩ (fun H locs hP hD hS => ?_)
        show W p l e _ s m args below meth c H locs 0 0 Q (F0 m 181 ls [])
        refine lv_goto (tgt := 244) hx hb dX1_join_181 (by decide) ?_
        have e9 := Eq.symm hu; subst e9
        exact x_vret hx hb hr hlocks hQ hK hP hD hS rfl dX1_join_244
    obtain ⟨z9, ez9⟩ : ∃ y9 : Bool, y9 = Z_X1_join_J_136 vco i2 n121 := ⟨_, rfl⟩
    have hz := rZ_X1_join_J_136 vco i2 n121 ez9
    unfold RZ_X1_join_J_136 at hz
    refine lv_icmp_gt (tgt := 158) hx hb dX1_join_140 (by decide) (fun c_129 => ?_) (fun c_129 => ?_)
    · rw [if_pos c_129] at hz
      refine lv_iconst (v := 1) hx hb dX1_join_158 (by decide) ?_
      refine lv_goto (tgt := 163) hx hb dX1_join_159 (by decide) ?_
      have e9 := Eq.symm hz; subst e9
      exact J_136 _ ez9 H locs hP hD hS ls (lv_sub hl [1, 3, 0] rfl)
    · rw [if_neg c_129] at hs
      rw [if_neg c_129] at hz
      refine lv_aload_n hx hb dX1_join_143 rfl (lv_at hl 2 rfl) ?_
      refine g_co (i := i2) hx hb hts hi0 hown hK hP hb2 (hts (.fieldLink RX1 32 "DecimalWords$Datum" "coefficient" "J") (inW_1 _ (List.mem_of_getElem? (i := 31) rfl))) dX1_join_144 ?_
      refine lv_iload hx hb dX1_join_147 (lv_at hl 4 rfl) ?_
      obtain ⟨h_130, hs⟩ := hs
      refine x_SN (As := [.int n121]) (rest := [.long (vco i2), .ref ao]) hCF (c_X3_tenTo l D cR cI cJ cZ t0 (xw cR ax ar ao ad vrd vtr vsd vrn vom f112 f117 f119 voe vow vok vos vso vmi vco vex) n121 _ rfl h_130) (x_cwN 1 hts hSt.2.2.2.1 (inW_2 _ (List.mem_of_getElem? (i := 9) rfl)) (inW_1 _ (List.mem_of_getElem? (i := 25) rfl)) (inW_2 _ (List.mem_of_getElem? (i := 10) rfl)) rfl rfl (by decide +kernel) ⟨Nat.le_of_ble_eq_true rfl, Nat.le_of_ble_eq_true rfl⟩) hK hP hD hS hA hSt rfl hl.1 rfl (Nat.le_of_ble_eq_true rfl) dX1_join_149 ⟨Nat.le_of_ble_eq_true rfl, Nat.le_of_ble_eq_true rfl⟩ (fun H locs hP hD hS => ?_)
      show W p l e _ s m args below meth c H locs 0 0 Q (F0 m 152 ls (.long (F_X3_tenTo n121) :: [.long (vco i2), .ref ao]))
      have h_132 := hs
      refine x_lrem hx hb dX1_join_152 h_132 ?_
      refine lv_lconst (v := 0) hx hb dX1_join_153 (by decide) ?_
      refine xl_eq (tgt := 162) hx hb dX1_join_154 dX1_join_155 (by decide) (fun c_133 => ?_) (fun c_133 => ?_)
      · rw [if_pos c_133] at hz
        refine lv_iconst (v := 0) hx hb dX1_join_162 (by decide) ?_
        have e9 := Eq.symm hz; subst e9
        exact J_136 _ ez9 H locs hP hD hS ls (lv_sub hl [1, 3, 0] rfl)
      · rw [if_neg c_133] at hz
        refine lv_iconst (v := 1) hx hb dX1_join_158 (by decide) ?_
        refine lv_goto (tgt := 163) hx hb dX1_join_159 (by decide) ?_
        have e9 := Eq.symm hz; subst e9
        exact J_136 _ ez9 H locs hP hD hS ls (lv_sub hl [1, 3, 0] rfl)
  have hs := hs.1
  obtain ⟨z9, ez9⟩ : ∃ y9 : Int64, y9 = Z_X1_join_J_128 vco i2 n121 := ⟨_, rfl⟩
  have hz := rZ_X1_join_J_128 vco i2 n121 ez9
  unfold RZ_X1_join_J_128 at hz
  refine lv_icmp_le (tgt := 123) hx hb dX1_join_116 (by decide) (fun c_122 => ?_) (fun c_122 => ?_)
  · rw [if_pos c_122] at hs
    rw [if_pos c_122] at hz
    refine lv_aload_n hx hb dX1_join_123 rfl (lv_at hl 7 rfl) ?_
    refine g_co (i := i2) hx hb hts hi0 hown hK hP hb2 (hts (.fieldLink RX1 32 "DecimalWords$Datum" "coefficient" "J") (inW_1 _ (List.mem_of_getElem? (i := 31) rfl))) dX1_join_124 ?_
    refine lv_iload hx hb dX1_join_127 (lv_at hl 0 rfl) ?_
    obtain ⟨h_123, hs⟩ := hs
    refine x_SN (As := [.int n121]) (rest := [.long (vco i2)]) hCF (c_X3_tenTo l D cR cI cJ cZ t0 (xw cR ax ar ao ad vrd vtr vsd vrn vom f112 f117 f119 voe vow vok vos vso vmi vco vex) n121 _ rfl h_123) (x_cwN 1 hts hSt.2.2.2.1 (inW_2 _ (List.mem_of_getElem? (i := 9) rfl)) (inW_1 _ (List.mem_of_getElem? (i := 25) rfl)) (inW_2 _ (List.mem_of_getElem? (i := 10) rfl)) rfl rfl (by decide +kernel) ⟨Nat.le_of_ble_eq_true rfl, Nat.le_of_ble_eq_true rfl⟩) hK hP hD hS hA hSt rfl hl.1 rfl (Nat.le_of_ble_eq_true rfl) dX1_join_129 ⟨Nat.le_of_ble_eq_true rfl, Nat.le_of_ble_eq_true rfl⟩ (fun H locs hP hD hS => ?_)
    show W p l e _ s m args below meth c H locs 0 0 Q (F0 m 132 ls (.long (F_X3_tenTo n121) :: [.long (vco i2)]))
    have h_125 := hs
    refine lv_ldiv hx hb dX1_join_132 h_125 ?_
    have e9 := Eq.symm hz; subst e9
    exact J_128 _ ez9 H locs hP hD hS ls (lv_sub hl [5, 7, 8, 0] rfl)
  · rw [if_neg c_122] at hz
    refine lv_lconst (v := 0) hx hb dX1_join_119 (by decide) ?_
    refine lv_goto (tgt := 133) hx hb dX1_join_120 (by decide) ?_
    have e9 := Eq.symm hz; subst e9
    exact J_128 _ ez9 H locs hP hD hS ls (lv_sub hl [5, 7, 8, 0] rfl)

def Z_X1_setSum_J_139 (p2 : Bool) (p3 : Bool) (z103 : Bool) : Bool := (if z103 = true then p2 else p3)
def RZ_X1_setSum_J_139 (p2 : Bool) (p3 : Bool) (z103 : Bool) (u9 : Bool) : Prop := (if z103 = true then u9 = p2 else u9 = p3)
theorem rZ_X1_setSum_J_139 (p2 : Bool) (p3 : Bool) (z103 : Bool) {u9 : Bool} (hu : u9 = Z_X1_setSum_J_139 p2 p3 z103) : RZ_X1_setSum_J_139 p2 p3 z103 u9 := by
  unfold RZ_X1_setSum_J_139
  refine ite_P (fun c_136 => ?_) (fun c_136 => ?_)
  · have hu := hu.trans (if_pos c_136)
    exact hu
  · have hu := hu.trans (if_neg c_136)
    exact hu
def Z_X1_setSum_J_143 (p2 : Bool) (p3 : Bool) (z103 : Bool) (z132 : Bool × Int64 × Int64 × Int32 × Bool) : Bool := (if F_X1_isZero z132.2.1 z132.2.2.1 z132.2.2.2.2 = true then (bnd (Z_X1_setSum_J_139 p2 p3 z103) (fun z138 : Bool => z138)) else z132.1)
def RZ_X1_setSum_J_143 (p2 : Bool) (p3 : Bool) (z103 : Bool) (z132 : Bool × Int64 × Int64 × Int32 × Bool) (u9 : Bool) : Prop := (if F_X1_isZero z132.2.1 z132.2.2.1 z132.2.2.2.2 = true then (∀ z138 : Bool, z138 = Z_X1_setSum_J_139 p2 p3 z103 → u9 = z138) else u9 = z132.1)
theorem rZ_X1_setSum_J_143 (p2 : Bool) (p3 : Bool) (z103 : Bool) (z132 : Bool × Int64 × Int64 × Int32 × Bool) {u9 : Bool} (hu : u9 = Z_X1_setSum_J_143 p2 p3 z103 z132) : RZ_X1_setSum_J_143 p2 p3 z103 z132 u9 := by
  unfold RZ_X1_setSum_J_143
  refine ite_P (fun c_135 => ?_) (fun c_135 => ?_)
  · have hu := hu.trans (if_pos c_135)
    intro z138 ez138
    have hu := bnd_n hu ez138
    exact hu
  · have hu := hu.trans (if_neg c_135)
    exact hu
def Z_X1_setSum_J_116 (p2 : Bool) (u111 : Bool × Int64 × Int64 × Int32 × Bool) : Bool := (if p2 = u111.1 then false else true)
def RZ_X1_setSum_J_116 (p2 : Bool) (u111 : Bool × Int64 × Int64 × Int32 × Bool) (u9 : Bool) : Prop := (if p2 = u111.1 then u9 = false else u9 = true)
theorem rZ_X1_setSum_J_116 (p2 : Bool) (u111 : Bool × Int64 × Int64 × Int32 × Bool) {u9 : Bool} (hu : u9 = Z_X1_setSum_J_116 p2 u111) : RZ_X1_setSum_J_116 p2 u111 u9 := by
  unfold RZ_X1_setSum_J_116
  refine ite_P (fun c_113 => ?_) (fun c_113 => ?_)
  · have hu := hu.trans (if_pos c_113)
    exact hu
  · have hu := hu.trans (if_neg c_113)
    exact hu
def Z_X1_setSum_J_124 (vmi : Nat → Bool) (i1 : Nat) (u119 : Bool × Int64 × Int64 × Int32 × Bool) : Bool := (if vmi i1 = u119.1 then false else true)
def RZ_X1_setSum_J_124 (vmi : Nat → Bool) (i1 : Nat) (u119 : Bool × Int64 × Int64 × Int32 × Bool) (u9 : Bool) : Prop := (if vmi i1 = u119.1 then u9 = false else u9 = true)
theorem rZ_X1_setSum_J_124 (vmi : Nat → Bool) (i1 : Nat) (u119 : Bool × Int64 × Int64 × Int32 × Bool) {u9 : Bool} (hu : u9 = Z_X1_setSum_J_124 vmi i1 u119) : RZ_X1_setSum_J_124 vmi i1 u119 u9 := by
  unfold RZ_X1_setSum_J_124
  refine ite_P (fun c_121 => ?_) (fun c_121 => ?_)
  · have hu := hu.trans (if_pos c_121)
    exact hu
  · have hu := hu.trans (if_neg c_121)
    exact hu
def Z_X1_setSum_J_133 (vso : Nat → Int32) (vmi : Nat → Bool) (vco : Nat → Int64) (vex : Nat → Int32) (i1 : Nat) (i2 : Nat) (p2 : Bool) (z103 : Bool) : Bool × Int64 × Int64 × Int32 × Bool := (if F_X0_isZero vso vco i1 = true then (bnd (F_X1_setWhole vmi vco vex i2) (fun u128 : Bool × Int64 × Int64 × Int32 × Bool => (p2, u128.2.1, u128.2.2.1, u128.2.2.2.1, u128.2.2.2.2))) else (if F_X0_isZero vso vco i2 = true then (bnd (F_X1_setWhole vmi vco vex i1) (fun u126 : Bool × Int64 × Int64 × Int32 × Bool => (u126.1, u126.2.1, u126.2.2.1, u126.2.2.2.1, u126.2.2.2.2))) else (if vex i1 < vex i2 then (bnd (F_X1_join vco vex i2 i1 z103) (fun u111 : Bool × Int64 × Int64 × Int32 × Bool => (bnd (Z_X1_setSum_J_116 p2 u111) (fun z115 : Bool => (z115, u111.2.1, u111.2.2.1, u111.2.2.2.1, u111.2.2.2.2))))) else (bnd (F_X1_join vco vex i1 i2 z103) (fun u119 : Bool × Int64 × Int64 × Int32 × Bool => (bnd (Z_X1_setSum_J_124 vmi i1 u119) (fun z123 : Bool => (z123, u119.2.1, u119.2.2.1, u119.2.2.2.1, u119.2.2.2.2))))))))
def RZ_X1_setSum_J_133 (vso : Nat → Int32) (vmi : Nat → Bool) (vco : Nat → Int64) (vex : Nat → Int32) (i1 : Nat) (i2 : Nat) (p2 : Bool) (z103 : Bool) (u9 : Bool × Int64 × Int64 × Int32 × Bool) : Prop := (if F_X0_isZero vso vco i1 = true then (∀ u128 : Bool × Int64 × Int64 × Int32 × Bool, u128 = F_X1_setWhole vmi vco vex i2 → u9 = (p2, u128.2.1, u128.2.2.1, u128.2.2.2.1, u128.2.2.2.2)) else (if F_X0_isZero vso vco i2 = true then (∀ u126 : Bool × Int64 × Int64 × Int32 × Bool, u126 = F_X1_setWhole vmi vco vex i1 → u9 = (u126.1, u126.2.1, u126.2.2.1, u126.2.2.2.1, u126.2.2.2.2)) else (if vex i1 < vex i2 then (∀ u111 : Bool × Int64 × Int64 × Int32 × Bool, u111 = F_X1_join vco vex i2 i1 z103 → (∀ z115 : Bool, z115 = Z_X1_setSum_J_116 p2 u111 → u9 = (z115, u111.2.1, u111.2.2.1, u111.2.2.2.1, u111.2.2.2.2))) else (∀ u119 : Bool × Int64 × Int64 × Int32 × Bool, u119 = F_X1_join vco vex i1 i2 z103 → (∀ z123 : Bool, z123 = Z_X1_setSum_J_124 vmi i1 u119 → u9 = (z123, u119.2.1, u119.2.2.1, u119.2.2.2.1, u119.2.2.2.2))))))
theorem rZ_X1_setSum_J_133 (vso : Nat → Int32) (vmi : Nat → Bool) (vco : Nat → Int64) (vex : Nat → Int32) (i1 : Nat) (i2 : Nat) (p2 : Bool) (z103 : Bool) {u9 : Bool × Int64 × Int64 × Int32 × Bool} (hu : u9 = Z_X1_setSum_J_133 vso vmi vco vex i1 i2 p2 z103) : RZ_X1_setSum_J_133 vso vmi vco vex i1 i2 p2 z103 u9 := by
  unfold RZ_X1_setSum_J_133
  refine ite_P (fun c_106 => ?_) (fun c_106 => ?_)
  · have hu := hu.trans (if_pos c_106)
    intro u128 eu128
    have hu := bnd_n hu eu128
    exact hu
  · have hu := hu.trans (if_neg c_106)
    refine ite_P (fun c_108 => ?_) (fun c_108 => ?_)
    · have hu := hu.trans (if_pos c_108)
      intro u126 eu126
      have hu := bnd_n hu eu126
      exact hu
    · have hu := hu.trans (if_neg c_108)
      refine ite_P (fun c_109 => ?_) (fun c_109 => ?_)
      · have hu := hu.trans (if_pos c_109)
        intro u111 eu111
        have hu := bnd_n hu eu111
        intro z115 ez115
        have hu := bnd_n hu ez115
        exact hu
      · have hu := hu.trans (if_neg c_109)
        intro u119 eu119
        have hu := bnd_n hu eu119
        intro z123 ez123
        have hu := bnd_n hu ez123
        exact hu
def Z_X1_setSum_J_104 (vmi : Nat → Bool) (i1 : Nat) (p2 : Bool) : Bool := (if vmi i1 = p2 then true else false)
def RZ_X1_setSum_J_104 (vmi : Nat → Bool) (i1 : Nat) (p2 : Bool) (u9 : Bool) : Prop := (if vmi i1 = p2 then u9 = true else u9 = false)
theorem rZ_X1_setSum_J_104 (vmi : Nat → Bool) (i1 : Nat) (p2 : Bool) {u9 : Bool} (hu : u9 = Z_X1_setSum_J_104 vmi i1 p2) : RZ_X1_setSum_J_104 vmi i1 p2 u9 := by
  unfold RZ_X1_setSum_J_104
  refine ite_P (fun c_101 => ?_) (fun c_101 => ?_)
  · have hu := hu.trans (if_pos c_101)
    exact hu
  · have hu := hu.trans (if_neg c_101)
    exact hu
def F_X1_setSum (vso : Nat → Int32) (vmi : Nat → Bool) (vco : Nat → Int64) (vex : Nat → Int32) (i1 : Nat) (i2 : Nat) (p2 : Bool) (p3 : Bool) : Bool × Int64 × Int64 × Int32 × Bool × Int32 := (bnd (Z_X1_setSum_J_104 vmi i1 p2) (fun z103 : Bool => (bnd (Z_X1_setSum_J_133 vso vmi vco vex i1 i2 p2 z103) (fun z132 : Bool × Int64 × Int64 × Int32 × Bool => (bnd (Z_X1_setSum_J_143 p2 p3 z103 z132) (fun z142 : Bool => (bnd (jmin (vex i1) (vex i2)) (fun f144 : Int32 => (z142, z132.2.1, z132.2.2.1, z132.2.2.2.1, z132.2.2.2.2, f144)))))))))
def RF_X1_setSum (vso : Nat → Int32) (vmi : Nat → Bool) (vco : Nat → Int64) (vex : Nat → Int32) (i1 : Nat) (i2 : Nat) (p2 : Bool) (p3 : Bool) (u9 : Bool × Int64 × Int64 × Int32 × Bool × Int32) : Prop := (∀ z103 : Bool, z103 = Z_X1_setSum_J_104 vmi i1 p2 → (∀ z132 : Bool × Int64 × Int64 × Int32 × Bool, z132 = Z_X1_setSum_J_133 vso vmi vco vex i1 i2 p2 z103 → (∀ z142 : Bool, z142 = Z_X1_setSum_J_143 p2 p3 z103 z132 → (∀ f144 : Int32, f144 = jmin (vex i1) (vex i2) → u9 = (z142, z132.2.1, z132.2.2.1, z132.2.2.2.1, z132.2.2.2.2, f144)))))
theorem rF_X1_setSum (vso : Nat → Int32) (vmi : Nat → Bool) (vco : Nat → Int64) (vex : Nat → Int32) (i1 : Nat) (i2 : Nat) (p2 : Bool) (p3 : Bool) {u9 : Bool × Int64 × Int64 × Int32 × Bool × Int32} (hu : u9 = F_X1_setSum vso vmi vco vex i1 i2 p2 p3) : RF_X1_setSum vso vmi vco vex i1 i2 p2 p3 u9 := by
  unfold RF_X1_setSum
  intro z103 ez103
  have hu := bnd_n hu ez103
  intro z132 ez132
  have hu := bnd_n hu ez132
  intro z142 ez142
  have hu := bnd_n hu ez142
  intro f144 ef144
  have hu := bnd_n hu ef144
  exact hu
def S_X1_setSum (vso : Nat → Int32) (vmi : Nat → Bool) (vco : Nat → Int64) (vex : Nat → Int32) (i1 : Nat) (i2 : Nat) (p2 : Bool) (p3 : Bool) : Prop := (∀ z103 : Bool, z103 = Z_X1_setSum_J_104 vmi i1 p2 → (if F_X0_isZero vso vco i1 = true then True else (if F_X0_isZero vso vco i2 = true then True else (if vex i1 < vex i2 then S_X1_join vco vex i2 i1 z103 else S_X1_join vco vex i1 i2 z103))))
def rm_X1_setSum : Room := { frames := 2, cells := 0, slots := 0, locals := 71 }
set_option maxHeartbeats 4000000 in
set_option maxRecDepth 100000 in
theorem c_X1_setSum (l : Launch) (D : va_G) (cR cI cJ cZ : ClassId) (t0 : Nat) (ax ar ao : Nat) (ad : Nat → Nat) (vrd : Int32) (vtr : Int32) (vsd : Int32) (vrn : Int32) (vom : Bool) (voh : Int64) (vol : Int64) (vop : Int32) (voe : Bool) (vow : Int32) (vok : Int64) (vos : Int32) (vso : Nat → Int32) (vmi : Nat → Bool) (vco : Nat → Int64) (vex : Nat → Int32) (i1 : Nat) (i2 : Nat) (p2 : Bool) (p3 : Bool) (u : Bool × Int64 × Int64 × Int32 × Bool × Int32) (hu : u = F_X1_setSum vso vmi vco vex i1 i2 p2 p3) (hs : S_X1_setSum vso vmi vco vex i1 i2 p2 p3) (hb1 : i1 < 9) (hb2 : i2 < 9) : XM l D (xty cR cI cJ cZ) t0 yX1_setSum cX1_setSum 6 none rm_X1_setSum [.ref ao, .ref (ad i1), .ref (ad i2), .int (bI p2), .int (bI p3)] none (xw cR ax ar ao ad vrd vtr vsd vrn vom voh vol vop voe vow vok vos vso vmi vco vex) (xw cR ax ar ao ad vrd vtr vsd vrn u.1 u.2.1 u.2.2.1 u.2.2.2.1 u.2.2.2.2.1 u.2.2.2.2.2 vok vos vso vmi vco vex) := by
  refine XM.of (by decide) (Nat.le_of_ble_eq_true rfl) ?_
  intro p e s m args below meth c A Q F hK hP hD hA hSt hS hQ ls hl
  obtain ⟨hx, hb, hr, hts, hown, hlocks, hml⟩ := F
  have hCF : CallFix p m c cX1_setSum 6 s args gW RX1 := ⟨hx, hb, hml, hown, hts⟩
  unfold S_X1_setSum at hs
  have hu := rF_X1_setSum vso vmi vco vex i1 i2 p2 p3 hu
  unfold RF_X1_setSum at hu
  obtain ⟨H, eH⟩ : ∃ y9 : Heap, y9 = s.heap := ⟨_, rfl⟩
  obtain ⟨locs, eL⟩ : ∃ y9 : List Loc, y9 = [] := ⟨_, rfl⟩
  rw [← eL] at hS ⊢
  have hP : va_P D vwCl (xw cR ax ar ao ad vrd vtr vsd vrn vom voh vol vop voe vow vok vos vso vmi vco vex) H := by rw [eH]; exact hP
  have hS : va_S A s.heap H locs := by rw [eH]; exact hS
  suffices goal9 : W p l e rm_X1_setSum s m args below meth c H locs 0 0 Q (F0 m 0 ls []) from by rw [← eH]; exact goal9
  have hl : lv_has ls 6 [(0, .ref ao), (1, .ref (ad i1)), (2, .ref (ad i2)), (3, .int (bI p2)), (4, .int (bI p3))] := hl
  have hi0 : ∀ w ∈ wsX00, w ∈ gW := inW_X0
  have hi1 : ∀ w ∈ wsX10, w ∈ gW := inW_X1
  refine lv_aload_n hx hb dX1_setSum_0 rfl (lv_at hl 1 rfl) ?_
  refine g_mi (i := i1) hx hb hts hi0 hown hK hP hb1 (hts (.fieldLink RX1 26 "DecimalWords$Datum" "minus" "Z") (inW_1 _ (List.mem_of_getElem? (i := 29) rfl))) dX1_setSum_1 ?_
  refine lv_iload_n hx hb dX1_setSum_4 rfl (lv_at hl 3 rfl) ?_
  have J_104 : (∀ z103 : Bool, z103 = Z_X1_setSum_J_104 vmi i1 p2 → ∀ (H : Heap) (locs : List Loc), va_P D vwCl (xw cR ax ar ao ad vrd vtr vsd vrn vom voh vol vop voe vow vok vos vso vmi vco vex) H → va_D A (xw cR ax ar ao ad vrd vtr vsd vrn vom voh vol vop voe vow vok vos vso vmi vco vex) → va_S A s.heap H locs → ∀ ls : Array Slot, lv_has ls 6 [(0, .ref ao), (1, .ref (ad i1)), (2, .ref (ad i2)), (3, .int (bI p2)), (4, .int (bI p3))] → W p l e rm_X1_setSum s m args below meth c H locs 0 0 Q (F0 m 13 ls [.int (bI z103)])) := by
    intro z103 ez103 H locs hP hD hS ls hl
    have hs := hs _ ez103
    have hu := hu _ ez103
    refine lv_istore (lv' := [(5, .int (bI z103)), (0, .ref ao), (1, .ref (ad i1)), (2, .ref (ad i2)), (3, .int (bI p2)), (4, .int (bI p3))]) hx hb dX1_setSum_13 hl (by decide) rfl (fun ls hl => ?_)
    refine lv_aload_n hx hb dX1_setSum_15 rfl (lv_at hl 2 rfl) ?_
    refine x_V (As := []) (rest := []) hCF (c_X0_isZero l D cR cI cJ cZ t0 ax ar ao ad vrd vtr vsd vrn vom voh vol vop voe vow vok vos vso vmi vco vex i1 _ rfl hb1) (x_cwV 0 hts (inW_2 _ (List.mem_of_getElem? (i := 0) rfl)) (inW_1 _ (List.mem_of_getElem? (i := 14) rfl)) (inW_1 _ (List.mem_of_getElem? (i := 15) rfl)) (inW_1 _ (List.mem_of_getElem? (i := 16) rfl)) (inW_1 _ (List.mem_of_getElem? (i := 11) rfl)) rfl rfl (by decide +kernel) ⟨Nat.le_of_ble_eq_true rfl, Nat.le_of_ble_eq_true rfl⟩) hK hP hD hS hA hSt (3 + i1) (xw_dat hb1) rfl rfl hl.1 rfl (Nat.le_of_ble_eq_true rfl) dX1_setSum_16 ⟨Nat.le_of_ble_eq_true rfl, Nat.le_of_ble_eq_true rfl⟩ (fun H locs hP hD hS => ?_)
    show W p l e _ s m args below meth c H locs 0 0 Q (F0 m 19 ls (.int (bI (F_X0_isZero vso vco i1)) :: []))
    have J_133 : (∀ z132 : Bool × Int64 × Int64 × Int32 × Bool, z132 = Z_X1_setSum_J_133 vso vmi vco vex i1 i2 p2 z103 → ∀ (H : Heap) (locs : List Loc), va_P D vwCl (xw cR ax ar ao ad vrd vtr vsd vrn z132.1 z132.2.1 z132.2.2.1 z132.2.2.2.1 z132.2.2.2.2 vow vok vos vso vmi vco vex) H → va_D A (xw cR ax ar ao ad vrd vtr vsd vrn z132.1 z132.2.1 z132.2.2.1 z132.2.2.2.1 z132.2.2.2.2 vow vok vos vso vmi vco vex) → va_S A s.heap H locs → ∀ ls : Array Slot, lv_has ls 6 [(0, .ref ao), (1, .ref (ad i1)), (2, .ref (ad i2)), (3, .int (bI p2)), (4, .int (bI p3)), (5, .int (bI z103))] → W p l e rm_X1_setSum s m args below meth c H locs 0 0 Q (F0 m 117 ls [])) := by
      intro z132 ez132 H locs hP hD hS ls hl
      have hu := hu _ ez132
      refine lv_aload_n hx hb dX1_setSum_117 rfl (lv_at hl 0 rfl) ?_
      refine x_V (As := []) (rest := []) hCF (c_X1_isZero l D cR cI cJ cZ t0 ax ar ao ad vrd vtr vsd vrn z132.1 z132.2.1 z132.2.2.1 z132.2.2.2.1 z132.2.2.2.2 vow vok vos vso vmi vco vex _ rfl) (x_cwV 0 hts (inW_2 _ (List.mem_of_getElem? (i := 16) rfl)) (inW_2 _ (List.mem_of_getElem? (i := 17) rfl)) (inW_2 _ (List.mem_of_getElem? (i := 18) rfl)) (inW_2 _ (List.mem_of_getElem? (i := 4) rfl)) (inW_1 _ (List.mem_of_getElem? (i := 19) rfl)) rfl rfl (by decide +kernel) ⟨Nat.le_of_ble_eq_true rfl, Nat.le_of_ble_eq_true rfl⟩) hK hP hD hS hA hSt 2 rfl rfl rfl hl.1 rfl (Nat.le_of_ble_eq_true rfl) dX1_setSum_118 ⟨Nat.le_of_ble_eq_true rfl, Nat.le_of_ble_eq_true rfl⟩ (fun H locs hP hD hS => ?_)
      show W p l e _ s m args below meth c H locs 0 0 Q (F0 m 121 ls (.int (bI (F_X1_isZero z132.2.1 z132.2.2.1 z132.2.2.2.2)) :: []))
      have J_143 : (∀ z142 : Bool, z142 = Z_X1_setSum_J_143 p2 p3 z103 z132 → ∀ (H : Heap) (locs : List Loc), va_P D vwCl (xw cR ax ar ao ad vrd vtr vsd vrn z142 z132.2.1 z132.2.2.1 z132.2.2.2.1 z132.2.2.2.2 vow vok vos vso vmi vco vex) H → va_D A (xw cR ax ar ao ad vrd vtr vsd vrn z142 z132.2.1 z132.2.2.1 z132.2.2.2.1 z132.2.2.2.2 vow vok vos vso vmi vco vex) → va_S A s.heap H locs → ∀ ls : Array Slot, lv_has ls 6 [(0, .ref ao), (1, .ref (ad i1)), (2, .ref (ad i2))] → W p l e rm_X1_setSum s m args below meth c H locs 0 0 Q (F0 m 139 ls [])) := by
        intro z142 ez142 H locs hP hD hS ls hl
        have hu := hu _ ez142
        refine lv_aload_n hx hb dX1_setSum_139 rfl (lv_at hl 0 rfl) ?_
        refine lv_aload_n hx hb dX1_setSum_140 rfl (lv_at hl 1 rfl) ?_
        refine g_ex (i := i1) hx hb hts hi0 hown hK hP hb1 (hts (.fieldLink RX1 35 "DecimalWords$Datum" "exponent" "I") (inW_1 _ (List.mem_of_getElem? (i := 32) rfl))) dX1_setSum_141 ?_
        refine lv_aload_n hx hb dX1_setSum_144 rfl (lv_at hl 2 rfl) ?_
        refine g_ex (i := i2) hx hb hts hi0 hown hK hP hb2 (hts (.fieldLink RX1 35 "DecimalWords$Datum" "exponent" "I") (inW_1 _ (List.mem_of_getElem? (i := 32) rfl))) dX1_setSum_145 ?_
        refine x_min hx hb hml hl.1 hts hown (inW_1 _ (List.mem_of_getElem? (i := 35) rfl)) (inW_1 _ (List.mem_of_getElem? (i := 36) rfl)) (inW_1 _ (List.mem_of_getElem? (i := 37) rfl)) (inW_1 _ (List.mem_of_getElem? (i := 38) rfl)) (Nat.le_of_ble_eq_true rfl) (Nat.le_of_ble_eq_true rfl) (Nat.le_of_ble_eq_true rfl) (Nat.le_of_ble_eq_true rfl) dX1_setSum_148 ?_
        refine lv_topi (fun f144 ef144 => ?_)
        have hu := hu _ ef144
        refine va_put (D := D) (ci := 3) (v := .int f144) (ty := .int) (C := RX1) (T := TX1) (N := 8) hx hb hts hi1 tyX1 tyX1_ok nmX1 hown hK hP hD hS 2 rfl rfl 5 (by decide) (hts (.fieldLink RX1 61 "DecimalWords$Outcome" "wish" "I") (inW_1 _ (List.mem_of_getElem? (i := 39) rfl))) (fun _ h9 => h9) rfl (by decide +kernel) rfl rfl (Nat.le_of_ble_eq_true rfl) dX1_setSum_151 (fun H locs hP hD hS => ?_)
        have hP : va_P D vwCl (xw cR ax ar ao ad vrd vtr vsd vrn z142 z132.2.1 z132.2.2.1 z132.2.2.2.1 z132.2.2.2.2 f144 vok vos vso vmi vco vex) H := hP
        have hD : va_D A (xw cR ax ar ao ad vrd vtr vsd vrn z142 z132.2.1 z132.2.2.1 z132.2.2.2.1 z132.2.2.2.2 f144 vok vos vso vmi vco vex) := hD
        have e9 := Eq.symm hu; subst e9
        exact x_vret hx hb hr hlocks hQ hK hP hD hS rfl dX1_setSum_154
      obtain ⟨z9, ez9⟩ : ∃ y9 : Bool, y9 = Z_X1_setSum_J_143 p2 p3 z103 z132 := ⟨_, rfl⟩
      have hz := rZ_X1_setSum_J_143 p2 p3 z103 z132 ez9
      unfold RZ_X1_setSum_J_143 at hz
      refine xb_eq (tgt := 139) hx hb dX1_setSum_121 (by decide) (fun c_135 => ?_) (fun c_135 => ?_)
      · rw [if_neg c_135] at hz
        have e9 := Eq.symm hz; subst e9
        exact J_143 _ ez9 H locs hP hD hS ls (lv_sub hl [0, 1, 2] rfl)
      · rw [if_pos c_135] at hz
        refine lv_aload_n hx hb dX1_setSum_124 rfl (lv_at hl 0 rfl) ?_
        refine lv_iload hx hb dX1_setSum_125 (lv_at hl 5 rfl) ?_
        have J_139 : (∀ z138 : Bool, z138 = Z_X1_setSum_J_139 p2 p3 z103 → ∀ (H : Heap) (locs : List Loc), va_P D vwCl (xw cR ax ar ao ad vrd vtr vsd vrn z132.1 z132.2.1 z132.2.2.1 z132.2.2.2.1 z132.2.2.2.2 vow vok vos vso vmi vco vex) H → va_D A (xw cR ax ar ao ad vrd vtr vsd vrn z132.1 z132.2.1 z132.2.2.1 z132.2.2.2.1 z132.2.2.2.2 vow vok vos vso vmi vco vex) → va_S A s.heap H locs → ∀ ls : Array Slot, lv_has ls 6 [(0, .ref ao), (1, .ref (ad i1)), (2, .ref (ad i2))] → W p l e rm_X1_setSum s m args below meth c H locs 0 0 Q (F0 m 136 ls [.int (bI z138), .ref ao])) := by
          intro z138 ez138 H locs hP hD hS ls hl
          have hz := hz _ ez138
          refine va_put (D := D) (ci := 3) (v := .int (bI z138)) (ty := .boolean) (C := RX1) (T := TX1) (N := 8) hx hb hts hi1 tyX1 tyX1_ok nmX1 hown hK hP hD hS 2 rfl rfl 0 (by decide) (hts (.fieldLink RX1 31 "DecimalWords$Outcome" "minus" "Z") (inW_1 _ (List.mem_of_getElem? (i := 30) rfl))) (fun _ h9 => h9) rfl (by decide +kernel) (bI_nar z138) (bI_fit z138) (Nat.le_of_ble_eq_true rfl) dX1_setSum_136 (fun H locs hP hD hS => ?_)
          have hP : va_P D vwCl (xw cR ax ar ao ad vrd vtr vsd vrn z138 z132.2.1 z132.2.2.1 z132.2.2.2.1 z132.2.2.2.2 vow vok vos vso vmi vco vex) H := hP
          have hD : va_D A (xw cR ax ar ao ad vrd vtr vsd vrn z138 z132.2.1 z132.2.2.1 z132.2.2.2.1 z132.2.2.2.2 vow vok vos vso vmi vco vex) := hD
          have e9 := Eq.symm hz; subst e9
          exact J_143 _ ez9 H locs hP hD hS ls (lv_sub hl [0, 1, 2] rfl)
        obtain ⟨z9, ez9⟩ : ∃ y9 : Bool, y9 = Z_X1_setSum_J_139 p2 p3 z103 := ⟨_, rfl⟩
        have hz := rZ_X1_setSum_J_139 p2 p3 z103 ez9
        unfold RZ_X1_setSum_J_139 at hz
        refine xb_eq (tgt := 134) hx hb dX1_setSum_127 (by decide) (fun c_136 => ?_) (fun c_136 => ?_)
        · rw [if_neg c_136] at hz
          refine lv_iload hx hb dX1_setSum_134 (lv_at hl 4 rfl) ?_
          have e9 := Eq.symm hz; subst e9
          exact J_139 _ ez9 H locs hP hD hS ls (lv_sub hl [0, 1, 2] rfl)
        · rw [if_pos c_136] at hz
          refine lv_iload_n hx hb dX1_setSum_130 rfl (lv_at hl 3 rfl) ?_
          refine lv_goto (tgt := 136) hx hb dX1_setSum_131 (by decide) ?_
          have e9 := Eq.symm hz; subst e9
          exact J_139 _ ez9 H locs hP hD hS ls (lv_sub hl [0, 1, 2] rfl)
    obtain ⟨z9, ez9⟩ : ∃ y9 : Bool × Int64 × Int64 × Int32 × Bool, y9 = Z_X1_setSum_J_133 vso vmi vco vex i1 i2 p2 z103 := ⟨_, rfl⟩
    have hz := rZ_X1_setSum_J_133 vso vmi vco vex i1 i2 p2 z103 ez9
    unfold RZ_X1_setSum_J_133 at hz
    refine xb_eq (tgt := 35) hx hb dX1_setSum_19 (by decide) (fun c_106 => ?_) (fun c_106 => ?_)
    · rw [if_neg c_106] at hs
      rw [if_neg c_106] at hz
      refine lv_aload_n hx hb dX1_setSum_35 rfl (lv_at hl 3 rfl) ?_
      refine x_V (As := []) (rest := []) hCF (c_X0_isZero l D cR cI cJ cZ t0 ax ar ao ad vrd vtr vsd vrn vom voh vol vop voe vow vok vos vso vmi vco vex i2 _ rfl hb2) (x_cwV 0 hts (inW_2 _ (List.mem_of_getElem? (i := 0) rfl)) (inW_1 _ (List.mem_of_getElem? (i := 14) rfl)) (inW_1 _ (List.mem_of_getElem? (i := 15) rfl)) (inW_1 _ (List.mem_of_getElem? (i := 16) rfl)) (inW_1 _ (List.mem_of_getElem? (i := 11) rfl)) rfl rfl (by decide +kernel) ⟨Nat.le_of_ble_eq_true rfl, Nat.le_of_ble_eq_true rfl⟩) hK hP hD hS hA hSt (3 + i2) (xw_dat hb2) rfl rfl hl.1 rfl (Nat.le_of_ble_eq_true rfl) dX1_setSum_36 ⟨Nat.le_of_ble_eq_true rfl, Nat.le_of_ble_eq_true rfl⟩ (fun H locs hP hD hS => ?_)
      show W p l e _ s m args below meth c H locs 0 0 Q (F0 m 39 ls (.int (bI (F_X0_isZero vso vco i2)) :: []))
      refine xb_eq (tgt := 50) hx hb dX1_setSum_39 (by decide) (fun c_108 => ?_) (fun c_108 => ?_)
      · rw [if_neg c_108] at hs
        rw [if_neg c_108] at hz
        refine lv_aload_n hx hb dX1_setSum_50 rfl (lv_at hl 2 rfl) ?_
        refine g_ex (i := i1) hx hb hts hi0 hown hK hP hb1 (hts (.fieldLink RX1 35 "DecimalWords$Datum" "exponent" "I") (inW_1 _ (List.mem_of_getElem? (i := 32) rfl))) dX1_setSum_51 ?_
        refine lv_aload_n hx hb dX1_setSum_54 rfl (lv_at hl 3 rfl) ?_
        refine g_ex (i := i2) hx hb hts hi0 hown hK hP hb2 (hts (.fieldLink RX1 35 "DecimalWords$Datum" "exponent" "I") (inW_1 _ (List.mem_of_getElem? (i := 32) rfl))) dX1_setSum_55 ?_
        refine lv_icmp_lt (tgt := 92) hx hb dX1_setSum_58 (by decide) (fun c_109 => ?_) (fun c_109 => ?_)
        · rw [if_pos c_109] at hs
          rw [if_pos c_109] at hz
          refine lv_aload_n hx hb dX1_setSum_92 rfl (lv_at hl 1 rfl) ?_
          refine lv_aload_n hx hb dX1_setSum_93 rfl (lv_at hl 3 rfl) ?_
          refine lv_aload_n hx hb dX1_setSum_94 rfl (lv_at hl 2 rfl) ?_
          refine lv_iload hx hb dX1_setSum_95 (lv_at hl 0 rfl) ?_
          have h_110 := hs
          obtain ⟨u111, eu111⟩ : ∃ y9 : Bool × Int64 × Int64 × Int32 × Bool, y9 = F_X1_join vco vex i2 i1 z103 := ⟨_, rfl⟩
          have hz := hz _ eu111
          refine x_V (As := [.ref (ad i2), .ref (ad i1), .int (bI z103)]) (rest := []) hCF (c_X1_join l D cR cI cJ cZ t0 ax ar ao ad vrd vtr vsd vrn vom voh vol vop voe vow vok vos vso vmi vco vex i2 i1 z103 u111 eu111 h_110 hb2 hb1) (x_cwV 3 hts (inW_2 _ (List.mem_of_getElem? (i := 5) rfl)) (inW_2 _ (List.mem_of_getElem? (i := 6) rfl)) (inW_2 _ (List.mem_of_getElem? (i := 7) rfl)) (inW_2 _ (List.mem_of_getElem? (i := 4) rfl)) (inW_2 _ (List.mem_of_getElem? (i := 8) rfl)) rfl rfl (by decide +kernel) ⟨Nat.le_of_ble_eq_true rfl, Nat.le_of_ble_eq_true rfl⟩) hK hP hD hS hA hSt 2 rfl rfl rfl hl.1 rfl (Nat.le_of_ble_eq_true rfl) dX1_setSum_97 ⟨Nat.le_of_ble_eq_true rfl, Nat.le_of_ble_eq_true rfl⟩ (fun H locs hP hD hS => ?_)
          show W p l e _ s m args below meth c H locs 0 0 Q (F0 m 100 ls [])
          refine lv_aload_n hx hb dX1_setSum_100 rfl (lv_at hl 1 rfl) ?_
          refine lv_iload_n hx hb dX1_setSum_101 rfl (lv_at hl 4 rfl) ?_
          refine lv_aload_n hx hb dX1_setSum_102 rfl (lv_at hl 1 rfl) ?_
          refine va_get (D := D) (ci := 3) (v := .int (bI u111.1)) (C := RX1) (T := TX1) (N := 8) hx hb hts hi1 hown hK hP 2 rfl rfl 0 (by decide) (hts (.fieldLink RX1 31 "DecimalWords$Outcome" "minus" "Z") (inW_1 _ (List.mem_of_getElem? (i := 30) rfl))) (fun _ h9 => h9) rfl dX1_setSum_103 ?_
          have J_116 : (∀ z115 : Bool, z115 = Z_X1_setSum_J_116 p2 u111 → ∀ (H : Heap) (locs : List Loc), va_P D vwCl (xw cR ax ar ao ad vrd vtr vsd vrn u111.1 u111.2.1 u111.2.2.1 u111.2.2.2.1 u111.2.2.2.2 vow vok vos vso vmi vco vex) H → va_D A (xw cR ax ar ao ad vrd vtr vsd vrn u111.1 u111.2.1 u111.2.2.1 u111.2.2.2.1 u111.2.2.2.2 vow vok vos vso vmi vco vex) → va_S A s.heap H locs → ∀ ls : Array Slot, lv_has ls 6 [(0, .ref ao), (1, .ref (ad i1)), (2, .ref (ad i2)), (3, .int (bI p2)), (4, .int (bI p3)), (5, .int (bI z103))] → W p l e rm_X1_setSum s m args below meth c H locs 0 0 Q (F0 m 114 ls [.int (bI z115), .ref ao])) := by
            intro z115 ez115 H locs hP hD hS ls hl
            have hz := hz _ ez115
            refine va_put (D := D) (ci := 3) (v := .int (bI z115)) (ty := .boolean) (C := RX1) (T := TX1) (N := 8) hx hb hts hi1 tyX1 tyX1_ok nmX1 hown hK hP hD hS 2 rfl rfl 0 (by decide) (hts (.fieldLink RX1 31 "DecimalWords$Outcome" "minus" "Z") (inW_1 _ (List.mem_of_getElem? (i := 30) rfl))) (fun _ h9 => h9) rfl (by decide +kernel) (bI_nar z115) (bI_fit z115) (Nat.le_of_ble_eq_true rfl) dX1_setSum_114 (fun H locs hP hD hS => ?_)
            have hP : va_P D vwCl (xw cR ax ar ao ad vrd vtr vsd vrn z115 u111.2.1 u111.2.2.1 u111.2.2.2.1 u111.2.2.2.2 vow vok vos vso vmi vco vex) H := hP
            have hD : va_D A (xw cR ax ar ao ad vrd vtr vsd vrn z115 u111.2.1 u111.2.2.1 u111.2.2.2.1 u111.2.2.2.2 vow vok vos vso vmi vco vex) := hD
            have e9 := Eq.symm hz; subst e9
            exact J_133 _ ez9 H locs hP hD hS ls (lv_sub hl [0, 1, 2, 3, 4, 5] rfl)
          obtain ⟨z9, ez9⟩ : ∃ y9 : Bool, y9 = Z_X1_setSum_J_116 p2 u111 := ⟨_, rfl⟩
          have hz := rZ_X1_setSum_J_116 p2 u111 ez9
          unfold RZ_X1_setSum_J_116 at hz
          refine xbb_eq (tgt := 113) hx hb dX1_setSum_106 (by decide) (fun c_113 => ?_) (fun c_113 => ?_)
          · rw [if_pos c_113] at hz
            refine lv_iconst (v := 0) hx hb dX1_setSum_113 (by decide) ?_
            have e9 := Eq.symm hz; subst e9
            exact J_116 _ ez9 H locs hP hD hS ls (lv_sub hl [1, 2, 3, 4, 5, 0] rfl)
          · rw [if_neg c_113] at hz
            refine lv_iconst (v := 1) hx hb dX1_setSum_109 (by decide) ?_
            refine lv_goto (tgt := 114) hx hb dX1_setSum_110 (by decide) ?_
            have e9 := Eq.symm hz; subst e9
            exact J_116 _ ez9 H locs hP hD hS ls (lv_sub hl [1, 2, 3, 4, 5, 0] rfl)
        · rw [if_neg c_109] at hs
          rw [if_neg c_109] at hz
          refine lv_aload_n hx hb dX1_setSum_61 rfl (lv_at hl 1 rfl) ?_
          refine lv_aload_n hx hb dX1_setSum_62 rfl (lv_at hl 2 rfl) ?_
          refine lv_aload_n hx hb dX1_setSum_63 rfl (lv_at hl 3 rfl) ?_
          refine lv_iload hx hb dX1_setSum_64 (lv_at hl 0 rfl) ?_
          have h_118 := hs
          obtain ⟨u119, eu119⟩ : ∃ y9 : Bool × Int64 × Int64 × Int32 × Bool, y9 = F_X1_join vco vex i1 i2 z103 := ⟨_, rfl⟩
          have hz := hz _ eu119
          refine x_V (As := [.ref (ad i1), .ref (ad i2), .int (bI z103)]) (rest := []) hCF (c_X1_join l D cR cI cJ cZ t0 ax ar ao ad vrd vtr vsd vrn vom voh vol vop voe vow vok vos vso vmi vco vex i1 i2 z103 u119 eu119 h_118 hb1 hb2) (x_cwV 3 hts (inW_2 _ (List.mem_of_getElem? (i := 5) rfl)) (inW_2 _ (List.mem_of_getElem? (i := 6) rfl)) (inW_2 _ (List.mem_of_getElem? (i := 7) rfl)) (inW_2 _ (List.mem_of_getElem? (i := 4) rfl)) (inW_2 _ (List.mem_of_getElem? (i := 8) rfl)) rfl rfl (by decide +kernel) ⟨Nat.le_of_ble_eq_true rfl, Nat.le_of_ble_eq_true rfl⟩) hK hP hD hS hA hSt 2 rfl rfl rfl hl.1 rfl (Nat.le_of_ble_eq_true rfl) dX1_setSum_66 ⟨Nat.le_of_ble_eq_true rfl, Nat.le_of_ble_eq_true rfl⟩ (fun H locs hP hD hS => ?_)
          show W p l e _ s m args below meth c H locs 0 0 Q (F0 m 69 ls [])
          refine lv_aload_n hx hb dX1_setSum_69 rfl (lv_at hl 1 rfl) ?_
          refine lv_aload_n hx hb dX1_setSum_70 rfl (lv_at hl 2 rfl) ?_
          refine g_mi (i := i1) hx hb hts hi0 hown hK hP hb1 (hts (.fieldLink RX1 26 "DecimalWords$Datum" "minus" "Z") (inW_1 _ (List.mem_of_getElem? (i := 29) rfl))) dX1_setSum_71 ?_
          refine lv_aload_n hx hb dX1_setSum_74 rfl (lv_at hl 1 rfl) ?_
          refine va_get (D := D) (ci := 3) (v := .int (bI u119.1)) (C := RX1) (T := TX1) (N := 8) hx hb hts hi1 hown hK hP 2 rfl rfl 0 (by decide) (hts (.fieldLink RX1 31 "DecimalWords$Outcome" "minus" "Z") (inW_1 _ (List.mem_of_getElem? (i := 30) rfl))) (fun _ h9 => h9) rfl dX1_setSum_75 ?_
          have J_124 : (∀ z123 : Bool, z123 = Z_X1_setSum_J_124 vmi i1 u119 → ∀ (H : Heap) (locs : List Loc), va_P D vwCl (xw cR ax ar ao ad vrd vtr vsd vrn u119.1 u119.2.1 u119.2.2.1 u119.2.2.2.1 u119.2.2.2.2 vow vok vos vso vmi vco vex) H → va_D A (xw cR ax ar ao ad vrd vtr vsd vrn u119.1 u119.2.1 u119.2.2.1 u119.2.2.2.1 u119.2.2.2.2 vow vok vos vso vmi vco vex) → va_S A s.heap H locs → ∀ ls : Array Slot, lv_has ls 6 [(0, .ref ao), (1, .ref (ad i1)), (2, .ref (ad i2)), (3, .int (bI p2)), (4, .int (bI p3)), (5, .int (bI z103))] → W p l e rm_X1_setSum s m args below meth c H locs 0 0 Q (F0 m 86 ls [.int (bI z123), .ref ao])) := by
            intro z123 ez123 H locs hP hD hS ls hl
            have hz := hz _ ez123
            refine va_put (D := D) (ci := 3) (v := .int (bI z123)) (ty := .boolean) (C := RX1) (T := TX1) (N := 8) hx hb hts hi1 tyX1 tyX1_ok nmX1 hown hK hP hD hS 2 rfl rfl 0 (by decide) (hts (.fieldLink RX1 31 "DecimalWords$Outcome" "minus" "Z") (inW_1 _ (List.mem_of_getElem? (i := 30) rfl))) (fun _ h9 => h9) rfl (by decide +kernel) (bI_nar z123) (bI_fit z123) (Nat.le_of_ble_eq_true rfl) dX1_setSum_86 (fun H locs hP hD hS => ?_)
            have hP : va_P D vwCl (xw cR ax ar ao ad vrd vtr vsd vrn z123 u119.2.1 u119.2.2.1 u119.2.2.2.1 u119.2.2.2.2 vow vok vos vso vmi vco vex) H := hP
            have hD : va_D A (xw cR ax ar ao ad vrd vtr vsd vrn z123 u119.2.1 u119.2.2.1 u119.2.2.2.1 u119.2.2.2.2 vow vok vos vso vmi vco vex) := hD
            refine lv_goto (tgt := 117) hx hb dX1_setSum_89 (by decide) ?_
            have e9 := Eq.symm hz; subst e9
            exact J_133 _ ez9 H locs hP hD hS ls (lv_sub hl [0, 1, 2, 3, 4, 5] rfl)
          obtain ⟨z9, ez9⟩ : ∃ y9 : Bool, y9 = Z_X1_setSum_J_124 vmi i1 u119 := ⟨_, rfl⟩
          have hz := rZ_X1_setSum_J_124 vmi i1 u119 ez9
          unfold RZ_X1_setSum_J_124 at hz
          refine xbb_eq (tgt := 85) hx hb dX1_setSum_78 (by decide) (fun c_121 => ?_) (fun c_121 => ?_)
          · rw [if_pos c_121] at hz
            refine lv_iconst (v := 0) hx hb dX1_setSum_85 (by decide) ?_
            have e9 := Eq.symm hz; subst e9
            exact J_124 _ ez9 H locs hP hD hS ls (lv_sub hl [1, 2, 3, 4, 5, 0] rfl)
          · rw [if_neg c_121] at hz
            refine lv_iconst (v := 1) hx hb dX1_setSum_81 (by decide) ?_
            refine lv_goto (tgt := 86) hx hb dX1_setSum_82 (by decide) ?_
            have e9 := Eq.symm hz; subst e9
            exact J_124 _ ez9 H locs hP hD hS ls (lv_sub hl [1, 2, 3, 4, 5, 0] rfl)
      · rw [if_pos c_108] at hz
        refine lv_aload_n hx hb dX1_setSum_42 rfl (lv_at hl 1 rfl) ?_
        refine lv_aload_n hx hb dX1_setSum_43 rfl (lv_at hl 2 rfl) ?_
        obtain ⟨u126, eu126⟩ : ∃ y9 : Bool × Int64 × Int64 × Int32 × Bool, y9 = F_X1_setWhole vmi vco vex i1 := ⟨_, rfl⟩
        have hz := hz _ eu126
        refine x_V (As := [.ref (ad i1)]) (rest := []) hCF (c_X1_setWhole l D cR cI cJ cZ t0 ax ar ao ad vrd vtr vsd vrn vom voh vol vop voe vow vok vos vso vmi vco vex i1 u126 eu126 hb1) (x_cwV 1 hts (inW_2 _ (List.mem_of_getElem? (i := 1) rfl)) (inW_2 _ (List.mem_of_getElem? (i := 2) rfl)) (inW_2 _ (List.mem_of_getElem? (i := 3) rfl)) (inW_2 _ (List.mem_of_getElem? (i := 4) rfl)) (inW_1 _ (List.mem_of_getElem? (i := 28) rfl)) rfl rfl (by decide +kernel) ⟨Nat.le_of_ble_eq_true rfl, Nat.le_of_ble_eq_true rfl⟩) hK hP hD hS hA hSt 2 rfl rfl rfl hl.1 rfl (Nat.le_of_ble_eq_true rfl) dX1_setSum_44 ⟨Nat.le_of_ble_eq_true rfl, Nat.le_of_ble_eq_true rfl⟩ (fun H locs hP hD hS => ?_)
        show W p l e _ s m args below meth c H locs 0 0 Q (F0 m 47 ls [])
        refine lv_goto (tgt := 117) hx hb dX1_setSum_47 (by decide) ?_
        have e9 := Eq.symm hz; subst e9
        exact J_133 _ ez9 H locs hP hD hS ls (lv_sub hl [1, 2, 3, 4, 5, 0] rfl)
    · rw [if_pos c_106] at hz
      refine lv_aload_n hx hb dX1_setSum_22 rfl (lv_at hl 1 rfl) ?_
      refine lv_aload_n hx hb dX1_setSum_23 rfl (lv_at hl 3 rfl) ?_
      obtain ⟨u128, eu128⟩ : ∃ y9 : Bool × Int64 × Int64 × Int32 × Bool, y9 = F_X1_setWhole vmi vco vex i2 := ⟨_, rfl⟩
      have hz := hz _ eu128
      refine x_V (As := [.ref (ad i2)]) (rest := []) hCF (c_X1_setWhole l D cR cI cJ cZ t0 ax ar ao ad vrd vtr vsd vrn vom voh vol vop voe vow vok vos vso vmi vco vex i2 u128 eu128 hb2) (x_cwV 1 hts (inW_2 _ (List.mem_of_getElem? (i := 1) rfl)) (inW_2 _ (List.mem_of_getElem? (i := 2) rfl)) (inW_2 _ (List.mem_of_getElem? (i := 3) rfl)) (inW_2 _ (List.mem_of_getElem? (i := 4) rfl)) (inW_1 _ (List.mem_of_getElem? (i := 28) rfl)) rfl rfl (by decide +kernel) ⟨Nat.le_of_ble_eq_true rfl, Nat.le_of_ble_eq_true rfl⟩) hK hP hD hS hA hSt 2 rfl rfl rfl hl.1 rfl (Nat.le_of_ble_eq_true rfl) dX1_setSum_24 ⟨Nat.le_of_ble_eq_true rfl, Nat.le_of_ble_eq_true rfl⟩ (fun H locs hP hD hS => ?_)
      show W p l e _ s m args below meth c H locs 0 0 Q (F0 m 27 ls [])
      refine lv_aload_n hx hb dX1_setSum_27 rfl (lv_at hl 1 rfl) ?_
      refine lv_iload_n hx hb dX1_setSum_28 rfl (lv_at hl 4 rfl) ?_
      refine va_put (D := D) (ci := 3) (v := .int (bI p2)) (ty := .boolean) (C := RX1) (T := TX1) (N := 8) hx hb hts hi1 tyX1 tyX1_ok nmX1 hown hK hP hD hS 2 rfl rfl 0 (by decide) (hts (.fieldLink RX1 31 "DecimalWords$Outcome" "minus" "Z") (inW_1 _ (List.mem_of_getElem? (i := 30) rfl))) (fun _ h9 => h9) rfl (by decide +kernel) (bI_nar p2) (bI_fit p2) (Nat.le_of_ble_eq_true rfl) dX1_setSum_29 (fun H locs hP hD hS => ?_)
      have hP : va_P D vwCl (xw cR ax ar ao ad vrd vtr vsd vrn p2 u128.2.1 u128.2.2.1 u128.2.2.2.1 u128.2.2.2.2 vow vok vos vso vmi vco vex) H := hP
      have hD : va_D A (xw cR ax ar ao ad vrd vtr vsd vrn p2 u128.2.1 u128.2.2.1 u128.2.2.2.1 u128.2.2.2.2 vow vok vos vso vmi vco vex) := hD
      refine lv_goto (tgt := 117) hx hb dX1_setSum_32 (by decide) ?_
      have e9 := Eq.symm hz; subst e9
      exact J_133 _ ez9 H locs hP hD hS ls (lv_sub hl [1, 2, 3, 4, 5, 0] rfl)
  obtain ⟨z9, ez9⟩ : ∃ y9 : Bool, y9 = Z_X1_setSum_J_104 vmi i1 p2 := ⟨_, rfl⟩
  have hz := rZ_X1_setSum_J_104 vmi i1 p2 ez9
  unfold RZ_X1_setSum_J_104 at hz
  refine xbb_ne (tgt := 12) hx hb dX1_setSum_5 (by decide) (fun c_101 => ?_) (fun c_101 => ?_)
  · rw [if_neg c_101] at hz
    refine lv_iconst (v := 0) hx hb dX1_setSum_12 (by decide) ?_
    have e9 := Eq.symm hz; subst e9
    exact J_104 _ ez9 H locs hP hD hS ls (lv_sub hl [0, 1, 2, 3, 4] rfl)
  · rw [if_pos c_101] at hz
    refine lv_iconst (v := 1) hx hb dX1_setSum_8 (by decide) ?_
    refine lv_goto (tgt := 13) hx hb dX1_setSum_9 (by decide) ?_
    have e9 := Eq.symm hz; subst e9
    exact J_104 _ ez9 H locs hP hD hS ls (lv_sub hl [0, 1, 2, 3, 4] rfl)

def B_X1_setQuotient_59 (n101 : Int64) (t_59 : Int64 × Int32 × Int32) : Int64 × Int32 × Int32 := (if 16 ≤ t_59.2.1 then t_59 else (if n101 ≤ t_59.1 then t_59 else (bnd (t_59.1 * 10) (fun n113 : Int64 => (bnd (t_59.2.2 - 1) (fun f114 : Int32 => (bnd (t_59.2.1 + 1) (fun n116 : Int32 => (n113, n116, f114)))))))))
def G_X1_setQuotient_59 (n101 : Int64) (t_59 : Int64 × Int32 × Int32) : Bool := (if 16 ≤ t_59.2.1 then false else (if n101 ≤ t_59.1 then false else (bnd (t_59.1 * 10) (fun n113 : Int64 => (bnd (t_59.2.2 - 1) (fun f114 : Int32 => (bnd (t_59.2.1 + 1) (fun n116 : Int32 => true))))))))
def RB_X1_setQuotient_59 (n101 : Int64) (t_59 : Int64 × Int32 × Int32) (u9 : Int64 × Int32 × Int32) : Prop := (if 16 ≤ t_59.2.1 then True else (if n101 ≤ t_59.1 then True else (∀ n113 : Int64, n113 = t_59.1 * 10 → (∀ f114 : Int32, f114 = t_59.2.2 - 1 → (∀ n116 : Int32, n116 = t_59.2.1 + 1 → u9 = (n113, n116, f114))))))
def RG_X1_setQuotient_59 (n101 : Int64) (t_59 : Int64 × Int32 × Int32) (u9 : Bool) : Prop := (if 16 ≤ t_59.2.1 then u9 = false else (if n101 ≤ t_59.1 then u9 = false else u9 = true))
theorem rB_X1_setQuotient_59 (n101 : Int64) (t_59 : Int64 × Int32 × Int32) {u9 : Int64 × Int32 × Int32} (hu : u9 = B_X1_setQuotient_59 n101 t_59) : RB_X1_setQuotient_59 n101 t_59 u9 := by
  unfold RB_X1_setQuotient_59
  refine ite_P (fun c_111 => ?_) (fun c_111 => ?_)
  · have hu := hu.trans (if_pos c_111)
    trivial
  · have hu := hu.trans (if_neg c_111)
    refine ite_P (fun c_112 => ?_) (fun c_112 => ?_)
    · have hu := hu.trans (if_pos c_112)
      trivial
    · have hu := hu.trans (if_neg c_112)
      intro n113 en113
      have hu := bnd_n hu en113
      intro f114 ef114
      have hu := bnd_n hu ef114
      intro n116 en116
      have hu := bnd_n hu en116
      exact hu
theorem rG_X1_setQuotient_59 (n101 : Int64) (t_59 : Int64 × Int32 × Int32) {u9 : Bool} (hu : u9 = G_X1_setQuotient_59 n101 t_59) : RG_X1_setQuotient_59 n101 t_59 u9 := by
  unfold RG_X1_setQuotient_59
  refine ite_P (fun c_111 => ?_) (fun c_111 => ?_)
  · have hu := hu.trans (if_pos c_111)
    exact hu
  · have hu := hu.trans (if_neg c_111)
    refine ite_P (fun c_112 => ?_) (fun c_112 => ?_)
    · have hu := hu.trans (if_pos c_112)
      exact hu
    · have hu := hu.trans (if_neg c_112)
      exact hu
def B_X1_setQuotient_119 (n101 : Int64) (t_119 : Int64 × Int32 × Int64 × Int32) : Int64 × Int32 × Int64 × Int32 := (if 16 ≤ t_119.2.1 then t_119 else (bnd (t_119.1 * 10) (fun n129 : Int64 => (bnd ((t_119.2.2.1 * 10) + (n129 / n101)) (fun f131 : Int64 => (bnd (jremL n129 n101) (fun n133 : Int64 => (bnd (t_119.2.2.2 - 1) (fun f134 : Int32 => (bnd (t_119.2.1 + 1) (fun n136 : Int32 => (n133, n136, f131, f134))))))))))))
def G_X1_setQuotient_119 (n101 : Int64) (t_119 : Int64 × Int32 × Int64 × Int32) : Bool := (if 16 ≤ t_119.2.1 then false else (bnd (t_119.1 * 10) (fun n129 : Int64 => (bnd ((t_119.2.2.1 * 10) + (n129 / n101)) (fun f131 : Int64 => (bnd (jremL n129 n101) (fun n133 : Int64 => (bnd (t_119.2.2.2 - 1) (fun f134 : Int32 => (bnd (t_119.2.1 + 1) (fun n136 : Int32 => true)))))))))))
def RB_X1_setQuotient_119 (n101 : Int64) (t_119 : Int64 × Int32 × Int64 × Int32) (u9 : Int64 × Int32 × Int64 × Int32) : Prop := (if 16 ≤ t_119.2.1 then True else (∀ n129 : Int64, n129 = t_119.1 * 10 → (∀ f131 : Int64, f131 = (t_119.2.2.1 * 10) + (n129 / n101) → (∀ n133 : Int64, n133 = jremL n129 n101 → (∀ f134 : Int32, f134 = t_119.2.2.2 - 1 → (∀ n136 : Int32, n136 = t_119.2.1 + 1 → u9 = (n133, n136, f131, f134)))))))
def RG_X1_setQuotient_119 (n101 : Int64) (t_119 : Int64 × Int32 × Int64 × Int32) (u9 : Bool) : Prop := (if 16 ≤ t_119.2.1 then u9 = false else u9 = true)
theorem rB_X1_setQuotient_119 (n101 : Int64) (t_119 : Int64 × Int32 × Int64 × Int32) {u9 : Int64 × Int32 × Int64 × Int32} (hu : u9 = B_X1_setQuotient_119 n101 t_119) : RB_X1_setQuotient_119 n101 t_119 u9 := by
  unfold RB_X1_setQuotient_119
  refine ite_P (fun c_128 => ?_) (fun c_128 => ?_)
  · have hu := hu.trans (if_pos c_128)
    trivial
  · have hu := hu.trans (if_neg c_128)
    intro n129 en129
    have hu := bnd_n hu en129
    intro f131 ef131
    have hu := bnd_n hu ef131
    intro n133 en133
    have hu := bnd_n hu en133
    intro f134 ef134
    have hu := bnd_n hu ef134
    intro n136 en136
    have hu := bnd_n hu en136
    exact hu
theorem rG_X1_setQuotient_119 (n101 : Int64) (t_119 : Int64 × Int32 × Int64 × Int32) {u9 : Bool} (hu : u9 = G_X1_setQuotient_119 n101 t_119) : RG_X1_setQuotient_119 n101 t_119 u9 := by
  unfold RG_X1_setQuotient_119
  refine ite_P (fun c_128 => ?_) (fun c_128 => ?_)
  · have hu := hu.trans (if_pos c_128)
    exact hu
  · have hu := hu.trans (if_neg c_128)
    exact hu
def SB_X1_setQuotient_119 (n101 : Int64) (t_119 : Int64 × Int32 × Int64 × Int32) : Prop := (if 16 ≤ t_119.2.1 then True else (∀ n129 : Int64, n129 = t_119.1 * 10 → ¬ n101 = 0))
def Z_X1_setQuotient_J_145 (z137 : Int64 × Int32 × Int64 × Int32) : Bool := (if z137.1 = 0 then false else true)
def RZ_X1_setQuotient_J_145 (z137 : Int64 × Int32 × Int64 × Int32) (u9 : Bool) : Prop := (if z137.1 = 0 then u9 = false else u9 = true)
theorem rZ_X1_setQuotient_J_145 (z137 : Int64 × Int32 × Int64 × Int32) {u9 : Bool} (hu : u9 = Z_X1_setQuotient_J_145 z137) : RZ_X1_setQuotient_J_145 z137 u9 := by
  unfold RZ_X1_setQuotient_J_145
  refine ite_P (fun c_142 => ?_) (fun c_142 => ?_)
  · have hu := hu.trans (if_pos c_142)
    exact hu
  · have hu := hu.trans (if_neg c_142)
    exact hu
def Z_X1_setQuotient_J_106 (vmi : Nat → Bool) (i1 : Nat) (i2 : Nat) : Bool := (if vmi i1 = vmi i2 then false else true)
def RZ_X1_setQuotient_J_106 (vmi : Nat → Bool) (i1 : Nat) (i2 : Nat) (u9 : Bool) : Prop := (if vmi i1 = vmi i2 then u9 = false else u9 = true)
theorem rZ_X1_setQuotient_J_106 (vmi : Nat → Bool) (i1 : Nat) (i2 : Nat) {u9 : Bool} (hu : u9 = Z_X1_setQuotient_J_106 vmi i1 i2) : RZ_X1_setQuotient_J_106 vmi i1 i2 u9 := by
  unfold RZ_X1_setQuotient_J_106
  refine ite_P (fun c_103 => ?_) (fun c_103 => ?_)
  · have hu := hu.trans (if_pos c_103)
    exact hu
  · have hu := hu.trans (if_neg c_103)
    exact hu
def F_X1_setQuotient (vmi : Nat → Bool) (vco : Nat → Int64) (vex : Nat → Int32) (i1 : Nat) (i2 : Nat) : Bool × Int64 × Int64 × Int32 × Bool × Int32 := (bnd (jmaxL 1 (vco i2)) (fun n101 : Int64 => (bnd (vco i1) (fun n102 : Int64 => (bnd (Z_X1_setQuotient_J_106 vmi i1 i2) (fun z105 : Bool => (bnd ((vex i1) - (vex i2)) (fun f108 : Int32 => (bnd (wl (G_X1_setQuotient_59 n101) (B_X1_setQuotient_59 n101) 17 (n102, 0, f108)) (fun z117 : Int64 × Int32 × Int32 => (bnd (z117.1 / n101) (fun f124 : Int64 => (bnd (jremL z117.1 n101) (fun n126 : Int64 => (bnd (wl (G_X1_setQuotient_119 n101) (B_X1_setQuotient_119 n101) 17 (n126, 0, 0, z117.2.2)) (fun z137 : Int64 × Int32 × Int64 × Int32 => (bnd (Z_X1_setQuotient_J_145 z137) (fun z144 : Bool => (z105, f124, z137.2.2.1, z137.2.2.2, z144, f108)))))))))))))))))))
def RF_X1_setQuotient (vmi : Nat → Bool) (vco : Nat → Int64) (vex : Nat → Int32) (i1 : Nat) (i2 : Nat) (u9 : Bool × Int64 × Int64 × Int32 × Bool × Int32) : Prop := (∀ n101 : Int64, n101 = jmaxL 1 (vco i2) → (∀ n102 : Int64, n102 = vco i1 → (∀ z105 : Bool, z105 = Z_X1_setQuotient_J_106 vmi i1 i2 → (∀ f108 : Int32, f108 = (vex i1) - (vex i2) → (∀ z117 : Int64 × Int32 × Int32, z117 = wl (G_X1_setQuotient_59 n101) (B_X1_setQuotient_59 n101) 17 (n102, 0, f108) → (∀ f124 : Int64, f124 = z117.1 / n101 → (∀ n126 : Int64, n126 = jremL z117.1 n101 → (∀ z137 : Int64 × Int32 × Int64 × Int32, z137 = wl (G_X1_setQuotient_119 n101) (B_X1_setQuotient_119 n101) 17 (n126, 0, 0, z117.2.2) → (∀ z144 : Bool, z144 = Z_X1_setQuotient_J_145 z137 → u9 = (z105, f124, z137.2.2.1, z137.2.2.2, z144, f108))))))))))
theorem rF_X1_setQuotient (vmi : Nat → Bool) (vco : Nat → Int64) (vex : Nat → Int32) (i1 : Nat) (i2 : Nat) {u9 : Bool × Int64 × Int64 × Int32 × Bool × Int32} (hu : u9 = F_X1_setQuotient vmi vco vex i1 i2) : RF_X1_setQuotient vmi vco vex i1 i2 u9 := by
  unfold RF_X1_setQuotient
  intro n101 en101
  have hu := bnd_n hu en101
  intro n102 en102
  have hu := bnd_n hu en102
  intro z105 ez105
  have hu := bnd_n hu ez105
  intro f108 ef108
  have hu := bnd_n hu ef108
  intro z117 ez117
  have hu := bnd_n hu ez117
  intro f124 ef124
  have hu := bnd_n hu ef124
  intro n126 en126
  have hu := bnd_n hu en126
  intro z137 ez137
  have hu := bnd_n hu ez137
  intro z144 ez144
  have hu := bnd_n hu ez144
  exact hu
def S_X1_setQuotient (vmi : Nat → Bool) (vco : Nat → Int64) (vex : Nat → Int32) (i1 : Nat) (i2 : Nat) : Prop := (∀ n101 : Int64, n101 = jmaxL 1 (vco i2) → (∀ n102 : Int64, n102 = vco i1 → (∀ z105 : Bool, z105 = Z_X1_setQuotient_J_106 vmi i1 i2 → (∀ f108 : Int32, f108 = (vex i1) - (vex i2) → G_X1_setQuotient_59 n101 (wl (G_X1_setQuotient_59 n101) (B_X1_setQuotient_59 n101) 17 (n102, 0, f108)) = false ∧ (∀ z117 : Int64 × Int32 × Int32, z117 = wl (G_X1_setQuotient_59 n101) (B_X1_setQuotient_59 n101) 17 (n102, 0, f108) → (¬ n101 = 0) ∧ (∀ f124 : Int64, f124 = z117.1 / n101 → (∀ n126 : Int64, n126 = jremL z117.1 n101 → (∀ j : Nat, j < nW (G_X1_setQuotient_119 n101) (B_X1_setQuotient_119 n101) 17 (n126, 0, 0, z117.2.2) → SB_X1_setQuotient_119 n101 (itn (B_X1_setQuotient_119 n101) j (n126, 0, 0, z117.2.2))) ∧ G_X1_setQuotient_119 n101 (wl (G_X1_setQuotient_119 n101) (B_X1_setQuotient_119 n101) 17 (n126, 0, 0, z117.2.2)) = false)))))))
def rm_X1_setQuotient : Room := { frames := 1, cells := 0, slots := 0, locals := 40 }
set_option maxHeartbeats 4000000 in
set_option maxRecDepth 100000 in
theorem c_X1_setQuotient (l : Launch) (D : va_G) (cR cI cJ cZ : ClassId) (t0 : Nat) (ax ar ao : Nat) (ad : Nat → Nat) (vrd : Int32) (vtr : Int32) (vsd : Int32) (vrn : Int32) (vom : Bool) (voh : Int64) (vol : Int64) (vop : Int32) (voe : Bool) (vow : Int32) (vok : Int64) (vos : Int32) (vso : Nat → Int32) (vmi : Nat → Bool) (vco : Nat → Int64) (vex : Nat → Int32) (i1 : Nat) (i2 : Nat) (u : Bool × Int64 × Int64 × Int32 × Bool × Int32) (hu : u = F_X1_setQuotient vmi vco vex i1 i2) (hs : S_X1_setQuotient vmi vco vex i1 i2) (hb1 : i1 < 9) (hb2 : i2 < 9) : XM l D (xty cR cI cJ cZ) t0 yX1_setQuotient cX1_setQuotient 8 none rm_X1_setQuotient [.ref ao, .ref (ad i1), .ref (ad i2)] none (xw cR ax ar ao ad vrd vtr vsd vrn vom voh vol vop voe vow vok vos vso vmi vco vex) (xw cR ax ar ao ad vrd vtr vsd vrn u.1 u.2.1 u.2.2.1 u.2.2.2.1 u.2.2.2.2.1 u.2.2.2.2.2 vok vos vso vmi vco vex) := by
  refine XM.of (by decide) (Nat.le_of_ble_eq_true rfl) ?_
  intro p e s m args below meth c A Q F hK hP hD hA hSt hS hQ ls hl
  obtain ⟨hx, hb, hr, hts, hown, hlocks, hml⟩ := F
  have hCF : CallFix p m c cX1_setQuotient 8 s args gW RX1 := ⟨hx, hb, hml, hown, hts⟩
  unfold S_X1_setQuotient at hs
  have hu := rF_X1_setQuotient vmi vco vex i1 i2 hu
  unfold RF_X1_setQuotient at hu
  obtain ⟨H, eH⟩ : ∃ y9 : Heap, y9 = s.heap := ⟨_, rfl⟩
  obtain ⟨locs, eL⟩ : ∃ y9 : List Loc, y9 = [] := ⟨_, rfl⟩
  rw [← eL] at hS ⊢
  have hP : va_P D vwCl (xw cR ax ar ao ad vrd vtr vsd vrn vom voh vol vop voe vow vok vos vso vmi vco vex) H := by rw [eH]; exact hP
  have hS : va_S A s.heap H locs := by rw [eH]; exact hS
  suffices goal9 : W p l e rm_X1_setQuotient s m args below meth c H locs 0 0 Q (F0 m 0 ls []) from by rw [← eH]; exact goal9
  have hl : lv_has ls 8 [(0, .ref ao), (1, .ref (ad i1)), (2, .ref (ad i2))] := hl
  have hi0 : ∀ w ∈ wsX00, w ∈ gW := inW_X0
  have hi1 : ∀ w ∈ wsX10, w ∈ gW := inW_X1
  refine lv_lconst (v := 1) hx hb dX1_setQuotient_0 (by decide) ?_
  refine lv_aload_n hx hb dX1_setQuotient_1 rfl (lv_at hl 2 rfl) ?_
  refine g_co (i := i2) hx hb hts hi0 hown hK hP hb2 (hts (.fieldLink RX1 32 "DecimalWords$Datum" "coefficient" "J") (inW_1 _ (List.mem_of_getElem? (i := 31) rfl))) dX1_setQuotient_2 ?_
  refine x_maxL hx hb hml hl.1 hts hown (inW_2 _ (List.mem_of_getElem? (i := 22) rfl)) (inW_2 _ (List.mem_of_getElem? (i := 23) rfl)) (inW_1 _ (List.mem_of_getElem? (i := 37) rfl)) (inW_2 _ (List.mem_of_getElem? (i := 24) rfl)) (Nat.le_of_ble_eq_true rfl) (Nat.le_of_ble_eq_true rfl) (Nat.le_of_ble_eq_true rfl) (Nat.le_of_ble_eq_true rfl) dX1_setQuotient_5 ?_
  refine lv_topl (fun n101 en101 => ?_)
  have hs := hs _ en101
  have hu := hu _ en101
  refine lv_lstore_n (lv' := [(3, .long n101), (0, .ref ao), (1, .ref (ad i1)), (2, .ref (ad i2))]) hx hb dX1_setQuotient_8 rfl hl (by decide) rfl (fun ls hl => ?_)
  refine lv_aload_n hx hb dX1_setQuotient_9 rfl (lv_at hl 2 rfl) ?_
  refine g_co (i := i1) hx hb hts hi0 hown hK hP hb1 (hts (.fieldLink RX1 32 "DecimalWords$Datum" "coefficient" "J") (inW_1 _ (List.mem_of_getElem? (i := 31) rfl))) dX1_setQuotient_10 ?_
  refine lv_topl (fun n102 en102 => ?_)
  have hs := hs _ en102
  have hu := hu _ en102
  refine lv_lstore (lv' := [(5, .long n102), (3, .long n101), (0, .ref ao), (1, .ref (ad i1)), (2, .ref (ad i2))]) hx hb dX1_setQuotient_13 hl (by decide) rfl (fun ls hl => ?_)
  refine lv_aload_n hx hb dX1_setQuotient_15 rfl (lv_at hl 2 rfl) ?_
  refine lv_aload_n hx hb dX1_setQuotient_16 rfl (lv_at hl 3 rfl) ?_
  refine g_mi (i := i1) hx hb hts hi0 hown hK hP hb1 (hts (.fieldLink RX1 26 "DecimalWords$Datum" "minus" "Z") (inW_1 _ (List.mem_of_getElem? (i := 29) rfl))) dX1_setQuotient_17 ?_
  refine lv_aload_n hx hb dX1_setQuotient_20 rfl (lv_at hl 4 rfl) ?_
  refine g_mi (i := i2) hx hb hts hi0 hown hK hP hb2 (hts (.fieldLink RX1 26 "DecimalWords$Datum" "minus" "Z") (inW_1 _ (List.mem_of_getElem? (i := 29) rfl))) dX1_setQuotient_21 ?_
  have J_106 : (∀ z105 : Bool, z105 = Z_X1_setQuotient_J_106 vmi i1 i2 → ∀ (H : Heap) (locs : List Loc), va_P D vwCl (xw cR ax ar ao ad vrd vtr vsd vrn vom voh vol vop voe vow vok vos vso vmi vco vex) H → va_D A (xw cR ax ar ao ad vrd vtr vsd vrn vom voh vol vop voe vow vok vos vso vmi vco vex) → va_S A s.heap H locs → ∀ ls : Array Slot, lv_has ls 8 [(0, .ref ao), (1, .ref (ad i1)), (2, .ref (ad i2)), (3, .long n101), (5, .long n102)] → W p l e rm_X1_setQuotient s m args below meth c H locs 0 0 Q (F0 m 32 ls [.int (bI z105), .ref ao])) := by
    intro z105 ez105 H locs hP hD hS ls hl
    have hs := hs _ ez105
    have hu := hu _ ez105
    refine va_put (D := D) (ci := 3) (v := .int (bI z105)) (ty := .boolean) (C := RX1) (T := TX1) (N := 8) hx hb hts hi1 tyX1 tyX1_ok nmX1 hown hK hP hD hS 2 rfl rfl 0 (by decide) (hts (.fieldLink RX1 31 "DecimalWords$Outcome" "minus" "Z") (inW_1 _ (List.mem_of_getElem? (i := 30) rfl))) (fun _ h9 => h9) rfl (by decide +kernel) (bI_nar z105) (bI_fit z105) (Nat.le_of_ble_eq_true rfl) dX1_setQuotient_32 (fun H locs hP hD hS => ?_)
    have hP : va_P D vwCl (xw cR ax ar ao ad vrd vtr vsd vrn z105 voh vol vop voe vow vok vos vso vmi vco vex) H := hP
    have hD : va_D A (xw cR ax ar ao ad vrd vtr vsd vrn z105 voh vol vop voe vow vok vos vso vmi vco vex) := hD
    refine lv_aload_n hx hb dX1_setQuotient_35 rfl (lv_at hl 0 rfl) ?_
    refine lv_aload_n hx hb dX1_setQuotient_36 rfl (lv_at hl 1 rfl) ?_
    refine g_ex (i := i1) hx hb hts hi0 hown hK hP hb1 (hts (.fieldLink RX1 35 "DecimalWords$Datum" "exponent" "I") (inW_1 _ (List.mem_of_getElem? (i := 32) rfl))) dX1_setQuotient_37 ?_
    refine lv_aload_n hx hb dX1_setQuotient_40 rfl (lv_at hl 2 rfl) ?_
    refine g_ex (i := i2) hx hb hts hi0 hown hK hP hb2 (hts (.fieldLink RX1 35 "DecimalWords$Datum" "exponent" "I") (inW_1 _ (List.mem_of_getElem? (i := 32) rfl))) dX1_setQuotient_41 ?_
    refine lv_isub hx hb dX1_setQuotient_44 ?_
    refine lv_topi (fun f108 ef108 => ?_)
    have hs := hs _ ef108
    have hu := hu _ ef108
    refine va_put (D := D) (ci := 3) (v := .int f108) (ty := .int) (C := RX1) (T := TX1) (N := 8) hx hb hts hi1 tyX1 tyX1_ok nmX1 hown hK hP hD hS 2 rfl rfl 3 (by decide) (hts (.fieldLink RX1 39 "DecimalWords$Outcome" "power" "I") (inW_1 _ (List.mem_of_getElem? (i := 33) rfl))) (fun _ h9 => h9) rfl (by decide +kernel) rfl rfl (Nat.le_of_ble_eq_true rfl) dX1_setQuotient_45 (fun H locs hP hD hS => ?_)
    have hP : va_P D vwCl (xw cR ax ar ao ad vrd vtr vsd vrn z105 voh vol f108 voe vow vok vos vso vmi vco vex) H := hP
    have hD : va_D A (xw cR ax ar ao ad vrd vtr vsd vrn z105 voh vol f108 voe vow vok vos vso vmi vco vex) := hD
    refine lv_aload_n hx hb dX1_setQuotient_48 rfl (lv_at hl 0 rfl) ?_
    refine lv_aload_n hx hb dX1_setQuotient_49 rfl (lv_at hl 0 rfl) ?_
    refine va_get (D := D) (ci := 3) (v := .int f108) (C := RX1) (T := TX1) (N := 8) hx hb hts hi1 hown hK hP 2 rfl rfl 3 (by decide) (hts (.fieldLink RX1 39 "DecimalWords$Outcome" "power" "I") (inW_1 _ (List.mem_of_getElem? (i := 33) rfl))) (fun _ h9 => h9) rfl dX1_setQuotient_50 ?_
    refine va_put (D := D) (ci := 3) (v := .int f108) (ty := .int) (C := RX1) (T := TX1) (N := 8) hx hb hts hi1 tyX1 tyX1_ok nmX1 hown hK hP hD hS 2 rfl rfl 5 (by decide) (hts (.fieldLink RX1 61 "DecimalWords$Outcome" "wish" "I") (inW_1 _ (List.mem_of_getElem? (i := 39) rfl))) (fun _ h9 => h9) rfl (by decide +kernel) rfl rfl (Nat.le_of_ble_eq_true rfl) dX1_setQuotient_53 (fun H locs hP hD hS => ?_)
    have hP : va_P D vwCl (xw cR ax ar ao ad vrd vtr vsd vrn z105 voh vol f108 voe f108 vok vos vso vmi vco vex) H := hP
    have hD : va_D A (xw cR ax ar ao ad vrd vtr vsd vrn z105 voh vol f108 voe f108 vok vos vso vmi vco vex) := hD
    refine lv_iconst (v := 0) hx hb dX1_setQuotient_56 (by decide) ?_
    refine lv_istore (lv' := [(7, .int 0), (0, .ref ao), (1, .ref (ad i1)), (2, .ref (ad i2)), (3, .long n101), (5, .long n102)]) hx hb dX1_setQuotient_57 hl (by decide) rfl (fun ls hl => ?_)
    have L_147 : ∀ (n9 : Nat) (t_59 : Int64 × Int32 × Int32), (∀ j : Nat, j < n9 → G_X1_setQuotient_59 n101 (itn (B_X1_setQuotient_59 n101) j t_59) = true) → (∀ (H : Heap) (locs : List Loc), va_P D vwCl (xw cR ax ar ao ad vrd vtr vsd vrn z105 voh vol ((itn (B_X1_setQuotient_59 n101) n9 t_59).2.2) voe f108 vok vos vso vmi vco vex) H → va_D A (xw cR ax ar ao ad vrd vtr vsd vrn z105 voh vol ((itn (B_X1_setQuotient_59 n101) n9 t_59).2.2) voe f108 vok vos vso vmi vco vex) → va_S A s.heap H locs → ∀ ls : Array Slot, lv_has ls 8 [(0, .ref ao), (3, .long n101), (5, .long ((itn (B_X1_setQuotient_59 n101) n9 t_59).1)), (7, .int ((itn (B_X1_setQuotient_59 n101) n9 t_59).2.1))] → W p l e rm_X1_setQuotient s m args below meth c H locs 0 0 Q (F0 m 59 ls [])) → ∀ (H : Heap) (locs : List Loc), va_P D vwCl (xw cR ax ar ao ad vrd vtr vsd vrn z105 voh vol t_59.2.2 voe f108 vok vos vso vmi vco vex) H → va_D A (xw cR ax ar ao ad vrd vtr vsd vrn z105 voh vol t_59.2.2 voe f108 vok vos vso vmi vco vex) → va_S A s.heap H locs → ∀ ls : Array Slot, lv_has ls 8 [(0, .ref ao), (3, .long n101), (5, .long t_59.1), (7, .int t_59.2.1)] → W p l e rm_X1_setQuotient s m args below meth c H locs 0 0 Q (F0 m 59 ls []) := by
      intro n9
      induction n9 with
      | zero => exact fun _ _ k9 => k9
      | succ n9 ih9 =>
        intro t_59 hG9 k9 H locs hP hD hS ls hl
        have hG0 : G_X1_setQuotient_59 n101 t_59 = true := hG9 0 (Nat.succ_pos n9)
        have hg := rG_X1_setQuotient_59 n101 t_59 (Eq.symm hG0)
        unfold RG_X1_setQuotient_59 at hg
        obtain ⟨t9, et9⟩ : ∃ y9 : Int64 × Int32 × Int32, y9 = (B_X1_setQuotient_59 n101) t_59 := ⟨_, rfl⟩
        have hb9 := rB_X1_setQuotient_59 n101 t_59 et9
        unfold RB_X1_setQuotient_59 at hb9
        refine lv_iload hx hb dX1_setQuotient_59 (lv_at hl 3 rfl) ?_
        refine lv_bipush (v := 16) hx hb dX1_setQuotient_61 (by decide) ?_
        refine lv_icmp_ge (tgt := 97) hx hb dX1_setQuotient_63 (by decide) (fun c_111 => ?_) (fun c_111 => ?_)
        · rw [if_pos c_111] at hg
          exact absurd hg (by decide)
        · rw [if_neg c_111] at hg
          rw [if_neg c_111] at hb9
          refine lv_lload hx hb dX1_setQuotient_66 (lv_at hl 2 rfl) ?_
          refine lv_lload_n hx hb dX1_setQuotient_68 rfl (lv_at hl 1 rfl) ?_
          refine xl_ge (tgt := 97) hx hb dX1_setQuotient_69 dX1_setQuotient_70 (by decide) (fun c_112 => ?_) (fun c_112 => ?_)
          · rw [if_pos c_112] at hg
            exact absurd hg (by decide)
          · rw [if_neg c_112] at hg
            rw [if_neg c_112] at hb9
            refine lv_lload hx hb dX1_setQuotient_73 (lv_at hl 2 rfl) ?_
            refine lv_ldc2 (v := 10) hx hb hown (hts (.constantLong RX1 80 (10)) (inW_2 _ (List.mem_of_getElem? (i := 25) rfl))) dX1_setQuotient_75 ?_
            refine lv_lmul hx hb dX1_setQuotient_78 ?_
            refine lv_topl (fun n113 en113 => ?_)
            have hb9 := hb9 _ en113
            refine lv_lstore (lv' := [(5, .long n113), (0, .ref ao), (3, .long n101), (7, .int t_59.2.1)]) hx hb dX1_setQuotient_79 hl (by decide) rfl (fun ls hl => ?_)
            refine lv_aload_n hx hb dX1_setQuotient_81 rfl (lv_at hl 1 rfl) ?_
            refine lv_dup hx hb dX1_setQuotient_82 rfl ?_
            refine va_get (D := D) (ci := 3) (v := .int t_59.2.2) (C := RX1) (T := TX1) (N := 8) hx hb hts hi1 hown hK hP 2 rfl rfl 3 (by decide) (hts (.fieldLink RX1 39 "DecimalWords$Outcome" "power" "I") (inW_1 _ (List.mem_of_getElem? (i := 33) rfl))) (fun _ h9 => h9) rfl dX1_setQuotient_83 ?_
            refine lv_iconst (v := 1) hx hb dX1_setQuotient_86 (by decide) ?_
            refine lv_isub hx hb dX1_setQuotient_87 ?_
            refine lv_topi (fun f114 ef114 => ?_)
            have hb9 := hb9 _ ef114
            refine va_put (D := D) (ci := 3) (v := .int f114) (ty := .int) (C := RX1) (T := TX1) (N := 8) hx hb hts hi1 tyX1 tyX1_ok nmX1 hown hK hP hD hS 2 rfl rfl 3 (by decide) (hts (.fieldLink RX1 39 "DecimalWords$Outcome" "power" "I") (inW_1 _ (List.mem_of_getElem? (i := 33) rfl))) (fun _ h9 => h9) rfl (by decide +kernel) rfl rfl (Nat.le_of_ble_eq_true rfl) dX1_setQuotient_88 (fun H locs hP hD hS => ?_)
            have hP : va_P D vwCl (xw cR ax ar ao ad vrd vtr vsd vrn z105 voh vol f114 voe f108 vok vos vso vmi vco vex) H := hP
            have hD : va_D A (xw cR ax ar ao ad vrd vtr vsd vrn z105 voh vol f114 voe f108 vok vos vso vmi vco vex) := hD
            obtain ⟨n116, en116⟩ : ∃ y9 : Int32, y9 = t_59.2.1 + 1 := ⟨_, rfl⟩
            have hb9 := hb9 _ en116
            refine lv_iinc (v := n116) (lv' := [(7, .int n116), (5, .long n113), (0, .ref ao), (3, .long n101)]) hx hb dX1_setQuotient_91 hl (k := 3) rfl (by rw [en116]; rfl) (by decide) rfl (fun ls hl => ?_)
            refine lv_goto (tgt := 59) hx hb dX1_setQuotient_94 (by decide) ?_
            have e9 := Eq.symm hb9; subst e9
            have key9 := ih9 ((B_X1_setQuotient_59 n101) t_59) (fun j hj => hG9 (j + 1) (Nat.succ_lt_succ hj)) k9
            rw [← et9] at key9
            exact key9 H locs hP hD hS ls (lv_sub hl [2, 3, 1, 0] rfl)
    obtain ⟨hG1, hs⟩ := hs
    refine L_147 (nW (G_X1_setQuotient_59 n101) (B_X1_setQuotient_59 n101) 17 (n102, 0, f108)) (n102, 0, f108) (nW_lt _ _ _ _) (fun H locs hP hD hS ls hl => ?_) H locs hP hD hS ls (lv_sub hl [1, 4, 5, 0] rfl)
    obtain ⟨z117, ez117⟩ : ∃ y9 : Int64 × Int32 × Int32, y9 = wl (G_X1_setQuotient_59 n101) (B_X1_setQuotient_59 n101) 17 (n102, 0, f108) := ⟨_, rfl⟩
    have e9 : z117 = itn (B_X1_setQuotient_59 n101) (nW (G_X1_setQuotient_59 n101) (B_X1_setQuotient_59 n101) 17 (n102, 0, f108)) (n102, 0, f108) := ez117
    try rw [← e9] at hP
    try rw [← e9] at hD
    try rw [← e9] at hl
    rw [← ez117] at hG1
    clear e9
    have hg := rG_X1_setQuotient_59 n101 z117 (Eq.symm hG1)
    unfold RG_X1_setQuotient_59 at hg
    have hs := hs _ ez117
    have hu := hu _ ez117
    refine lv_iload hx hb dX1_setQuotient_59 (lv_at hl 3 rfl) ?_
    refine lv_bipush (v := 16) hx hb dX1_setQuotient_61 (by decide) ?_
    have J_122 : ∀ (H : Heap) (locs : List Loc), va_P D vwCl (xw cR ax ar ao ad vrd vtr vsd vrn z105 voh vol z117.2.2 voe f108 vok vos vso vmi vco vex) H → va_D A (xw cR ax ar ao ad vrd vtr vsd vrn z105 voh vol z117.2.2 voe f108 vok vos vso vmi vco vex) → va_S A s.heap H locs → ∀ ls : Array Slot, lv_has ls 8 [(0, .ref ao), (3, .long n101), (5, .long z117.1)] → W p l e rm_X1_setQuotient s m args below meth c H locs 0 0 Q (F0 m 97 ls []) := by
      intro H locs hP hD hS ls hl
      refine lv_aload_n hx hb dX1_setQuotient_97 rfl (lv_at hl 0 rfl) ?_
      refine lv_lload hx hb dX1_setQuotient_98 (lv_at hl 2 rfl) ?_
      refine lv_lload_n hx hb dX1_setQuotient_100 rfl (lv_at hl 1 rfl) ?_
      obtain ⟨h_123, hs⟩ := hs
      refine lv_ldiv hx hb dX1_setQuotient_101 h_123 ?_
      refine lv_topl (fun f124 ef124 => ?_)
      have hs := hs _ ef124
      have hu := hu _ ef124
      refine va_put (D := D) (ci := 3) (v := .long f124) (ty := .long) (C := RX1) (T := TX1) (N := 8) hx hb hts hi1 tyX1 tyX1_ok nmX1 hown hK hP hD hS 2 rfl rfl 1 (by decide) (hts (.fieldLink RX1 9 "DecimalWords$Outcome" "high" "J") (inW_1 _ (List.mem_of_getElem? (i := 20) rfl))) (fun _ h9 => h9) rfl (by decide +kernel) rfl rfl (Nat.le_of_ble_eq_true rfl) dX1_setQuotient_102 (fun H locs hP hD hS => ?_)
      have hP : va_P D vwCl (xw cR ax ar ao ad vrd vtr vsd vrn z105 f124 vol z117.2.2 voe f108 vok vos vso vmi vco vex) H := hP
      have hD : va_D A (xw cR ax ar ao ad vrd vtr vsd vrn z105 f124 vol z117.2.2 voe f108 vok vos vso vmi vco vex) := hD
      refine lv_lload hx hb dX1_setQuotient_105 (lv_at hl 2 rfl) ?_
      refine lv_lload_n hx hb dX1_setQuotient_107 rfl (lv_at hl 1 rfl) ?_
      refine x_lrem hx hb dX1_setQuotient_108 h_123 ?_
      refine lv_topl (fun n126 en126 => ?_)
      have hs := hs _ en126
      have hu := hu _ en126
      refine lv_lstore (lv' := [(5, .long n126), (0, .ref ao), (3, .long n101)]) hx hb dX1_setQuotient_109 hl (by decide) rfl (fun ls hl => ?_)
      refine lv_aload_n hx hb dX1_setQuotient_111 rfl (lv_at hl 1 rfl) ?_
      refine lv_lconst (v := 0) hx hb dX1_setQuotient_112 (by decide) ?_
      refine va_put (D := D) (ci := 3) (v := .long 0) (ty := .long) (C := RX1) (T := TX1) (N := 8) hx hb hts hi1 tyX1 tyX1_ok nmX1 hown hK hP hD hS 2 rfl rfl 2 (by decide) (hts (.fieldLink RX1 15 "DecimalWords$Outcome" "low" "J") (inW_1 _ (List.mem_of_getElem? (i := 21) rfl))) (fun _ h9 => h9) rfl (by decide +kernel) rfl rfl (Nat.le_of_ble_eq_true rfl) dX1_setQuotient_113 (fun H locs hP hD hS => ?_)
      have hP : va_P D vwCl (xw cR ax ar ao ad vrd vtr vsd vrn z105 f124 0 z117.2.2 voe f108 vok vos vso vmi vco vex) H := hP
      have hD : va_D A (xw cR ax ar ao ad vrd vtr vsd vrn z105 f124 0 z117.2.2 voe f108 vok vos vso vmi vco vex) := hD
      refine lv_iconst (v := 0) hx hb dX1_setQuotient_116 (by decide) ?_
      refine lv_istore (lv' := [(7, .int 0), (5, .long n126), (0, .ref ao), (3, .long n101)]) hx hb dX1_setQuotient_117 hl (by decide) rfl (fun ls hl => ?_)
      have L_148 : ∀ (n9 : Nat) (t_119 : Int64 × Int32 × Int64 × Int32), (∀ j : Nat, j < n9 → G_X1_setQuotient_119 n101 (itn (B_X1_setQuotient_119 n101) j t_119) = true) → (∀ j : Nat, j < n9 → SB_X1_setQuotient_119 n101 (itn (B_X1_setQuotient_119 n101) j t_119)) → (∀ (H : Heap) (locs : List Loc), va_P D vwCl (xw cR ax ar ao ad vrd vtr vsd vrn z105 f124 ((itn (B_X1_setQuotient_119 n101) n9 t_119).2.2.1) ((itn (B_X1_setQuotient_119 n101) n9 t_119).2.2.2) voe f108 vok vos vso vmi vco vex) H → va_D A (xw cR ax ar ao ad vrd vtr vsd vrn z105 f124 ((itn (B_X1_setQuotient_119 n101) n9 t_119).2.2.1) ((itn (B_X1_setQuotient_119 n101) n9 t_119).2.2.2) voe f108 vok vos vso vmi vco vex) → va_S A s.heap H locs → ∀ ls : Array Slot, lv_has ls 8 [(0, .ref ao), (3, .long n101), (5, .long ((itn (B_X1_setQuotient_119 n101) n9 t_119).1)), (7, .int ((itn (B_X1_setQuotient_119 n101) n9 t_119).2.1))] → W p l e rm_X1_setQuotient s m args below meth c H locs 0 0 Q (F0 m 119 ls [])) → ∀ (H : Heap) (locs : List Loc), va_P D vwCl (xw cR ax ar ao ad vrd vtr vsd vrn z105 f124 t_119.2.2.1 t_119.2.2.2 voe f108 vok vos vso vmi vco vex) H → va_D A (xw cR ax ar ao ad vrd vtr vsd vrn z105 f124 t_119.2.2.1 t_119.2.2.2 voe f108 vok vos vso vmi vco vex) → va_S A s.heap H locs → ∀ ls : Array Slot, lv_has ls 8 [(0, .ref ao), (3, .long n101), (5, .long t_119.1), (7, .int t_119.2.1)] → W p l e rm_X1_setQuotient s m args below meth c H locs 0 0 Q (F0 m 119 ls []) := by
        intro n9
        induction n9 with
        | zero => exact fun _ _ _ k9 => k9
        | succ n9 ih9 =>
          intro t_119 hG9 hs9 k9 H locs hP hD hS ls hl
          have hG0 : G_X1_setQuotient_119 n101 t_119 = true := hG9 0 (Nat.succ_pos n9)
          have hg := rG_X1_setQuotient_119 n101 t_119 (Eq.symm hG0)
          unfold RG_X1_setQuotient_119 at hg
          obtain ⟨t9, et9⟩ : ∃ y9 : Int64 × Int32 × Int64 × Int32, y9 = (B_X1_setQuotient_119 n101) t_119 := ⟨_, rfl⟩
          have hb9 := rB_X1_setQuotient_119 n101 t_119 et9
          unfold RB_X1_setQuotient_119 at hb9
          have hs : SB_X1_setQuotient_119 n101 t_119 := hs9 0 (Nat.succ_pos n9)
          unfold SB_X1_setQuotient_119 at hs
          refine lv_iload hx hb dX1_setQuotient_119 (lv_at hl 3 rfl) ?_
          refine lv_bipush (v := 16) hx hb dX1_setQuotient_121 (by decide) ?_
          refine lv_icmp_ge (tgt := 173) hx hb dX1_setQuotient_123 (by decide) (fun c_128 => ?_) (fun c_128 => ?_)
          · rw [if_pos c_128] at hg
            exact absurd hg (by decide)
          · rw [if_neg c_128] at hs
            rw [if_neg c_128] at hg
            rw [if_neg c_128] at hb9
            refine lv_lload hx hb dX1_setQuotient_126 (lv_at hl 2 rfl) ?_
            refine lv_ldc2 (v := 10) hx hb hown (hts (.constantLong RX1 80 (10)) (inW_2 _ (List.mem_of_getElem? (i := 25) rfl))) dX1_setQuotient_128 ?_
            refine lv_lmul hx hb dX1_setQuotient_131 ?_
            refine lv_topl (fun n129 en129 => ?_)
            have hs := hs _ en129
            have hb9 := hb9 _ en129
            refine lv_lstore (lv' := [(5, .long n129), (0, .ref ao), (3, .long n101), (7, .int t_119.2.1)]) hx hb dX1_setQuotient_132 hl (by decide) rfl (fun ls hl => ?_)
            refine lv_aload_n hx hb dX1_setQuotient_134 rfl (lv_at hl 1 rfl) ?_
            refine lv_aload_n hx hb dX1_setQuotient_135 rfl (lv_at hl 1 rfl) ?_
            refine va_get (D := D) (ci := 3) (v := .long t_119.2.2.1) (C := RX1) (T := TX1) (N := 8) hx hb hts hi1 hown hK hP 2 rfl rfl 2 (by decide) (hts (.fieldLink RX1 15 "DecimalWords$Outcome" "low" "J") (inW_1 _ (List.mem_of_getElem? (i := 21) rfl))) (fun _ h9 => h9) rfl dX1_setQuotient_136 ?_
            refine lv_ldc2 (v := 10) hx hb hown (hts (.constantLong RX1 80 (10)) (inW_2 _ (List.mem_of_getElem? (i := 25) rfl))) dX1_setQuotient_139 ?_
            refine lv_lmul hx hb dX1_setQuotient_142 ?_
            refine lv_lload hx hb dX1_setQuotient_143 (lv_at hl 0 rfl) ?_
            refine lv_lload_n hx hb dX1_setQuotient_145 rfl (lv_at hl 2 rfl) ?_
            have h_130 := hs
            refine lv_ldiv hx hb dX1_setQuotient_146 h_130 ?_
            refine lv_ladd hx hb dX1_setQuotient_147 ?_
            refine lv_topl (fun f131 ef131 => ?_)
            have hb9 := hb9 _ ef131
            refine va_put (D := D) (ci := 3) (v := .long f131) (ty := .long) (C := RX1) (T := TX1) (N := 8) hx hb hts hi1 tyX1 tyX1_ok nmX1 hown hK hP hD hS 2 rfl rfl 2 (by decide) (hts (.fieldLink RX1 15 "DecimalWords$Outcome" "low" "J") (inW_1 _ (List.mem_of_getElem? (i := 21) rfl))) (fun _ h9 => h9) rfl (by decide +kernel) rfl rfl (Nat.le_of_ble_eq_true rfl) dX1_setQuotient_148 (fun H locs hP hD hS => ?_)
            have hP : va_P D vwCl (xw cR ax ar ao ad vrd vtr vsd vrn z105 f124 f131 t_119.2.2.2 voe f108 vok vos vso vmi vco vex) H := hP
            have hD : va_D A (xw cR ax ar ao ad vrd vtr vsd vrn z105 f124 f131 t_119.2.2.2 voe f108 vok vos vso vmi vco vex) := hD
            refine lv_lload hx hb dX1_setQuotient_151 (lv_at hl 0 rfl) ?_
            refine lv_lload_n hx hb dX1_setQuotient_153 rfl (lv_at hl 2 rfl) ?_
            refine x_lrem hx hb dX1_setQuotient_154 h_130 ?_
            refine lv_topl (fun n133 en133 => ?_)
            have hb9 := hb9 _ en133
            refine lv_lstore (lv' := [(5, .long n133), (0, .ref ao), (3, .long n101), (7, .int t_119.2.1)]) hx hb dX1_setQuotient_155 hl (by decide) rfl (fun ls hl => ?_)
            refine lv_aload_n hx hb dX1_setQuotient_157 rfl (lv_at hl 1 rfl) ?_
            refine lv_dup hx hb dX1_setQuotient_158 rfl ?_
            refine va_get (D := D) (ci := 3) (v := .int t_119.2.2.2) (C := RX1) (T := TX1) (N := 8) hx hb hts hi1 hown hK hP 2 rfl rfl 3 (by decide) (hts (.fieldLink RX1 39 "DecimalWords$Outcome" "power" "I") (inW_1 _ (List.mem_of_getElem? (i := 33) rfl))) (fun _ h9 => h9) rfl dX1_setQuotient_159 ?_
            refine lv_iconst (v := 1) hx hb dX1_setQuotient_162 (by decide) ?_
            refine lv_isub hx hb dX1_setQuotient_163 ?_
            refine lv_topi (fun f134 ef134 => ?_)
            have hb9 := hb9 _ ef134
            refine va_put (D := D) (ci := 3) (v := .int f134) (ty := .int) (C := RX1) (T := TX1) (N := 8) hx hb hts hi1 tyX1 tyX1_ok nmX1 hown hK hP hD hS 2 rfl rfl 3 (by decide) (hts (.fieldLink RX1 39 "DecimalWords$Outcome" "power" "I") (inW_1 _ (List.mem_of_getElem? (i := 33) rfl))) (fun _ h9 => h9) rfl (by decide +kernel) rfl rfl (Nat.le_of_ble_eq_true rfl) dX1_setQuotient_164 (fun H locs hP hD hS => ?_)
            have hP : va_P D vwCl (xw cR ax ar ao ad vrd vtr vsd vrn z105 f124 f131 f134 voe f108 vok vos vso vmi vco vex) H := hP
            have hD : va_D A (xw cR ax ar ao ad vrd vtr vsd vrn z105 f124 f131 f134 voe f108 vok vos vso vmi vco vex) := hD
            obtain ⟨n136, en136⟩ : ∃ y9 : Int32, y9 = t_119.2.1 + 1 := ⟨_, rfl⟩
            have hb9 := hb9 _ en136
            refine lv_iinc (v := n136) (lv' := [(7, .int n136), (5, .long n133), (0, .ref ao), (3, .long n101)]) hx hb dX1_setQuotient_167 hl (k := 3) rfl (by rw [en136]; rfl) (by decide) rfl (fun ls hl => ?_)
            refine lv_goto (tgt := 119) hx hb dX1_setQuotient_170 (by decide) ?_
            have e9 := Eq.symm hb9; subst e9
            have key9 := ih9 ((B_X1_setQuotient_119 n101) t_119) (fun j hj => hG9 (j + 1) (Nat.succ_lt_succ hj)) (fun j hj => hs9 (j + 1) (Nat.succ_lt_succ hj)) k9
            rw [← et9] at key9
            exact key9 H locs hP hD hS ls (lv_sub hl [2, 3, 1, 0] rfl)
      obtain ⟨hsL, hG1⟩ := hs
      refine L_148 (nW (G_X1_setQuotient_119 n101) (B_X1_setQuotient_119 n101) 17 (n126, 0, 0, z117.2.2)) (n126, 0, 0, z117.2.2) (nW_lt _ _ _ _) hsL (fun H locs hP hD hS ls hl => ?_) H locs hP hD hS ls (lv_sub hl [2, 3, 1, 0] rfl)
      obtain ⟨z137, ez137⟩ : ∃ y9 : Int64 × Int32 × Int64 × Int32, y9 = wl (G_X1_setQuotient_119 n101) (B_X1_setQuotient_119 n101) 17 (n126, 0, 0, z117.2.2) := ⟨_, rfl⟩
      have e9 : z137 = itn (B_X1_setQuotient_119 n101) (nW (G_X1_setQuotient_119 n101) (B_X1_setQuotient_119 n101) 17 (n126, 0, 0, z117.2.2)) (n126, 0, 0, z117.2.2) := ez137
      try rw [← e9] at hP
      try rw [← e9] at hD
      try rw [← e9] at hl
      rw [← ez137] at hG1
      clear e9
      have hg := rG_X1_setQuotient_119 n101 z137 (Eq.symm hG1)
      unfold RG_X1_setQuotient_119 at hg
      have hu := hu _ ez137
      refine lv_iload hx hb dX1_setQuotient_119 (lv_at hl 3 rfl) ?_
      refine lv_bipush (v := 16) hx hb dX1_setQuotient_121 (by decide) ?_
      have J_141 : ∀ (H : Heap) (locs : List Loc), va_P D vwCl (xw cR ax ar ao ad vrd vtr vsd vrn z105 f124 z137.2.2.1 z137.2.2.2 voe f108 vok vos vso vmi vco vex) H → va_D A (xw cR ax ar ao ad vrd vtr vsd vrn z105 f124 z137.2.2.1 z137.2.2.2 voe f108 vok vos vso vmi vco vex) → va_S A s.heap H locs → ∀ ls : Array Slot, lv_has ls 8 [(0, .ref ao), (5, .long z137.1)] → W p l e rm_X1_setQuotient s m args below meth c H locs 0 0 Q (F0 m 173 ls []) := by
        intro H locs hP hD hS ls hl
        refine lv_aload_n hx hb dX1_setQuotient_173 rfl (lv_at hl 0 rfl) ?_
        refine lv_lload hx hb dX1_setQuotient_174 (lv_at hl 1 rfl) ?_
        refine lv_lconst (v := 0) hx hb dX1_setQuotient_176 (by decide) ?_
        have J_145 : (∀ z144 : Bool, z144 = Z_X1_setQuotient_J_145 z137 → ∀ (H : Heap) (locs : List Loc), va_P D vwCl (xw cR ax ar ao ad vrd vtr vsd vrn z105 f124 z137.2.2.1 z137.2.2.2 voe f108 vok vos vso vmi vco vex) H → va_D A (xw cR ax ar ao ad vrd vtr vsd vrn z105 f124 z137.2.2.1 z137.2.2.2 voe f108 vok vos vso vmi vco vex) → va_S A s.heap H locs → ∀ ls : Array Slot, lv_has ls 8 [] → W p l e rm_X1_setQuotient s m args below meth c H locs 0 0 Q (F0 m 186 ls [.int (bI z144), .ref ao])) := by
          intro z144 ez144 H locs hP hD hS ls hl
          have hu := hu _ ez144
          refine va_put (D := D) (ci := 3) (v := .int (bI z144)) (ty := .boolean) (C := RX1) (T := TX1) (N := 8) hx hb hts hi1 tyX1 tyX1_ok nmX1 hown hK hP hD hS 2 rfl rfl 4 (by decide) (hts (.fieldLink RX1 18 "DecimalWords$Outcome" "more" "Z") (inW_1 _ (List.mem_of_getElem? (i := 22) rfl))) (fun _ h9 => h9) rfl (by decide +kernel) (bI_nar z144) (bI_fit z144) (Nat.le_of_ble_eq_true rfl) dX1_setQuotient_186 (fun H locs hP hD hS => ?_)
          have hP : va_P D vwCl (xw cR ax ar ao ad vrd vtr vsd vrn z105 f124 z137.2.2.1 z137.2.2.2 z144 f108 vok vos vso vmi vco vex) H := hP
          have hD : va_D A (xw cR ax ar ao ad vrd vtr vsd vrn z105 f124 z137.2.2.1 z137.2.2.2 z144 f108 vok vos vso vmi vco vex) := hD
          have e9 := Eq.symm hu; subst e9
          exact x_vret hx hb hr hlocks hQ hK hP hD hS rfl dX1_setQuotient_189
        obtain ⟨z9, ez9⟩ : ∃ y9 : Bool, y9 = Z_X1_setQuotient_J_145 z137 := ⟨_, rfl⟩
        have hz := rZ_X1_setQuotient_J_145 z137 ez9
        unfold RZ_X1_setQuotient_J_145 at hz
        refine xl_eq (tgt := 185) hx hb dX1_setQuotient_177 dX1_setQuotient_178 (by decide) (fun c_142 => ?_) (fun c_142 => ?_)
        · rw [if_pos c_142] at hz
          refine lv_iconst (v := 0) hx hb dX1_setQuotient_185 (by decide) ?_
          have e9 := Eq.symm hz; subst e9
          exact J_145 _ ez9 H locs hP hD hS ls (lv_sub hl [] rfl)
        · rw [if_neg c_142] at hz
          refine lv_iconst (v := 1) hx hb dX1_setQuotient_181 (by decide) ?_
          refine lv_goto (tgt := 186) hx hb dX1_setQuotient_182 (by decide) ?_
          have e9 := Eq.symm hz; subst e9
          exact J_145 _ ez9 H locs hP hD hS ls (lv_sub hl [] rfl)
      refine lv_icmp_ge (tgt := 173) hx hb dX1_setQuotient_123 (by decide) (fun c_139 => ?_) (fun c_139 => ?_)
      · rw [if_pos c_139] at hg
        exact J_141 H locs hP hD hS ls (lv_sub hl [0, 2] rfl)
      · rw [if_neg c_139] at hg
        exact absurd hg (by decide)
    refine lv_icmp_ge (tgt := 97) hx hb dX1_setQuotient_63 (by decide) (fun c_119 => ?_) (fun c_119 => ?_)
    · rw [if_pos c_119] at hg
      exact J_122 H locs hP hD hS ls (lv_sub hl [0, 1, 2] rfl)
    · rw [if_neg c_119] at hg
      refine lv_lload hx hb dX1_setQuotient_66 (lv_at hl 2 rfl) ?_
      refine lv_lload_n hx hb dX1_setQuotient_68 rfl (lv_at hl 1 rfl) ?_
      refine xl_ge (tgt := 97) hx hb dX1_setQuotient_69 dX1_setQuotient_70 (by decide) (fun c_120 => ?_) (fun c_120 => ?_)
      · rw [if_pos c_120] at hg
        exact J_122 H locs hP hD hS ls (lv_sub hl [0, 1, 2] rfl)
      · rw [if_neg c_120] at hg
        exact absurd hg (by decide)
  obtain ⟨z9, ez9⟩ : ∃ y9 : Bool, y9 = Z_X1_setQuotient_J_106 vmi i1 i2 := ⟨_, rfl⟩
  have hz := rZ_X1_setQuotient_J_106 vmi i1 i2 ez9
  unfold RZ_X1_setQuotient_J_106 at hz
  refine xbb_eq (tgt := 31) hx hb dX1_setQuotient_24 (by decide) (fun c_103 => ?_) (fun c_103 => ?_)
  · rw [if_pos c_103] at hz
    refine lv_iconst (v := 0) hx hb dX1_setQuotient_31 (by decide) ?_
    have e9 := Eq.symm hz; subst e9
    exact J_106 _ ez9 H locs hP hD hS ls (lv_sub hl [2, 3, 4, 1, 0] rfl)
  · rw [if_neg c_103] at hz
    refine lv_iconst (v := 1) hx hb dX1_setQuotient_27 (by decide) ?_
    refine lv_goto (tgt := 32) hx hb dX1_setQuotient_28 (by decide) ?_
    have e9 := Eq.symm hz; subst e9
    exact J_106 _ ez9 H locs hP hD hS ls (lv_sub hl [2, 3, 4, 1, 0] rfl)

def B_X1_dropZeros_35  (t_35 : Int32 × Int64 × Int64 × Int32) : Int32 × Int64 × Int64 × Int32 := (if 16 ≤ t_35.1 then t_35 else (if t_35.2.2.1 = 0 then t_35 else (if jremL t_35.2.2.1 10 = 0 then (bnd ((t_35.2.2.1 / 10) + ((jremL t_35.2.1 10) * 1000000000000000)) (fun f112 : Int64 => (bnd (t_35.2.1 / 10) (fun f114 : Int64 => (bnd (t_35.2.2.2 + 1) (fun f116 : Int32 => (bnd (t_35.1 + 1) (fun n118 : Int32 => (n118, f114, f112, f116))))))))) else t_35)))
def G_X1_dropZeros_35  (t_35 : Int32 × Int64 × Int64 × Int32) : Bool := (if 16 ≤ t_35.1 then false else (if t_35.2.2.1 = 0 then false else (if jremL t_35.2.2.1 10 = 0 then (bnd ((t_35.2.2.1 / 10) + ((jremL t_35.2.1 10) * 1000000000000000)) (fun f112 : Int64 => (bnd (t_35.2.1 / 10) (fun f114 : Int64 => (bnd (t_35.2.2.2 + 1) (fun f116 : Int32 => (bnd (t_35.1 + 1) (fun n118 : Int32 => true)))))))) else false)))
def RB_X1_dropZeros_35  (t_35 : Int32 × Int64 × Int64 × Int32) (u9 : Int32 × Int64 × Int64 × Int32) : Prop := (if 16 ≤ t_35.1 then True else (if t_35.2.2.1 = 0 then True else (if jremL t_35.2.2.1 10 = 0 then (∀ f112 : Int64, f112 = (t_35.2.2.1 / 10) + ((jremL t_35.2.1 10) * 1000000000000000) → (∀ f114 : Int64, f114 = t_35.2.1 / 10 → (∀ f116 : Int32, f116 = t_35.2.2.2 + 1 → (∀ n118 : Int32, n118 = t_35.1 + 1 → u9 = (n118, f114, f112, f116))))) else True)))
def RG_X1_dropZeros_35  (t_35 : Int32 × Int64 × Int64 × Int32) (u9 : Bool) : Prop := (if 16 ≤ t_35.1 then u9 = false else (if t_35.2.2.1 = 0 then u9 = false else (if jremL t_35.2.2.1 10 = 0 then u9 = true else u9 = false)))
theorem rB_X1_dropZeros_35  (t_35 : Int32 × Int64 × Int64 × Int32) {u9 : Int32 × Int64 × Int64 × Int32} (hu : u9 = B_X1_dropZeros_35  t_35) : RB_X1_dropZeros_35  t_35 u9 := by
  unfold RB_X1_dropZeros_35
  refine ite_P (fun c_109 => ?_) (fun c_109 => ?_)
  · have hu := hu.trans (if_pos c_109)
    trivial
  · have hu := hu.trans (if_neg c_109)
    refine ite_P (fun c_110 => ?_) (fun c_110 => ?_)
    · have hu := hu.trans (if_pos c_110)
      trivial
    · have hu := hu.trans (if_neg c_110)
      refine ite_P (fun c_111 => ?_) (fun c_111 => ?_)
      · have hu := hu.trans (if_pos c_111)
        intro f112 ef112
        have hu := bnd_n hu ef112
        intro f114 ef114
        have hu := bnd_n hu ef114
        intro f116 ef116
        have hu := bnd_n hu ef116
        intro n118 en118
        have hu := bnd_n hu en118
        exact hu
      · have hu := hu.trans (if_neg c_111)
        trivial
theorem rG_X1_dropZeros_35  (t_35 : Int32 × Int64 × Int64 × Int32) {u9 : Bool} (hu : u9 = G_X1_dropZeros_35  t_35) : RG_X1_dropZeros_35  t_35 u9 := by
  unfold RG_X1_dropZeros_35
  refine ite_P (fun c_109 => ?_) (fun c_109 => ?_)
  · have hu := hu.trans (if_pos c_109)
    exact hu
  · have hu := hu.trans (if_neg c_109)
    refine ite_P (fun c_110 => ?_) (fun c_110 => ?_)
    · have hu := hu.trans (if_pos c_110)
      exact hu
    · have hu := hu.trans (if_neg c_110)
      refine ite_P (fun c_111 => ?_) (fun c_111 => ?_)
      · have hu := hu.trans (if_pos c_111)
        exact hu
      · have hu := hu.trans (if_neg c_111)
        exact hu
def Z_X1_dropZeros_J_108 (voh : Int64) (vol : Int64) (vop : Int32) : Int64 × Int64 × Int32 := (if vol = 0 then (bnd (vop + 16) (fun f104 : Int32 => (0, voh, f104))) else (voh, vol, vop))
def RZ_X1_dropZeros_J_108 (voh : Int64) (vol : Int64) (vop : Int32) (u9 : Int64 × Int64 × Int32) : Prop := (if vol = 0 then (∀ f104 : Int32, f104 = vop + 16 → u9 = (0, voh, f104)) else u9 = (voh, vol, vop))
theorem rZ_X1_dropZeros_J_108 (voh : Int64) (vol : Int64) (vop : Int32) {u9 : Int64 × Int64 × Int32} (hu : u9 = Z_X1_dropZeros_J_108 voh vol vop) : RZ_X1_dropZeros_J_108 voh vol vop u9 := by
  unfold RZ_X1_dropZeros_J_108
  refine ite_P (fun c_101 => ?_) (fun c_101 => ?_)
  · have hu := hu.trans (if_pos c_101)
    intro f104 ef104
    have hu := bnd_n hu ef104
    exact hu
  · have hu := hu.trans (if_neg c_101)
    exact hu
def F_X1_dropZeros (voh : Int64) (vol : Int64) (vop : Int32)  : Int64 × Int64 × Int32 := (bnd (Z_X1_dropZeros_J_108 voh vol vop) (fun z107 : Int64 × Int64 × Int32 => (bnd (wl (G_X1_dropZeros_35) (B_X1_dropZeros_35) 17 (0, z107.1, z107.2.1, z107.2.2)) (fun z119 : Int32 × Int64 × Int64 × Int32 => (if 16 ≤ z119.1 then (z119.2.1, z119.2.2.1, z119.2.2.2) else (if z119.2.2.1 = 0 then (z119.2.1, z119.2.2.1, z119.2.2.2) else (if jremL z119.2.2.1 10 = 0 then default else (z119.2.1, z119.2.2.1, z119.2.2.2))))))))
def RF_X1_dropZeros (voh : Int64) (vol : Int64) (vop : Int32)  (u9 : Int64 × Int64 × Int32) : Prop := (∀ z107 : Int64 × Int64 × Int32, z107 = Z_X1_dropZeros_J_108 voh vol vop → (∀ z119 : Int32 × Int64 × Int64 × Int32, z119 = wl (G_X1_dropZeros_35) (B_X1_dropZeros_35) 17 (0, z107.1, z107.2.1, z107.2.2) → (if 16 ≤ z119.1 then u9 = (z119.2.1, z119.2.2.1, z119.2.2.2) else (if z119.2.2.1 = 0 then u9 = (z119.2.1, z119.2.2.1, z119.2.2.2) else (if jremL z119.2.2.1 10 = 0 then True else u9 = (z119.2.1, z119.2.2.1, z119.2.2.2))))))
theorem rF_X1_dropZeros (voh : Int64) (vol : Int64) (vop : Int32)  {u9 : Int64 × Int64 × Int32} (hu : u9 = F_X1_dropZeros voh vol vop) : RF_X1_dropZeros voh vol vop u9 := by
  unfold RF_X1_dropZeros
  intro z107 ez107
  have hu := bnd_n hu ez107
  intro z119 ez119
  have hu := bnd_n hu ez119
  refine ite_P (fun c_121 => ?_) (fun c_121 => ?_)
  · have hu := hu.trans (if_pos c_121)
    exact hu
  · have hu := hu.trans (if_neg c_121)
    refine ite_P (fun c_122 => ?_) (fun c_122 => ?_)
    · have hu := hu.trans (if_pos c_122)
      exact hu
    · have hu := hu.trans (if_neg c_122)
      refine ite_P (fun c_123 => ?_) (fun c_123 => ?_)
      · have hu := hu.trans (if_pos c_123)
        trivial
      · have hu := hu.trans (if_neg c_123)
        exact hu
def S_X1_dropZeros (voh : Int64) (vol : Int64) (vop : Int32)  : Prop := (∀ z107 : Int64 × Int64 × Int32, z107 = Z_X1_dropZeros_J_108 voh vol vop → G_X1_dropZeros_35  (wl (G_X1_dropZeros_35) (B_X1_dropZeros_35) 17 (0, z107.1, z107.2.1, z107.2.2)) = false)
def rm_X1_dropZeros : Room := { frames := 0, cells := 0, slots := 0, locals := 0 }
set_option maxHeartbeats 4000000 in
set_option maxRecDepth 100000 in
theorem c_X1_dropZeros (l : Launch) (D : va_G) (cR cI cJ cZ : ClassId) (t0 : Nat) (ax ar ao : Nat) (ad : Nat → Nat) (vrd : Int32) (vtr : Int32) (vsd : Int32) (vrn : Int32) (vom : Bool) (voh : Int64) (vol : Int64) (vop : Int32) (voe : Bool) (vow : Int32) (vok : Int64) (vos : Int32) (vso : Nat → Int32) (vmi : Nat → Bool) (vco : Nat → Int64) (vex : Nat → Int32)  (u : Int64 × Int64 × Int32) (hu : u = F_X1_dropZeros voh vol vop) (hs : S_X1_dropZeros voh vol vop) : XM l D (xty cR cI cJ cZ) t0 yX1_dropZeros cX1_dropZeros 2 none rm_X1_dropZeros [.ref ao] none (xw cR ax ar ao ad vrd vtr vsd vrn vom voh vol vop voe vow vok vos vso vmi vco vex) (xw cR ax ar ao ad vrd vtr vsd vrn vom u.1 u.2.1 u.2.2 voe vow vok vos vso vmi vco vex) := by
  refine XM.of (by decide) (Nat.le_of_ble_eq_true rfl) ?_
  intro p e s m args below meth c A Q F hK hP hD hA hSt hS hQ ls hl
  obtain ⟨hx, hb, hr, hts, hown, hlocks, hml⟩ := F
  have hCF : CallFix p m c cX1_dropZeros 2 s args gW RX1 := ⟨hx, hb, hml, hown, hts⟩
  unfold S_X1_dropZeros at hs
  have hu := rF_X1_dropZeros voh vol vop hu
  unfold RF_X1_dropZeros at hu
  obtain ⟨H, eH⟩ : ∃ y9 : Heap, y9 = s.heap := ⟨_, rfl⟩
  obtain ⟨locs, eL⟩ : ∃ y9 : List Loc, y9 = [] := ⟨_, rfl⟩
  rw [← eL] at hS ⊢
  have hP : va_P D vwCl (xw cR ax ar ao ad vrd vtr vsd vrn vom voh vol vop voe vow vok vos vso vmi vco vex) H := by rw [eH]; exact hP
  have hS : va_S A s.heap H locs := by rw [eH]; exact hS
  suffices goal9 : W p l e rm_X1_dropZeros s m args below meth c H locs 0 0 Q (F0 m 0 ls []) from by rw [← eH]; exact goal9
  have hl : lv_has ls 2 [(0, .ref ao)] := hl
  have hi1 : ∀ w ∈ wsX10, w ∈ gW := inW_X1
  refine lv_aload_n hx hb dX1_dropZeros_0 rfl (lv_at hl 0 rfl) ?_
  refine va_get (D := D) (ci := 3) (v := .long vol) (C := RX1) (T := TX1) (N := 8) hx hb hts hi1 hown hK hP 2 rfl rfl 2 (by decide) (hts (.fieldLink RX1 15 "DecimalWords$Outcome" "low" "J") (inW_1 _ (List.mem_of_getElem? (i := 21) rfl))) (fun _ h9 => h9) rfl dX1_dropZeros_1 ?_
  refine lv_lconst (v := 0) hx hb dX1_dropZeros_4 (by decide) ?_
  have J_108 : (∀ z107 : Int64 × Int64 × Int32, z107 = Z_X1_dropZeros_J_108 voh vol vop → ∀ (H : Heap) (locs : List Loc), va_P D vwCl (xw cR ax ar ao ad vrd vtr vsd vrn vom z107.1 z107.2.1 z107.2.2 voe vow vok vos vso vmi vco vex) H → va_D A (xw cR ax ar ao ad vrd vtr vsd vrn vom z107.1 z107.2.1 z107.2.2 voe vow vok vos vso vmi vco vex) → va_S A s.heap H locs → ∀ ls : Array Slot, lv_has ls 2 [(0, .ref ao)] → W p l e rm_X1_dropZeros s m args below meth c H locs 0 0 Q (F0 m 33 ls [])) := by
    intro z107 ez107 H locs hP hD hS ls hl
    have hs := hs _ ez107
    have hu := hu _ ez107
    refine lv_iconst (v := 0) hx hb dX1_dropZeros_33 (by decide) ?_
    refine lv_istore_n (lv' := [(1, .int 0), (0, .ref ao)]) hx hb dX1_dropZeros_34 rfl hl (by decide) rfl (fun ls hl => ?_)
    have L_124 : ∀ (n9 : Nat) (t_35 : Int32 × Int64 × Int64 × Int32), (∀ j : Nat, j < n9 → G_X1_dropZeros_35  (itn (B_X1_dropZeros_35) j t_35) = true) → (∀ (H : Heap) (locs : List Loc), va_P D vwCl (xw cR ax ar ao ad vrd vtr vsd vrn vom ((itn (B_X1_dropZeros_35) n9 t_35).2.1) ((itn (B_X1_dropZeros_35) n9 t_35).2.2.1) ((itn (B_X1_dropZeros_35) n9 t_35).2.2.2) voe vow vok vos vso vmi vco vex) H → va_D A (xw cR ax ar ao ad vrd vtr vsd vrn vom ((itn (B_X1_dropZeros_35) n9 t_35).2.1) ((itn (B_X1_dropZeros_35) n9 t_35).2.2.1) ((itn (B_X1_dropZeros_35) n9 t_35).2.2.2) voe vow vok vos vso vmi vco vex) → va_S A s.heap H locs → ∀ ls : Array Slot, lv_has ls 2 [(0, .ref ao), (1, .int ((itn (B_X1_dropZeros_35) n9 t_35).1))] → W p l e rm_X1_dropZeros s m args below meth c H locs 0 0 Q (F0 m 35 ls [])) → ∀ (H : Heap) (locs : List Loc), va_P D vwCl (xw cR ax ar ao ad vrd vtr vsd vrn vom t_35.2.1 t_35.2.2.1 t_35.2.2.2 voe vow vok vos vso vmi vco vex) H → va_D A (xw cR ax ar ao ad vrd vtr vsd vrn vom t_35.2.1 t_35.2.2.1 t_35.2.2.2 voe vow vok vos vso vmi vco vex) → va_S A s.heap H locs → ∀ ls : Array Slot, lv_has ls 2 [(0, .ref ao), (1, .int t_35.1)] → W p l e rm_X1_dropZeros s m args below meth c H locs 0 0 Q (F0 m 35 ls []) := by
      intro n9
      induction n9 with
      | zero => exact fun _ _ k9 => k9
      | succ n9 ih9 =>
        intro t_35 hG9 k9 H locs hP hD hS ls hl
        have hG0 : G_X1_dropZeros_35  t_35 = true := hG9 0 (Nat.succ_pos n9)
        have hg := rG_X1_dropZeros_35  t_35 (Eq.symm hG0)
        unfold RG_X1_dropZeros_35 at hg
        obtain ⟨t9, et9⟩ : ∃ y9 : Int32 × Int64 × Int64 × Int32, y9 = (B_X1_dropZeros_35) t_35 := ⟨_, rfl⟩
        have hb9 := rB_X1_dropZeros_35  t_35 et9
        unfold RB_X1_dropZeros_35 at hb9
        refine lv_iload_n hx hb dX1_dropZeros_35 rfl (lv_at hl 1 rfl) ?_
        refine lv_bipush (v := 16) hx hb dX1_dropZeros_36 (by decide) ?_
        refine lv_icmp_ge (tgt := 116) hx hb dX1_dropZeros_38 (by decide) (fun c_109 => ?_) (fun c_109 => ?_)
        · rw [if_pos c_109] at hg
          exact absurd hg (by decide)
        · rw [if_neg c_109] at hg
          rw [if_neg c_109] at hb9
          refine lv_aload_n hx hb dX1_dropZeros_41 rfl (lv_at hl 0 rfl) ?_
          refine va_get (D := D) (ci := 3) (v := .long t_35.2.2.1) (C := RX1) (T := TX1) (N := 8) hx hb hts hi1 hown hK hP 2 rfl rfl 2 (by decide) (hts (.fieldLink RX1 15 "DecimalWords$Outcome" "low" "J") (inW_1 _ (List.mem_of_getElem? (i := 21) rfl))) (fun _ h9 => h9) rfl dX1_dropZeros_42 ?_
          refine lv_lconst (v := 0) hx hb dX1_dropZeros_45 (by decide) ?_
          refine xl_eq (tgt := 116) hx hb dX1_dropZeros_46 dX1_dropZeros_47 (by decide) (fun c_110 => ?_) (fun c_110 => ?_)
          · rw [if_pos c_110] at hg
            exact absurd hg (by decide)
          · rw [if_neg c_110] at hg
            rw [if_neg c_110] at hb9
            refine lv_aload_n hx hb dX1_dropZeros_50 rfl (lv_at hl 0 rfl) ?_
            refine va_get (D := D) (ci := 3) (v := .long t_35.2.2.1) (C := RX1) (T := TX1) (N := 8) hx hb hts hi1 hown hK hP 2 rfl rfl 2 (by decide) (hts (.fieldLink RX1 15 "DecimalWords$Outcome" "low" "J") (inW_1 _ (List.mem_of_getElem? (i := 21) rfl))) (fun _ h9 => h9) rfl dX1_dropZeros_51 ?_
            refine lv_ldc2 (v := 10) hx hb hown (hts (.constantLong RX1 80 (10)) (inW_2 _ (List.mem_of_getElem? (i := 25) rfl))) dX1_dropZeros_54 ?_
            refine x_lrem hx hb dX1_dropZeros_57 (by decide) ?_
            refine lv_lconst (v := 0) hx hb dX1_dropZeros_58 (by decide) ?_
            refine xl_ne (tgt := 116) hx hb dX1_dropZeros_59 dX1_dropZeros_60 (by decide) (fun c_111 => ?_) (fun c_111 => ?_)
            · rw [if_neg c_111] at hg
              exact absurd hg (by decide)
            · rw [if_pos c_111] at hg
              rw [if_pos c_111] at hb9
              refine lv_aload_n hx hb dX1_dropZeros_63 rfl (lv_at hl 0 rfl) ?_
              refine lv_aload_n hx hb dX1_dropZeros_64 rfl (lv_at hl 0 rfl) ?_
              refine va_get (D := D) (ci := 3) (v := .long t_35.2.2.1) (C := RX1) (T := TX1) (N := 8) hx hb hts hi1 hown hK hP 2 rfl rfl 2 (by decide) (hts (.fieldLink RX1 15 "DecimalWords$Outcome" "low" "J") (inW_1 _ (List.mem_of_getElem? (i := 21) rfl))) (fun _ h9 => h9) rfl dX1_dropZeros_65 ?_
              refine lv_ldc2 (v := 10) hx hb hown (hts (.constantLong RX1 80 (10)) (inW_2 _ (List.mem_of_getElem? (i := 25) rfl))) dX1_dropZeros_68 ?_
              refine lv_ldiv hx hb dX1_dropZeros_71 (by decide) ?_
              refine lv_aload_n hx hb dX1_dropZeros_72 rfl (lv_at hl 0 rfl) ?_
              refine va_get (D := D) (ci := 3) (v := .long t_35.2.1) (C := RX1) (T := TX1) (N := 8) hx hb hts hi1 hown hK hP 2 rfl rfl 1 (by decide) (hts (.fieldLink RX1 9 "DecimalWords$Outcome" "high" "J") (inW_1 _ (List.mem_of_getElem? (i := 20) rfl))) (fun _ h9 => h9) rfl dX1_dropZeros_73 ?_
              refine lv_ldc2 (v := 10) hx hb hown (hts (.constantLong RX1 80 (10)) (inW_2 _ (List.mem_of_getElem? (i := 25) rfl))) dX1_dropZeros_76 ?_
              refine x_lrem hx hb dX1_dropZeros_79 (by decide) ?_
              refine lv_ldc2 (v := 1000000000000000) hx hb hown (hts (.constantLong RX1 82 (1000000000000000)) (inW_2 _ (List.mem_of_getElem? (i := 27) rfl))) dX1_dropZeros_80 ?_
              refine lv_lmul hx hb dX1_dropZeros_83 ?_
              refine lv_ladd hx hb dX1_dropZeros_84 ?_
              refine lv_topl (fun f112 ef112 => ?_)
              have hb9 := hb9 _ ef112
              refine va_put (D := D) (ci := 3) (v := .long f112) (ty := .long) (C := RX1) (T := TX1) (N := 8) hx hb hts hi1 tyX1 tyX1_ok nmX1 hown hK hP hD hS 2 rfl rfl 2 (by decide) (hts (.fieldLink RX1 15 "DecimalWords$Outcome" "low" "J") (inW_1 _ (List.mem_of_getElem? (i := 21) rfl))) (fun _ h9 => h9) rfl (by decide +kernel) rfl rfl (Nat.le_of_ble_eq_true rfl) dX1_dropZeros_85 (fun H locs hP hD hS => ?_)
              have hP : va_P D vwCl (xw cR ax ar ao ad vrd vtr vsd vrn vom t_35.2.1 f112 t_35.2.2.2 voe vow vok vos vso vmi vco vex) H := hP
              have hD : va_D A (xw cR ax ar ao ad vrd vtr vsd vrn vom t_35.2.1 f112 t_35.2.2.2 voe vow vok vos vso vmi vco vex) := hD
              refine lv_aload_n hx hb dX1_dropZeros_88 rfl (lv_at hl 0 rfl) ?_
              refine lv_dup hx hb dX1_dropZeros_89 rfl ?_
              refine va_get (D := D) (ci := 3) (v := .long t_35.2.1) (C := RX1) (T := TX1) (N := 8) hx hb hts hi1 hown hK hP 2 rfl rfl 1 (by decide) (hts (.fieldLink RX1 9 "DecimalWords$Outcome" "high" "J") (inW_1 _ (List.mem_of_getElem? (i := 20) rfl))) (fun _ h9 => h9) rfl dX1_dropZeros_90 ?_
              refine lv_ldc2 (v := 10) hx hb hown (hts (.constantLong RX1 80 (10)) (inW_2 _ (List.mem_of_getElem? (i := 25) rfl))) dX1_dropZeros_93 ?_
              refine lv_ldiv hx hb dX1_dropZeros_96 (by decide) ?_
              refine lv_topl (fun f114 ef114 => ?_)
              have hb9 := hb9 _ ef114
              refine va_put (D := D) (ci := 3) (v := .long f114) (ty := .long) (C := RX1) (T := TX1) (N := 8) hx hb hts hi1 tyX1 tyX1_ok nmX1 hown hK hP hD hS 2 rfl rfl 1 (by decide) (hts (.fieldLink RX1 9 "DecimalWords$Outcome" "high" "J") (inW_1 _ (List.mem_of_getElem? (i := 20) rfl))) (fun _ h9 => h9) rfl (by decide +kernel) rfl rfl (Nat.le_of_ble_eq_true rfl) dX1_dropZeros_97 (fun H locs hP hD hS => ?_)
              have hP : va_P D vwCl (xw cR ax ar ao ad vrd vtr vsd vrn vom f114 f112 t_35.2.2.2 voe vow vok vos vso vmi vco vex) H := hP
              have hD : va_D A (xw cR ax ar ao ad vrd vtr vsd vrn vom f114 f112 t_35.2.2.2 voe vow vok vos vso vmi vco vex) := hD
              refine lv_aload_n hx hb dX1_dropZeros_100 rfl (lv_at hl 0 rfl) ?_
              refine lv_dup hx hb dX1_dropZeros_101 rfl ?_
              refine va_get (D := D) (ci := 3) (v := .int t_35.2.2.2) (C := RX1) (T := TX1) (N := 8) hx hb hts hi1 hown hK hP 2 rfl rfl 3 (by decide) (hts (.fieldLink RX1 39 "DecimalWords$Outcome" "power" "I") (inW_1 _ (List.mem_of_getElem? (i := 33) rfl))) (fun _ h9 => h9) rfl dX1_dropZeros_102 ?_
              refine lv_iconst (v := 1) hx hb dX1_dropZeros_105 (by decide) ?_
              refine lv_iadd hx hb dX1_dropZeros_106 ?_
              refine lv_topi (fun f116 ef116 => ?_)
              have hb9 := hb9 _ ef116
              refine va_put (D := D) (ci := 3) (v := .int f116) (ty := .int) (C := RX1) (T := TX1) (N := 8) hx hb hts hi1 tyX1 tyX1_ok nmX1 hown hK hP hD hS 2 rfl rfl 3 (by decide) (hts (.fieldLink RX1 39 "DecimalWords$Outcome" "power" "I") (inW_1 _ (List.mem_of_getElem? (i := 33) rfl))) (fun _ h9 => h9) rfl (by decide +kernel) rfl rfl (Nat.le_of_ble_eq_true rfl) dX1_dropZeros_107 (fun H locs hP hD hS => ?_)
              have hP : va_P D vwCl (xw cR ax ar ao ad vrd vtr vsd vrn vom f114 f112 f116 voe vow vok vos vso vmi vco vex) H := hP
              have hD : va_D A (xw cR ax ar ao ad vrd vtr vsd vrn vom f114 f112 f116 voe vow vok vos vso vmi vco vex) := hD
              obtain ⟨n118, en118⟩ : ∃ y9 : Int32, y9 = t_35.1 + 1 := ⟨_, rfl⟩
              have hb9 := hb9 _ en118
              refine lv_iinc (v := n118) (lv' := [(1, .int n118), (0, .ref ao)]) hx hb dX1_dropZeros_110 hl (k := 1) rfl (by rw [en118]; rfl) (by decide) rfl (fun ls hl => ?_)
              refine lv_goto (tgt := 35) hx hb dX1_dropZeros_113 (by decide) ?_
              have e9 := Eq.symm hb9; subst e9
              have key9 := ih9 ((B_X1_dropZeros_35) t_35) (fun j hj => hG9 (j + 1) (Nat.succ_lt_succ hj)) k9
              rw [← et9] at key9
              exact key9 H locs hP hD hS ls (lv_sub hl [1, 0] rfl)
    have hG1 := hs
    refine L_124 (nW (G_X1_dropZeros_35) (B_X1_dropZeros_35) 17 (0, z107.1, z107.2.1, z107.2.2)) (0, z107.1, z107.2.1, z107.2.2) (nW_lt _ _ _ _) (fun H locs hP hD hS ls hl => ?_) H locs hP hD hS ls (lv_sub hl [1, 0] rfl)
    obtain ⟨z119, ez119⟩ : ∃ y9 : Int32 × Int64 × Int64 × Int32, y9 = wl (G_X1_dropZeros_35) (B_X1_dropZeros_35) 17 (0, z107.1, z107.2.1, z107.2.2) := ⟨_, rfl⟩
    have e9 : z119 = itn (B_X1_dropZeros_35) (nW (G_X1_dropZeros_35) (B_X1_dropZeros_35) 17 (0, z107.1, z107.2.1, z107.2.2)) (0, z107.1, z107.2.1, z107.2.2) := ez119
    try rw [← e9] at hP
    try rw [← e9] at hD
    try rw [← e9] at hl
    rw [← ez119] at hG1
    clear e9
    have hg := rG_X1_dropZeros_35  z119 (Eq.symm hG1)
    unfold RG_X1_dropZeros_35 at hg
    have hu := hu _ ez119
    refine lv_iload_n hx hb dX1_dropZeros_35 rfl (lv_at hl 1 rfl) ?_
    refine lv_bipush (v := 16) hx hb dX1_dropZeros_36 (by decide) ?_
    refine lv_icmp_ge (tgt := 116) hx hb dX1_dropZeros_38 (by decide) (fun c_121 => ?_) (fun c_121 => ?_)
    · rw [if_pos c_121] at hu
      rw [if_pos c_121] at hg
      have e9 := Eq.symm hu; subst e9
      exact x_vret hx hb hr hlocks hQ hK hP hD hS rfl dX1_dropZeros_116
    · rw [if_neg c_121] at hu
      rw [if_neg c_121] at hg
      refine lv_aload_n hx hb dX1_dropZeros_41 rfl (lv_at hl 0 rfl) ?_
      refine va_get (D := D) (ci := 3) (v := .long z119.2.2.1) (C := RX1) (T := TX1) (N := 8) hx hb hts hi1 hown hK hP 2 rfl rfl 2 (by decide) (hts (.fieldLink RX1 15 "DecimalWords$Outcome" "low" "J") (inW_1 _ (List.mem_of_getElem? (i := 21) rfl))) (fun _ h9 => h9) rfl dX1_dropZeros_42 ?_
      refine lv_lconst (v := 0) hx hb dX1_dropZeros_45 (by decide) ?_
      refine xl_eq (tgt := 116) hx hb dX1_dropZeros_46 dX1_dropZeros_47 (by decide) (fun c_122 => ?_) (fun c_122 => ?_)
      · rw [if_pos c_122] at hu
        rw [if_pos c_122] at hg
        have e9 := Eq.symm hu; subst e9
        exact x_vret hx hb hr hlocks hQ hK hP hD hS rfl dX1_dropZeros_116
      · rw [if_neg c_122] at hu
        rw [if_neg c_122] at hg
        refine lv_aload_n hx hb dX1_dropZeros_50 rfl (lv_at hl 0 rfl) ?_
        refine va_get (D := D) (ci := 3) (v := .long z119.2.2.1) (C := RX1) (T := TX1) (N := 8) hx hb hts hi1 hown hK hP 2 rfl rfl 2 (by decide) (hts (.fieldLink RX1 15 "DecimalWords$Outcome" "low" "J") (inW_1 _ (List.mem_of_getElem? (i := 21) rfl))) (fun _ h9 => h9) rfl dX1_dropZeros_51 ?_
        refine lv_ldc2 (v := 10) hx hb hown (hts (.constantLong RX1 80 (10)) (inW_2 _ (List.mem_of_getElem? (i := 25) rfl))) dX1_dropZeros_54 ?_
        refine x_lrem hx hb dX1_dropZeros_57 (by decide) ?_
        refine lv_lconst (v := 0) hx hb dX1_dropZeros_58 (by decide) ?_
        refine xl_ne (tgt := 116) hx hb dX1_dropZeros_59 dX1_dropZeros_60 (by decide) (fun c_123 => ?_) (fun c_123 => ?_)
        · rw [if_neg c_123] at hu
          rw [if_neg c_123] at hg
          have e9 := Eq.symm hu; subst e9
          exact x_vret hx hb hr hlocks hQ hK hP hD hS rfl dX1_dropZeros_116
        · rw [if_pos c_123] at hg
          exact absurd hg (by decide)
  obtain ⟨z9, ez9⟩ : ∃ y9 : Int64 × Int64 × Int32, y9 = Z_X1_dropZeros_J_108 voh vol vop := ⟨_, rfl⟩
  have hz := rZ_X1_dropZeros_J_108 voh vol vop ez9
  unfold RZ_X1_dropZeros_J_108 at hz
  refine xl_ne (tgt := 33) hx hb dX1_dropZeros_5 dX1_dropZeros_6 (by decide) (fun c_101 => ?_) (fun c_101 => ?_)
  · rw [if_neg c_101] at hz
    have e9 := Eq.symm hz; subst e9
    exact J_108 _ ez9 H locs hP hD hS ls (lv_sub hl [0] rfl)
  · rw [if_pos c_101] at hz
    refine lv_aload_n hx hb dX1_dropZeros_9 rfl (lv_at hl 0 rfl) ?_
    refine lv_aload_n hx hb dX1_dropZeros_10 rfl (lv_at hl 0 rfl) ?_
    refine va_get (D := D) (ci := 3) (v := .long voh) (C := RX1) (T := TX1) (N := 8) hx hb hts hi1 hown hK hP 2 rfl rfl 1 (by decide) (hts (.fieldLink RX1 9 "DecimalWords$Outcome" "high" "J") (inW_1 _ (List.mem_of_getElem? (i := 20) rfl))) (fun _ h9 => h9) rfl dX1_dropZeros_11 ?_
    refine va_put (D := D) (ci := 3) (v := .long voh) (ty := .long) (C := RX1) (T := TX1) (N := 8) hx hb hts hi1 tyX1 tyX1_ok nmX1 hown hK hP hD hS 2 rfl rfl 2 (by decide) (hts (.fieldLink RX1 15 "DecimalWords$Outcome" "low" "J") (inW_1 _ (List.mem_of_getElem? (i := 21) rfl))) (fun _ h9 => h9) rfl (by decide +kernel) rfl rfl (Nat.le_of_ble_eq_true rfl) dX1_dropZeros_14 (fun H locs hP hD hS => ?_)
    have hP : va_P D vwCl (xw cR ax ar ao ad vrd vtr vsd vrn vom voh voh vop voe vow vok vos vso vmi vco vex) H := hP
    have hD : va_D A (xw cR ax ar ao ad vrd vtr vsd vrn vom voh voh vop voe vow vok vos vso vmi vco vex) := hD
    refine lv_aload_n hx hb dX1_dropZeros_17 rfl (lv_at hl 0 rfl) ?_
    refine lv_lconst (v := 0) hx hb dX1_dropZeros_18 (by decide) ?_
    refine va_put (D := D) (ci := 3) (v := .long 0) (ty := .long) (C := RX1) (T := TX1) (N := 8) hx hb hts hi1 tyX1 tyX1_ok nmX1 hown hK hP hD hS 2 rfl rfl 1 (by decide) (hts (.fieldLink RX1 9 "DecimalWords$Outcome" "high" "J") (inW_1 _ (List.mem_of_getElem? (i := 20) rfl))) (fun _ h9 => h9) rfl (by decide +kernel) rfl rfl (Nat.le_of_ble_eq_true rfl) dX1_dropZeros_19 (fun H locs hP hD hS => ?_)
    have hP : va_P D vwCl (xw cR ax ar ao ad vrd vtr vsd vrn vom 0 voh vop voe vow vok vos vso vmi vco vex) H := hP
    have hD : va_D A (xw cR ax ar ao ad vrd vtr vsd vrn vom 0 voh vop voe vow vok vos vso vmi vco vex) := hD
    refine lv_aload_n hx hb dX1_dropZeros_22 rfl (lv_at hl 0 rfl) ?_
    refine lv_dup hx hb dX1_dropZeros_23 rfl ?_
    refine va_get (D := D) (ci := 3) (v := .int vop) (C := RX1) (T := TX1) (N := 8) hx hb hts hi1 hown hK hP 2 rfl rfl 3 (by decide) (hts (.fieldLink RX1 39 "DecimalWords$Outcome" "power" "I") (inW_1 _ (List.mem_of_getElem? (i := 33) rfl))) (fun _ h9 => h9) rfl dX1_dropZeros_24 ?_
    refine lv_bipush (v := 16) hx hb dX1_dropZeros_27 (by decide) ?_
    refine lv_iadd hx hb dX1_dropZeros_29 ?_
    refine lv_topi (fun f104 ef104 => ?_)
    have hz := hz _ ef104
    refine va_put (D := D) (ci := 3) (v := .int f104) (ty := .int) (C := RX1) (T := TX1) (N := 8) hx hb hts hi1 tyX1 tyX1_ok nmX1 hown hK hP hD hS 2 rfl rfl 3 (by decide) (hts (.fieldLink RX1 39 "DecimalWords$Outcome" "power" "I") (inW_1 _ (List.mem_of_getElem? (i := 33) rfl))) (fun _ h9 => h9) rfl (by decide +kernel) rfl rfl (Nat.le_of_ble_eq_true rfl) dX1_dropZeros_30 (fun H locs hP hD hS => ?_)
    have hP : va_P D vwCl (xw cR ax ar ao ad vrd vtr vsd vrn vom 0 voh f104 voe vow vok vos vso vmi vco vex) H := hP
    have hD : va_D A (xw cR ax ar ao ad vrd vtr vsd vrn vom 0 voh f104 voe vow vok vos vso vmi vco vex) := hD
    have e9 := Eq.symm hz; subst e9
    exact J_108 _ ez9 H locs hP hD hS ls (lv_sub hl [0] rfl)
