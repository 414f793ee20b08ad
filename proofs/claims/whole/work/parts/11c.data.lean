def F_X3_orderOfSizes (vso : Nat → Int32) (vco : Nat → Int64) (vex : Nat → Int32) (i1 : Nat) (i2 : Nat) : Int32 := (if vso i1 = 1 then F_X3_orderOf ((vso i1).toInt64) ((vso i2).toInt64) else (if vso i2 = 1 then F_X3_orderOf ((vso i1).toInt64) ((vso i2).toInt64) else (bnd (F_X3_digitsOf (vco i1)) (fun n106 : Int32 => (bnd (F_X3_digitsOf (vco i2)) (fun n109 : Int32 => (bnd (F_X3_orderOf (((vex i1) + n106).toInt64) (((vex i2) + n109).toInt64)) (fun n111 : Int32 => (if n111 = 0 then F_X3_orderOf ((vco i1) * (F_X3_tenTo (16 - n106))) ((vco i2) * (F_X3_tenTo (16 - n109))) else n111)))))))))
def RF_X3_orderOfSizes (vso : Nat → Int32) (vco : Nat → Int64) (vex : Nat → Int32) (i1 : Nat) (i2 : Nat) (u9 : Int32) : Prop := (if vso i1 = 1 then u9 = F_X3_orderOf ((vso i1).toInt64) ((vso i2).toInt64) else (if vso i2 = 1 then u9 = F_X3_orderOf ((vso i1).toInt64) ((vso i2).toInt64) else (∀ n106 : Int32, n106 = F_X3_digitsOf (vco i1) → (∀ n109 : Int32, n109 = F_X3_digitsOf (vco i2) → (∀ n111 : Int32, n111 = F_X3_orderOf (((vex i1) + n106).toInt64) (((vex i2) + n109).toInt64) → (if n111 = 0 then u9 = F_X3_orderOf ((vco i1) * (F_X3_tenTo (16 - n106))) ((vco i2) * (F_X3_tenTo (16 - n109))) else u9 = n111))))))
theorem rF_X3_orderOfSizes (vso : Nat → Int32) (vco : Nat → Int64) (vex : Nat → Int32) (i1 : Nat) (i2 : Nat) {u9 : Int32} (hu : u9 = F_X3_orderOfSizes vso vco vex i1 i2) : RF_X3_orderOfSizes vso vco vex i1 i2 u9 := by
  unfold RF_X3_orderOfSizes
  refine ite_P (fun c_101 => ?_) (fun c_101 => ?_)
  · have hu := hu.trans (if_pos c_101)
    exact hu
  · have hu := hu.trans (if_neg c_101)
    refine ite_P (fun c_103 => ?_) (fun c_103 => ?_)
    · have hu := hu.trans (if_pos c_103)
      exact hu
    · have hu := hu.trans (if_neg c_103)
      intro n106 en106
      have hu := bnd_n hu en106
      intro n109 en109
      have hu := bnd_n hu en109
      intro n111 en111
      have hu := bnd_n hu en111
      refine ite_P (fun c_112 => ?_) (fun c_112 => ?_)
      · have hu := hu.trans (if_pos c_112)
        exact hu
      · have hu := hu.trans (if_neg c_112)
        exact hu
def S_X3_orderOfSizes (vso : Nat → Int32) (vco : Nat → Int64) (vex : Nat → Int32) (i1 : Nat) (i2 : Nat) : Prop := (if vso i1 = 1 then True else (if vso i2 = 1 then True else (S_X3_digitsOf (vco i1)) ∧ (∀ n106 : Int32, n106 = F_X3_digitsOf (vco i1) → (S_X3_digitsOf (vco i2)) ∧ (∀ n109 : Int32, n109 = F_X3_digitsOf (vco i2) → (∀ n111 : Int32, n111 = F_X3_orderOf (((vex i1) + n106).toInt64) (((vex i2) + n109).toInt64) → (if n111 = 0 then (S_X3_tenTo (16 - n106)) ∧ S_X3_tenTo (16 - n109) else True))))))
def rm_X3_orderOfSizes : Room := { frames := 1, cells := 0, slots := 0, locals := 23 }
set_option maxHeartbeats 4000000 in
set_option maxRecDepth 100000 in
theorem c_X3_orderOfSizes (l : Launch) (D : va_G) (cR cI cJ cZ : ClassId) (t0 : Nat) (ax ar ao : Nat) (ad : Nat → Nat) (vrd : Int32) (vtr : Int32) (vsd : Int32) (vrn : Int32) (vom : Bool) (voh : Int64) (vol : Int64) (vop : Int32) (voe : Bool) (vow : Int32) (vok : Int64) (vos : Int32) (vso : Nat → Int32) (vmi : Nat → Bool) (vco : Nat → Int64) (vex : Nat → Int32) (i1 : Nat) (i2 : Nat) (u : Int32) (hu : u = F_X3_orderOfSizes vso vco vex i1 i2) (hs : S_X3_orderOfSizes vso vco vex i1 i2) (hb1 : i1 < 9) (hb2 : i2 < 9) : XM l D (xty cR cI cJ cZ) t0 yX3_orderOfSizes cX3_orderOfSizes 5 (some .int) rm_X3_orderOfSizes [.ref (ad i1), .ref (ad i2)] (some (.int u)) (xw cR ax ar ao ad vrd vtr vsd vrn vom voh vol vop voe vow vok vos vso vmi vco vex) (xw cR ax ar ao ad vrd vtr vsd vrn vom voh vol vop voe vow vok vos vso vmi vco vex) := by
  refine XM.of (by decide) (Nat.le_of_ble_eq_true rfl) ?_
  intro p e s m args below meth c A Q F hK hP hD hA hSt hS hQ ls hl
  obtain ⟨hx, hb, hr, hts, hown, hlocks, hml⟩ := F
  have hCF : CallFix p m c cX3_orderOfSizes 5 s args gW RX3 := ⟨hx, hb, hml, hown, hts⟩
  unfold S_X3_orderOfSizes at hs
  have hu := rF_X3_orderOfSizes vso vco vex i1 i2 hu
  unfold RF_X3_orderOfSizes at hu
  obtain ⟨H, eH⟩ : ∃ y9 : Heap, y9 = s.heap := ⟨_, rfl⟩
  obtain ⟨locs, eL⟩ : ∃ y9 : List Loc, y9 = [] := ⟨_, rfl⟩
  rw [← eL] at hS ⊢
  have hP : va_P D vwCl (xw cR ax ar ao ad vrd vtr vsd vrn vom voh vol vop voe vow vok vos vso vmi vco vex) H := by rw [eH]; exact hP
  have hS : va_S A s.heap H locs := by rw [eH]; exact hS
  suffices goal9 : W p l e rm_X3_orderOfSizes s m args below meth c H locs 0 0 Q (F0 m 0 ls []) from by rw [← eH]; exact goal9
  have hl : lv_has ls 5 [(0, .ref (ad i1)), (1, .ref (ad i2))] := hl
  have hi0 : ∀ w ∈ wsX00, w ∈ gW := inW_X0
  refine lv_aload_n hx hb dX3_orderOfSizes_0 rfl (lv_at hl 0 rfl) ?_
  refine g_so (i := i1) hx hb hts hi0 hown hK hP hb1 (hts (.fieldLink RX3 70 "DecimalWords$Datum" "sort" "I") (inW_5 _ (List.mem_of_getElem? (i := 9) rfl))) dX3_orderOfSizes_1 ?_
  refine lv_iconst (v := 1) hx hb dX3_orderOfSizes_4 (by decide) ?_
  refine lv_icmp_eq (tgt := 16) hx hb dX3_orderOfSizes_5 (by decide) (fun c_101 => ?_) (fun c_101 => ?_)
  · rw [if_pos c_101] at hu
    refine lv_aload_n hx hb dX3_orderOfSizes_16 rfl (lv_at hl 0 rfl) ?_
    refine g_so (i := i1) hx hb hts hi0 hown hK hP hb1 (hts (.fieldLink RX3 70 "DecimalWords$Datum" "sort" "I") (inW_5 _ (List.mem_of_getElem? (i := 9) rfl))) dX3_orderOfSizes_17 ?_
    refine x_i2l hx hb dX3_orderOfSizes_20 ?_
    refine lv_aload_n hx hb dX3_orderOfSizes_21 rfl (lv_at hl 1 rfl) ?_
    refine g_so (i := i2) hx hb hts hi0 hown hK hP hb2 (hts (.fieldLink RX3 70 "DecimalWords$Datum" "sort" "I") (inW_5 _ (List.mem_of_getElem? (i := 9) rfl))) dX3_orderOfSizes_22 ?_
    refine x_i2l hx hb dX3_orderOfSizes_25 ?_
    refine x_S (As := [.long ((vso i1).toInt64), .long ((vso i2).toInt64)]) (rest := []) hCF (c_X3_orderOf l D cR cI cJ cZ t0 (xw cR ax ar ao ad vrd vtr vsd vrn vom voh vol vop voe vow vok vos vso vmi vco vex) ((vso i1).toInt64) ((vso i2).toInt64) _ rfl) (x_cwS 2 hts (inW_6 _ (List.mem_of_getElem? (i := 5) rfl)) (inW_6 _ (List.mem_of_getElem? (i := 6) rfl)) (inW_1 _ (List.mem_of_getElem? (i := 25) rfl)) (inW_6 _ (List.mem_of_getElem? (i := 7) rfl)) rfl rfl (by decide +kernel) ⟨Nat.le_of_ble_eq_true rfl, Nat.le_of_ble_eq_true rfl⟩) hK hP hD hS hA hSt rfl hl.1 rfl (Nat.le_of_ble_eq_true rfl) dX3_orderOfSizes_26 ⟨Nat.le_of_ble_eq_true rfl, Nat.le_of_ble_eq_true rfl⟩ (fun H locs hP hD hS => ?_)
    show W p l e _ s m args below meth c H locs 0 0 Q (F0 m 29 ls (.int (F_X3_orderOf ((vso i1).toInt64) ((vso i2).toInt64)) :: []))
    have e9 := Eq.symm hu; subst e9
    exact x_iret hx hb hr hlocks hQ hK hP hD hS rfl rfl dX3_orderOfSizes_29
  · rw [if_neg c_101] at hs
    rw [if_neg c_101] at hu
    refine lv_aload_n hx hb dX3_orderOfSizes_8 rfl (lv_at hl 1 rfl) ?_
    refine g_so (i := i2) hx hb hts hi0 hown hK hP hb2 (hts (.fieldLink RX3 70 "DecimalWords$Datum" "sort" "I") (inW_5 _ (List.mem_of_getElem? (i := 9) rfl))) dX3_orderOfSizes_9 ?_
    refine lv_iconst (v := 1) hx hb dX3_orderOfSizes_12 (by decide) ?_
    refine lv_icmp_ne (tgt := 30) hx hb dX3_orderOfSizes_13 (by decide) (fun c_103 => ?_) (fun c_103 => ?_)
    · rw [if_neg c_103] at hs
      rw [if_neg c_103] at hu
      refine lv_aload_n hx hb dX3_orderOfSizes_30 rfl (lv_at hl 0 rfl) ?_
      refine g_co (i := i1) hx hb hts hi0 hown hK hP hb1 (hts (.fieldLink RX3 81 "DecimalWords$Datum" "coefficient" "J") (inW_5 _ (List.mem_of_getElem? (i := 16) rfl))) dX3_orderOfSizes_31 ?_
      obtain ⟨h_104, hs⟩ := hs
      refine x_S (As := [.long (vco i1)]) (rest := []) hCF (c_X3_digitsOf l D cR cI cJ cZ t0 (xw cR ax ar ao ad vrd vtr vsd vrn vom voh vol vop voe vow vok vos vso vmi vco vex) (vco i1) _ rfl h_104) (x_cwS 1 hts (inW_5 _ (List.mem_of_getElem? (i := 23) rfl)) (inW_1 _ (List.mem_of_getElem? (i := 24) rfl)) (inW_1 _ (List.mem_of_getElem? (i := 25) rfl)) (inW_1 _ (List.mem_of_getElem? (i := 26) rfl)) rfl rfl (by decide +kernel) ⟨Nat.le_of_ble_eq_true rfl, Nat.le_of_ble_eq_true rfl⟩) hK hP hD hS hA hSt rfl hl.1 rfl (Nat.le_of_ble_eq_true rfl) dX3_orderOfSizes_34 ⟨Nat.le_of_ble_eq_true rfl, Nat.le_of_ble_eq_true rfl⟩ (fun H locs hP hD hS => ?_)
      show W p l e _ s m args below meth c H locs 0 0 Q (F0 m 37 ls (.int (F_X3_digitsOf (vco i1)) :: []))
      refine lv_topi (fun n106 en106 => ?_)
      have hs := hs _ en106
      have hu := hu _ en106
      refine lv_istore_n (lv' := [(2, .int n106), (0, .ref (ad i1)), (1, .ref (ad i2))]) hx hb dX3_orderOfSizes_37 rfl hl (by decide) rfl (fun ls hl => ?_)
      refine lv_aload_n hx hb dX3_orderOfSizes_38 rfl (lv_at hl 2 rfl) ?_
      refine g_co (i := i2) hx hb hts hi0 hown hK hP hb2 (hts (.fieldLink RX3 81 "DecimalWords$Datum" "coefficient" "J") (inW_5 _ (List.mem_of_getElem? (i := 16) rfl))) dX3_orderOfSizes_39 ?_
      obtain ⟨h_107, hs⟩ := hs
      refine x_S (As := [.long (vco i2)]) (rest := []) hCF (c_X3_digitsOf l D cR cI cJ cZ t0 (xw cR ax ar ao ad vrd vtr vsd vrn vom voh vol vop voe vow vok vos vso vmi vco vex) (vco i2) _ rfl h_107) (x_cwS 1 hts (inW_5 _ (List.mem_of_getElem? (i := 23) rfl)) (inW_1 _ (List.mem_of_getElem? (i := 24) rfl)) (inW_1 _ (List.mem_of_getElem? (i := 25) rfl)) (inW_1 _ (List.mem_of_getElem? (i := 26) rfl)) rfl rfl (by decide +kernel) ⟨Nat.le_of_ble_eq_true rfl, Nat.le_of_ble_eq_true rfl⟩) hK hP hD hS hA hSt rfl hl.1 rfl (Nat.le_of_ble_eq_true rfl) dX3_orderOfSizes_42 ⟨Nat.le_of_ble_eq_true rfl, Nat.le_of_ble_eq_true rfl⟩ (fun H locs hP hD hS => ?_)
      show W p l e _ s m args below meth c H locs 0 0 Q (F0 m 45 ls (.int (F_X3_digitsOf (vco i2)) :: []))
      refine lv_topi (fun n109 en109 => ?_)
      have hs := hs _ en109
      have hu := hu _ en109
      refine lv_istore_n (lv' := [(3, .int n109), (2, .int n106), (0, .ref (ad i1)), (1, .ref (ad i2))]) hx hb dX3_orderOfSizes_45 rfl hl (by decide) rfl (fun ls hl => ?_)
      refine lv_aload_n hx hb dX3_orderOfSizes_46 rfl (lv_at hl 2 rfl) ?_
      refine g_ex (i := i1) hx hb hts hi0 hown hK hP hb1 (hts (.fieldLink RX3 85 "DecimalWords$Datum" "exponent" "I") (inW_5 _ (List.mem_of_getElem? (i := 17) rfl))) dX3_orderOfSizes_47 ?_
      refine lv_iload_n hx hb dX3_orderOfSizes_50 rfl (lv_at hl 1 rfl) ?_
      refine lv_iadd hx hb dX3_orderOfSizes_51 ?_
      refine x_i2l hx hb dX3_orderOfSizes_52 ?_
      refine lv_aload_n hx hb dX3_orderOfSizes_53 rfl (lv_at hl 3 rfl) ?_
      refine g_ex (i := i2) hx hb hts hi0 hown hK hP hb2 (hts (.fieldLink RX3 85 "DecimalWords$Datum" "exponent" "I") (inW_5 _ (List.mem_of_getElem? (i := 17) rfl))) dX3_orderOfSizes_54 ?_
      refine lv_iload_n hx hb dX3_orderOfSizes_57 rfl (lv_at hl 0 rfl) ?_
      refine lv_iadd hx hb dX3_orderOfSizes_58 ?_
      refine x_i2l hx hb dX3_orderOfSizes_59 ?_
      refine x_S (As := [.long (((vex i1) + n106).toInt64), .long (((vex i2) + n109).toInt64)]) (rest := []) hCF (c_X3_orderOf l D cR cI cJ cZ t0 (xw cR ax ar ao ad vrd vtr vsd vrn vom voh vol vop voe vow vok vos vso vmi vco vex) (((vex i1) + n106).toInt64) (((vex i2) + n109).toInt64) _ rfl) (x_cwS 2 hts (inW_6 _ (List.mem_of_getElem? (i := 5) rfl)) (inW_6 _ (List.mem_of_getElem? (i := 6) rfl)) (inW_1 _ (List.mem_of_getElem? (i := 25) rfl)) (inW_6 _ (List.mem_of_getElem? (i := 7) rfl)) rfl rfl (by decide +kernel) ⟨Nat.le_of_ble_eq_true rfl, Nat.le_of_ble_eq_true rfl⟩) hK hP hD hS hA hSt rfl hl.1 rfl (Nat.le_of_ble_eq_true rfl) dX3_orderOfSizes_60 ⟨Nat.le_of_ble_eq_true rfl, Nat.le_of_ble_eq_true rfl⟩ (fun H locs hP hD hS => ?_)
      show W p l e _ s m args below meth c H locs 0 0 Q (F0 m 63 ls (.int (F_X3_orderOf (((vex i1) + n106).toInt64) (((vex i2) + n109).toInt64)) :: []))
      refine lv_topi (fun n111 en111 => ?_)
      have hs := hs _ en111
      have hu := hu _ en111
      refine lv_istore (lv' := [(4, .int n111), (3, .int n109), (2, .int n106), (0, .ref (ad i1)), (1, .ref (ad i2))]) hx hb dX3_orderOfSizes_63 hl (by decide) rfl (fun ls hl => ?_)
      refine lv_iload hx hb dX3_orderOfSizes_65 (lv_at hl 0 rfl) ?_
      refine lv_if_eq (tgt := 73) hx hb dX3_orderOfSizes_67 (by decide) (fun c_112 => ?_) (fun c_112 => ?_)
      · rw [if_pos c_112] at hs
        rw [if_pos c_112] at hu
        refine lv_aload_n hx hb dX3_orderOfSizes_73 rfl (lv_at hl 3 rfl) ?_
        refine g_co (i := i1) hx hb hts hi0 hown hK hP hb1 (hts (.fieldLink RX3 81 "DecimalWords$Datum" "coefficient" "J") (inW_5 _ (List.mem_of_getElem? (i := 16) rfl))) dX3_orderOfSizes_74 ?_
        refine lv_bipush (v := 16) hx hb dX3_orderOfSizes_77 (by decide) ?_
        refine lv_iload_n hx hb dX3_orderOfSizes_79 rfl (lv_at hl 2 rfl) ?_
        refine lv_isub hx hb dX3_orderOfSizes_80 ?_
        obtain ⟨h_113, hs⟩ := hs
        refine x_S (As := [.int (16 - n106)]) (rest := [.long (vco i1)]) hCF (c_X3_tenTo l D cR cI cJ cZ t0 (xw cR ax ar ao ad vrd vtr vsd vrn vom voh vol vop voe vow vok vos vso vmi vco vex) (16 - n106) _ rfl h_113) (x_cwS 1 hts (inW_5 _ (List.mem_of_getElem? (i := 24) rfl)) (inW_2 _ (List.mem_of_getElem? (i := 9) rfl)) (inW_1 _ (List.mem_of_getElem? (i := 25) rfl)) (inW_2 _ (List.mem_of_getElem? (i := 10) rfl)) rfl rfl (by decide +kernel) ⟨Nat.le_of_ble_eq_true rfl, Nat.le_of_ble_eq_true rfl⟩) hK hP hD hS hA hSt rfl hl.1 rfl (Nat.le_of_ble_eq_true rfl) dX3_orderOfSizes_81 ⟨Nat.le_of_ble_eq_true rfl, Nat.le_of_ble_eq_true rfl⟩ (fun H locs hP hD hS => ?_)
        show W p l e _ s m args below meth c H locs 0 0 Q (F0 m 84 ls (.long (F_X3_tenTo (16 - n106)) :: [.long (vco i1)]))
        refine lv_lmul hx hb dX3_orderOfSizes_84 ?_
        refine lv_aload_n hx hb dX3_orderOfSizes_85 rfl (lv_at hl 4 rfl) ?_
        refine g_co (i := i2) hx hb hts hi0 hown hK hP hb2 (hts (.fieldLink RX3 81 "DecimalWords$Datum" "coefficient" "J") (inW_5 _ (List.mem_of_getElem? (i := 16) rfl))) dX3_orderOfSizes_86 ?_
        refine lv_bipush (v := 16) hx hb dX3_orderOfSizes_89 (by decide) ?_
        refine lv_iload_n hx hb dX3_orderOfSizes_91 rfl (lv_at hl 1 rfl) ?_
        refine lv_isub hx hb dX3_orderOfSizes_92 ?_
        have h_115 := hs
        refine x_S (As := [.int (16 - n109)]) (rest := [.long (vco i2), .long ((vco i1) * (F_X3_tenTo (16 - n106)))]) hCF (c_X3_tenTo l D cR cI cJ cZ t0 (xw cR ax ar ao ad vrd vtr vsd vrn vom voh vol vop voe vow vok vos vso vmi vco vex) (16 - n109) _ rfl h_115) (x_cwS 1 hts (inW_5 _ (List.mem_of_getElem? (i := 24) rfl)) (inW_2 _ (List.mem_of_getElem? (i := 9) rfl)) (inW_1 _ (List.mem_of_getElem? (i := 25) rfl)) (inW_2 _ (List.mem_of_getElem? (i := 10) rfl)) rfl rfl (by decide +kernel) ⟨Nat.le_of_ble_eq_true rfl, Nat.le_of_ble_eq_true rfl⟩) hK hP hD hS hA hSt rfl hl.1 rfl (Nat.le_of_ble_eq_true rfl) dX3_orderOfSizes_93 ⟨Nat.le_of_ble_eq_true rfl, Nat.le_of_ble_eq_true rfl⟩ (fun H locs hP hD hS => ?_)
        show W p l e _ s m args below meth c H locs 0 0 Q (F0 m 96 ls (.long (F_X3_tenTo (16 - n109)) :: [.long (vco i2), .long ((vco i1) * (F_X3_tenTo (16 - n106)))]))
        refine lv_lmul hx hb dX3_orderOfSizes_96 ?_
        refine x_S (As := [.long ((vco i1) * (F_X3_tenTo (16 - n106))), .long ((vco i2) * (F_X3_tenTo (16 - n109)))]) (rest := []) hCF (c_X3_orderOf l D cR cI cJ cZ t0 (xw cR ax ar ao ad vrd vtr vsd vrn vom voh vol vop voe vow vok vos vso vmi vco vex) ((vco i1) * (F_X3_tenTo (16 - n106))) ((vco i2) * (F_X3_tenTo (16 - n109))) _ rfl) (x_cwS 2 hts (inW_6 _ (List.mem_of_getElem? (i := 5) rfl)) (inW_6 _ (List.mem_of_getElem? (i := 6) rfl)) (inW_1 _ (List.mem_of_getElem? (i := 25) rfl)) (inW_6 _ (List.mem_of_getElem? (i := 7) rfl)) rfl rfl (by decide +kernel) ⟨Nat.le_of_ble_eq_true rfl, Nat.le_of_ble_eq_true rfl⟩) hK hP hD hS hA hSt rfl hl.1 rfl (Nat.le_of_ble_eq_true rfl) dX3_orderOfSizes_97 ⟨Nat.le_of_ble_eq_true rfl, Nat.le_of_ble_eq_true rfl⟩ (fun H locs hP hD hS => ?_)
        show W p l e _ s m args below meth c H locs 0 0 Q (F0 m 100 ls (.int (F_X3_orderOf ((vco i1) * (F_X3_tenTo (16 - n106))) ((vco i2) * (F_X3_tenTo (16 - n109)))) :: []))
        have e9 := Eq.symm hu; subst e9
        exact x_iret hx hb hr hlocks hQ hK hP hD hS rfl rfl dX3_orderOfSizes_100
      · rw [if_neg c_112] at hu
        refine lv_iload hx hb dX3_orderOfSizes_70 (lv_at hl 0 rfl) ?_
        have e9 := Eq.symm hu; subst e9
        exact x_iret hx hb hr hlocks hQ hK hP hD hS rfl rfl dX3_orderOfSizes_72
    · rw [if_pos c_103] at hu
      refine lv_aload_n hx hb dX3_orderOfSizes_16 rfl (lv_at hl 0 rfl) ?_
      refine g_so (i := i1) hx hb hts hi0 hown hK hP hb1 (hts (.fieldLink RX3 70 "DecimalWords$Datum" "sort" "I") (inW_5 _ (List.mem_of_getElem? (i := 9) rfl))) dX3_orderOfSizes_17 ?_
      refine x_i2l hx hb dX3_orderOfSizes_20 ?_
      refine lv_aload_n hx hb dX3_orderOfSizes_21 rfl (lv_at hl 1 rfl) ?_
      refine g_so (i := i2) hx hb hts hi0 hown hK hP hb2 (hts (.fieldLink RX3 70 "DecimalWords$Datum" "sort" "I") (inW_5 _ (List.mem_of_getElem? (i := 9) rfl))) dX3_orderOfSizes_22 ?_
      refine x_i2l hx hb dX3_orderOfSizes_25 ?_
      refine x_S (As := [.long ((vso i1).toInt64), .long ((vso i2).toInt64)]) (rest := []) hCF (c_X3_orderOf l D cR cI cJ cZ t0 (xw cR ax ar ao ad vrd vtr vsd vrn vom voh vol vop voe vow vok vos vso vmi vco vex) ((vso i1).toInt64) ((vso i2).toInt64) _ rfl) (x_cwS 2 hts (inW_6 _ (List.mem_of_getElem? (i := 5) rfl)) (inW_6 _ (List.mem_of_getElem? (i := 6) rfl)) (inW_1 _ (List.mem_of_getElem? (i := 25) rfl)) (inW_6 _ (List.mem_of_getElem? (i := 7) rfl)) rfl rfl (by decide +kernel) ⟨Nat.le_of_ble_eq_true rfl, Nat.le_of_ble_eq_true rfl⟩) hK hP hD hS hA hSt rfl hl.1 rfl (Nat.le_of_ble_eq_true rfl) dX3_orderOfSizes_26 ⟨Nat.le_of_ble_eq_true rfl, Nat.le_of_ble_eq_true rfl⟩ (fun H locs hP hD hS => ?_)
      show W p l e _ s m args below meth c H locs 0 0 Q (F0 m 29 ls (.int (F_X3_orderOf ((vso i1).toInt64) ((vso i2).toInt64)) :: []))
      have e9 := Eq.symm hu; subst e9
      exact x_iret hx hb hr hlocks hQ hK hP hD hS rfl rfl dX3_orderOfSizes_29
