def F_X3_fitWithoutRest (vom : Bool) (voh : Int64) (vol : Int64) (vop : Int32) (voe : Bool) (vow : Int32) (vso : Nat → Int32) (vmi : Nat → Bool) (vco : Nat → Int64) (vex : Nat → Int32)  : Bool × Int64 × Int64 × Int32 × (Nat → Int32) × (Nat → Bool) × (Nat → Int64) × (Nat → Int32) := (if voe = true then (false, voh, vol, vop, vso, vmi, vco, vex) else (bnd (F_X1_dropZeros voh vol vop) (fun u103 : Int64 × Int64 × Int32 => (if u103.1 = 0 then (bnd (jmax (-398) (u103.2.2 - (16 - (F_X3_digitsOf u103.2.1)))) (fun n108 : Int32 => (bnd (jmin 369 u103.2.2) (fun n109 : Int32 => (if n108 ≤ n109 then (bnd (jmax n108 (jmin vow n109)) (fun n111 : Int32 => (bnd (F_X0_setFinite vso vmi vco vex 8 vom (u103.2.1 * (F_X3_tenTo (u103.2.2 - n111))) n111) (fun u114 : (Nat → Int32) × (Nat → Bool) × (Nat → Int64) × (Nat → Int32) => (true, u103.1, u103.2.1, u103.2.2, u114.1, u114.2.1, u114.2.2.1, u114.2.2.2))))) else (false, u103.1, u103.2.1, u103.2.2, vso, vmi, vco, vex)))))) else (false, u103.1, u103.2.1, u103.2.2, vso, vmi, vco, vex)))))
def RF_X3_fitWithoutRest (vom : Bool) (voh : Int64) (vol : Int64) (vop : Int32) (voe : Bool) (vow : Int32) (vso : Nat → Int32) (vmi : Nat → Bool) (vco : Nat → Int64) (vex : Nat → Int32)  (u9 : Bool × Int64 × Int64 × Int32 × (Nat → Int32) × (Nat → Bool) × (Nat → Int64) × (Nat → Int32)) : Prop := (if voe = true then u9 = (false, voh, vol, vop, vso, vmi, vco, vex) else (∀ u103 : Int64 × Int64 × Int32, u103 = F_X1_dropZeros voh vol vop → (if u103.1 = 0 then (∀ n108 : Int32, n108 = jmax (-398) (u103.2.2 - (16 - (F_X3_digitsOf u103.2.1))) → (∀ n109 : Int32, n109 = jmin 369 u103.2.2 → (if n108 ≤ n109 then (∀ n111 : Int32, n111 = jmax n108 (jmin vow n109) → (∀ u114 : (Nat → Int32) × (Nat → Bool) × (Nat → Int64) × (Nat → Int32), u114 = F_X0_setFinite vso vmi vco vex 8 vom (u103.2.1 * (F_X3_tenTo (u103.2.2 - n111))) n111 → u9 = (true, u103.1, u103.2.1, u103.2.2, u114.1, u114.2.1, u114.2.2.1, u114.2.2.2))) else u9 = (false, u103.1, u103.2.1, u103.2.2, vso, vmi, vco, vex)))) else u9 = (false, u103.1, u103.2.1, u103.2.2, vso, vmi, vco, vex))))
theorem rF_X3_fitWithoutRest (vom : Bool) (voh : Int64) (vol : Int64) (vop : Int32) (voe : Bool) (vow : Int32) (vso : Nat → Int32) (vmi : Nat → Bool) (vco : Nat → Int64) (vex : Nat → Int32)  {u9 : Bool × Int64 × Int64 × Int32 × (Nat → Int32) × (Nat → Bool) × (Nat → Int64) × (Nat → Int32)} (hu : u9 = F_X3_fitWithoutRest vom voh vol vop voe vow vso vmi vco vex) : RF_X3_fitWithoutRest vom voh vol vop voe vow vso vmi vco vex u9 := by
  unfold RF_X3_fitWithoutRest
  refine ite_P (fun c_101 => ?_) (fun c_101 => ?_)
  · have hu := hu.trans (if_pos c_101)
    exact hu
  · have hu := hu.trans (if_neg c_101)
    intro u103 eu103
    have hu := bnd_n hu eu103
    refine ite_P (fun c_105 => ?_) (fun c_105 => ?_)
    · have hu := hu.trans (if_pos c_105)
      intro n108 en108
      have hu := bnd_n hu en108
      intro n109 en109
      have hu := bnd_n hu en109
      refine ite_P (fun c_110 => ?_) (fun c_110 => ?_)
      · have hu := hu.trans (if_pos c_110)
        intro n111 en111
        have hu := bnd_n hu en111
        intro u114 eu114
        have hu := bnd_n hu eu114
        exact hu
      · have hu := hu.trans (if_neg c_110)
        exact hu
    · have hu := hu.trans (if_neg c_105)
      exact hu
def S_X3_fitWithoutRest (vom : Bool) (voh : Int64) (vol : Int64) (vop : Int32) (voe : Bool) (vow : Int32) (vso : Nat → Int32) (vmi : Nat → Bool) (vco : Nat → Int64) (vex : Nat → Int32)  : Prop := (if voe = true then True else (S_X1_dropZeros voh vol vop) ∧ (∀ u103 : Int64 × Int64 × Int32, u103 = F_X1_dropZeros voh vol vop → (if u103.1 = 0 then (S_X3_digitsOf u103.2.1) ∧ (∀ n108 : Int32, n108 = jmax (-398) (u103.2.2 - (16 - (F_X3_digitsOf u103.2.1))) → (∀ n109 : Int32, n109 = jmin 369 u103.2.2 → (if n108 ≤ n109 then (∀ n111 : Int32, n111 = jmax n108 (jmin vow n109) → S_X3_tenTo (u103.2.2 - n111)) else True))) else True)))
def rm_X3_fitWithoutRest : Room := { frames := 1, cells := 0, slots := 0, locals := 40 }
set_option maxHeartbeats 4000000 in
set_option maxRecDepth 100000 in
theorem c_X3_fitWithoutRest (l : Launch) (D : va_G) (cR cI cJ cZ : ClassId) (t0 : Nat) (ax ar ao : Nat) (ad : Nat → Nat) (vrd : Int32) (vtr : Int32) (vsd : Int32) (vrn : Int32) (vom : Bool) (voh : Int64) (vol : Int64) (vop : Int32) (voe : Bool) (vow : Int32) (vok : Int64) (vos : Int32) (vso : Nat → Int32) (vmi : Nat → Bool) (vco : Nat → Int64) (vex : Nat → Int32)  (u : Bool × Int64 × Int64 × Int32 × (Nat → Int32) × (Nat → Bool) × (Nat → Int64) × (Nat → Int32)) (hu : u = F_X3_fitWithoutRest vom voh vol vop voe vow vso vmi vco vex) (hs : S_X3_fitWithoutRest vom voh vol vop voe vow vso vmi vco vex) : XM l D (xty cR cI cJ cZ) t0 yX3_fitWithoutRest cX3_fitWithoutRest 4 (some .boolean) rm_X3_fitWithoutRest [.ref ax] (some (.int (bI u.1))) (xw cR ax ar ao ad vrd vtr vsd vrn vom voh vol vop voe vow vok vos vso vmi vco vex) (xw cR ax ar ao ad vrd vtr vsd vrn vom u.2.1 u.2.2.1 u.2.2.2.1 voe vow vok vos u.2.2.2.2.1 u.2.2.2.2.2.1 u.2.2.2.2.2.2.1 u.2.2.2.2.2.2.2) := by
  refine XM.of (by decide) (Nat.le_of_ble_eq_true rfl) ?_
  intro p e s m args below meth c A Q F hK hP hD hA hSt hS hQ ls hl
  obtain ⟨hx, hb, hr, hts, hown, hlocks, hml⟩ := F
  have hCF : CallFix p m c cX3_fitWithoutRest 4 s args gW RX3 := ⟨hx, hb, hml, hown, hts⟩
  unfold S_X3_fitWithoutRest at hs
  have hu := rF_X3_fitWithoutRest vom voh vol vop voe vow vso vmi vco vex hu
  unfold RF_X3_fitWithoutRest at hu
  obtain ⟨H, eH⟩ : ∃ y9 : Heap, y9 = s.heap := ⟨_, rfl⟩
  obtain ⟨locs, eL⟩ : ∃ y9 : List Loc, y9 = [] := ⟨_, rfl⟩
  rw [← eL] at hS ⊢
  have hP : va_P D vwCl (xw cR ax ar ao ad vrd vtr vsd vrn vom voh vol vop voe vow vok vos vso vmi vco vex) H := by rw [eH]; exact hP
  have hS : va_S A s.heap H locs := by rw [eH]; exact hS
  suffices goal9 : W p l e rm_X3_fitWithoutRest s m args below meth c H locs 0 0 Q (F0 m 0 ls []) from by rw [← eH]; exact goal9
  have hl : lv_has ls 4 [(0, .ref ax)] := hl
  have hi1 : ∀ w ∈ wsX10, w ∈ gW := inW_X1
  have hi3 : ∀ w ∈ wsX30, w ∈ gW := inW_X3
  refine lv_aload_n hx hb dX3_fitWithoutRest_0 rfl (lv_at hl 0 rfl) ?_
  refine va_get (D := D) (ci := 4) (v := .ref ao) (C := RX3) (T := TX3) (N := 7) hx hb hts hi3 hown hK hP 0 rfl rfl 2 (by decide) (hts (.fieldLink RX3 23 "DecimalWords" "outcome" "LDecimalWords$Outcome;") (inW_4 _ (List.mem_of_getElem? (i := 21) rfl))) (fun _ h9 => h9) rfl dX3_fitWithoutRest_1 ?_
  refine va_get (D := D) (ci := 3) (v := .int (bI voe)) (C := RX1) (T := TX1) (N := 8) hx hb hts hi1 hown hK hP 2 rfl rfl 4 (by decide) (hts (.fieldLink RX3 223 "DecimalWords$Outcome" "more" "Z") (inW_7 _ (List.mem_of_getElem? (i := 5) rfl))) (fun _ h9 => h9) rfl dX3_fitWithoutRest_4 ?_
  refine xb_eq (tgt := 12) hx hb dX3_fitWithoutRest_7 (by decide) (fun c_101 => ?_) (fun c_101 => ?_)
  · rw [if_neg c_101] at hs
    rw [if_neg c_101] at hu
    refine lv_aload_n hx hb dX3_fitWithoutRest_12 rfl (lv_at hl 0 rfl) ?_
    refine va_get (D := D) (ci := 4) (v := .ref ao) (C := RX3) (T := TX3) (N := 7) hx hb hts hi3 hown hK hP 0 rfl rfl 2 (by decide) (hts (.fieldLink RX3 23 "DecimalWords" "outcome" "LDecimalWords$Outcome;") (inW_4 _ (List.mem_of_getElem? (i := 21) rfl))) (fun _ h9 => h9) rfl dX3_fitWithoutRest_13 ?_
    obtain ⟨h_102, hs⟩ := hs
    obtain ⟨u103, eu103⟩ : ∃ y9 : Int64 × Int64 × Int32, y9 = F_X1_dropZeros voh vol vop := ⟨_, rfl⟩
    have hs := hs _ eu103
    have hu := hu _ eu103
    refine x_V (As := []) (rest := []) hCF (c_X1_dropZeros l D cR cI cJ cZ t0 ax ar ao ad vrd vtr vsd vrn vom voh vol vop voe vow vok vos vso vmi vco vex u103 eu103 h_102) (x_cwV 0 hts (inW_7 _ (List.mem_of_getElem? (i := 9) rfl)) (inW_7 _ (List.mem_of_getElem? (i := 10) rfl)) (inW_7 _ (List.mem_of_getElem? (i := 11) rfl)) (inW_2 _ (List.mem_of_getElem? (i := 4) rfl)) (inW_2 _ (List.mem_of_getElem? (i := 26) rfl)) rfl rfl (by decide +kernel) ⟨Nat.le_of_ble_eq_true rfl, Nat.le_of_ble_eq_true rfl⟩) hK hP hD hS hA hSt 2 rfl rfl rfl hl.1 rfl (Nat.le_of_ble_eq_true rfl) dX3_fitWithoutRest_16 ⟨Nat.le_of_ble_eq_true rfl, Nat.le_of_ble_eq_true rfl⟩ (fun H locs hP hD hS => ?_)
    show W p l e _ s m args below meth c H locs 0 0 Q (F0 m 19 ls [])
    refine lv_aload_n hx hb dX3_fitWithoutRest_19 rfl (lv_at hl 0 rfl) ?_
    refine va_get (D := D) (ci := 4) (v := .ref ao) (C := RX3) (T := TX3) (N := 7) hx hb hts hi3 hown hK hP 0 rfl rfl 2 (by decide) (hts (.fieldLink RX3 23 "DecimalWords" "outcome" "LDecimalWords$Outcome;") (inW_4 _ (List.mem_of_getElem? (i := 21) rfl))) (fun _ h9 => h9) rfl dX3_fitWithoutRest_20 ?_
    refine va_get (D := D) (ci := 3) (v := .long u103.1) (C := RX1) (T := TX1) (N := 8) hx hb hts hi1 hown hK hP 2 rfl rfl 1 (by decide) (hts (.fieldLink RX3 229 "DecimalWords$Outcome" "high" "J") (inW_7 _ (List.mem_of_getElem? (i := 6) rfl))) (fun _ h9 => h9) rfl dX3_fitWithoutRest_23 ?_
    refine lv_lconst (v := 0) hx hb dX3_fitWithoutRest_26 (by decide) ?_
    refine xl_eq (tgt := 33) hx hb dX3_fitWithoutRest_27 dX3_fitWithoutRest_28 (by decide) (fun c_105 => ?_) (fun c_105 => ?_)
    · rw [if_pos c_105] at hs
      rw [if_pos c_105] at hu
      refine lv_sipush (v := (-398)) hx hb dX3_fitWithoutRest_33 (by decide) ?_
      refine lv_aload_n hx hb dX3_fitWithoutRest_36 rfl (lv_at hl 0 rfl) ?_
      refine va_get (D := D) (ci := 4) (v := .ref ao) (C := RX3) (T := TX3) (N := 7) hx hb hts hi3 hown hK hP 0 rfl rfl 2 (by decide) (hts (.fieldLink RX3 23 "DecimalWords" "outcome" "LDecimalWords$Outcome;") (inW_4 _ (List.mem_of_getElem? (i := 21) rfl))) (fun _ h9 => h9) rfl dX3_fitWithoutRest_37 ?_
      refine va_get (D := D) (ci := 3) (v := .int u103.2.2) (C := RX1) (T := TX1) (N := 8) hx hb hts hi1 hown hK hP 2 rfl rfl 3 (by decide) (hts (.fieldLink RX3 232 "DecimalWords$Outcome" "power" "I") (inW_7 _ (List.mem_of_getElem? (i := 7) rfl))) (fun _ h9 => h9) rfl dX3_fitWithoutRest_40 ?_
      refine lv_bipush (v := 16) hx hb dX3_fitWithoutRest_43 (by decide) ?_
      refine lv_aload_n hx hb dX3_fitWithoutRest_45 rfl (lv_at hl 0 rfl) ?_
      refine va_get (D := D) (ci := 4) (v := .ref ao) (C := RX3) (T := TX3) (N := 7) hx hb hts hi3 hown hK hP 0 rfl rfl 2 (by decide) (hts (.fieldLink RX3 23 "DecimalWords" "outcome" "LDecimalWords$Outcome;") (inW_4 _ (List.mem_of_getElem? (i := 21) rfl))) (fun _ h9 => h9) rfl dX3_fitWithoutRest_46 ?_
      refine va_get (D := D) (ci := 3) (v := .long u103.2.1) (C := RX1) (T := TX1) (N := 8) hx hb hts hi1 hown hK hP 2 rfl rfl 2 (by decide) (hts (.fieldLink RX3 235 "DecimalWords$Outcome" "low" "J") (inW_7 _ (List.mem_of_getElem? (i := 8) rfl))) (fun _ h9 => h9) rfl dX3_fitWithoutRest_49 ?_
      obtain ⟨h_106, hs⟩ := hs
      refine x_S (As := [.long u103.2.1]) (rest := [.int 16, .int u103.2.2, .int (-398)]) hCF (c_X3_digitsOf l D cR cI cJ cZ t0 (xw cR ax ar ao ad vrd vtr vsd vrn vom u103.1 u103.2.1 u103.2.2 voe vow vok vos vso vmi vco vex) u103.2.1 _ rfl h_106) (x_cwS 1 hts (inW_5 _ (List.mem_of_getElem? (i := 23) rfl)) (inW_1 _ (List.mem_of_getElem? (i := 24) rfl)) (inW_1 _ (List.mem_of_getElem? (i := 25) rfl)) (inW_1 _ (List.mem_of_getElem? (i := 26) rfl)) rfl rfl (by decide +kernel) ⟨Nat.le_of_ble_eq_true rfl, Nat.le_of_ble_eq_true rfl⟩) hK hP hD hS hA hSt rfl hl.1 rfl (Nat.le_of_ble_eq_true rfl) dX3_fitWithoutRest_52 ⟨Nat.le_of_ble_eq_true rfl, Nat.le_of_ble_eq_true rfl⟩ (fun H locs hP hD hS => ?_)
      show W p l e _ s m args below meth c H locs 0 0 Q (F0 m 55 ls (.int (F_X3_digitsOf u103.2.1) :: [.int 16, .int u103.2.2, .int (-398)]))
      refine lv_isub hx hb dX3_fitWithoutRest_55 ?_
      refine lv_isub hx hb dX3_fitWithoutRest_56 ?_
      refine x_max hx hb hml hl.1 hts hown (inW_6 _ (List.mem_of_getElem? (i := 36) rfl)) (inW_6 _ (List.mem_of_getElem? (i := 37) rfl)) (inW_1 _ (List.mem_of_getElem? (i := 37) rfl)) (inW_6 _ (List.mem_of_getElem? (i := 38) rfl)) (Nat.le_of_ble_eq_true rfl) (Nat.le_of_ble_eq_true rfl) (Nat.le_of_ble_eq_true rfl) (Nat.le_of_ble_eq_true rfl) dX3_fitWithoutRest_57 ?_
      refine lv_topi (fun n108 en108 => ?_)
      have hs := hs _ en108
      have hu := hu _ en108
      refine lv_istore_n (lv' := [(1, .int n108), (0, .ref ax)]) hx hb dX3_fitWithoutRest_60 rfl hl (by decide) rfl (fun ls hl => ?_)
      refine lv_sipush (v := 369) hx hb dX3_fitWithoutRest_61 (by decide) ?_
      refine lv_aload_n hx hb dX3_fitWithoutRest_64 rfl (lv_at hl 1 rfl) ?_
      refine va_get (D := D) (ci := 4) (v := .ref ao) (C := RX3) (T := TX3) (N := 7) hx hb hts hi3 hown hK hP 0 rfl rfl 2 (by decide) (hts (.fieldLink RX3 23 "DecimalWords" "outcome" "LDecimalWords$Outcome;") (inW_4 _ (List.mem_of_getElem? (i := 21) rfl))) (fun _ h9 => h9) rfl dX3_fitWithoutRest_65 ?_
      refine va_get (D := D) (ci := 3) (v := .int u103.2.2) (C := RX1) (T := TX1) (N := 8) hx hb hts hi1 hown hK hP 2 rfl rfl 3 (by decide) (hts (.fieldLink RX3 232 "DecimalWords$Outcome" "power" "I") (inW_7 _ (List.mem_of_getElem? (i := 7) rfl))) (fun _ h9 => h9) rfl dX3_fitWithoutRest_68 ?_
      refine x_min hx hb hml hl.1 hts hown (inW_5 _ (List.mem_of_getElem? (i := 18) rfl)) (inW_1 _ (List.mem_of_getElem? (i := 36) rfl)) (inW_1 _ (List.mem_of_getElem? (i := 37) rfl)) (inW_1 _ (List.mem_of_getElem? (i := 38) rfl)) (Nat.le_of_ble_eq_true rfl) (Nat.le_of_ble_eq_true rfl) (Nat.le_of_ble_eq_true rfl) (Nat.le_of_ble_eq_true rfl) dX3_fitWithoutRest_71 ?_
      refine lv_topi (fun n109 en109 => ?_)
      have hs := hs _ en109
      have hu := hu _ en109
      refine lv_istore_n (lv' := [(2, .int n109), (1, .int n108), (0, .ref ax)]) hx hb dX3_fitWithoutRest_74 rfl hl (by decide) rfl (fun ls hl => ?_)
      refine lv_iload_n hx hb dX3_fitWithoutRest_75 rfl (lv_at hl 1 rfl) ?_
      refine lv_iload_n hx hb dX3_fitWithoutRest_76 rfl (lv_at hl 0 rfl) ?_
      refine lv_icmp_le (tgt := 82) hx hb dX3_fitWithoutRest_77 (by decide) (fun c_110 => ?_) (fun c_110 => ?_)
      · rw [if_pos c_110] at hs
        rw [if_pos c_110] at hu
        refine lv_iload_n hx hb dX3_fitWithoutRest_82 rfl (lv_at hl 1 rfl) ?_
        refine lv_aload_n hx hb dX3_fitWithoutRest_83 rfl (lv_at hl 2 rfl) ?_
        refine va_get (D := D) (ci := 4) (v := .ref ao) (C := RX3) (T := TX3) (N := 7) hx hb hts hi3 hown hK hP 0 rfl rfl 2 (by decide) (hts (.fieldLink RX3 23 "DecimalWords" "outcome" "LDecimalWords$Outcome;") (inW_4 _ (List.mem_of_getElem? (i := 21) rfl))) (fun _ h9 => h9) rfl dX3_fitWithoutRest_84 ?_
        refine va_get (D := D) (ci := 3) (v := .int vow) (C := RX1) (T := TX1) (N := 8) hx hb hts hi1 hown hK hP 2 rfl rfl 5 (by decide) (hts (.fieldLink RX3 210 "DecimalWords$Outcome" "wish" "I") (inW_6 _ (List.mem_of_getElem? (i := 35) rfl))) (fun _ h9 => h9) rfl dX3_fitWithoutRest_87 ?_
        refine lv_iload_n hx hb dX3_fitWithoutRest_90 rfl (lv_at hl 0 rfl) ?_
        refine x_min hx hb hml hl.1 hts hown (inW_5 _ (List.mem_of_getElem? (i := 18) rfl)) (inW_1 _ (List.mem_of_getElem? (i := 36) rfl)) (inW_1 _ (List.mem_of_getElem? (i := 37) rfl)) (inW_1 _ (List.mem_of_getElem? (i := 38) rfl)) (Nat.le_of_ble_eq_true rfl) (Nat.le_of_ble_eq_true rfl) (Nat.le_of_ble_eq_true rfl) (Nat.le_of_ble_eq_true rfl) dX3_fitWithoutRest_91 ?_
        refine x_max hx hb hml hl.1 hts hown (inW_6 _ (List.mem_of_getElem? (i := 36) rfl)) (inW_6 _ (List.mem_of_getElem? (i := 37) rfl)) (inW_1 _ (List.mem_of_getElem? (i := 37) rfl)) (inW_6 _ (List.mem_of_getElem? (i := 38) rfl)) (Nat.le_of_ble_eq_true rfl) (Nat.le_of_ble_eq_true rfl) (Nat.le_of_ble_eq_true rfl) (Nat.le_of_ble_eq_true rfl) dX3_fitWithoutRest_94 ?_
        refine lv_topi (fun n111 en111 => ?_)
        have hs := hs _ en111
        have hu := hu _ en111
        refine lv_istore_n (lv' := [(3, .int n111), (2, .int n109), (1, .int n108), (0, .ref ax)]) hx hb dX3_fitWithoutRest_97 rfl hl (by decide) rfl (fun ls hl => ?_)
        refine lv_aload_n hx hb dX3_fitWithoutRest_98 rfl (lv_at hl 3 rfl) ?_
        refine va_get (D := D) (ci := 4) (v := .ref (ad 8)) (C := RX3) (T := TX3) (N := 7) hx hb hts hi3 hown hK hP 0 rfl rfl 1 (by decide) (hts (.fieldLink RX3 16 "DecimalWords" "result" "LDecimalWords$Datum;") (inW_4 _ (List.mem_of_getElem? (i := 18) rfl))) (fun _ h9 => h9) rfl dX3_fitWithoutRest_99 ?_
        refine lv_aload_n hx hb dX3_fitWithoutRest_102 rfl (lv_at hl 3 rfl) ?_
        refine va_get (D := D) (ci := 4) (v := .ref ao) (C := RX3) (T := TX3) (N := 7) hx hb hts hi3 hown hK hP 0 rfl rfl 2 (by decide) (hts (.fieldLink RX3 23 "DecimalWords" "outcome" "LDecimalWords$Outcome;") (inW_4 _ (List.mem_of_getElem? (i := 21) rfl))) (fun _ h9 => h9) rfl dX3_fitWithoutRest_103 ?_
        refine va_get (D := D) (ci := 3) (v := .int (bI vom)) (C := RX1) (T := TX1) (N := 8) hx hb hts hi1 hown hK hP 2 rfl rfl 0 (by decide) (hts (.fieldLink RX3 216 "DecimalWords$Outcome" "minus" "Z") (inW_6 _ (List.mem_of_getElem? (i := 39) rfl))) (fun _ h9 => h9) rfl dX3_fitWithoutRest_106 ?_
        refine lv_aload_n hx hb dX3_fitWithoutRest_109 rfl (lv_at hl 3 rfl) ?_
        refine va_get (D := D) (ci := 4) (v := .ref ao) (C := RX3) (T := TX3) (N := 7) hx hb hts hi3 hown hK hP 0 rfl rfl 2 (by decide) (hts (.fieldLink RX3 23 "DecimalWords" "outcome" "LDecimalWords$Outcome;") (inW_4 _ (List.mem_of_getElem? (i := 21) rfl))) (fun _ h9 => h9) rfl dX3_fitWithoutRest_110 ?_
        refine va_get (D := D) (ci := 3) (v := .long u103.2.1) (C := RX1) (T := TX1) (N := 8) hx hb hts hi1 hown hK hP 2 rfl rfl 2 (by decide) (hts (.fieldLink RX3 235 "DecimalWords$Outcome" "low" "J") (inW_7 _ (List.mem_of_getElem? (i := 8) rfl))) (fun _ h9 => h9) rfl dX3_fitWithoutRest_113 ?_
        refine lv_aload_n hx hb dX3_fitWithoutRest_116 rfl (lv_at hl 3 rfl) ?_
        refine va_get (D := D) (ci := 4) (v := .ref ao) (C := RX3) (T := TX3) (N := 7) hx hb hts hi3 hown hK hP 0 rfl rfl 2 (by decide) (hts (.fieldLink RX3 23 "DecimalWords" "outcome" "LDecimalWords$Outcome;") (inW_4 _ (List.mem_of_getElem? (i := 21) rfl))) (fun _ h9 => h9) rfl dX3_fitWithoutRest_117 ?_
        refine va_get (D := D) (ci := 3) (v := .int u103.2.2) (C := RX1) (T := TX1) (N := 8) hx hb hts hi1 hown hK hP 2 rfl rfl 3 (by decide) (hts (.fieldLink RX3 232 "DecimalWords$Outcome" "power" "I") (inW_7 _ (List.mem_of_getElem? (i := 7) rfl))) (fun _ h9 => h9) rfl dX3_fitWithoutRest_120 ?_
        refine lv_iload_n hx hb dX3_fitWithoutRest_123 rfl (lv_at hl 0 rfl) ?_
        refine lv_isub hx hb dX3_fitWithoutRest_124 ?_
        have h_112 := hs
        refine x_S (As := [.int (u103.2.2 - n111)]) (rest := [.long u103.2.1, .int (bI vom), .ref (ad 8)]) hCF (c_X3_tenTo l D cR cI cJ cZ t0 (xw cR ax ar ao ad vrd vtr vsd vrn vom u103.1 u103.2.1 u103.2.2 voe vow vok vos vso vmi vco vex) (u103.2.2 - n111) _ rfl h_112) (x_cwS 1 hts (inW_5 _ (List.mem_of_getElem? (i := 24) rfl)) (inW_2 _ (List.mem_of_getElem? (i := 9) rfl)) (inW_1 _ (List.mem_of_getElem? (i := 25) rfl)) (inW_2 _ (List.mem_of_getElem? (i := 10) rfl)) rfl rfl (by decide +kernel) ⟨Nat.le_of_ble_eq_true rfl, Nat.le_of_ble_eq_true rfl⟩) hK hP hD hS hA hSt rfl hl.1 rfl (Nat.le_of_ble_eq_true rfl) dX3_fitWithoutRest_125 ⟨Nat.le_of_ble_eq_true rfl, Nat.le_of_ble_eq_true rfl⟩ (fun H locs hP hD hS => ?_)
        show W p l e _ s m args below meth c H locs 0 0 Q (F0 m 128 ls (.long (F_X3_tenTo (u103.2.2 - n111)) :: [.long u103.2.1, .int (bI vom), .ref (ad 8)]))
        refine lv_lmul hx hb dX3_fitWithoutRest_128 ?_
        refine lv_iload_n hx hb dX3_fitWithoutRest_129 rfl (lv_at hl 0 rfl) ?_
        obtain ⟨u114, eu114⟩ : ∃ y9 : (Nat → Int32) × (Nat → Bool) × (Nat → Int64) × (Nat → Int32), y9 = F_X0_setFinite vso vmi vco vex 8 vom (u103.2.1 * (F_X3_tenTo (u103.2.2 - n111))) n111 := ⟨_, rfl⟩
        have hu := hu _ eu114
        refine x_V (As := [.int (bI vom), .long (u103.2.1 * (F_X3_tenTo (u103.2.2 - n111))), .int n111]) (rest := []) hCF (c_X0_setFinite l D cR cI cJ cZ t0 ax ar ao ad vrd vtr vsd vrn vom u103.1 u103.2.1 u103.2.2 voe vow vok vos vso vmi vco vex 8 vom (u103.2.1 * (F_X3_tenTo (u103.2.2 - n111))) n111 u114 eu114 (by decide)) (x_cwV 3 hts (inW_4 _ (List.mem_of_getElem? (i := 37) rfl)) (inW_4 _ (List.mem_of_getElem? (i := 5) rfl)) (inW_4 _ (List.mem_of_getElem? (i := 6) rfl)) (inW_1 _ (List.mem_of_getElem? (i := 16) rfl)) (inW_1 _ (List.mem_of_getElem? (i := 3) rfl)) rfl rfl (by decide +kernel) ⟨Nat.le_of_ble_eq_true rfl, Nat.le_of_ble_eq_true rfl⟩) hK hP hD hS hA hSt (3 + 8) (xw_dat (by decide)) rfl rfl hl.1 rfl (Nat.le_of_ble_eq_true rfl) dX3_fitWithoutRest_130 ⟨Nat.le_of_ble_eq_true rfl, Nat.le_of_ble_eq_true rfl⟩ (fun H locs hP hD hS => ?_)
        show W p l e _ s m args below meth c H locs 0 0 Q (F0 m 133 ls [])
        refine lv_iconst (v := 1) hx hb dX3_fitWithoutRest_133 (by decide) ?_
        have e9 := Eq.symm hu; subst e9
        exact x_zret (v := true) hx hb hr hlocks hQ hK hP hD hS rfl rfl dX3_fitWithoutRest_134
      · rw [if_neg c_110] at hu
        refine lv_iconst (v := 0) hx hb dX3_fitWithoutRest_80 (by decide) ?_
        have e9 := Eq.symm hu; subst e9
        exact x_zret (v := false) hx hb hr hlocks hQ hK hP hD hS rfl rfl dX3_fitWithoutRest_81
    · rw [if_neg c_105] at hu
      refine lv_iconst (v := 0) hx hb dX3_fitWithoutRest_31 (by decide) ?_
      have e9 := Eq.symm hu; subst e9
      exact x_zret (v := false) hx hb hr hlocks hQ hK hP hD hS rfl rfl dX3_fitWithoutRest_32
  · rw [if_pos c_101] at hu
    refine lv_iconst (v := 0) hx hb dX3_fitWithoutRest_10 (by decide) ?_
    have e9 := Eq.symm hu; subst e9
    exact x_zret (v := false) hx hb hr hlocks hQ hK hP hD hS rfl rfl dX3_fitWithoutRest_11

def Z_X3_fitRounded_J_124 (u101 : Int32) (n105 : Int32) : Int32 := (if (-383) < n105 then u101 else (bnd (F_X3_raise u101 (8 : Int32)) (fun u120 : Int32 => u120)))
def RZ_X3_fitRounded_J_124 (u101 : Int32) (n105 : Int32) (u9 : Int32) : Prop := (if (-383) < n105 then u9 = u101 else (∀ u120 : Int32, u120 = F_X3_raise u101 (8 : Int32) → u9 = u120))
theorem rZ_X3_fitRounded_J_124 (u101 : Int32) (n105 : Int32) {u9 : Int32} (hu : u9 = Z_X3_fitRounded_J_124 u101 n105) : RZ_X3_fitRounded_J_124 u101 n105 u9 := by
  unfold RZ_X3_fitRounded_J_124
  refine ite_P (fun c_119 => ?_) (fun c_119 => ?_)
  · have hu := hu.trans (if_pos c_119)
    exact hu
  · have hu := hu.trans (if_neg c_119)
    intro u120 eu120
    have hu := bnd_n hu eu120
    exact hu
def Z_X3_fitRounded_J_117 (n106 : Int32) (n112 : Int64) : Int32 × Int64 := (if n112 < 10000000000000000 then (n106, n112) else (bnd (n106 + 1) (fun n114 : Int32 => (n114, 1000000000000000))))
def RZ_X3_fitRounded_J_117 (n106 : Int32) (n112 : Int64) (u9 : Int32 × Int64) : Prop := (if n112 < 10000000000000000 then u9 = (n106, n112) else (∀ n114 : Int32, n114 = n106 + 1 → u9 = (n114, 1000000000000000)))
theorem rZ_X3_fitRounded_J_117 (n106 : Int32) (n112 : Int64) {u9 : Int32 × Int64} (hu : u9 = Z_X3_fitRounded_J_117 n106 n112) : RZ_X3_fitRounded_J_117 n106 n112 u9 := by
  unfold RZ_X3_fitRounded_J_117
  refine ite_P (fun c_113 => ?_) (fun c_113 => ?_)
  · have hu := hu.trans (if_pos c_113)
    exact hu
  · have hu := hu.trans (if_neg c_113)
    intro n114 en114
    have hu := bnd_n hu en114
    exact hu
def F_X3_fitRounded (vrd : Int32) (vrn : Int32) (vom : Bool) (voh : Int64) (vol : Int64) (vop : Int32) (voe : Bool) (vok : Int64) (vos : Int32) (vso : Nat → Int32) (vmi : Nat → Bool) (vco : Nat → Int64) (vex : Nat → Int32)  : Int32 × Int64 × Int32 × (Nat → Int32) × (Nat → Bool) × (Nat → Int64) × (Nat → Int32) := (bnd (F_X3_raise vrn (16 : Int32)) (fun u101 : Int32 => (bnd (vop + (F_X1_digits voh vol)) (fun n105 : Int32 => (bnd (jmax (-398) (n105 - 16)) (fun n106 : Int32 => (if n106 ≤ 369 then (bnd (F_X1_cut voh vol voe (n106 - vop)) (fun u109 : Int64 × Int32 => (bnd (F_X3_roundedKept vrd u109.1 u109.2 vom) (fun n112 : Int64 => (bnd (Z_X3_fitRounded_J_117 n106 n112) (fun z116 : Int32 × Int64 => (if z116.1 ≤ 369 then (bnd (Z_X3_fitRounded_J_124 u101 n105) (fun z123 : Int32 => (bnd (F_X0_setFinite vso vmi vco vex 8 vom z116.2 z116.1) (fun u125 : (Nat → Int32) × (Nat → Bool) × (Nat → Int64) × (Nat → Int32) => (z123, u109.1, u109.2, u125.1, u125.2.1, u125.2.2.1, u125.2.2.2))))) else (bnd (F_X3_setTooGreat vrd u101 vom vso vmi vco vex) (fun u127 : Int32 × (Nat → Int32) × (Nat → Bool) × (Nat → Int64) × (Nat → Int32) => (u127.1, u109.1, u109.2, u127.2.1, u127.2.2.1, u127.2.2.2.1, u127.2.2.2.2)))))))))) else (bnd (F_X3_setTooGreat vrd u101 vom vso vmi vco vex) (fun u129 : Int32 × (Nat → Int32) × (Nat → Bool) × (Nat → Int64) × (Nat → Int32) => (u129.1, vok, vos, u129.2.1, u129.2.2.1, u129.2.2.2.1, u129.2.2.2.2))))))))))
def RF_X3_fitRounded (vrd : Int32) (vrn : Int32) (vom : Bool) (voh : Int64) (vol : Int64) (vop : Int32) (voe : Bool) (vok : Int64) (vos : Int32) (vso : Nat → Int32) (vmi : Nat → Bool) (vco : Nat → Int64) (vex : Nat → Int32)  (u9 : Int32 × Int64 × Int32 × (Nat → Int32) × (Nat → Bool) × (Nat → Int64) × (Nat → Int32)) : Prop := (∀ u101 : Int32, u101 = F_X3_raise vrn (16 : Int32) → (∀ n105 : Int32, n105 = vop + (F_X1_digits voh vol) → (∀ n106 : Int32, n106 = jmax (-398) (n105 - 16) → (if n106 ≤ 369 then (∀ u109 : Int64 × Int32, u109 = F_X1_cut voh vol voe (n106 - vop) → (∀ n112 : Int64, n112 = F_X3_roundedKept vrd u109.1 u109.2 vom → (∀ z116 : Int32 × Int64, z116 = Z_X3_fitRounded_J_117 n106 n112 → (if z116.1 ≤ 369 then (∀ z123 : Int32, z123 = Z_X3_fitRounded_J_124 u101 n105 → (∀ u125 : (Nat → Int32) × (Nat → Bool) × (Nat → Int64) × (Nat → Int32), u125 = F_X0_setFinite vso vmi vco vex 8 vom z116.2 z116.1 → u9 = (z123, u109.1, u109.2, u125.1, u125.2.1, u125.2.2.1, u125.2.2.2))) else (∀ u127 : Int32 × (Nat → Int32) × (Nat → Bool) × (Nat → Int64) × (Nat → Int32), u127 = F_X3_setTooGreat vrd u101 vom vso vmi vco vex → u9 = (u127.1, u109.1, u109.2, u127.2.1, u127.2.2.1, u127.2.2.2.1, u127.2.2.2.2)))))) else (∀ u129 : Int32 × (Nat → Int32) × (Nat → Bool) × (Nat → Int64) × (Nat → Int32), u129 = F_X3_setTooGreat vrd u101 vom vso vmi vco vex → u9 = (u129.1, vok, vos, u129.2.1, u129.2.2.1, u129.2.2.2.1, u129.2.2.2.2))))))
theorem rF_X3_fitRounded (vrd : Int32) (vrn : Int32) (vom : Bool) (voh : Int64) (vol : Int64) (vop : Int32) (voe : Bool) (vok : Int64) (vos : Int32) (vso : Nat → Int32) (vmi : Nat → Bool) (vco : Nat → Int64) (vex : Nat → Int32)  {u9 : Int32 × Int64 × Int32 × (Nat → Int32) × (Nat → Bool) × (Nat → Int64) × (Nat → Int32)} (hu : u9 = F_X3_fitRounded vrd vrn vom voh vol vop voe vok vos vso vmi vco vex) : RF_X3_fitRounded vrd vrn vom voh vol vop voe vok vos vso vmi vco vex u9 := by
  unfold RF_X3_fitRounded
  intro u101 eu101
  have hu := bnd_n hu eu101
  intro n105 en105
  have hu := bnd_n hu en105
  intro n106 en106
  have hu := bnd_n hu en106
  refine ite_P (fun c_107 => ?_) (fun c_107 => ?_)
  · have hu := hu.trans (if_pos c_107)
    intro u109 eu109
    have hu := bnd_n hu eu109
    intro n112 en112
    have hu := bnd_n hu en112
    intro z116 ez116
    have hu := bnd_n hu ez116
    refine ite_P (fun c_118 => ?_) (fun c_118 => ?_)
    · have hu := hu.trans (if_pos c_118)
      intro z123 ez123
      have hu := bnd_n hu ez123
      intro u125 eu125
      have hu := bnd_n hu eu125
      exact hu
    · have hu := hu.trans (if_neg c_118)
      intro u127 eu127
      have hu := bnd_n hu eu127
      exact hu
  · have hu := hu.trans (if_neg c_107)
    intro u129 eu129
    have hu := bnd_n hu eu129
    exact hu
def S_X3_fitRounded (vrd : Int32) (vrn : Int32) (vom : Bool) (voh : Int64) (vol : Int64) (vop : Int32) (voe : Bool) (vok : Int64) (vos : Int32) (vso : Nat → Int32) (vmi : Nat → Bool) (vco : Nat → Int64) (vex : Nat → Int32)  : Prop := (∀ u101 : Int32, u101 = F_X3_raise vrn (16 : Int32) → (S_X1_digits voh vol) ∧ (∀ n105 : Int32, n105 = vop + (F_X1_digits voh vol) → (∀ n106 : Int32, n106 = jmax (-398) (n105 - 16) → (if n106 ≤ 369 then S_X1_cut voh vol voe (n106 - vop) else True))))
def rm_X3_fitRounded : Room := { frames := 2, cells := 0, slots := 0, locals := 49 }
set_option maxHeartbeats 4000000 in
set_option maxRecDepth 100000 in
theorem c_X3_fitRounded (l : Launch) (D : va_G) (cR cI cJ cZ : ClassId) (t0 : Nat) (ax ar ao : Nat) (ad : Nat → Nat) (vrd : Int32) (vtr : Int32) (vsd : Int32) (vrn : Int32) (vom : Bool) (voh : Int64) (vol : Int64) (vop : Int32) (voe : Bool) (vow : Int32) (vok : Int64) (vos : Int32) (vso : Nat → Int32) (vmi : Nat → Bool) (vco : Nat → Int64) (vex : Nat → Int32)  (u : Int32 × Int64 × Int32 × (Nat → Int32) × (Nat → Bool) × (Nat → Int64) × (Nat → Int32)) (hu : u = F_X3_fitRounded vrd vrn vom voh vol vop voe vok vos vso vmi vco vex) (hs : S_X3_fitRounded vrd vrn vom voh vol vop voe vok vos vso vmi vco vex) : XM l D (xty cR cI cJ cZ) t0 yX3_fitRounded cX3_fitRounded 5 none rm_X3_fitRounded [.ref ax] none (xw cR ax ar ao ad vrd vtr vsd vrn vom voh vol vop voe vow vok vos vso vmi vco vex) (xw cR ax ar ao ad vrd vtr vsd u.1 vom voh vol vop voe vow u.2.1 u.2.2.1 u.2.2.2.1 u.2.2.2.2.1 u.2.2.2.2.2.1 u.2.2.2.2.2.2) := by
  refine XM.of (by decide) (Nat.le_of_ble_eq_true rfl) ?_
  intro p e s m args below meth c A Q F hK hP hD hA hSt hS hQ ls hl
  obtain ⟨hx, hb, hr, hts, hown, hlocks, hml⟩ := F
  have hCF : CallFix p m c cX3_fitRounded 5 s args gW RX3 := ⟨hx, hb, hml, hown, hts⟩
  unfold S_X3_fitRounded at hs
  have hu := rF_X3_fitRounded vrd vrn vom voh vol vop voe vok vos vso vmi vco vex hu
  unfold RF_X3_fitRounded at hu
  obtain ⟨H, eH⟩ : ∃ y9 : Heap, y9 = s.heap := ⟨_, rfl⟩
  obtain ⟨locs, eL⟩ : ∃ y9 : List Loc, y9 = [] := ⟨_, rfl⟩
  rw [← eL] at hS ⊢
  have hP : va_P D vwCl (xw cR ax ar ao ad vrd vtr vsd vrn vom voh vol vop voe vow vok vos vso vmi vco vex) H := by rw [eH]; exact hP
  have hS : va_S A s.heap H locs := by rw [eH]; exact hS
  suffices goal9 : W p l e rm_X3_fitRounded s m args below meth c H locs 0 0 Q (F0 m 0 ls []) from by rw [← eH]; exact goal9
  have hl : lv_has ls 5 [(0, .ref ax)] := hl
  have hi1 : ∀ w ∈ wsX10, w ∈ gW := inW_X1
  have hi3 : ∀ w ∈ wsX30, w ∈ gW := inW_X3
  refine lv_aload_n hx hb dX3_fitRounded_0 rfl (lv_at hl 0 rfl) ?_
  refine lv_bipush (v := 16) hx hb dX3_fitRounded_1 (by decide) ?_
  obtain ⟨u101, eu101⟩ : ∃ y9 : Int32, y9 = F_X3_raise vrn (16 : Int32) := ⟨_, rfl⟩
  have hs := hs _ eu101
  have hu := hu _ eu101
  refine x_V (As := [.int 16]) (rest := []) hCF (c_X3_raise l D cR cI cJ cZ t0 ax ar ao ad vrd vtr vsd vrn vom voh vol vop voe vow vok vos vso vmi vco vex (16 : Int32) u101 eu101) (x_cwV 1 hts (inW_6 _ (List.mem_of_getElem? (i := 20) rfl)) (inW_6 _ (List.mem_of_getElem? (i := 21) rfl)) (inW_6 _ (List.mem_of_getElem? (i := 22) rfl)) (inW_1 _ (List.mem_of_getElem? (i := 25) rfl)) (inW_6 _ (List.mem_of_getElem? (i := 23) rfl)) rfl rfl (by decide +kernel) ⟨Nat.le_of_ble_eq_true rfl, Nat.le_of_ble_eq_true rfl⟩) hK hP hD hS hA hSt 0 rfl rfl rfl hl.1 rfl (Nat.le_of_ble_eq_true rfl) dX3_fitRounded_3 ⟨Nat.le_of_ble_eq_true rfl, Nat.le_of_ble_eq_true rfl⟩ (fun H locs hP hD hS => ?_)
  show W p l e _ s m args below meth c H locs 0 0 Q (F0 m 6 ls [])
  refine lv_aload_n hx hb dX3_fitRounded_6 rfl (lv_at hl 0 rfl) ?_
  refine va_get (D := D) (ci := 4) (v := .ref ao) (C := RX3) (T := TX3) (N := 7) hx hb hts hi3 hown hK hP 0 rfl rfl 2 (by decide) (hts (.fieldLink RX3 23 "DecimalWords" "outcome" "LDecimalWords$Outcome;") (inW_4 _ (List.mem_of_getElem? (i := 21) rfl))) (fun _ h9 => h9) rfl dX3_fitRounded_7 ?_
  refine va_get (D := D) (ci := 3) (v := .int vop) (C := RX1) (T := TX1) (N := 8) hx hb hts hi1 hown hK hP 2 rfl rfl 3 (by decide) (hts (.fieldLink RX3 232 "DecimalWords$Outcome" "power" "I") (inW_7 _ (List.mem_of_getElem? (i := 7) rfl))) (fun _ h9 => h9) rfl dX3_fitRounded_10 ?_
  refine lv_aload_n hx hb dX3_fitRounded_13 rfl (lv_at hl 0 rfl) ?_
  refine va_get (D := D) (ci := 4) (v := .ref ao) (C := RX3) (T := TX3) (N := 7) hx hb hts hi3 hown hK hP 0 rfl rfl 2 (by decide) (hts (.fieldLink RX3 23 "DecimalWords" "outcome" "LDecimalWords$Outcome;") (inW_4 _ (List.mem_of_getElem? (i := 21) rfl))) (fun _ h9 => h9) rfl dX3_fitRounded_14 ?_
  obtain ⟨h_103, hs⟩ := hs
  refine x_V (As := []) (rest := [.int vop]) hCF (c_X1_digits l D cR cI cJ cZ t0 ax ar ao ad vrd vtr vsd u101 vom voh vol vop voe vow vok vos vso vmi vco vex _ rfl h_103) (x_cwV 0 hts (inW_7 _ (List.mem_of_getElem? (i := 16) rfl)) (inW_7 _ (List.mem_of_getElem? (i := 17) rfl)) (inW_7 _ (List.mem_of_getElem? (i := 18) rfl)) (inW_2 _ (List.mem_of_getElem? (i := 4) rfl)) (inW_1 _ (List.mem_of_getElem? (i := 23) rfl)) rfl rfl (by decide +kernel) ⟨Nat.le_of_ble_eq_true rfl, Nat.le_of_ble_eq_true rfl⟩) hK hP hD hS hA hSt 2 rfl rfl rfl hl.1 rfl (Nat.le_of_ble_eq_true rfl) dX3_fitRounded_17 ⟨Nat.le_of_ble_eq_true rfl, Nat.le_of_ble_eq_true rfl⟩ (fun H locs hP hD hS => ?_)
  show W p l e _ s m args below meth c H locs 0 0 Q (F0 m 20 ls (.int (F_X1_digits voh vol) :: [.int vop]))
  refine lv_iadd hx hb dX3_fitRounded_20 ?_
  refine lv_topi (fun n105 en105 => ?_)
  have hs := hs _ en105
  have hu := hu _ en105
  refine lv_istore_n (lv' := [(1, .int n105), (0, .ref ax)]) hx hb dX3_fitRounded_21 rfl hl (by decide) rfl (fun ls hl => ?_)
  refine lv_sipush (v := (-398)) hx hb dX3_fitRounded_22 (by decide) ?_
  refine lv_iload_n hx hb dX3_fitRounded_25 rfl (lv_at hl 0 rfl) ?_
  refine lv_bipush (v := 16) hx hb dX3_fitRounded_26 (by decide) ?_
  refine lv_isub hx hb dX3_fitRounded_28 ?_
  refine x_max hx hb hml hl.1 hts hown (inW_6 _ (List.mem_of_getElem? (i := 36) rfl)) (inW_6 _ (List.mem_of_getElem? (i := 37) rfl)) (inW_1 _ (List.mem_of_getElem? (i := 37) rfl)) (inW_6 _ (List.mem_of_getElem? (i := 38) rfl)) (Nat.le_of_ble_eq_true rfl) (Nat.le_of_ble_eq_true rfl) (Nat.le_of_ble_eq_true rfl) (Nat.le_of_ble_eq_true rfl) dX3_fitRounded_29 ?_
  refine lv_topi (fun n106 en106 => ?_)
  have hs := hs _ en106
  have hu := hu _ en106
  refine lv_istore_n (lv' := [(2, .int n106), (1, .int n105), (0, .ref ax)]) hx hb dX3_fitRounded_32 rfl hl (by decide) rfl (fun ls hl => ?_)
  refine lv_iload_n hx hb dX3_fitRounded_33 rfl (lv_at hl 0 rfl) ?_
  refine lv_sipush (v := 369) hx hb dX3_fitRounded_34 (by decide) ?_
  refine lv_icmp_le (tgt := 45) hx hb dX3_fitRounded_37 (by decide) (fun c_107 => ?_) (fun c_107 => ?_)
  · rw [if_pos c_107] at hs
    rw [if_pos c_107] at hu
    refine lv_aload_n hx hb dX3_fitRounded_45 rfl (lv_at hl 2 rfl) ?_
    refine va_get (D := D) (ci := 4) (v := .ref ao) (C := RX3) (T := TX3) (N := 7) hx hb hts hi3 hown hK hP 0 rfl rfl 2 (by decide) (hts (.fieldLink RX3 23 "DecimalWords" "outcome" "LDecimalWords$Outcome;") (inW_4 _ (List.mem_of_getElem? (i := 21) rfl))) (fun _ h9 => h9) rfl dX3_fitRounded_46 ?_
    refine lv_iload_n hx hb dX3_fitRounded_49 rfl (lv_at hl 0 rfl) ?_
    refine lv_aload_n hx hb dX3_fitRounded_50 rfl (lv_at hl 2 rfl) ?_
    refine va_get (D := D) (ci := 4) (v := .ref ao) (C := RX3) (T := TX3) (N := 7) hx hb hts hi3 hown hK hP 0 rfl rfl 2 (by decide) (hts (.fieldLink RX3 23 "DecimalWords" "outcome" "LDecimalWords$Outcome;") (inW_4 _ (List.mem_of_getElem? (i := 21) rfl))) (fun _ h9 => h9) rfl dX3_fitRounded_51 ?_
    refine va_get (D := D) (ci := 3) (v := .int vop) (C := RX1) (T := TX1) (N := 8) hx hb hts hi1 hown hK hP 2 rfl rfl 3 (by decide) (hts (.fieldLink RX3 232 "DecimalWords$Outcome" "power" "I") (inW_7 _ (List.mem_of_getElem? (i := 7) rfl))) (fun _ h9 => h9) rfl dX3_fitRounded_54 ?_
    refine lv_isub hx hb dX3_fitRounded_57 ?_
    have h_108 := hs
    obtain ⟨u109, eu109⟩ : ∃ y9 : Int64 × Int32, y9 = F_X1_cut voh vol voe (n106 - vop) := ⟨_, rfl⟩
    have hu := hu _ eu109
    refine x_V (As := [.int (n106 - vop)]) (rest := []) hCF (c_X1_cut l D cR cI cJ cZ t0 ax ar ao ad vrd vtr vsd u101 vom voh vol vop voe vow vok vos vso vmi vco vex (n106 - vop) u109 eu109 h_108) (x_cwV 1 hts (inW_7 _ (List.mem_of_getElem? (i := 23) rfl)) (inW_7 _ (List.mem_of_getElem? (i := 24) rfl)) (inW_7 _ (List.mem_of_getElem? (i := 25) rfl)) (inW_2 _ (List.mem_of_getElem? (i := 4) rfl)) (inW_2 _ (List.mem_of_getElem? (i := 28) rfl)) rfl rfl (by decide +kernel) ⟨Nat.le_of_ble_eq_true rfl, Nat.le_of_ble_eq_true rfl⟩) hK hP hD hS hA hSt 2 rfl rfl rfl hl.1 rfl (Nat.le_of_ble_eq_true rfl) dX3_fitRounded_58 ⟨Nat.le_of_ble_eq_true rfl, Nat.le_of_ble_eq_true rfl⟩ (fun H locs hP hD hS => ?_)
    show W p l e _ s m args below meth c H locs 0 0 Q (F0 m 61 ls [])
    refine lv_aload_n hx hb dX3_fitRounded_61 rfl (lv_at hl 2 rfl) ?_
    refine lv_aload_n hx hb dX3_fitRounded_62 rfl (lv_at hl 2 rfl) ?_
    refine va_get (D := D) (ci := 4) (v := .ref ao) (C := RX3) (T := TX3) (N := 7) hx hb hts hi3 hown hK hP 0 rfl rfl 2 (by decide) (hts (.fieldLink RX3 23 "DecimalWords" "outcome" "LDecimalWords$Outcome;") (inW_4 _ (List.mem_of_getElem? (i := 21) rfl))) (fun _ h9 => h9) rfl dX3_fitRounded_63 ?_
    refine va_get (D := D) (ci := 3) (v := .int (bI vom)) (C := RX1) (T := TX1) (N := 8) hx hb hts hi1 hown hK hP 2 rfl rfl 0 (by decide) (hts (.fieldLink RX3 216 "DecimalWords$Outcome" "minus" "Z") (inW_6 _ (List.mem_of_getElem? (i := 39) rfl))) (fun _ h9 => h9) rfl dX3_fitRounded_66 ?_
    refine x_V (As := [.int (bI vom)]) (rest := []) hCF (c_X3_roundedKept l D cR cI cJ cZ t0 ax ar ao ad vrd vtr vsd u101 vom voh vol vop voe vow u109.1 u109.2 vso vmi vco vex vom _ rfl) (x_cwV 1 hts (inW_7 _ (List.mem_of_getElem? (i := 26) rfl)) (inW_7 _ (List.mem_of_getElem? (i := 27) rfl)) (inW_7 _ (List.mem_of_getElem? (i := 28) rfl)) (inW_1 _ (List.mem_of_getElem? (i := 25) rfl)) (inW_7 _ (List.mem_of_getElem? (i := 29) rfl)) rfl rfl (by decide +kernel) ⟨Nat.le_of_ble_eq_true rfl, Nat.le_of_ble_eq_true rfl⟩) hK hP hD hS hA hSt 0 rfl rfl rfl hl.1 rfl (Nat.le_of_ble_eq_true rfl) dX3_fitRounded_69 ⟨Nat.le_of_ble_eq_true rfl, Nat.le_of_ble_eq_true rfl⟩ (fun H locs hP hD hS => ?_)
    show W p l e _ s m args below meth c H locs 0 0 Q (F0 m 72 ls (.long (F_X3_roundedKept vrd u109.1 u109.2 vom) :: []))
    refine lv_topl (fun n112 en112 => ?_)
    have hu := hu _ en112
    refine lv_lstore_n (lv' := [(3, .long n112), (2, .int n106), (1, .int n105), (0, .ref ax)]) hx hb dX3_fitRounded_72 rfl hl (by decide) rfl (fun ls hl => ?_)
    refine lv_lload_n hx hb dX3_fitRounded_73 rfl (lv_at hl 0 rfl) ?_
    refine lv_ldc2 (v := 10000000000000000) hx hb hown (hts (.constantLong RX3 44 (10000000000000000)) (inW_4 _ (List.mem_of_getElem? (i := 31) rfl))) dX3_fitRounded_74 ?_
    have J_117 : (∀ z116 : Int32 × Int64, z116 = Z_X3_fitRounded_J_117 n106 n112 → ∀ (H : Heap) (locs : List Loc), va_P D vwCl (xw cR ax ar ao ad vrd vtr vsd u101 vom voh vol vop voe vow u109.1 u109.2 vso vmi vco vex) H → va_D A (xw cR ax ar ao ad vrd vtr vsd u101 vom voh vol vop voe vow u109.1 u109.2 vso vmi vco vex) → va_S A s.heap H locs → ∀ ls : Array Slot, lv_has ls 5 [(0, .ref ax), (1, .int n105), (2, .int z116.1), (3, .long z116.2)] → W p l e rm_X3_fitRounded s m args below meth c H locs 0 0 Q (F0 m 88 ls [])) := by
      intro z116 ez116 H locs hP hD hS ls hl
      have hu := hu _ ez116
      refine lv_iload_n hx hb dX3_fitRounded_88 rfl (lv_at hl 2 rfl) ?_
      refine lv_sipush (v := 369) hx hb dX3_fitRounded_89 (by decide) ?_
      refine lv_icmp_le (tgt := 100) hx hb dX3_fitRounded_92 (by decide) (fun c_118 => ?_) (fun c_118 => ?_)
      · rw [if_pos c_118] at hu
        refine lv_iload_n hx hb dX3_fitRounded_100 rfl (lv_at hl 1 rfl) ?_
        refine lv_sipush (v := (-383)) hx hb dX3_fitRounded_101 (by decide) ?_
        have J_124 : (∀ z123 : Int32, z123 = Z_X3_fitRounded_J_124 u101 n105 → ∀ (H : Heap) (locs : List Loc), va_P D vwCl (xw cR ax ar ao ad vrd vtr vsd z123 vom voh vol vop voe vow u109.1 u109.2 vso vmi vco vex) H → va_D A (xw cR ax ar ao ad vrd vtr vsd z123 vom voh vol vop voe vow u109.1 u109.2 vso vmi vco vex) → va_S A s.heap H locs → ∀ ls : Array Slot, lv_has ls 5 [(0, .ref ax), (2, .int z116.1), (3, .long z116.2)] → W p l e rm_X3_fitRounded s m args below meth c H locs 0 0 Q (F0 m 113 ls [])) := by
          intro z123 ez123 H locs hP hD hS ls hl
          have hu := hu _ ez123
          refine lv_aload_n hx hb dX3_fitRounded_113 rfl (lv_at hl 0 rfl) ?_
          refine va_get (D := D) (ci := 4) (v := .ref (ad 8)) (C := RX3) (T := TX3) (N := 7) hx hb hts hi3 hown hK hP 0 rfl rfl 1 (by decide) (hts (.fieldLink RX3 16 "DecimalWords" "result" "LDecimalWords$Datum;") (inW_4 _ (List.mem_of_getElem? (i := 18) rfl))) (fun _ h9 => h9) rfl dX3_fitRounded_114 ?_
          refine lv_aload_n hx hb dX3_fitRounded_117 rfl (lv_at hl 0 rfl) ?_
          refine va_get (D := D) (ci := 4) (v := .ref ao) (C := RX3) (T := TX3) (N := 7) hx hb hts hi3 hown hK hP 0 rfl rfl 2 (by decide) (hts (.fieldLink RX3 23 "DecimalWords" "outcome" "LDecimalWords$Outcome;") (inW_4 _ (List.mem_of_getElem? (i := 21) rfl))) (fun _ h9 => h9) rfl dX3_fitRounded_118 ?_
          refine va_get (D := D) (ci := 3) (v := .int (bI vom)) (C := RX1) (T := TX1) (N := 8) hx hb hts hi1 hown hK hP 2 rfl rfl 0 (by decide) (hts (.fieldLink RX3 216 "DecimalWords$Outcome" "minus" "Z") (inW_6 _ (List.mem_of_getElem? (i := 39) rfl))) (fun _ h9 => h9) rfl dX3_fitRounded_121 ?_
          refine lv_lload_n hx hb dX3_fitRounded_124 rfl (lv_at hl 2 rfl) ?_
          refine lv_iload_n hx hb dX3_fitRounded_125 rfl (lv_at hl 1 rfl) ?_
          obtain ⟨u125, eu125⟩ : ∃ y9 : (Nat → Int32) × (Nat → Bool) × (Nat → Int64) × (Nat → Int32), y9 = F_X0_setFinite vso vmi vco vex 8 vom z116.2 z116.1 := ⟨_, rfl⟩
          have hu := hu _ eu125
          refine x_V (As := [.int (bI vom), .long z116.2, .int z116.1]) (rest := []) hCF (c_X0_setFinite l D cR cI cJ cZ t0 ax ar ao ad vrd vtr vsd z123 vom voh vol vop voe vow u109.1 u109.2 vso vmi vco vex 8 vom z116.2 z116.1 u125 eu125 (by decide)) (x_cwV 3 hts (inW_4 _ (List.mem_of_getElem? (i := 37) rfl)) (inW_4 _ (List.mem_of_getElem? (i := 5) rfl)) (inW_4 _ (List.mem_of_getElem? (i := 6) rfl)) (inW_1 _ (List.mem_of_getElem? (i := 16) rfl)) (inW_1 _ (List.mem_of_getElem? (i := 3) rfl)) rfl rfl (by decide +kernel) ⟨Nat.le_of_ble_eq_true rfl, Nat.le_of_ble_eq_true rfl⟩) hK hP hD hS hA hSt (3 + 8) (xw_dat (by decide)) rfl rfl hl.1 rfl (Nat.le_of_ble_eq_true rfl) dX3_fitRounded_126 ⟨Nat.le_of_ble_eq_true rfl, Nat.le_of_ble_eq_true rfl⟩ (fun H locs hP hD hS => ?_)
          show W p l e _ s m args below meth c H locs 0 0 Q (F0 m 129 ls [])
          have e9 := Eq.symm hu; subst e9
          exact x_vret hx hb hr hlocks hQ hK hP hD hS rfl dX3_fitRounded_129
        obtain ⟨z9, ez9⟩ : ∃ y9 : Int32, y9 = Z_X3_fitRounded_J_124 u101 n105 := ⟨_, rfl⟩
        have hz := rZ_X3_fitRounded_J_124 u101 n105 ez9
        unfold RZ_X3_fitRounded_J_124 at hz
        refine lv_icmp_gt (tgt := 113) hx hb dX3_fitRounded_104 (by decide) (fun c_119 => ?_) (fun c_119 => ?_)
        · rw [if_pos c_119] at hz
          have e9 := Eq.symm hz; subst e9
          exact J_124 _ ez9 H locs hP hD hS ls (lv_sub hl [0, 2, 3] rfl)
        · rw [if_neg c_119] at hz
          refine lv_aload_n hx hb dX3_fitRounded_107 rfl (lv_at hl 0 rfl) ?_
          refine lv_bipush (v := 8) hx hb dX3_fitRounded_108 (by decide) ?_
          obtain ⟨u120, eu120⟩ : ∃ y9 : Int32, y9 = F_X3_raise u101 (8 : Int32) := ⟨_, rfl⟩
          have hz := hz _ eu120
          refine x_V (As := [.int 8]) (rest := []) hCF (c_X3_raise l D cR cI cJ cZ t0 ax ar ao ad vrd vtr vsd u101 vom voh vol vop voe vow u109.1 u109.2 vso vmi vco vex (8 : Int32) u120 eu120) (x_cwV 1 hts (inW_6 _ (List.mem_of_getElem? (i := 20) rfl)) (inW_6 _ (List.mem_of_getElem? (i := 21) rfl)) (inW_6 _ (List.mem_of_getElem? (i := 22) rfl)) (inW_1 _ (List.mem_of_getElem? (i := 25) rfl)) (inW_6 _ (List.mem_of_getElem? (i := 23) rfl)) rfl rfl (by decide +kernel) ⟨Nat.le_of_ble_eq_true rfl, Nat.le_of_ble_eq_true rfl⟩) hK hP hD hS hA hSt 0 rfl rfl rfl hl.1 rfl (Nat.le_of_ble_eq_true rfl) dX3_fitRounded_110 ⟨Nat.le_of_ble_eq_true rfl, Nat.le_of_ble_eq_true rfl⟩ (fun H locs hP hD hS => ?_)
          show W p l e _ s m args below meth c H locs 0 0 Q (F0 m 113 ls [])
          have e9 := Eq.symm hz; subst e9
          exact J_124 _ ez9 H locs hP hD hS ls (lv_sub hl [0, 2, 3] rfl)
      · rw [if_neg c_118] at hu
        refine lv_aload_n hx hb dX3_fitRounded_95 rfl (lv_at hl 0 rfl) ?_
        obtain ⟨u127, eu127⟩ : ∃ y9 : Int32 × (Nat → Int32) × (Nat → Bool) × (Nat → Int64) × (Nat → Int32), y9 = F_X3_setTooGreat vrd u101 vom vso vmi vco vex := ⟨_, rfl⟩
        have hu := hu _ eu127
        refine x_V (As := []) (rest := []) hCF (c_X3_setTooGreat l D cR cI cJ cZ t0 ax ar ao ad vrd vtr vsd u101 vom voh vol vop voe vow u109.1 u109.2 vso vmi vco vex u127 eu127) (x_cwV 0 hts (inW_7 _ (List.mem_of_getElem? (i := 19) rfl)) (inW_7 _ (List.mem_of_getElem? (i := 20) rfl)) (inW_7 _ (List.mem_of_getElem? (i := 21) rfl)) (inW_1 _ (List.mem_of_getElem? (i := 25) rfl)) (inW_7 _ (List.mem_of_getElem? (i := 22) rfl)) rfl rfl (by decide +kernel) ⟨Nat.le_of_ble_eq_true rfl, Nat.le_of_ble_eq_true rfl⟩) hK hP hD hS hA hSt 0 rfl rfl rfl hl.1 rfl (Nat.le_of_ble_eq_true rfl) dX3_fitRounded_96 ⟨Nat.le_of_ble_eq_true rfl, Nat.le_of_ble_eq_true rfl⟩ (fun H locs hP hD hS => ?_)
        show W p l e _ s m args below meth c H locs 0 0 Q (F0 m 99 ls [])
        have e9 := Eq.symm hu; subst e9
        exact x_vret hx hb hr hlocks hQ hK hP hD hS rfl dX3_fitRounded_99
    obtain ⟨z9, ez9⟩ : ∃ y9 : Int32 × Int64, y9 = Z_X3_fitRounded_J_117 n106 n112 := ⟨_, rfl⟩
    have hz := rZ_X3_fitRounded_J_117 n106 n112 ez9
    unfold RZ_X3_fitRounded_J_117 at hz
    refine xl_lt (tgt := 88) hx hb dX3_fitRounded_77 dX3_fitRounded_78 (by decide) (fun c_113 => ?_) (fun c_113 => ?_)
    · rw [if_pos c_113] at hz
      have e9 := Eq.symm hz; subst e9
      exact J_117 _ ez9 H locs hP hD hS ls (lv_sub hl [3, 2, 1, 0] rfl)
    · rw [if_neg c_113] at hz
      refine lv_ldc2 (v := 1000000000000000) hx hb hown (hts (.constantLong RX3 207 (1000000000000000)) (inW_5 _ (List.mem_of_getElem? (i := 29) rfl))) dX3_fitRounded_81 ?_
      refine lv_lstore_n (lv' := [(3, .long 1000000000000000), (2, .int n106), (1, .int n105), (0, .ref ax)]) hx hb dX3_fitRounded_84 rfl hl (by decide) rfl (fun ls hl => ?_)
      obtain ⟨n114, en114⟩ : ∃ y9 : Int32, y9 = n106 + 1 := ⟨_, rfl⟩
      have hz := hz _ en114
      refine lv_iinc (v := n114) (lv' := [(2, .int n114), (3, .long 1000000000000000), (1, .int n105), (0, .ref ax)]) hx hb dX3_fitRounded_85 hl (k := 1) rfl (by rw [en114]; rfl) (by decide) rfl (fun ls hl => ?_)
      have e9 := Eq.symm hz; subst e9
      exact J_117 _ ez9 H locs hP hD hS ls (lv_sub hl [3, 2, 0, 1] rfl)
  · rw [if_neg c_107] at hu
    refine lv_aload_n hx hb dX3_fitRounded_40 rfl (lv_at hl 2 rfl) ?_
    obtain ⟨u129, eu129⟩ : ∃ y9 : Int32 × (Nat → Int32) × (Nat → Bool) × (Nat → Int64) × (Nat → Int32), y9 = F_X3_setTooGreat vrd u101 vom vso vmi vco vex := ⟨_, rfl⟩
    have hu := hu _ eu129
    refine x_V (As := []) (rest := []) hCF (c_X3_setTooGreat l D cR cI cJ cZ t0 ax ar ao ad vrd vtr vsd u101 vom voh vol vop voe vow vok vos vso vmi vco vex u129 eu129) (x_cwV 0 hts (inW_7 _ (List.mem_of_getElem? (i := 19) rfl)) (inW_7 _ (List.mem_of_getElem? (i := 20) rfl)) (inW_7 _ (List.mem_of_getElem? (i := 21) rfl)) (inW_1 _ (List.mem_of_getElem? (i := 25) rfl)) (inW_7 _ (List.mem_of_getElem? (i := 22) rfl)) rfl rfl (by decide +kernel) ⟨Nat.le_of_ble_eq_true rfl, Nat.le_of_ble_eq_true rfl⟩) hK hP hD hS hA hSt 0 rfl rfl rfl hl.1 rfl (Nat.le_of_ble_eq_true rfl) dX3_fitRounded_41 ⟨Nat.le_of_ble_eq_true rfl, Nat.le_of_ble_eq_true rfl⟩ (fun H locs hP hD hS => ?_)
    show W p l e _ s m args below meth c H locs 0 0 Q (F0 m 44 ls [])
    have e9 := Eq.symm hu; subst e9
    exact x_vret hx hb hr hlocks hQ hK hP hD hS rfl dX3_fitRounded_44

def F_X3_fit (vrd : Int32) (vrn : Int32) (vom : Bool) (voh : Int64) (vol : Int64) (vop : Int32) (voe : Bool) (vow : Int32) (vok : Int64) (vos : Int32) (vso : Nat → Int32) (vmi : Nat → Bool) (vco : Nat → Int64) (vex : Nat → Int32)  : Int32 × Int64 × Int64 × Int32 × Int64 × Int32 × (Nat → Int32) × (Nat → Bool) × (Nat → Int64) × (Nat → Int32) := (if F_X1_isZero voh vol voe = true then (bnd (jmax (-398) (jmin vow 369)) (fun n110 : Int32 => (bnd (F_X0_setFinite vso vmi vco vex 8 vom (0 : Int64) n110) (fun u111 : (Nat → Int32) × (Nat → Bool) × (Nat → Int64) × (Nat → Int32) => (vrn, voh, vol, vop, vok, vos, u111.1, u111.2.1, u111.2.2.1, u111.2.2.2))))) else (bnd (F_X3_fitWithoutRest vom voh vol vop voe vow vso vmi vco vex) (fun u104 : Bool × Int64 × Int64 × Int32 × (Nat → Int32) × (Nat → Bool) × (Nat → Int64) × (Nat → Int32) => (if u104.1 = true then (vrn, u104.2.1, u104.2.2.1, u104.2.2.2.1, vok, vos, u104.2.2.2.2.1, u104.2.2.2.2.2.1, u104.2.2.2.2.2.2.1, u104.2.2.2.2.2.2.2) else (bnd (F_X3_fitRounded vrd vrn vom u104.2.1 u104.2.2.1 u104.2.2.2.1 voe vok vos u104.2.2.2.2.1 u104.2.2.2.2.2.1 u104.2.2.2.2.2.2.1 u104.2.2.2.2.2.2.2) (fun u108 : Int32 × Int64 × Int32 × (Nat → Int32) × (Nat → Bool) × (Nat → Int64) × (Nat → Int32) => (u108.1, u104.2.1, u104.2.2.1, u104.2.2.2.1, u108.2.1, u108.2.2.1, u108.2.2.2.1, u108.2.2.2.2.1, u108.2.2.2.2.2.1, u108.2.2.2.2.2.2)))))))
def RF_X3_fit (vrd : Int32) (vrn : Int32) (vom : Bool) (voh : Int64) (vol : Int64) (vop : Int32) (voe : Bool) (vow : Int32) (vok : Int64) (vos : Int32) (vso : Nat → Int32) (vmi : Nat → Bool) (vco : Nat → Int64) (vex : Nat → Int32)  (u9 : Int32 × Int64 × Int64 × Int32 × Int64 × Int32 × (Nat → Int32) × (Nat → Bool) × (Nat → Int64) × (Nat → Int32)) : Prop := (if F_X1_isZero voh vol voe = true then (∀ n110 : Int32, n110 = jmax (-398) (jmin vow 369) → (∀ u111 : (Nat → Int32) × (Nat → Bool) × (Nat → Int64) × (Nat → Int32), u111 = F_X0_setFinite vso vmi vco vex 8 vom (0 : Int64) n110 → u9 = (vrn, voh, vol, vop, vok, vos, u111.1, u111.2.1, u111.2.2.1, u111.2.2.2))) else (∀ u104 : Bool × Int64 × Int64 × Int32 × (Nat → Int32) × (Nat → Bool) × (Nat → Int64) × (Nat → Int32), u104 = F_X3_fitWithoutRest vom voh vol vop voe vow vso vmi vco vex → (if u104.1 = true then u9 = (vrn, u104.2.1, u104.2.2.1, u104.2.2.2.1, vok, vos, u104.2.2.2.2.1, u104.2.2.2.2.2.1, u104.2.2.2.2.2.2.1, u104.2.2.2.2.2.2.2) else (∀ u108 : Int32 × Int64 × Int32 × (Nat → Int32) × (Nat → Bool) × (Nat → Int64) × (Nat → Int32), u108 = F_X3_fitRounded vrd vrn vom u104.2.1 u104.2.2.1 u104.2.2.2.1 voe vok vos u104.2.2.2.2.1 u104.2.2.2.2.2.1 u104.2.2.2.2.2.2.1 u104.2.2.2.2.2.2.2 → u9 = (u108.1, u104.2.1, u104.2.2.1, u104.2.2.2.1, u108.2.1, u108.2.2.1, u108.2.2.2.1, u108.2.2.2.2.1, u108.2.2.2.2.2.1, u108.2.2.2.2.2.2)))))
theorem rF_X3_fit (vrd : Int32) (vrn : Int32) (vom : Bool) (voh : Int64) (vol : Int64) (vop : Int32) (voe : Bool) (vow : Int32) (vok : Int64) (vos : Int32) (vso : Nat → Int32) (vmi : Nat → Bool) (vco : Nat → Int64) (vex : Nat → Int32)  {u9 : Int32 × Int64 × Int64 × Int32 × Int64 × Int32 × (Nat → Int32) × (Nat → Bool) × (Nat → Int64) × (Nat → Int32)} (hu : u9 = F_X3_fit vrd vrn vom voh vol vop voe vow vok vos vso vmi vco vex) : RF_X3_fit vrd vrn vom voh vol vop voe vow vok vos vso vmi vco vex u9 := by
  unfold RF_X3_fit
  refine ite_P (fun c_102 => ?_) (fun c_102 => ?_)
  · have hu := hu.trans (if_pos c_102)
    intro n110 en110
    have hu := bnd_n hu en110
    intro u111 eu111
    have hu := bnd_n hu eu111
    exact hu
  · have hu := hu.trans (if_neg c_102)
    intro u104 eu104
    have hu := bnd_n hu eu104
    refine ite_P (fun c_106 => ?_) (fun c_106 => ?_)
    · have hu := hu.trans (if_pos c_106)
      exact hu
    · have hu := hu.trans (if_neg c_106)
      intro u108 eu108
      have hu := bnd_n hu eu108
      exact hu
def S_X3_fit (vrd : Int32) (vrn : Int32) (vom : Bool) (voh : Int64) (vol : Int64) (vop : Int32) (voe : Bool) (vow : Int32) (vok : Int64) (vos : Int32) (vso : Nat → Int32) (vmi : Nat → Bool) (vco : Nat → Int64) (vex : Nat → Int32)  : Prop := (if F_X1_isZero voh vol voe = true then True else (S_X3_fitWithoutRest vom voh vol vop voe vow vso vmi vco vex) ∧ (∀ u104 : Bool × Int64 × Int64 × Int32 × (Nat → Int32) × (Nat → Bool) × (Nat → Int64) × (Nat → Int32), u104 = F_X3_fitWithoutRest vom voh vol vop voe vow vso vmi vco vex → (if u104.1 = true then True else S_X3_fitRounded vrd vrn vom u104.2.1 u104.2.2.1 u104.2.2.2.1 voe vok vos u104.2.2.2.2.1 u104.2.2.2.2.2.1 u104.2.2.2.2.2.2.1 u104.2.2.2.2.2.2.2)))
def rm_X3_fit : Room := { frames := 3, cells := 0, slots := 0, locals := 73 }
set_option maxHeartbeats 4000000 in
set_option maxRecDepth 100000 in
theorem c_X3_fit (l : Launch) (D : va_G) (cR cI cJ cZ : ClassId) (t0 : Nat) (ax ar ao : Nat) (ad : Nat → Nat) (vrd : Int32) (vtr : Int32) (vsd : Int32) (vrn : Int32) (vom : Bool) (voh : Int64) (vol : Int64) (vop : Int32) (voe : Bool) (vow : Int32) (vok : Int64) (vos : Int32) (vso : Nat → Int32) (vmi : Nat → Bool) (vco : Nat → Int64) (vex : Nat → Int32)  (u : Int32 × Int64 × Int64 × Int32 × Int64 × Int32 × (Nat → Int32) × (Nat → Bool) × (Nat → Int64) × (Nat → Int32)) (hu : u = F_X3_fit vrd vrn vom voh vol vop voe vow vok vos vso vmi vco vex) (hs : S_X3_fit vrd vrn vom voh vol vop voe vow vok vos vso vmi vco vex) : XM l D (xty cR cI cJ cZ) t0 yX3_fit cX3_fit 2 none rm_X3_fit [.ref ax] none (xw cR ax ar ao ad vrd vtr vsd vrn vom voh vol vop voe vow vok vos vso vmi vco vex) (xw cR ax ar ao ad vrd vtr vsd u.1 vom u.2.1 u.2.2.1 u.2.2.2.1 voe vow u.2.2.2.2.1 u.2.2.2.2.2.1 u.2.2.2.2.2.2.1 u.2.2.2.2.2.2.2.1 u.2.2.2.2.2.2.2.2.1 u.2.2.2.2.2.2.2.2.2) := by
  refine XM.of (by decide) (Nat.le_of_ble_eq_true rfl) ?_
  intro p e s m args below meth c A Q F hK hP hD hA hSt hS hQ ls hl
  obtain ⟨hx, hb, hr, hts, hown, hlocks, hml⟩ := F
  have hCF : CallFix p m c cX3_fit 2 s args gW RX3 := ⟨hx, hb, hml, hown, hts⟩
  unfold S_X3_fit at hs
  have hu := rF_X3_fit vrd vrn vom voh vol vop voe vow vok vos vso vmi vco vex hu
  unfold RF_X3_fit at hu
  obtain ⟨H, eH⟩ : ∃ y9 : Heap, y9 = s.heap := ⟨_, rfl⟩
  obtain ⟨locs, eL⟩ : ∃ y9 : List Loc, y9 = [] := ⟨_, rfl⟩
  rw [← eL] at hS ⊢
  have hP : va_P D vwCl (xw cR ax ar ao ad vrd vtr vsd vrn vom voh vol vop voe vow vok vos vso vmi vco vex) H := by rw [eH]; exact hP
  have hS : va_S A s.heap H locs := by rw [eH]; exact hS
  suffices goal9 : W p l e rm_X3_fit s m args below meth c H locs 0 0 Q (F0 m 0 ls []) from by rw [← eH]; exact goal9
  have hl : lv_has ls 2 [(0, .ref ax)] := hl
  have hi1 : ∀ w ∈ wsX10, w ∈ gW := inW_X1
  have hi3 : ∀ w ∈ wsX30, w ∈ gW := inW_X3
  refine lv_aload_n hx hb dX3_fit_0 rfl (lv_at hl 0 rfl) ?_
  refine va_get (D := D) (ci := 4) (v := .ref ao) (C := RX3) (T := TX3) (N := 7) hx hb hts hi3 hown hK hP 0 rfl rfl 2 (by decide) (hts (.fieldLink RX3 23 "DecimalWords" "outcome" "LDecimalWords$Outcome;") (inW_4 _ (List.mem_of_getElem? (i := 21) rfl))) (fun _ h9 => h9) rfl dX3_fit_1 ?_
  refine x_V (As := []) (rest := []) hCF (c_X1_isZero l D cR cI cJ cZ t0 ax ar ao ad vrd vtr vsd vrn vom voh vol vop voe vow vok vos vso vmi vco vex _ rfl) (x_cwV 0 hts (inW_7 _ (List.mem_of_getElem? (i := 0) rfl)) (inW_2 _ (List.mem_of_getElem? (i := 17) rfl)) (inW_2 _ (List.mem_of_getElem? (i := 18) rfl)) (inW_2 _ (List.mem_of_getElem? (i := 4) rfl)) (inW_1 _ (List.mem_of_getElem? (i := 19) rfl)) rfl rfl (by decide +kernel) ⟨Nat.le_of_ble_eq_true rfl, Nat.le_of_ble_eq_true rfl⟩) hK hP hD hS hA hSt 2 rfl rfl rfl hl.1 rfl (Nat.le_of_ble_eq_true rfl) dX3_fit_4 ⟨Nat.le_of_ble_eq_true rfl, Nat.le_of_ble_eq_true rfl⟩ (fun H locs hP hD hS => ?_)
  show W p l e _ s m args below meth c H locs 0 0 Q (F0 m 7 ls (.int (bI (F_X1_isZero voh vol voe)) :: []))
  refine xb_eq (tgt := 49) hx hb dX3_fit_7 (by decide) (fun c_102 => ?_) (fun c_102 => ?_)
  · rw [if_neg c_102] at hs
    rw [if_neg c_102] at hu
    refine lv_aload_n hx hb dX3_fit_49 rfl (lv_at hl 0 rfl) ?_
    obtain ⟨h_103, hs⟩ := hs
    obtain ⟨u104, eu104⟩ : ∃ y9 : Bool × Int64 × Int64 × Int32 × (Nat → Int32) × (Nat → Bool) × (Nat → Int64) × (Nat → Int32), y9 = F_X3_fitWithoutRest vom voh vol vop voe vow vso vmi vco vex := ⟨_, rfl⟩
    have hs := hs _ eu104
    have hu := hu _ eu104
    refine x_V (As := []) (rest := []) hCF (c_X3_fitWithoutRest l D cR cI cJ cZ t0 ax ar ao ad vrd vtr vsd vrn vom voh vol vop voe vow vok vos vso vmi vco vex u104 eu104 h_103) (x_cwV 0 hts (inW_7 _ (List.mem_of_getElem? (i := 1) rfl)) (inW_7 _ (List.mem_of_getElem? (i := 2) rfl)) (inW_7 _ (List.mem_of_getElem? (i := 3) rfl)) (inW_1 _ (List.mem_of_getElem? (i := 25) rfl)) (inW_7 _ (List.mem_of_getElem? (i := 4) rfl)) rfl rfl (by decide +kernel) ⟨Nat.le_of_ble_eq_true rfl, Nat.le_of_ble_eq_true rfl⟩) hK hP hD hS hA hSt 0 rfl rfl rfl hl.1 rfl (Nat.le_of_ble_eq_true rfl) dX3_fit_50 ⟨Nat.le_of_ble_eq_true rfl, Nat.le_of_ble_eq_true rfl⟩ (fun H locs hP hD hS => ?_)
    show W p l e _ s m args below meth c H locs 0 0 Q (F0 m 53 ls (.int (bI u104.1) :: []))
    refine xb_ne (tgt := 60) hx hb dX3_fit_53 (by decide) (fun c_106 => ?_) (fun c_106 => ?_)
    · rw [if_pos c_106] at hu
      have e9 := Eq.symm hu; subst e9
      exact x_vret hx hb hr hlocks hQ hK hP hD hS rfl dX3_fit_60
    · rw [if_neg c_106] at hs
      rw [if_neg c_106] at hu
      refine lv_aload_n hx hb dX3_fit_56 rfl (lv_at hl 0 rfl) ?_
      have h_107 := hs
      obtain ⟨u108, eu108⟩ : ∃ y9 : Int32 × Int64 × Int32 × (Nat → Int32) × (Nat → Bool) × (Nat → Int64) × (Nat → Int32), y9 = F_X3_fitRounded vrd vrn vom u104.2.1 u104.2.2.1 u104.2.2.2.1 voe vok vos u104.2.2.2.2.1 u104.2.2.2.2.2.1 u104.2.2.2.2.2.2.1 u104.2.2.2.2.2.2.2 := ⟨_, rfl⟩
      have hu := hu _ eu108
      refine x_V (As := []) (rest := []) hCF (c_X3_fitRounded l D cR cI cJ cZ t0 ax ar ao ad vrd vtr vsd vrn vom u104.2.1 u104.2.2.1 u104.2.2.2.1 voe vow vok vos u104.2.2.2.2.1 u104.2.2.2.2.2.1 u104.2.2.2.2.2.2.1 u104.2.2.2.2.2.2.2 u108 eu108 h_107) (x_cwV 0 hts (inW_7 _ (List.mem_of_getElem? (i := 12) rfl)) (inW_7 _ (List.mem_of_getElem? (i := 13) rfl)) (inW_7 _ (List.mem_of_getElem? (i := 14) rfl)) (inW_1 _ (List.mem_of_getElem? (i := 25) rfl)) (inW_7 _ (List.mem_of_getElem? (i := 15) rfl)) rfl rfl (by decide +kernel) ⟨Nat.le_of_ble_eq_true rfl, Nat.le_of_ble_eq_true rfl⟩) hK hP hD hS hA hSt 0 rfl rfl rfl hl.1 rfl (Nat.le_of_ble_eq_true rfl) dX3_fit_57 ⟨Nat.le_of_ble_eq_true rfl, Nat.le_of_ble_eq_true rfl⟩ (fun H locs hP hD hS => ?_)
      show W p l e _ s m args below meth c H locs 0 0 Q (F0 m 60 ls [])
      have e9 := Eq.symm hu; subst e9
      exact x_vret hx hb hr hlocks hQ hK hP hD hS rfl dX3_fit_60
  · rw [if_pos c_102] at hu
    refine lv_sipush (v := (-398)) hx hb dX3_fit_10 (by decide) ?_
    refine lv_aload_n hx hb dX3_fit_13 rfl (lv_at hl 0 rfl) ?_
    refine va_get (D := D) (ci := 4) (v := .ref ao) (C := RX3) (T := TX3) (N := 7) hx hb hts hi3 hown hK hP 0 rfl rfl 2 (by decide) (hts (.fieldLink RX3 23 "DecimalWords" "outcome" "LDecimalWords$Outcome;") (inW_4 _ (List.mem_of_getElem? (i := 21) rfl))) (fun _ h9 => h9) rfl dX3_fit_14 ?_
    refine va_get (D := D) (ci := 3) (v := .int vow) (C := RX1) (T := TX1) (N := 8) hx hb hts hi1 hown hK hP 2 rfl rfl 5 (by decide) (hts (.fieldLink RX3 210 "DecimalWords$Outcome" "wish" "I") (inW_6 _ (List.mem_of_getElem? (i := 35) rfl))) (fun _ h9 => h9) rfl dX3_fit_17 ?_
    refine lv_sipush (v := 369) hx hb dX3_fit_20 (by decide) ?_
    refine x_min hx hb hml hl.1 hts hown (inW_5 _ (List.mem_of_getElem? (i := 18) rfl)) (inW_1 _ (List.mem_of_getElem? (i := 36) rfl)) (inW_1 _ (List.mem_of_getElem? (i := 37) rfl)) (inW_1 _ (List.mem_of_getElem? (i := 38) rfl)) (Nat.le_of_ble_eq_true rfl) (Nat.le_of_ble_eq_true rfl) (Nat.le_of_ble_eq_true rfl) (Nat.le_of_ble_eq_true rfl) dX3_fit_23 ?_
    refine x_max hx hb hml hl.1 hts hown (inW_6 _ (List.mem_of_getElem? (i := 36) rfl)) (inW_6 _ (List.mem_of_getElem? (i := 37) rfl)) (inW_1 _ (List.mem_of_getElem? (i := 37) rfl)) (inW_6 _ (List.mem_of_getElem? (i := 38) rfl)) (Nat.le_of_ble_eq_true rfl) (Nat.le_of_ble_eq_true rfl) (Nat.le_of_ble_eq_true rfl) (Nat.le_of_ble_eq_true rfl) dX3_fit_26 ?_
    refine lv_topi (fun n110 en110 => ?_)
    have hu := hu _ en110
    refine lv_istore_n (lv' := [(1, .int n110), (0, .ref ax)]) hx hb dX3_fit_29 rfl hl (by decide) rfl (fun ls hl => ?_)
    refine lv_aload_n hx hb dX3_fit_30 rfl (lv_at hl 1 rfl) ?_
    refine va_get (D := D) (ci := 4) (v := .ref (ad 8)) (C := RX3) (T := TX3) (N := 7) hx hb hts hi3 hown hK hP 0 rfl rfl 1 (by decide) (hts (.fieldLink RX3 16 "DecimalWords" "result" "LDecimalWords$Datum;") (inW_4 _ (List.mem_of_getElem? (i := 18) rfl))) (fun _ h9 => h9) rfl dX3_fit_31 ?_
    refine lv_aload_n hx hb dX3_fit_34 rfl (lv_at hl 1 rfl) ?_
    refine va_get (D := D) (ci := 4) (v := .ref ao) (C := RX3) (T := TX3) (N := 7) hx hb hts hi3 hown hK hP 0 rfl rfl 2 (by decide) (hts (.fieldLink RX3 23 "DecimalWords" "outcome" "LDecimalWords$Outcome;") (inW_4 _ (List.mem_of_getElem? (i := 21) rfl))) (fun _ h9 => h9) rfl dX3_fit_35 ?_
    refine va_get (D := D) (ci := 3) (v := .int (bI vom)) (C := RX1) (T := TX1) (N := 8) hx hb hts hi1 hown hK hP 2 rfl rfl 0 (by decide) (hts (.fieldLink RX3 216 "DecimalWords$Outcome" "minus" "Z") (inW_6 _ (List.mem_of_getElem? (i := 39) rfl))) (fun _ h9 => h9) rfl dX3_fit_38 ?_
    refine lv_lconst (v := 0) hx hb dX3_fit_41 (by decide) ?_
    refine lv_iload_n hx hb dX3_fit_42 rfl (lv_at hl 0 rfl) ?_
    obtain ⟨u111, eu111⟩ : ∃ y9 : (Nat → Int32) × (Nat → Bool) × (Nat → Int64) × (Nat → Int32), y9 = F_X0_setFinite vso vmi vco vex 8 vom (0 : Int64) n110 := ⟨_, rfl⟩
    have hu := hu _ eu111
    refine x_V (As := [.int (bI vom), .long 0, .int n110]) (rest := []) hCF (c_X0_setFinite l D cR cI cJ cZ t0 ax ar ao ad vrd vtr vsd vrn vom voh vol vop voe vow vok vos vso vmi vco vex 8 vom (0 : Int64) n110 u111 eu111 (by decide)) (x_cwV 3 hts (inW_4 _ (List.mem_of_getElem? (i := 37) rfl)) (inW_4 _ (List.mem_of_getElem? (i := 5) rfl)) (inW_4 _ (List.mem_of_getElem? (i := 6) rfl)) (inW_1 _ (List.mem_of_getElem? (i := 16) rfl)) (inW_1 _ (List.mem_of_getElem? (i := 3) rfl)) rfl rfl (by decide +kernel) ⟨Nat.le_of_ble_eq_true rfl, Nat.le_of_ble_eq_true rfl⟩) hK hP hD hS hA hSt (3 + 8) (xw_dat (by decide)) rfl rfl hl.1 rfl (Nat.le_of_ble_eq_true rfl) dX3_fit_43 ⟨Nat.le_of_ble_eq_true rfl, Nat.le_of_ble_eq_true rfl⟩ (fun H locs hP hD hS => ?_)
    show W p l e _ s m args below meth c H locs 0 0 Q (F0 m 46 ls [])
    refine lv_goto (tgt := 60) hx hb dX3_fit_46 (by decide) ?_
    have e9 := Eq.symm hu; subst e9
    exact x_vret hx hb hr hlocks hQ hK hP hD hS rfl dX3_fit_60

def Z_X3_divideByZero_J_108 (vmi : Nat → Bool) (i1 : Nat) (i2 : Nat) : Bool := (if vmi i1 = vmi i2 then false else true)
def RZ_X3_divideByZero_J_108 (vmi : Nat → Bool) (i1 : Nat) (i2 : Nat) (u9 : Bool) : Prop := (if vmi i1 = vmi i2 then u9 = false else u9 = true)
theorem rZ_X3_divideByZero_J_108 (vmi : Nat → Bool) (i1 : Nat) (i2 : Nat) {u9 : Bool} (hu : u9 = Z_X3_divideByZero_J_108 vmi i1 i2) : RZ_X3_divideByZero_J_108 vmi i1 i2 u9 := by
  unfold RZ_X3_divideByZero_J_108
  refine ite_P (fun c_105 => ?_) (fun c_105 => ?_)
  · have hu := hu.trans (if_pos c_105)
    exact hu
  · have hu := hu.trans (if_neg c_105)
    exact hu
def F_X3_divideByZero (vrn : Int32) (vso : Nat → Int32) (vmi : Nat → Bool) (vco : Nat → Int64) (vex : Nat → Int32) (i1 : Nat) (i2 : Nat) : Int32 × (Nat → Int32) × (Nat → Bool) × (Nat → Int64) × (Nat → Int32) := (if F_X0_isZero vso vco i1 = true then (bnd (F_X3_setInvalid vrn vso vmi vco vex) (fun u111 : Int32 × (Nat → Int32) × (Nat → Bool) × (Nat → Int64) × (Nat → Int32) => (u111.1, u111.2.1, u111.2.2.1, u111.2.2.2.1, u111.2.2.2.2))) else (bnd (F_X3_raise vrn (2 : Int32)) (fun u103 : Int32 => (bnd (Z_X3_divideByZero_J_108 vmi i1 i2) (fun z107 : Bool => (bnd (F_X0_setInfinity vso vmi vco vex 8 z107) (fun u109 : (Nat → Int32) × (Nat → Bool) × (Nat → Int64) × (Nat → Int32) => (u103, u109.1, u109.2.1, u109.2.2.1, u109.2.2.2))))))))
def RF_X3_divideByZero (vrn : Int32) (vso : Nat → Int32) (vmi : Nat → Bool) (vco : Nat → Int64) (vex : Nat → Int32) (i1 : Nat) (i2 : Nat) (u9 : Int32 × (Nat → Int32) × (Nat → Bool) × (Nat → Int64) × (Nat → Int32)) : Prop := (if F_X0_isZero vso vco i1 = true then (∀ u111 : Int32 × (Nat → Int32) × (Nat → Bool) × (Nat → Int64) × (Nat → Int32), u111 = F_X3_setInvalid vrn vso vmi vco vex → u9 = (u111.1, u111.2.1, u111.2.2.1, u111.2.2.2.1, u111.2.2.2.2)) else (∀ u103 : Int32, u103 = F_X3_raise vrn (2 : Int32) → (∀ z107 : Bool, z107 = Z_X3_divideByZero_J_108 vmi i1 i2 → (∀ u109 : (Nat → Int32) × (Nat → Bool) × (Nat → Int64) × (Nat → Int32), u109 = F_X0_setInfinity vso vmi vco vex 8 z107 → u9 = (u103, u109.1, u109.2.1, u109.2.2.1, u109.2.2.2)))))
theorem rF_X3_divideByZero (vrn : Int32) (vso : Nat → Int32) (vmi : Nat → Bool) (vco : Nat → Int64) (vex : Nat → Int32) (i1 : Nat) (i2 : Nat) {u9 : Int32 × (Nat → Int32) × (Nat → Bool) × (Nat → Int64) × (Nat → Int32)} (hu : u9 = F_X3_divideByZero vrn vso vmi vco vex i1 i2) : RF_X3_divideByZero vrn vso vmi vco vex i1 i2 u9 := by
  unfold RF_X3_divideByZero
  refine ite_P (fun c_102 => ?_) (fun c_102 => ?_)
  · have hu := hu.trans (if_pos c_102)
    intro u111 eu111
    have hu := bnd_n hu eu111
    exact hu
  · have hu := hu.trans (if_neg c_102)
    intro u103 eu103
    have hu := bnd_n hu eu103
    intro z107 ez107
    have hu := bnd_n hu ez107
    intro u109 eu109
    have hu := bnd_n hu eu109
    exact hu
def rm_X3_divideByZero : Room := { frames := 2, cells := 0, slots := 0, locals := 41 }
set_option maxHeartbeats 4000000 in
set_option maxRecDepth 100000 in
theorem c_X3_divideByZero (l : Launch) (D : va_G) (cR cI cJ cZ : ClassId) (t0 : Nat) (ax ar ao : Nat) (ad : Nat → Nat) (vrd : Int32) (vtr : Int32) (vsd : Int32) (vrn : Int32) (vom : Bool) (voh : Int64) (vol : Int64) (vop : Int32) (voe : Bool) (vow : Int32) (vok : Int64) (vos : Int32) (vso : Nat → Int32) (vmi : Nat → Bool) (vco : Nat → Int64) (vex : Nat → Int32) (i1 : Nat) (i2 : Nat) (u : Int32 × (Nat → Int32) × (Nat → Bool) × (Nat → Int64) × (Nat → Int32)) (hu : u = F_X3_divideByZero vrn vso vmi vco vex i1 i2) (hb1 : i1 < 9) (hb2 : i2 < 9) : XM l D (xty cR cI cJ cZ) t0 yX3_divideByZero cX3_divideByZero 3 none rm_X3_divideByZero [.ref ax, .ref (ad i1), .ref (ad i2)] none (xw cR ax ar ao ad vrd vtr vsd vrn vom voh vol vop voe vow vok vos vso vmi vco vex) (xw cR ax ar ao ad vrd vtr vsd u.1 vom voh vol vop voe vow vok vos u.2.1 u.2.2.1 u.2.2.2.1 u.2.2.2.2) := by
  refine XM.of (by decide) (Nat.le_of_ble_eq_true rfl) ?_
  intro p e s m args below meth c A Q F hK hP hD hA hSt hS hQ ls hl
  obtain ⟨hx, hb, hr, hts, hown, hlocks, hml⟩ := F
  have hCF : CallFix p m c cX3_divideByZero 3 s args gW RX3 := ⟨hx, hb, hml, hown, hts⟩
  have hu := rF_X3_divideByZero vrn vso vmi vco vex i1 i2 hu
  unfold RF_X3_divideByZero at hu
  obtain ⟨H, eH⟩ : ∃ y9 : Heap, y9 = s.heap := ⟨_, rfl⟩
  obtain ⟨locs, eL⟩ : ∃ y9 : List Loc, y9 = [] := ⟨_, rfl⟩
  rw [← eL] at hS ⊢
  have hP : va_P D vwCl (xw cR ax ar ao ad vrd vtr vsd vrn vom voh vol vop voe vow vok vos vso vmi vco vex) H := by rw [eH]; exact hP
  have hS : va_S A s.heap H locs := by rw [eH]; exact hS
  suffices goal9 : W p l e rm_X3_divideByZero s m args below meth c H locs 0 0 Q (F0 m 0 ls []) from by rw [← eH]; exact goal9
  have hl : lv_has ls 3 [(0, .ref ax), (1, .ref (ad i1)), (2, .ref (ad i2))] := hl
  have hi0 : ∀ w ∈ wsX00, w ∈ gW := inW_X0
  have hi3 : ∀ w ∈ wsX30, w ∈ gW := inW_X3
  refine lv_aload_n hx hb dX3_divideByZero_0 rfl (lv_at hl 1 rfl) ?_
  refine x_V (As := []) (rest := []) hCF (c_X0_isZero l D cR cI cJ cZ t0 ax ar ao ad vrd vtr vsd vrn vom voh vol vop voe vow vok vos vso vmi vco vex i1 _ rfl hb1) (x_cwV 0 hts (inW_5 _ (List.mem_of_getElem? (i := 22) rfl)) (inW_1 _ (List.mem_of_getElem? (i := 14) rfl)) (inW_1 _ (List.mem_of_getElem? (i := 15) rfl)) (inW_1 _ (List.mem_of_getElem? (i := 16) rfl)) (inW_1 _ (List.mem_of_getElem? (i := 11) rfl)) rfl rfl (by decide +kernel) ⟨Nat.le_of_ble_eq_true rfl, Nat.le_of_ble_eq_true rfl⟩) hK hP hD hS hA hSt (3 + i1) (xw_dat hb1) rfl rfl hl.1 rfl (Nat.le_of_ble_eq_true rfl) dX3_divideByZero_1 ⟨Nat.le_of_ble_eq_true rfl, Nat.le_of_ble_eq_true rfl⟩ (fun H locs hP hD hS => ?_)
  show W p l e _ s m args below meth c H locs 0 0 Q (F0 m 4 ls (.int (bI (F_X0_isZero vso vco i1)) :: []))
  refine xb_eq (tgt := 14) hx hb dX3_divideByZero_4 (by decide) (fun c_102 => ?_) (fun c_102 => ?_)
  · rw [if_neg c_102] at hu
    refine lv_aload_n hx hb dX3_divideByZero_14 rfl (lv_at hl 0 rfl) ?_
    refine lv_iconst (v := 2) hx hb dX3_divideByZero_15 (by decide) ?_
    obtain ⟨u103, eu103⟩ : ∃ y9 : Int32, y9 = F_X3_raise vrn (2 : Int32) := ⟨_, rfl⟩
    have hu := hu _ eu103
    refine x_V (As := [.int 2]) (rest := []) hCF (c_X3_raise l D cR cI cJ cZ t0 ax ar ao ad vrd vtr vsd vrn vom voh vol vop voe vow vok vos vso vmi vco vex (2 : Int32) u103 eu103) (x_cwV 1 hts (inW_6 _ (List.mem_of_getElem? (i := 20) rfl)) (inW_6 _ (List.mem_of_getElem? (i := 21) rfl)) (inW_6 _ (List.mem_of_getElem? (i := 22) rfl)) (inW_1 _ (List.mem_of_getElem? (i := 25) rfl)) (inW_6 _ (List.mem_of_getElem? (i := 23) rfl)) rfl rfl (by decide +kernel) ⟨Nat.le_of_ble_eq_true rfl, Nat.le_of_ble_eq_true rfl⟩) hK hP hD hS hA hSt 0 rfl rfl rfl hl.1 rfl (Nat.le_of_ble_eq_true rfl) dX3_divideByZero_16 ⟨Nat.le_of_ble_eq_true rfl, Nat.le_of_ble_eq_true rfl⟩ (fun H locs hP hD hS => ?_)
    show W p l e _ s m args below meth c H locs 0 0 Q (F0 m 19 ls [])
    refine lv_aload_n hx hb dX3_divideByZero_19 rfl (lv_at hl 0 rfl) ?_
    refine va_get (D := D) (ci := 4) (v := .ref (ad 8)) (C := RX3) (T := TX3) (N := 7) hx hb hts hi3 hown hK hP 0 rfl rfl 1 (by decide) (hts (.fieldLink RX3 16 "DecimalWords" "result" "LDecimalWords$Datum;") (inW_4 _ (List.mem_of_getElem? (i := 18) rfl))) (fun _ h9 => h9) rfl dX3_divideByZero_20 ?_
    refine lv_aload_n hx hb dX3_divideByZero_23 rfl (lv_at hl 1 rfl) ?_
    refine g_mi (i := i1) hx hb hts hi0 hown hK hP hb1 (hts (.fieldLink RX3 77 "DecimalWords$Datum" "minus" "Z") (inW_5 _ (List.mem_of_getElem? (i := 14) rfl))) dX3_divideByZero_24 ?_
    refine lv_aload_n hx hb dX3_divideByZero_27 rfl (lv_at hl 2 rfl) ?_
    refine g_mi (i := i2) hx hb hts hi0 hown hK hP hb2 (hts (.fieldLink RX3 77 "DecimalWords$Datum" "minus" "Z") (inW_5 _ (List.mem_of_getElem? (i := 14) rfl))) dX3_divideByZero_28 ?_
    have J_108 : (∀ z107 : Bool, z107 = Z_X3_divideByZero_J_108 vmi i1 i2 → ∀ (H : Heap) (locs : List Loc), va_P D vwCl (xw cR ax ar ao ad vrd vtr vsd u103 vom voh vol vop voe vow vok vos vso vmi vco vex) H → va_D A (xw cR ax ar ao ad vrd vtr vsd u103 vom voh vol vop voe vow vok vos vso vmi vco vex) → va_S A s.heap H locs → ∀ ls : Array Slot, lv_has ls 3 [] → W p l e rm_X3_divideByZero s m args below meth c H locs 0 0 Q (F0 m 39 ls [.int (bI z107), .ref (ad 8)])) := by
      intro z107 ez107 H locs hP hD hS ls hl
      have hu := hu _ ez107
      obtain ⟨u109, eu109⟩ : ∃ y9 : (Nat → Int32) × (Nat → Bool) × (Nat → Int64) × (Nat → Int32), y9 = F_X0_setInfinity vso vmi vco vex 8 z107 := ⟨_, rfl⟩
      have hu := hu _ eu109
      refine x_V (As := [.int (bI z107)]) (rest := []) hCF (c_X0_setInfinity l D cR cI cJ cZ t0 ax ar ao ad vrd vtr vsd u103 vom voh vol vop voe vow vok vos vso vmi vco vex 8 z107 u109 eu109 (by decide)) (x_cwV 1 hts (inW_5 _ (List.mem_of_getElem? (i := 34) rfl)) (inW_3 _ (List.mem_of_getElem? (i := 24) rfl)) (inW_3 _ (List.mem_of_getElem? (i := 25) rfl)) (inW_1 _ (List.mem_of_getElem? (i := 16) rfl)) (inW_1 _ (List.mem_of_getElem? (i := 8) rfl)) rfl rfl (by decide +kernel) ⟨Nat.le_of_ble_eq_true rfl, Nat.le_of_ble_eq_true rfl⟩) hK hP hD hS hA hSt (3 + 8) (xw_dat (by decide)) rfl rfl hl.1 rfl (Nat.le_of_ble_eq_true rfl) dX3_divideByZero_39 ⟨Nat.le_of_ble_eq_true rfl, Nat.le_of_ble_eq_true rfl⟩ (fun H locs hP hD hS => ?_)
      show W p l e _ s m args below meth c H locs 0 0 Q (F0 m 42 ls [])
      have e9 := Eq.symm hu; subst e9
      exact x_vret hx hb hr hlocks hQ hK hP hD hS rfl dX3_divideByZero_42
    obtain ⟨z9, ez9⟩ : ∃ y9 : Bool, y9 = Z_X3_divideByZero_J_108 vmi i1 i2 := ⟨_, rfl⟩
    have hz := rZ_X3_divideByZero_J_108 vmi i1 i2 ez9
    unfold RZ_X3_divideByZero_J_108 at hz
    refine xbb_eq (tgt := 38) hx hb dX3_divideByZero_31 (by decide) (fun c_105 => ?_) (fun c_105 => ?_)
    · rw [if_pos c_105] at hz
      refine lv_iconst (v := 0) hx hb dX3_divideByZero_38 (by decide) ?_
      have e9 := Eq.symm hz; subst e9
      exact J_108 _ ez9 H locs hP hD hS ls (lv_sub hl [] rfl)
    · rw [if_neg c_105] at hz
      refine lv_iconst (v := 1) hx hb dX3_divideByZero_34 (by decide) ?_
      refine lv_goto (tgt := 39) hx hb dX3_divideByZero_35 (by decide) ?_
      have e9 := Eq.symm hz; subst e9
      exact J_108 _ ez9 H locs hP hD hS ls (lv_sub hl [] rfl)
  · rw [if_pos c_102] at hu
    refine lv_aload_n hx hb dX3_divideByZero_7 rfl (lv_at hl 0 rfl) ?_
    obtain ⟨u111, eu111⟩ : ∃ y9 : Int32 × (Nat → Int32) × (Nat → Bool) × (Nat → Int64) × (Nat → Int32), y9 = F_X3_setInvalid vrn vso vmi vco vex := ⟨_, rfl⟩
    have hu := hu _ eu111
    refine x_V (As := []) (rest := []) hCF (c_X3_setInvalid l D cR cI cJ cZ t0 ax ar ao ad vrd vtr vsd vrn vom voh vol vop voe vow vok vos vso vmi vco vex u111 eu111) (x_cwV 0 hts (inW_6 _ (List.mem_of_getElem? (i := 16) rfl)) (inW_6 _ (List.mem_of_getElem? (i := 17) rfl)) (inW_6 _ (List.mem_of_getElem? (i := 18) rfl)) (inW_1 _ (List.mem_of_getElem? (i := 25) rfl)) (inW_6 _ (List.mem_of_getElem? (i := 19) rfl)) rfl rfl (by decide +kernel) ⟨Nat.le_of_ble_eq_true rfl, Nat.le_of_ble_eq_true rfl⟩) hK hP hD hS hA hSt 0 rfl rfl rfl hl.1 rfl (Nat.le_of_ble_eq_true rfl) dX3_divideByZero_8 ⟨Nat.le_of_ble_eq_true rfl, Nat.le_of_ble_eq_true rfl⟩ (fun H locs hP hD hS => ?_)
    show W p l e _ s m args below meth c H locs 0 0 Q (F0 m 11 ls [])
    refine lv_goto (tgt := 42) hx hb dX3_divideByZero_11 (by decide) ?_
    have e9 := Eq.symm hu; subst e9
    exact x_vret hx hb hr hlocks hQ hK hP hD hS rfl dX3_divideByZero_42

def Z_X3_quantize_J_126 (vrn : Int32) (u119 : Int64 × Int32) : Int32 := (if u119.2 = 0 then vrn else (bnd (F_X3_raise vrn (16 : Int32)) (fun u122 : Int32 => u122)))
def RZ_X3_quantize_J_126 (vrn : Int32) (u119 : Int64 × Int32) (u9 : Int32) : Prop := (if u119.2 = 0 then u9 = vrn else (∀ u122 : Int32, u122 = F_X3_raise vrn (16 : Int32) → u9 = u122))
theorem rZ_X3_quantize_J_126 (vrn : Int32) (u119 : Int64 × Int32) {u9 : Int32} (hu : u9 = Z_X3_quantize_J_126 vrn u119) : RZ_X3_quantize_J_126 vrn u119 u9 := by
  unfold RZ_X3_quantize_J_126
  refine ite_P (fun c_121 => ?_) (fun c_121 => ?_)
  · have hu := hu.trans (if_pos c_121)
    exact hu
  · have hu := hu.trans (if_neg c_121)
    intro u122 eu122
    have hu := bnd_n hu eu122
    exact hu
def F_X3_quantize (vrd : Int32) (vrn : Int32) (vom : Bool) (voh : Int64) (vol : Int64) (vop : Int32) (voe : Bool) (vok : Int64) (vos : Int32) (vso : Nat → Int32) (vmi : Nat → Bool) (vco : Nat → Int64) (vex : Nat → Int32) (i1 : Nat) (p1 : Int32) : Int32 × Bool × Int64 × Int64 × Int32 × Bool × Int64 × Int32 × (Nat → Int32) × (Nat → Bool) × (Nat → Int64) × (Nat → Int32) := (bnd (p1 - (vex i1)) (fun n101 : Int32 => (if n101 ≤ 0 then (if F_X0_isZero vso vco i1 = true then (bnd (F_X0_setFinite vso vmi vco vex 8 (vmi i1) (0 : Int64) p1) (fun u114 : (Nat → Int32) × (Nat → Bool) × (Nat → Int64) × (Nat → Int32) => (vrn, vom, voh, vol, vop, voe, vok, vos, u114.1, u114.2.1, u114.2.2.1, u114.2.2.2))) else (if (F_X3_digitsOf (vco i1)) - n101 ≤ 16 then (bnd (F_X0_setFinite vso vmi vco vex 8 (vmi i1) ((vco i1) * (F_X3_tenTo (-n101))) p1) (fun u110 : (Nat → Int32) × (Nat → Bool) × (Nat → Int64) × (Nat → Int32) => (vrn, vom, voh, vol, vop, voe, vok, vos, u110.1, u110.2.1, u110.2.2.1, u110.2.2.2))) else (bnd (F_X3_setInvalid vrn vso vmi vco vex) (fun u112 : Int32 × (Nat → Int32) × (Nat → Bool) × (Nat → Int64) × (Nat → Int32) => (u112.1, vom, voh, vol, vop, voe, vok, vos, u112.2.1, u112.2.2.1, u112.2.2.2.1, u112.2.2.2.2))))) else (bnd (F_X1_setWhole vmi vco vex i1) (fun u116 : Bool × Int64 × Int64 × Int32 × Bool => (bnd (F_X1_cut u116.2.1 u116.2.2.1 u116.2.2.2.2 n101) (fun u119 : Int64 × Int32 => (bnd (Z_X3_quantize_J_126 vrn u119) (fun z125 : Int32 => (bnd (F_X0_setFinite vso vmi vco vex 8 (vmi i1) (F_X3_roundedKept vrd u119.1 u119.2 (vmi i1)) p1) (fun u128 : (Nat → Int32) × (Nat → Bool) × (Nat → Int64) × (Nat → Int32) => (z125, u116.1, u116.2.1, u116.2.2.1, u116.2.2.2.1, u116.2.2.2.2, u119.1, u119.2, u128.1, u128.2.1, u128.2.2.1, u128.2.2.2))))))))))))
def RF_X3_quantize (vrd : Int32) (vrn : Int32) (vom : Bool) (voh : Int64) (vol : Int64) (vop : Int32) (voe : Bool) (vok : Int64) (vos : Int32) (vso : Nat → Int32) (vmi : Nat → Bool) (vco : Nat → Int64) (vex : Nat → Int32) (i1 : Nat) (p1 : Int32) (u9 : Int32 × Bool × Int64 × Int64 × Int32 × Bool × Int64 × Int32 × (Nat → Int32) × (Nat → Bool) × (Nat → Int64) × (Nat → Int32)) : Prop := (∀ n101 : Int32, n101 = p1 - (vex i1) → (if n101 ≤ 0 then (if F_X0_isZero vso vco i1 = true then (∀ u114 : (Nat → Int32) × (Nat → Bool) × (Nat → Int64) × (Nat → Int32), u114 = F_X0_setFinite vso vmi vco vex 8 (vmi i1) (0 : Int64) p1 → u9 = (vrn, vom, voh, vol, vop, voe, vok, vos, u114.1, u114.2.1, u114.2.2.1, u114.2.2.2)) else (if (F_X3_digitsOf (vco i1)) - n101 ≤ 16 then (∀ u110 : (Nat → Int32) × (Nat → Bool) × (Nat → Int64) × (Nat → Int32), u110 = F_X0_setFinite vso vmi vco vex 8 (vmi i1) ((vco i1) * (F_X3_tenTo (-n101))) p1 → u9 = (vrn, vom, voh, vol, vop, voe, vok, vos, u110.1, u110.2.1, u110.2.2.1, u110.2.2.2)) else (∀ u112 : Int32 × (Nat → Int32) × (Nat → Bool) × (Nat → Int64) × (Nat → Int32), u112 = F_X3_setInvalid vrn vso vmi vco vex → u9 = (u112.1, vom, voh, vol, vop, voe, vok, vos, u112.2.1, u112.2.2.1, u112.2.2.2.1, u112.2.2.2.2)))) else (∀ u116 : Bool × Int64 × Int64 × Int32 × Bool, u116 = F_X1_setWhole vmi vco vex i1 → (∀ u119 : Int64 × Int32, u119 = F_X1_cut u116.2.1 u116.2.2.1 u116.2.2.2.2 n101 → (∀ z125 : Int32, z125 = Z_X3_quantize_J_126 vrn u119 → (∀ u128 : (Nat → Int32) × (Nat → Bool) × (Nat → Int64) × (Nat → Int32), u128 = F_X0_setFinite vso vmi vco vex 8 (vmi i1) (F_X3_roundedKept vrd u119.1 u119.2 (vmi i1)) p1 → u9 = (z125, u116.1, u116.2.1, u116.2.2.1, u116.2.2.2.1, u116.2.2.2.2, u119.1, u119.2, u128.1, u128.2.1, u128.2.2.1, u128.2.2.2)))))))
theorem rF_X3_quantize (vrd : Int32) (vrn : Int32) (vom : Bool) (voh : Int64) (vol : Int64) (vop : Int32) (voe : Bool) (vok : Int64) (vos : Int32) (vso : Nat → Int32) (vmi : Nat → Bool) (vco : Nat → Int64) (vex : Nat → Int32) (i1 : Nat) (p1 : Int32) {u9 : Int32 × Bool × Int64 × Int64 × Int32 × Bool × Int64 × Int32 × (Nat → Int32) × (Nat → Bool) × (Nat → Int64) × (Nat → Int32)} (hu : u9 = F_X3_quantize vrd vrn vom voh vol vop voe vok vos vso vmi vco vex i1 p1) : RF_X3_quantize vrd vrn vom voh vol vop voe vok vos vso vmi vco vex i1 p1 u9 := by
  unfold RF_X3_quantize
  intro n101 en101
  have hu := bnd_n hu en101
  refine ite_P (fun c_102 => ?_) (fun c_102 => ?_)
  · have hu := hu.trans (if_pos c_102)
    refine ite_P (fun c_104 => ?_) (fun c_104 => ?_)
    · have hu := hu.trans (if_pos c_104)
      intro u114 eu114
      have hu := bnd_n hu eu114
      exact hu
    · have hu := hu.trans (if_neg c_104)
      refine ite_P (fun c_107 => ?_) (fun c_107 => ?_)
      · have hu := hu.trans (if_pos c_107)
        intro u110 eu110
        have hu := bnd_n hu eu110
        exact hu
      · have hu := hu.trans (if_neg c_107)
        intro u112 eu112
        have hu := bnd_n hu eu112
        exact hu
  · have hu := hu.trans (if_neg c_102)
    intro u116 eu116
    have hu := bnd_n hu eu116
    intro u119 eu119
    have hu := bnd_n hu eu119
    intro z125 ez125
    have hu := bnd_n hu ez125
    intro u128 eu128
    have hu := bnd_n hu eu128
    exact hu
def S_X3_quantize (vrd : Int32) (vrn : Int32) (vom : Bool) (voh : Int64) (vol : Int64) (vop : Int32) (voe : Bool) (vok : Int64) (vos : Int32) (vso : Nat → Int32) (vmi : Nat → Bool) (vco : Nat → Int64) (vex : Nat → Int32) (i1 : Nat) (p1 : Int32) : Prop := (∀ n101 : Int32, n101 = p1 - (vex i1) → (if n101 ≤ 0 then (if F_X0_isZero vso vco i1 = true then True else (S_X3_digitsOf (vco i1)) ∧ (if (F_X3_digitsOf (vco i1)) - n101 ≤ 16 then S_X3_tenTo (-n101) else True)) else (∀ u116 : Bool × Int64 × Int64 × Int32 × Bool, u116 = F_X1_setWhole vmi vco vex i1 → S_X1_cut u116.2.1 u116.2.2.1 u116.2.2.2.2 n101)))
def rm_X3_quantize : Room := { frames := 2, cells := 0, slots := 0, locals := 49 }
set_option maxHeartbeats 4000000 in
set_option maxRecDepth 100000 in
theorem c_X3_quantize (l : Launch) (D : va_G) (cR cI cJ cZ : ClassId) (t0 : Nat) (ax ar ao : Nat) (ad : Nat → Nat) (vrd : Int32) (vtr : Int32) (vsd : Int32) (vrn : Int32) (vom : Bool) (voh : Int64) (vol : Int64) (vop : Int32) (voe : Bool) (vow : Int32) (vok : Int64) (vos : Int32) (vso : Nat → Int32) (vmi : Nat → Bool) (vco : Nat → Int64) (vex : Nat → Int32) (i1 : Nat) (p1 : Int32) (u : Int32 × Bool × Int64 × Int64 × Int32 × Bool × Int64 × Int32 × (Nat → Int32) × (Nat → Bool) × (Nat → Int64) × (Nat → Int32)) (hu : u = F_X3_quantize vrd vrn vom voh vol vop voe vok vos vso vmi vco vex i1 p1) (hs : S_X3_quantize vrd vrn vom voh vol vop voe vok vos vso vmi vco vex i1 p1) (hb1 : i1 < 9) : XM l D (xty cR cI cJ cZ) t0 yX3_quantize cX3_quantize 4 none rm_X3_quantize [.ref ax, .ref (ad i1), .int p1] none (xw cR ax ar ao ad vrd vtr vsd vrn vom voh vol vop voe vow vok vos vso vmi vco vex) (xw cR ax ar ao ad vrd vtr vsd u.1 u.2.1 u.2.2.1 u.2.2.2.1 u.2.2.2.2.1 u.2.2.2.2.2.1 vow u.2.2.2.2.2.2.1 u.2.2.2.2.2.2.2.1 u.2.2.2.2.2.2.2.2.1 u.2.2.2.2.2.2.2.2.2.1 u.2.2.2.2.2.2.2.2.2.2.1 u.2.2.2.2.2.2.2.2.2.2.2) := by
  refine XM.of (by decide) (Nat.le_of_ble_eq_true rfl) ?_
  intro p e s m args below meth c A Q F hK hP hD hA hSt hS hQ ls hl
  obtain ⟨hx, hb, hr, hts, hown, hlocks, hml⟩ := F
  have hCF : CallFix p m c cX3_quantize 4 s args gW RX3 := ⟨hx, hb, hml, hown, hts⟩
  unfold S_X3_quantize at hs
  have hu := rF_X3_quantize vrd vrn vom voh vol vop voe vok vos vso vmi vco vex i1 p1 hu
  unfold RF_X3_quantize at hu
  obtain ⟨H, eH⟩ : ∃ y9 : Heap, y9 = s.heap := ⟨_, rfl⟩
  obtain ⟨locs, eL⟩ : ∃ y9 : List Loc, y9 = [] := ⟨_, rfl⟩
  rw [← eL] at hS ⊢
  have hP : va_P D vwCl (xw cR ax ar ao ad vrd vtr vsd vrn vom voh vol vop voe vow vok vos vso vmi vco vex) H := by rw [eH]; exact hP
  have hS : va_S A s.heap H locs := by rw [eH]; exact hS
  suffices goal9 : W p l e rm_X3_quantize s m args below meth c H locs 0 0 Q (F0 m 0 ls []) from by rw [← eH]; exact goal9
  have hl : lv_has ls 4 [(0, .ref ax), (1, .ref (ad i1)), (2, .int p1)] := hl
  have hi0 : ∀ w ∈ wsX00, w ∈ gW := inW_X0
  have hi1 : ∀ w ∈ wsX10, w ∈ gW := inW_X1
  have hi3 : ∀ w ∈ wsX30, w ∈ gW := inW_X3
  refine lv_iload_n hx hb dX3_quantize_0 rfl (lv_at hl 2 rfl) ?_
  refine lv_aload_n hx hb dX3_quantize_1 rfl (lv_at hl 1 rfl) ?_
  refine g_ex (i := i1) hx hb hts hi0 hown hK hP hb1 (hts (.fieldLink RX3 85 "DecimalWords$Datum" "exponent" "I") (inW_5 _ (List.mem_of_getElem? (i := 17) rfl))) dX3_quantize_2 ?_
  refine lv_isub hx hb dX3_quantize_5 ?_
  refine lv_topi (fun n101 en101 => ?_)
  have hs := hs _ en101
  have hu := hu _ en101
  refine lv_istore_n (lv' := [(3, .int n101), (0, .ref ax), (1, .ref (ad i1)), (2, .int p1)]) hx hb dX3_quantize_6 rfl hl (by decide) rfl (fun ls hl => ?_)
  refine lv_iload_n hx hb dX3_quantize_7 rfl (lv_at hl 0 rfl) ?_
  refine lv_if_le (tgt := 66) hx hb dX3_quantize_8 (by decide) (fun c_102 => ?_) (fun c_102 => ?_)
  · rw [if_pos c_102] at hs
    rw [if_pos c_102] at hu
    refine lv_aload_n hx hb dX3_quantize_66 rfl (lv_at hl 2 rfl) ?_
    refine x_V (As := []) (rest := []) hCF (c_X0_isZero l D cR cI cJ cZ t0 ax ar ao ad vrd vtr vsd vrn vom voh vol vop voe vow vok vos vso vmi vco vex i1 _ rfl hb1) (x_cwV 0 hts (inW_5 _ (List.mem_of_getElem? (i := 22) rfl)) (inW_1 _ (List.mem_of_getElem? (i := 14) rfl)) (inW_1 _ (List.mem_of_getElem? (i := 15) rfl)) (inW_1 _ (List.mem_of_getElem? (i := 16) rfl)) (inW_1 _ (List.mem_of_getElem? (i := 11) rfl)) rfl rfl (by decide +kernel) ⟨Nat.le_of_ble_eq_true rfl, Nat.le_of_ble_eq_true rfl⟩) hK hP hD hS hA hSt (3 + i1) (xw_dat hb1) rfl rfl hl.1 rfl (Nat.le_of_ble_eq_true rfl) dX3_quantize_67 ⟨Nat.le_of_ble_eq_true rfl, Nat.le_of_ble_eq_true rfl⟩ (fun H locs hP hD hS => ?_)
    show W p l e _ s m args below meth c H locs 0 0 Q (F0 m 70 ls (.int (bI (F_X0_isZero vso vco i1)) :: []))
    refine xb_eq (tgt := 89) hx hb dX3_quantize_70 (by decide) (fun c_104 => ?_) (fun c_104 => ?_)
    · rw [if_neg c_104] at hs
      rw [if_neg c_104] at hu
      refine lv_aload_n hx hb dX3_quantize_89 rfl (lv_at hl 2 rfl) ?_
      refine g_co (i := i1) hx hb hts hi0 hown hK hP hb1 (hts (.fieldLink RX3 81 "DecimalWords$Datum" "coefficient" "J") (inW_5 _ (List.mem_of_getElem? (i := 16) rfl))) dX3_quantize_90 ?_
      obtain ⟨h_105, hs⟩ := hs
      refine x_S (As := [.long (vco i1)]) (rest := []) hCF (c_X3_digitsOf l D cR cI cJ cZ t0 (xw cR ax ar ao ad vrd vtr vsd vrn vom voh vol vop voe vow vok vos vso vmi vco vex) (vco i1) _ rfl h_105) (x_cwS 1 hts (inW_5 _ (List.mem_of_getElem? (i := 23) rfl)) (inW_1 _ (List.mem_of_getElem? (i := 24) rfl)) (inW_1 _ (List.mem_of_getElem? (i := 25) rfl)) (inW_1 _ (List.mem_of_getElem? (i := 26) rfl)) rfl rfl (by decide +kernel) ⟨Nat.le_of_ble_eq_true rfl, Nat.le_of_ble_eq_true rfl⟩) hK hP hD hS hA hSt rfl hl.1 rfl (Nat.le_of_ble_eq_true rfl) dX3_quantize_93 ⟨Nat.le_of_ble_eq_true rfl, Nat.le_of_ble_eq_true rfl⟩ (fun H locs hP hD hS => ?_)
      show W p l e _ s m args below meth c H locs 0 0 Q (F0 m 96 ls (.int (F_X3_digitsOf (vco i1)) :: []))
      refine lv_iload_n hx hb dX3_quantize_96 rfl (lv_at hl 0 rfl) ?_
      refine lv_isub hx hb dX3_quantize_97 ?_
      refine lv_bipush (v := 16) hx hb dX3_quantize_98 (by decide) ?_
      refine lv_icmp_le (tgt := 110) hx hb dX3_quantize_100 (by decide) (fun c_107 => ?_) (fun c_107 => ?_)
      · rw [if_pos c_107] at hs
        rw [if_pos c_107] at hu
        refine lv_aload_n hx hb dX3_quantize_110 rfl (lv_at hl 1 rfl) ?_
        refine va_get (D := D) (ci := 4) (v := .ref (ad 8)) (C := RX3) (T := TX3) (N := 7) hx hb hts hi3 hown hK hP 0 rfl rfl 1 (by decide) (hts (.fieldLink RX3 16 "DecimalWords" "result" "LDecimalWords$Datum;") (inW_4 _ (List.mem_of_getElem? (i := 18) rfl))) (fun _ h9 => h9) rfl dX3_quantize_111 ?_
        refine lv_aload_n hx hb dX3_quantize_114 rfl (lv_at hl 2 rfl) ?_
        refine g_mi (i := i1) hx hb hts hi0 hown hK hP hb1 (hts (.fieldLink RX3 77 "DecimalWords$Datum" "minus" "Z") (inW_5 _ (List.mem_of_getElem? (i := 14) rfl))) dX3_quantize_115 ?_
        refine lv_aload_n hx hb dX3_quantize_118 rfl (lv_at hl 2 rfl) ?_
        refine g_co (i := i1) hx hb hts hi0 hown hK hP hb1 (hts (.fieldLink RX3 81 "DecimalWords$Datum" "coefficient" "J") (inW_5 _ (List.mem_of_getElem? (i := 16) rfl))) dX3_quantize_119 ?_
        refine lv_iload_n hx hb dX3_quantize_122 rfl (lv_at hl 0 rfl) ?_
        refine lv_ineg hx hb dX3_quantize_123 ?_
        have h_108 := hs
        refine x_S (As := [.int (-n101)]) (rest := [.long (vco i1), .int (bI (vmi i1)), .ref (ad 8)]) hCF (c_X3_tenTo l D cR cI cJ cZ t0 (xw cR ax ar ao ad vrd vtr vsd vrn vom voh vol vop voe vow vok vos vso vmi vco vex) (-n101) _ rfl h_108) (x_cwS 1 hts (inW_5 _ (List.mem_of_getElem? (i := 24) rfl)) (inW_2 _ (List.mem_of_getElem? (i := 9) rfl)) (inW_1 _ (List.mem_of_getElem? (i := 25) rfl)) (inW_2 _ (List.mem_of_getElem? (i := 10) rfl)) rfl rfl (by decide +kernel) ⟨Nat.le_of_ble_eq_true rfl, Nat.le_of_ble_eq_true rfl⟩) hK hP hD hS hA hSt rfl hl.1 rfl (Nat.le_of_ble_eq_true rfl) dX3_quantize_124 ⟨Nat.le_of_ble_eq_true rfl, Nat.le_of_ble_eq_true rfl⟩ (fun H locs hP hD hS => ?_)
        show W p l e _ s m args below meth c H locs 0 0 Q (F0 m 127 ls (.long (F_X3_tenTo (-n101)) :: [.long (vco i1), .int (bI (vmi i1)), .ref (ad 8)]))
        refine lv_lmul hx hb dX3_quantize_127 ?_
        refine lv_iload_n hx hb dX3_quantize_128 rfl (lv_at hl 3 rfl) ?_
        obtain ⟨u110, eu110⟩ : ∃ y9 : (Nat → Int32) × (Nat → Bool) × (Nat → Int64) × (Nat → Int32), y9 = F_X0_setFinite vso vmi vco vex 8 (vmi i1) ((vco i1) * (F_X3_tenTo (-n101))) p1 := ⟨_, rfl⟩
        have hu := hu _ eu110
        refine x_V (As := [.int (bI (vmi i1)), .long ((vco i1) * (F_X3_tenTo (-n101))), .int p1]) (rest := []) hCF (c_X0_setFinite l D cR cI cJ cZ t0 ax ar ao ad vrd vtr vsd vrn vom voh vol vop voe vow vok vos vso vmi vco vex 8 (vmi i1) ((vco i1) * (F_X3_tenTo (-n101))) p1 u110 eu110 (by decide)) (x_cwV 3 hts (inW_4 _ (List.mem_of_getElem? (i := 37) rfl)) (inW_4 _ (List.mem_of_getElem? (i := 5) rfl)) (inW_4 _ (List.mem_of_getElem? (i := 6) rfl)) (inW_1 _ (List.mem_of_getElem? (i := 16) rfl)) (inW_1 _ (List.mem_of_getElem? (i := 3) rfl)) rfl rfl (by decide +kernel) ⟨Nat.le_of_ble_eq_true rfl, Nat.le_of_ble_eq_true rfl⟩) hK hP hD hS hA hSt (3 + 8) (xw_dat (by decide)) rfl rfl hl.1 rfl (Nat.le_of_ble_eq_true rfl) dX3_quantize_129 ⟨Nat.le_of_ble_eq_true rfl, Nat.le_of_ble_eq_true rfl⟩ (fun H locs hP hD hS => ?_)
        show W p l e _ s m args below meth c H locs 0 0 Q (F0 m 132 ls [])
        have e9 := Eq.symm hu; subst e9
        exact x_vret hx hb hr hlocks hQ hK hP hD hS rfl dX3_quantize_132
      · rw [if_neg c_107] at hu
        refine lv_aload_n hx hb dX3_quantize_103 rfl (lv_at hl 1 rfl) ?_
        obtain ⟨u112, eu112⟩ : ∃ y9 : Int32 × (Nat → Int32) × (Nat → Bool) × (Nat → Int64) × (Nat → Int32), y9 = F_X3_setInvalid vrn vso vmi vco vex := ⟨_, rfl⟩
        have hu := hu _ eu112
        refine x_V (As := []) (rest := []) hCF (c_X3_setInvalid l D cR cI cJ cZ t0 ax ar ao ad vrd vtr vsd vrn vom voh vol vop voe vow vok vos vso vmi vco vex u112 eu112) (x_cwV 0 hts (inW_6 _ (List.mem_of_getElem? (i := 16) rfl)) (inW_6 _ (List.mem_of_getElem? (i := 17) rfl)) (inW_6 _ (List.mem_of_getElem? (i := 18) rfl)) (inW_1 _ (List.mem_of_getElem? (i := 25) rfl)) (inW_6 _ (List.mem_of_getElem? (i := 19) rfl)) rfl rfl (by decide +kernel) ⟨Nat.le_of_ble_eq_true rfl, Nat.le_of_ble_eq_true rfl⟩) hK hP hD hS hA hSt 0 rfl rfl rfl hl.1 rfl (Nat.le_of_ble_eq_true rfl) dX3_quantize_104 ⟨Nat.le_of_ble_eq_true rfl, Nat.le_of_ble_eq_true rfl⟩ (fun H locs hP hD hS => ?_)
        show W p l e _ s m args below meth c H locs 0 0 Q (F0 m 107 ls [])
        refine lv_goto (tgt := 132) hx hb dX3_quantize_107 (by decide) ?_
        have e9 := Eq.symm hu; subst e9
        exact x_vret hx hb hr hlocks hQ hK hP hD hS rfl dX3_quantize_132
    · rw [if_pos c_104] at hu
      refine lv_aload_n hx hb dX3_quantize_73 rfl (lv_at hl 1 rfl) ?_
      refine va_get (D := D) (ci := 4) (v := .ref (ad 8)) (C := RX3) (T := TX3) (N := 7) hx hb hts hi3 hown hK hP 0 rfl rfl 1 (by decide) (hts (.fieldLink RX3 16 "DecimalWords" "result" "LDecimalWords$Datum;") (inW_4 _ (List.mem_of_getElem? (i := 18) rfl))) (fun _ h9 => h9) rfl dX3_quantize_74 ?_
      refine lv_aload_n hx hb dX3_quantize_77 rfl (lv_at hl 2 rfl) ?_
      refine g_mi (i := i1) hx hb hts hi0 hown hK hP hb1 (hts (.fieldLink RX3 77 "DecimalWords$Datum" "minus" "Z") (inW_5 _ (List.mem_of_getElem? (i := 14) rfl))) dX3_quantize_78 ?_
      refine lv_lconst (v := 0) hx hb dX3_quantize_81 (by decide) ?_
      refine lv_iload_n hx hb dX3_quantize_82 rfl (lv_at hl 3 rfl) ?_
      obtain ⟨u114, eu114⟩ : ∃ y9 : (Nat → Int32) × (Nat → Bool) × (Nat → Int64) × (Nat → Int32), y9 = F_X0_setFinite vso vmi vco vex 8 (vmi i1) (0 : Int64) p1 := ⟨_, rfl⟩
      have hu := hu _ eu114
      refine x_V (As := [.int (bI (vmi i1)), .long 0, .int p1]) (rest := []) hCF (c_X0_setFinite l D cR cI cJ cZ t0 ax ar ao ad vrd vtr vsd vrn vom voh vol vop voe vow vok vos vso vmi vco vex 8 (vmi i1) (0 : Int64) p1 u114 eu114 (by decide)) (x_cwV 3 hts (inW_4 _ (List.mem_of_getElem? (i := 37) rfl)) (inW_4 _ (List.mem_of_getElem? (i := 5) rfl)) (inW_4 _ (List.mem_of_getElem? (i := 6) rfl)) (inW_1 _ (List.mem_of_getElem? (i := 16) rfl)) (inW_1 _ (List.mem_of_getElem? (i := 3) rfl)) rfl rfl (by decide +kernel) ⟨Nat.le_of_ble_eq_true rfl, Nat.le_of_ble_eq_true rfl⟩) hK hP hD hS hA hSt (3 + 8) (xw_dat (by decide)) rfl rfl hl.1 rfl (Nat.le_of_ble_eq_true rfl) dX3_quantize_83 ⟨Nat.le_of_ble_eq_true rfl, Nat.le_of_ble_eq_true rfl⟩ (fun H locs hP hD hS => ?_)
      show W p l e _ s m args below meth c H locs 0 0 Q (F0 m 86 ls [])
      refine lv_goto (tgt := 132) hx hb dX3_quantize_86 (by decide) ?_
      have e9 := Eq.symm hu; subst e9
      exact x_vret hx hb hr hlocks hQ hK hP hD hS rfl dX3_quantize_132
  · rw [if_neg c_102] at hs
    rw [if_neg c_102] at hu
    refine lv_aload_n hx hb dX3_quantize_11 rfl (lv_at hl 1 rfl) ?_
    refine va_get (D := D) (ci := 4) (v := .ref ao) (C := RX3) (T := TX3) (N := 7) hx hb hts hi3 hown hK hP 0 rfl rfl 2 (by decide) (hts (.fieldLink RX3 23 "DecimalWords" "outcome" "LDecimalWords$Outcome;") (inW_4 _ (List.mem_of_getElem? (i := 21) rfl))) (fun _ h9 => h9) rfl dX3_quantize_12 ?_
    refine lv_aload_n hx hb dX3_quantize_15 rfl (lv_at hl 2 rfl) ?_
    obtain ⟨u116, eu116⟩ : ∃ y9 : Bool × Int64 × Int64 × Int32 × Bool, y9 = F_X1_setWhole vmi vco vex i1 := ⟨_, rfl⟩
    have hs := hs _ eu116
    have hu := hu _ eu116
    refine x_V (As := [.ref (ad i1)]) (rest := []) hCF (c_X1_setWhole l D cR cI cJ cZ t0 ax ar ao ad vrd vtr vsd vrn vom voh vol vop voe vow vok vos vso vmi vco vex i1 u116 eu116 hb1) (x_cwV 1 hts (inW_8 _ (List.mem_of_getElem? (i := 7) rfl)) (inW_2 _ (List.mem_of_getElem? (i := 2) rfl)) (inW_2 _ (List.mem_of_getElem? (i := 3) rfl)) (inW_2 _ (List.mem_of_getElem? (i := 4) rfl)) (inW_1 _ (List.mem_of_getElem? (i := 28) rfl)) rfl rfl (by decide +kernel) ⟨Nat.le_of_ble_eq_true rfl, Nat.le_of_ble_eq_true rfl⟩) hK hP hD hS hA hSt 2 rfl rfl rfl hl.1 rfl (Nat.le_of_ble_eq_true rfl) dX3_quantize_16 ⟨Nat.le_of_ble_eq_true rfl, Nat.le_of_ble_eq_true rfl⟩ (fun H locs hP hD hS => ?_)
    show W p l e _ s m args below meth c H locs 0 0 Q (F0 m 19 ls [])
    refine lv_aload_n hx hb dX3_quantize_19 rfl (lv_at hl 1 rfl) ?_
    refine va_get (D := D) (ci := 4) (v := .ref ao) (C := RX3) (T := TX3) (N := 7) hx hb hts hi3 hown hK hP 0 rfl rfl 2 (by decide) (hts (.fieldLink RX3 23 "DecimalWords" "outcome" "LDecimalWords$Outcome;") (inW_4 _ (List.mem_of_getElem? (i := 21) rfl))) (fun _ h9 => h9) rfl dX3_quantize_20 ?_
    refine lv_iload_n hx hb dX3_quantize_23 rfl (lv_at hl 0 rfl) ?_
    have h_118 := hs
    obtain ⟨u119, eu119⟩ : ∃ y9 : Int64 × Int32, y9 = F_X1_cut u116.2.1 u116.2.2.1 u116.2.2.2.2 n101 := ⟨_, rfl⟩
    have hu := hu _ eu119
    refine x_V (As := [.int n101]) (rest := []) hCF (c_X1_cut l D cR cI cJ cZ t0 ax ar ao ad vrd vtr vsd vrn u116.1 u116.2.1 u116.2.2.1 u116.2.2.2.1 u116.2.2.2.2 vow vok vos vso vmi vco vex n101 u119 eu119 h_118) (x_cwV 1 hts (inW_7 _ (List.mem_of_getElem? (i := 23) rfl)) (inW_7 _ (List.mem_of_getElem? (i := 24) rfl)) (inW_7 _ (List.mem_of_getElem? (i := 25) rfl)) (inW_2 _ (List.mem_of_getElem? (i := 4) rfl)) (inW_2 _ (List.mem_of_getElem? (i := 28) rfl)) rfl rfl (by decide +kernel) ⟨Nat.le_of_ble_eq_true rfl, Nat.le_of_ble_eq_true rfl⟩) hK hP hD hS hA hSt 2 rfl rfl rfl hl.1 rfl (Nat.le_of_ble_eq_true rfl) dX3_quantize_24 ⟨Nat.le_of_ble_eq_true rfl, Nat.le_of_ble_eq_true rfl⟩ (fun H locs hP hD hS => ?_)
    show W p l e _ s m args below meth c H locs 0 0 Q (F0 m 27 ls [])
    refine lv_aload_n hx hb dX3_quantize_27 rfl (lv_at hl 1 rfl) ?_
    refine va_get (D := D) (ci := 4) (v := .ref ao) (C := RX3) (T := TX3) (N := 7) hx hb hts hi3 hown hK hP 0 rfl rfl 2 (by decide) (hts (.fieldLink RX3 23 "DecimalWords" "outcome" "LDecimalWords$Outcome;") (inW_4 _ (List.mem_of_getElem? (i := 21) rfl))) (fun _ h9 => h9) rfl dX3_quantize_28 ?_
    refine va_get (D := D) (ci := 3) (v := .int u119.2) (C := RX1) (T := TX1) (N := 8) hx hb hts hi1 hown hK hP 2 rfl rfl 7 (by decide) (hts (.fieldLink RX3 177 "DecimalWords$Outcome" "rest" "I") (inW_7 _ (List.mem_of_getElem? (i := 30) rfl))) (fun _ h9 => h9) rfl dX3_quantize_31 ?_
    have J_126 : (∀ z125 : Int32, z125 = Z_X3_quantize_J_126 vrn u119 → ∀ (H : Heap) (locs : List Loc), va_P D vwCl (xw cR ax ar ao ad vrd vtr vsd z125 u116.1 u116.2.1 u116.2.2.1 u116.2.2.2.1 u116.2.2.2.2 vow u119.1 u119.2 vso vmi vco vex) H → va_D A (xw cR ax ar ao ad vrd vtr vsd z125 u116.1 u116.2.1 u116.2.2.1 u116.2.2.2.1 u116.2.2.2.2 vow u119.1 u119.2 vso vmi vco vex) → va_S A s.heap H locs → ∀ ls : Array Slot, lv_has ls 4 [(0, .ref ax), (1, .ref (ad i1)), (2, .int p1)] → W p l e rm_X3_quantize s m args below meth c H locs 0 0 Q (F0 m 43 ls [])) := by
      intro z125 ez125 H locs hP hD hS ls hl
      have hu := hu _ ez125
      refine lv_aload_n hx hb dX3_quantize_43 rfl (lv_at hl 0 rfl) ?_
      refine va_get (D := D) (ci := 4) (v := .ref (ad 8)) (C := RX3) (T := TX3) (N := 7) hx hb hts hi3 hown hK hP 0 rfl rfl 1 (by decide) (hts (.fieldLink RX3 16 "DecimalWords" "result" "LDecimalWords$Datum;") (inW_4 _ (List.mem_of_getElem? (i := 18) rfl))) (fun _ h9 => h9) rfl dX3_quantize_44 ?_
      refine lv_aload_n hx hb dX3_quantize_47 rfl (lv_at hl 1 rfl) ?_
      refine g_mi (i := i1) hx hb hts hi0 hown hK hP hb1 (hts (.fieldLink RX3 77 "DecimalWords$Datum" "minus" "Z") (inW_5 _ (List.mem_of_getElem? (i := 14) rfl))) dX3_quantize_48 ?_
      refine lv_aload_n hx hb dX3_quantize_51 rfl (lv_at hl 0 rfl) ?_
      refine lv_aload_n hx hb dX3_quantize_52 rfl (lv_at hl 1 rfl) ?_
      refine g_mi (i := i1) hx hb hts hi0 hown hK hP hb1 (hts (.fieldLink RX3 77 "DecimalWords$Datum" "minus" "Z") (inW_5 _ (List.mem_of_getElem? (i := 14) rfl))) dX3_quantize_53 ?_
      refine x_V (As := [.int (bI (vmi i1))]) (rest := [.int (bI (vmi i1)), .ref (ad 8)]) hCF (c_X3_roundedKept l D cR cI cJ cZ t0 ax ar ao ad vrd vtr vsd z125 u116.1 u116.2.1 u116.2.2.1 u116.2.2.2.1 u116.2.2.2.2 vow u119.1 u119.2 vso vmi vco vex (vmi i1) _ rfl) (x_cwV 1 hts (inW_7 _ (List.mem_of_getElem? (i := 26) rfl)) (inW_7 _ (List.mem_of_getElem? (i := 27) rfl)) (inW_7 _ (List.mem_of_getElem? (i := 28) rfl)) (inW_1 _ (List.mem_of_getElem? (i := 25) rfl)) (inW_7 _ (List.mem_of_getElem? (i := 29) rfl)) rfl rfl (by decide +kernel) ⟨Nat.le_of_ble_eq_true rfl, Nat.le_of_ble_eq_true rfl⟩) hK hP hD hS hA hSt 0 rfl rfl rfl hl.1 rfl (Nat.le_of_ble_eq_true rfl) dX3_quantize_56 ⟨Nat.le_of_ble_eq_true rfl, Nat.le_of_ble_eq_true rfl⟩ (fun H locs hP hD hS => ?_)
      show W p l e _ s m args below meth c H locs 0 0 Q (F0 m 59 ls (.long (F_X3_roundedKept vrd u119.1 u119.2 (vmi i1)) :: [.int (bI (vmi i1)), .ref (ad 8)]))
      refine lv_iload_n hx hb dX3_quantize_59 rfl (lv_at hl 2 rfl) ?_
      obtain ⟨u128, eu128⟩ : ∃ y9 : (Nat → Int32) × (Nat → Bool) × (Nat → Int64) × (Nat → Int32), y9 = F_X0_setFinite vso vmi vco vex 8 (vmi i1) (F_X3_roundedKept vrd u119.1 u119.2 (vmi i1)) p1 := ⟨_, rfl⟩
      have hu := hu _ eu128
      refine x_V (As := [.int (bI (vmi i1)), .long (F_X3_roundedKept vrd u119.1 u119.2 (vmi i1)), .int p1]) (rest := []) hCF (c_X0_setFinite l D cR cI cJ cZ t0 ax ar ao ad vrd vtr vsd z125 u116.1 u116.2.1 u116.2.2.1 u116.2.2.2.1 u116.2.2.2.2 vow u119.1 u119.2 vso vmi vco vex 8 (vmi i1) (F_X3_roundedKept vrd u119.1 u119.2 (vmi i1)) p1 u128 eu128 (by decide)) (x_cwV 3 hts (inW_4 _ (List.mem_of_getElem? (i := 37) rfl)) (inW_4 _ (List.mem_of_getElem? (i := 5) rfl)) (inW_4 _ (List.mem_of_getElem? (i := 6) rfl)) (inW_1 _ (List.mem_of_getElem? (i := 16) rfl)) (inW_1 _ (List.mem_of_getElem? (i := 3) rfl)) rfl rfl (by decide +kernel) ⟨Nat.le_of_ble_eq_true rfl, Nat.le_of_ble_eq_true rfl⟩) hK hP hD hS hA hSt (3 + 8) (xw_dat (by decide)) rfl rfl hl.1 rfl (Nat.le_of_ble_eq_true rfl) dX3_quantize_60 ⟨Nat.le_of_ble_eq_true rfl, Nat.le_of_ble_eq_true rfl⟩ (fun H locs hP hD hS => ?_)
      show W p l e _ s m args below meth c H locs 0 0 Q (F0 m 63 ls [])
      refine lv_goto (tgt := 132) hx hb dX3_quantize_63 (by decide) ?_
      have e9 := Eq.symm hu; subst e9
      exact x_vret hx hb hr hlocks hQ hK hP hD hS rfl dX3_quantize_132
    obtain ⟨z9, ez9⟩ : ∃ y9 : Int32, y9 = Z_X3_quantize_J_126 vrn u119 := ⟨_, rfl⟩
    have hz := rZ_X3_quantize_J_126 vrn u119 ez9
    unfold RZ_X3_quantize_J_126 at hz
    refine lv_if_eq (tgt := 43) hx hb dX3_quantize_34 (by decide) (fun c_121 => ?_) (fun c_121 => ?_)
    · rw [if_pos c_121] at hz
      have e9 := Eq.symm hz; subst e9
      exact J_126 _ ez9 H locs hP hD hS ls (lv_sub hl [1, 2, 3] rfl)
    · rw [if_neg c_121] at hz
      refine lv_aload_n hx hb dX3_quantize_37 rfl (lv_at hl 1 rfl) ?_
      refine lv_bipush (v := 16) hx hb dX3_quantize_38 (by decide) ?_
      obtain ⟨u122, eu122⟩ : ∃ y9 : Int32, y9 = F_X3_raise vrn (16 : Int32) := ⟨_, rfl⟩
      have hz := hz _ eu122
      refine x_V (As := [.int 16]) (rest := []) hCF (c_X3_raise l D cR cI cJ cZ t0 ax ar ao ad vrd vtr vsd vrn u116.1 u116.2.1 u116.2.2.1 u116.2.2.2.1 u116.2.2.2.2 vow u119.1 u119.2 vso vmi vco vex (16 : Int32) u122 eu122) (x_cwV 1 hts (inW_6 _ (List.mem_of_getElem? (i := 20) rfl)) (inW_6 _ (List.mem_of_getElem? (i := 21) rfl)) (inW_6 _ (List.mem_of_getElem? (i := 22) rfl)) (inW_1 _ (List.mem_of_getElem? (i := 25) rfl)) (inW_6 _ (List.mem_of_getElem? (i := 23) rfl)) rfl rfl (by decide +kernel) ⟨Nat.le_of_ble_eq_true rfl, Nat.le_of_ble_eq_true rfl⟩) hK hP hD hS hA hSt 0 rfl rfl rfl hl.1 rfl (Nat.le_of_ble_eq_true rfl) dX3_quantize_40 ⟨Nat.le_of_ble_eq_true rfl, Nat.le_of_ble_eq_true rfl⟩ (fun H locs hP hD hS => ?_)
      show W p l e _ s m args below meth c H locs 0 0 Q (F0 m 43 ls [])
      have e9 := Eq.symm hz; subst e9
      exact J_126 _ ez9 H locs hP hD hS ls (lv_sub hl [1, 2, 3] rfl)

def Z_X3_setFromFinite_J_123 (vrd : Int32) : Bool := (if vrd = 4 then true else false)
def RZ_X3_setFromFinite_J_123 (vrd : Int32) (u9 : Bool) : Prop := (if vrd = 4 then u9 = true else u9 = false)
theorem rZ_X3_setFromFinite_J_123 (vrd : Int32) {u9 : Bool} (hu : u9 = Z_X3_setFromFinite_J_123 vrd) : RZ_X3_setFromFinite_J_123 vrd u9 := by
  unfold RZ_X3_setFromFinite_J_123
  refine ite_P (fun c_120 => ?_) (fun c_120 => ?_)
  · have hu := hu.trans (if_pos c_120)
    exact hu
  · have hu := hu.trans (if_neg c_120)
    exact hu
def Z_X3_setFromFinite_J_119 (vmi : Nat → Bool) (i3 : Nat) : Bool := (if vmi i3 = true then false else true)
def RZ_X3_setFromFinite_J_119 (vmi : Nat → Bool) (i3 : Nat) (u9 : Bool) : Prop := (if vmi i3 = true then u9 = false else u9 = true)
theorem rZ_X3_setFromFinite_J_119 (vmi : Nat → Bool) (i3 : Nat) {u9 : Bool} (hu : u9 = Z_X3_setFromFinite_J_119 vmi i3) : RZ_X3_setFromFinite_J_119 vmi i3 u9 := by
  unfold RZ_X3_setFromFinite_J_119
  refine ite_P (fun c_116 => ?_) (fun c_116 => ?_)
  · have hu := hu.trans (if_pos c_116)
    exact hu
  · have hu := hu.trans (if_neg c_116)
    exact hu
def F_X3_setFromFinite (vrd : Int32) (vrn : Int32) (vom : Bool) (voh : Int64) (vol : Int64) (vop : Int32) (voe : Bool) (vow : Int32) (vok : Int64) (vos : Int32) (vso : Nat → Int32) (vmi : Nat → Bool) (vco : Nat → Int64) (vex : Nat → Int32) (p0 : Int32) (i2 : Nat) (i3 : Nat) : Int32 × Bool × Int64 × Int64 × Int32 × Bool × Int32 × Int64 × Int32 × (Nat → Int32) × (Nat → Bool) × (Nat → Int64) × (Nat → Int32) := (if p0 = 0 then (bnd (Z_X3_setFromFinite_J_123 vrd) (fun z108 : Bool => (bnd (F_X1_setSum vso vmi vco vex i2 i3 (vmi i3) z108) (fun u111 : Bool × Int64 × Int64 × Int32 × Bool × Int32 => (bnd (F_X3_fit vrd vrn u111.1 u111.2.1 u111.2.2.1 u111.2.2.2.1 u111.2.2.2.2.1 u111.2.2.2.2.2 vok vos vso vmi vco vex) (fun u114 : Int32 × Int64 × Int64 × Int32 × Int64 × Int32 × (Nat → Int32) × (Nat → Bool) × (Nat → Int64) × (Nat → Int32) => (u114.1, u111.1, u114.2.1, u114.2.2.1, u114.2.2.2.1, u111.2.2.2.2.1, u111.2.2.2.2.2, u114.2.2.2.2.1, u114.2.2.2.2.2.1, u114.2.2.2.2.2.2.1, u114.2.2.2.2.2.2.2.1, u114.2.2.2.2.2.2.2.2.1, u114.2.2.2.2.2.2.2.2.2))))))) else (if p0 = 1 then (bnd (Z_X3_setFromFinite_J_119 vmi i3) (fun z118 : Bool => (bnd (Z_X3_setFromFinite_J_123 vrd) (fun z122 : Bool => (bnd (F_X1_setSum vso vmi vco vex i2 i3 z118 z122) (fun u125 : Bool × Int64 × Int64 × Int32 × Bool × Int32 => (bnd (F_X3_fit vrd vrn u125.1 u125.2.1 u125.2.2.1 u125.2.2.2.1 u125.2.2.2.2.1 u125.2.2.2.2.2 vok vos vso vmi vco vex) (fun u128 : Int32 × Int64 × Int64 × Int32 × Int64 × Int32 × (Nat → Int32) × (Nat → Bool) × (Nat → Int64) × (Nat → Int32) => (u128.1, u125.1, u128.2.1, u128.2.2.1, u128.2.2.2.1, u125.2.2.2.2.1, u125.2.2.2.2.2, u128.2.2.2.2.1, u128.2.2.2.2.2.1, u128.2.2.2.2.2.2.1, u128.2.2.2.2.2.2.2.1, u128.2.2.2.2.2.2.2.2.1, u128.2.2.2.2.2.2.2.2.2))))))))) else (if p0 = 2 then (bnd (F_X1_setProduct vmi vco vex i2 i3) (fun u130 : Bool × Int64 × Int64 × Int32 × Bool × Int32 => (bnd (F_X3_fit vrd vrn u130.1 u130.2.1 u130.2.2.1 u130.2.2.2.1 u130.2.2.2.2.1 u130.2.2.2.2.2 vok vos vso vmi vco vex) (fun u133 : Int32 × Int64 × Int64 × Int32 × Int64 × Int32 × (Nat → Int32) × (Nat → Bool) × (Nat → Int64) × (Nat → Int32) => (u133.1, u130.1, u133.2.1, u133.2.2.1, u133.2.2.2.1, u130.2.2.2.2.1, u130.2.2.2.2.2, u133.2.2.2.2.1, u133.2.2.2.2.2.1, u133.2.2.2.2.2.2.1, u133.2.2.2.2.2.2.2.1, u133.2.2.2.2.2.2.2.2.1, u133.2.2.2.2.2.2.2.2.2))))) else (if p0 = 3 then (if F_X0_isZero vso vco i3 = true then (bnd (F_X3_divideByZero vrn vso vmi vco vex i2 i3) (fun u143 : Int32 × (Nat → Int32) × (Nat → Bool) × (Nat → Int64) × (Nat → Int32) => (u143.1, vom, voh, vol, vop, voe, vow, vok, vos, u143.2.1, u143.2.2.1, u143.2.2.2.1, u143.2.2.2.2))) else (bnd (F_X1_setQuotient vmi vco vex i2 i3) (fun u138 : Bool × Int64 × Int64 × Int32 × Bool × Int32 => (bnd (F_X3_fit vrd vrn u138.1 u138.2.1 u138.2.2.1 u138.2.2.2.1 u138.2.2.2.2.1 u138.2.2.2.2.2 vok vos vso vmi vco vex) (fun u141 : Int32 × Int64 × Int64 × Int32 × Int64 × Int32 × (Nat → Int32) × (Nat → Bool) × (Nat → Int64) × (Nat → Int32) => (u141.1, u138.1, u141.2.1, u141.2.2.1, u141.2.2.2.1, u138.2.2.2.2.1, u138.2.2.2.2.2, u141.2.2.2.2.1, u141.2.2.2.2.2.1, u141.2.2.2.2.2.2.1, u141.2.2.2.2.2.2.2.1, u141.2.2.2.2.2.2.2.2.1, u141.2.2.2.2.2.2.2.2.2)))))) else (if p0 = 4 then (bnd (F_X3_quantize vrd vrn vom voh vol vop voe vok vos vso vmi vco vex i2 (vex i3)) (fun u146 : Int32 × Bool × Int64 × Int64 × Int32 × Bool × Int64 × Int32 × (Nat → Int32) × (Nat → Bool) × (Nat → Int64) × (Nat → Int32) => (u146.1, u146.2.1, u146.2.2.1, u146.2.2.2.1, u146.2.2.2.2.1, u146.2.2.2.2.2.1, vow, u146.2.2.2.2.2.2.1, u146.2.2.2.2.2.2.2.1, u146.2.2.2.2.2.2.2.2.1, u146.2.2.2.2.2.2.2.2.2.1, u146.2.2.2.2.2.2.2.2.2.2.1, u146.2.2.2.2.2.2.2.2.2.2.2))) else (bnd (F_X3_quantize vrd vrn vom voh vol vop voe vok vos vso vmi vco vex i2 (vex i3)) (fun u149 : Int32 × Bool × Int64 × Int64 × Int32 × Bool × Int64 × Int32 × (Nat → Int32) × (Nat → Bool) × (Nat → Int64) × (Nat → Int32) => (u149.1, u149.2.1, u149.2.2.1, u149.2.2.2.1, u149.2.2.2.2.1, u149.2.2.2.2.2.1, vow, u149.2.2.2.2.2.2.1, u149.2.2.2.2.2.2.2.1, u149.2.2.2.2.2.2.2.2.1, u149.2.2.2.2.2.2.2.2.2.1, u149.2.2.2.2.2.2.2.2.2.2.1, u149.2.2.2.2.2.2.2.2.2.2.2))))))))
def RF_X3_setFromFinite (vrd : Int32) (vrn : Int32) (vom : Bool) (voh : Int64) (vol : Int64) (vop : Int32) (voe : Bool) (vow : Int32) (vok : Int64) (vos : Int32) (vso : Nat → Int32) (vmi : Nat → Bool) (vco : Nat → Int64) (vex : Nat → Int32) (p0 : Int32) (i2 : Nat) (i3 : Nat) (u9 : Int32 × Bool × Int64 × Int64 × Int32 × Bool × Int32 × Int64 × Int32 × (Nat → Int32) × (Nat → Bool) × (Nat → Int64) × (Nat → Int32)) : Prop := (if p0 = 0 then (∀ z108 : Bool, z108 = Z_X3_setFromFinite_J_123 vrd → (∀ u111 : Bool × Int64 × Int64 × Int32 × Bool × Int32, u111 = F_X1_setSum vso vmi vco vex i2 i3 (vmi i3) z108 → (∀ u114 : Int32 × Int64 × Int64 × Int32 × Int64 × Int32 × (Nat → Int32) × (Nat → Bool) × (Nat → Int64) × (Nat → Int32), u114 = F_X3_fit vrd vrn u111.1 u111.2.1 u111.2.2.1 u111.2.2.2.1 u111.2.2.2.2.1 u111.2.2.2.2.2 vok vos vso vmi vco vex → u9 = (u114.1, u111.1, u114.2.1, u114.2.2.1, u114.2.2.2.1, u111.2.2.2.2.1, u111.2.2.2.2.2, u114.2.2.2.2.1, u114.2.2.2.2.2.1, u114.2.2.2.2.2.2.1, u114.2.2.2.2.2.2.2.1, u114.2.2.2.2.2.2.2.2.1, u114.2.2.2.2.2.2.2.2.2)))) else (if p0 = 1 then (∀ z118 : Bool, z118 = Z_X3_setFromFinite_J_119 vmi i3 → (∀ z122 : Bool, z122 = Z_X3_setFromFinite_J_123 vrd → (∀ u125 : Bool × Int64 × Int64 × Int32 × Bool × Int32, u125 = F_X1_setSum vso vmi vco vex i2 i3 z118 z122 → (∀ u128 : Int32 × Int64 × Int64 × Int32 × Int64 × Int32 × (Nat → Int32) × (Nat → Bool) × (Nat → Int64) × (Nat → Int32), u128 = F_X3_fit vrd vrn u125.1 u125.2.1 u125.2.2.1 u125.2.2.2.1 u125.2.2.2.2.1 u125.2.2.2.2.2 vok vos vso vmi vco vex → u9 = (u128.1, u125.1, u128.2.1, u128.2.2.1, u128.2.2.2.1, u125.2.2.2.2.1, u125.2.2.2.2.2, u128.2.2.2.2.1, u128.2.2.2.2.2.1, u128.2.2.2.2.2.2.1, u128.2.2.2.2.2.2.2.1, u128.2.2.2.2.2.2.2.2.1, u128.2.2.2.2.2.2.2.2.2))))) else (if p0 = 2 then (∀ u130 : Bool × Int64 × Int64 × Int32 × Bool × Int32, u130 = F_X1_setProduct vmi vco vex i2 i3 → (∀ u133 : Int32 × Int64 × Int64 × Int32 × Int64 × Int32 × (Nat → Int32) × (Nat → Bool) × (Nat → Int64) × (Nat → Int32), u133 = F_X3_fit vrd vrn u130.1 u130.2.1 u130.2.2.1 u130.2.2.2.1 u130.2.2.2.2.1 u130.2.2.2.2.2 vok vos vso vmi vco vex → u9 = (u133.1, u130.1, u133.2.1, u133.2.2.1, u133.2.2.2.1, u130.2.2.2.2.1, u130.2.2.2.2.2, u133.2.2.2.2.1, u133.2.2.2.2.2.1, u133.2.2.2.2.2.2.1, u133.2.2.2.2.2.2.2.1, u133.2.2.2.2.2.2.2.2.1, u133.2.2.2.2.2.2.2.2.2))) else (if p0 = 3 then (if F_X0_isZero vso vco i3 = true then (∀ u143 : Int32 × (Nat → Int32) × (Nat → Bool) × (Nat → Int64) × (Nat → Int32), u143 = F_X3_divideByZero vrn vso vmi vco vex i2 i3 → u9 = (u143.1, vom, voh, vol, vop, voe, vow, vok, vos, u143.2.1, u143.2.2.1, u143.2.2.2.1, u143.2.2.2.2)) else (∀ u138 : Bool × Int64 × Int64 × Int32 × Bool × Int32, u138 = F_X1_setQuotient vmi vco vex i2 i3 → (∀ u141 : Int32 × Int64 × Int64 × Int32 × Int64 × Int32 × (Nat → Int32) × (Nat → Bool) × (Nat → Int64) × (Nat → Int32), u141 = F_X3_fit vrd vrn u138.1 u138.2.1 u138.2.2.1 u138.2.2.2.1 u138.2.2.2.2.1 u138.2.2.2.2.2 vok vos vso vmi vco vex → u9 = (u141.1, u138.1, u141.2.1, u141.2.2.1, u141.2.2.2.1, u138.2.2.2.2.1, u138.2.2.2.2.2, u141.2.2.2.2.1, u141.2.2.2.2.2.1, u141.2.2.2.2.2.2.1, u141.2.2.2.2.2.2.2.1, u141.2.2.2.2.2.2.2.2.1, u141.2.2.2.2.2.2.2.2.2)))) else (if p0 = 4 then (∀ u146 : Int32 × Bool × Int64 × Int64 × Int32 × Bool × Int64 × Int32 × (Nat → Int32) × (Nat → Bool) × (Nat → Int64) × (Nat → Int32), u146 = F_X3_quantize vrd vrn vom voh vol vop voe vok vos vso vmi vco vex i2 (vex i3) → u9 = (u146.1, u146.2.1, u146.2.2.1, u146.2.2.2.1, u146.2.2.2.2.1, u146.2.2.2.2.2.1, vow, u146.2.2.2.2.2.2.1, u146.2.2.2.2.2.2.2.1, u146.2.2.2.2.2.2.2.2.1, u146.2.2.2.2.2.2.2.2.2.1, u146.2.2.2.2.2.2.2.2.2.2.1, u146.2.2.2.2.2.2.2.2.2.2.2)) else (∀ u149 : Int32 × Bool × Int64 × Int64 × Int32 × Bool × Int64 × Int32 × (Nat → Int32) × (Nat → Bool) × (Nat → Int64) × (Nat → Int32), u149 = F_X3_quantize vrd vrn vom voh vol vop voe vok vos vso vmi vco vex i2 (vex i3) → u9 = (u149.1, u149.2.1, u149.2.2.1, u149.2.2.2.1, u149.2.2.2.2.1, u149.2.2.2.2.2.1, vow, u149.2.2.2.2.2.2.1, u149.2.2.2.2.2.2.2.1, u149.2.2.2.2.2.2.2.2.1, u149.2.2.2.2.2.2.2.2.2.1, u149.2.2.2.2.2.2.2.2.2.2.1, u149.2.2.2.2.2.2.2.2.2.2.2)))))))
theorem rF_X3_setFromFinite (vrd : Int32) (vrn : Int32) (vom : Bool) (voh : Int64) (vol : Int64) (vop : Int32) (voe : Bool) (vow : Int32) (vok : Int64) (vos : Int32) (vso : Nat → Int32) (vmi : Nat → Bool) (vco : Nat → Int64) (vex : Nat → Int32) (p0 : Int32) (i2 : Nat) (i3 : Nat) {u9 : Int32 × Bool × Int64 × Int64 × Int32 × Bool × Int32 × Int64 × Int32 × (Nat → Int32) × (Nat → Bool) × (Nat → Int64) × (Nat → Int32)} (hu : u9 = F_X3_setFromFinite vrd vrn vom voh vol vop voe vow vok vos vso vmi vco vex p0 i2 i3) : RF_X3_setFromFinite vrd vrn vom voh vol vop voe vow vok vos vso vmi vco vex p0 i2 i3 u9 := by
  unfold RF_X3_setFromFinite
  refine ite_P (fun c_101 => ?_) (fun c_101 => ?_)
  · have hu := hu.trans (if_pos c_101)
    intro z108 ez108
    have hu := bnd_n hu ez108
    intro u111 eu111
    have hu := bnd_n hu eu111
    intro u114 eu114
    have hu := bnd_n hu eu114
    exact hu
  have hu := hu.trans (if_neg c_101)
  refine ite_P (fun c_102 => ?_) (fun c_102 => ?_)
  · have hu := hu.trans (if_pos c_102)
    intro z118 ez118
    have hu := bnd_n hu ez118
    intro z122 ez122
    have hu := bnd_n hu ez122
    intro u125 eu125
    have hu := bnd_n hu eu125
    intro u128 eu128
    have hu := bnd_n hu eu128
    exact hu
  have hu := hu.trans (if_neg c_102)
  refine ite_P (fun c_103 => ?_) (fun c_103 => ?_)
  · have hu := hu.trans (if_pos c_103)
    intro u130 eu130
    have hu := bnd_n hu eu130
    intro u133 eu133
    have hu := bnd_n hu eu133
    exact hu
  have hu := hu.trans (if_neg c_103)
  refine ite_P (fun c_104 => ?_) (fun c_104 => ?_)
  · have hu := hu.trans (if_pos c_104)
    refine ite_P (fun c_136 => ?_) (fun c_136 => ?_)
    · have hu := hu.trans (if_pos c_136)
      intro u143 eu143
      have hu := bnd_n hu eu143
      exact hu
    · have hu := hu.trans (if_neg c_136)
      intro u138 eu138
      have hu := bnd_n hu eu138
      intro u141 eu141
      have hu := bnd_n hu eu141
      exact hu
  have hu := hu.trans (if_neg c_104)
  refine ite_P (fun c_105 => ?_) (fun c_105 => ?_)
  · have hu := hu.trans (if_pos c_105)
    intro u146 eu146
    have hu := bnd_n hu eu146
    exact hu
  have hu := hu.trans (if_neg c_105)
  intro u149 eu149
  have hu := bnd_n hu eu149
  exact hu
def S_X3_setFromFinite (vrd : Int32) (vrn : Int32) (vom : Bool) (voh : Int64) (vol : Int64) (vop : Int32) (voe : Bool) (vow : Int32) (vok : Int64) (vos : Int32) (vso : Nat → Int32) (vmi : Nat → Bool) (vco : Nat → Int64) (vex : Nat → Int32) (p0 : Int32) (i2 : Nat) (i3 : Nat) : Prop := (if p0 = 0 then (∀ z108 : Bool, z108 = Z_X3_setFromFinite_J_123 vrd → (S_X1_setSum vso vmi vco vex i2 i3 (vmi i3) z108) ∧ (∀ u111 : Bool × Int64 × Int64 × Int32 × Bool × Int32, u111 = F_X1_setSum vso vmi vco vex i2 i3 (vmi i3) z108 → S_X3_fit vrd vrn u111.1 u111.2.1 u111.2.2.1 u111.2.2.2.1 u111.2.2.2.2.1 u111.2.2.2.2.2 vok vos vso vmi vco vex)) else (if p0 = 1 then (∀ z118 : Bool, z118 = Z_X3_setFromFinite_J_119 vmi i3 → (∀ z122 : Bool, z122 = Z_X3_setFromFinite_J_123 vrd → (S_X1_setSum vso vmi vco vex i2 i3 z118 z122) ∧ (∀ u125 : Bool × Int64 × Int64 × Int32 × Bool × Int32, u125 = F_X1_setSum vso vmi vco vex i2 i3 z118 z122 → S_X3_fit vrd vrn u125.1 u125.2.1 u125.2.2.1 u125.2.2.2.1 u125.2.2.2.2.1 u125.2.2.2.2.2 vok vos vso vmi vco vex))) else (if p0 = 2 then (∀ u130 : Bool × Int64 × Int64 × Int32 × Bool × Int32, u130 = F_X1_setProduct vmi vco vex i2 i3 → S_X3_fit vrd vrn u130.1 u130.2.1 u130.2.2.1 u130.2.2.2.1 u130.2.2.2.2.1 u130.2.2.2.2.2 vok vos vso vmi vco vex) else (if p0 = 3 then (if F_X0_isZero vso vco i3 = true then True else (S_X1_setQuotient vmi vco vex i2 i3) ∧ (∀ u138 : Bool × Int64 × Int64 × Int32 × Bool × Int32, u138 = F_X1_setQuotient vmi vco vex i2 i3 → S_X3_fit vrd vrn u138.1 u138.2.1 u138.2.2.1 u138.2.2.2.1 u138.2.2.2.2.1 u138.2.2.2.2.2 vok vos vso vmi vco vex)) else (if p0 = 4 then S_X3_quantize vrd vrn vom voh vol vop voe vok vos vso vmi vco vex i2 (vex i3) else S_X3_quantize vrd vrn vom voh vol vop voe vok vos vso vmi vco vex i2 (vex i3))))))
def rm_X3_setFromFinite : Room := { frames := 4, cells := 0, slots := 0, locals := 96 }
set_option maxHeartbeats 4000000 in
set_option maxRecDepth 100000 in
theorem c_X3_setFromFinite (l : Launch) (D : va_G) (cR cI cJ cZ : ClassId) (t0 : Nat) (ax ar ao : Nat) (ad : Nat → Nat) (vrd : Int32) (vtr : Int32) (vsd : Int32) (vrn : Int32) (vom : Bool) (voh : Int64) (vol : Int64) (vop : Int32) (voe : Bool) (vow : Int32) (vok : Int64) (vos : Int32) (vso : Nat → Int32) (vmi : Nat → Bool) (vco : Nat → Int64) (vex : Nat → Int32) (p0 : Int32) (i2 : Nat) (i3 : Nat) (u : Int32 × Bool × Int64 × Int64 × Int32 × Bool × Int32 × Int64 × Int32 × (Nat → Int32) × (Nat → Bool) × (Nat → Int64) × (Nat → Int32)) (hu : u = F_X3_setFromFinite vrd vrn vom voh vol vop voe vow vok vos vso vmi vco vex p0 i2 i3) (hs : S_X3_setFromFinite vrd vrn vom voh vol vop voe vow vok vos vso vmi vco vex p0 i2 i3) (hb2 : i2 < 9) (hb3 : i3 < 9) : XM l D (xty cR cI cJ cZ) t0 yX3_setFromFinite cX3_setFromFinite 4 none rm_X3_setFromFinite [.ref ax, .int p0, .ref (ad i2), .ref (ad i3)] none (xw cR ax ar ao ad vrd vtr vsd vrn vom voh vol vop voe vow vok vos vso vmi vco vex) (xw cR ax ar ao ad vrd vtr vsd u.1 u.2.1 u.2.2.1 u.2.2.2.1 u.2.2.2.2.1 u.2.2.2.2.2.1 u.2.2.2.2.2.2.1 u.2.2.2.2.2.2.2.1 u.2.2.2.2.2.2.2.2.1 u.2.2.2.2.2.2.2.2.2.1 u.2.2.2.2.2.2.2.2.2.2.1 u.2.2.2.2.2.2.2.2.2.2.2.1 u.2.2.2.2.2.2.2.2.2.2.2.2) := by
  refine XM.of (by decide) (Nat.le_of_ble_eq_true rfl) ?_
  intro p e s m args below meth c A Q F hK hP hD hA hSt hS hQ ls hl
  obtain ⟨hx, hb, hr, hts, hown, hlocks, hml⟩ := F
  have hCF : CallFix p m c cX3_setFromFinite 4 s args gW RX3 := ⟨hx, hb, hml, hown, hts⟩
  unfold S_X3_setFromFinite at hs
  have hu := rF_X3_setFromFinite vrd vrn vom voh vol vop voe vow vok vos vso vmi vco vex p0 i2 i3 hu
  unfold RF_X3_setFromFinite at hu
  obtain ⟨H, eH⟩ : ∃ y9 : Heap, y9 = s.heap := ⟨_, rfl⟩
  obtain ⟨locs, eL⟩ : ∃ y9 : List Loc, y9 = [] := ⟨_, rfl⟩
  rw [← eL] at hS ⊢
  have hP : va_P D vwCl (xw cR ax ar ao ad vrd vtr vsd vrn vom voh vol vop voe vow vok vos vso vmi vco vex) H := by rw [eH]; exact hP
  have hS : va_S A s.heap H locs := by rw [eH]; exact hS
  suffices goal9 : W p l e rm_X3_setFromFinite s m args below meth c H locs 0 0 Q (F0 m 0 ls []) from by rw [← eH]; exact goal9
  have hl : lv_has ls 4 [(0, .ref ax), (1, .int p0), (2, .ref (ad i2)), (3, .ref (ad i3))] := hl
  have hi0 : ∀ w ∈ wsX00, w ∈ gW := inW_X0
  have hi3 : ∀ w ∈ wsX30, w ∈ gW := inW_X3
  refine lv_iload_n hx hb dX3_setFromFinite_0 rfl (lv_at hl 1 rfl) ?_
  by_cases c_101 : p0 = 0
  · rw [if_pos c_101] at hs
    rw [if_pos c_101] at hu
    refine lv_tableIn (tgt := 36) hx hb dX3_setFromFinite_1 (by rw [c_101]; decide) (by rw [c_101]; decide) (by rw [c_101]; rfl) (by decide) ?_
    refine lv_aload_n hx hb dX3_setFromFinite_36 rfl (lv_at hl 0 rfl) ?_
    refine va_get (D := D) (ci := 4) (v := .ref ao) (C := RX3) (T := TX3) (N := 7) hx hb hts hi3 hown hK hP 0 rfl rfl 2 (by decide) (hts (.fieldLink RX3 23 "DecimalWords" "outcome" "LDecimalWords$Outcome;") (inW_4 _ (List.mem_of_getElem? (i := 21) rfl))) (fun _ h9 => h9) rfl dX3_setFromFinite_37 ?_
    refine lv_aload_n hx hb dX3_setFromFinite_40 rfl (lv_at hl 2 rfl) ?_
    refine lv_aload_n hx hb dX3_setFromFinite_41 rfl (lv_at hl 3 rfl) ?_
    refine lv_aload_n hx hb dX3_setFromFinite_42 rfl (lv_at hl 3 rfl) ?_
    refine g_mi (i := i3) hx hb hts hi0 hown hK hP hb3 (hts (.fieldLink RX3 77 "DecimalWords$Datum" "minus" "Z") (inW_5 _ (List.mem_of_getElem? (i := 14) rfl))) dX3_setFromFinite_43 ?_
    refine lv_aload_n hx hb dX3_setFromFinite_46 rfl (lv_at hl 0 rfl) ?_
    refine va_get (D := D) (ci := 4) (v := .int vrd) (C := RX3) (T := TX3) (N := 7) hx hb hts hi3 hown hK hP 0 rfl rfl 3 (by decide) (hts (.fieldLink RX3 27 "DecimalWords" "rounding" "I") (inW_4 _ (List.mem_of_getElem? (i := 22) rfl))) (fun _ h9 => h9) rfl dX3_setFromFinite_47 ?_
    refine lv_iconst (v := 4) hx hb dX3_setFromFinite_50 (by decide) ?_
    have J_109 : (∀ z108 : Bool, z108 = Z_X3_setFromFinite_J_123 vrd → ∀ (H : Heap) (locs : List Loc), va_P D vwCl (xw cR ax ar ao ad vrd vtr vsd vrn vom voh vol vop voe vow vok vos vso vmi vco vex) H → va_D A (xw cR ax ar ao ad vrd vtr vsd vrn vom voh vol vop voe vow vok vos vso vmi vco vex) → va_S A s.heap H locs → ∀ ls : Array Slot, lv_has ls 4 [(0, .ref ax)] → W p l e rm_X3_setFromFinite s m args below meth c H locs 0 0 Q (F0 m 59 ls [.int (bI z108), .int (bI (vmi i3)), .ref (ad i3), .ref (ad i2), .ref ao])) := by
      intro z108 ez108 H locs hP hD hS ls hl
      have hs := hs _ ez108
      have hu := hu _ ez108
      obtain ⟨h_110, hs⟩ := hs
      obtain ⟨u111, eu111⟩ : ∃ y9 : Bool × Int64 × Int64 × Int32 × Bool × Int32, y9 = F_X1_setSum vso vmi vco vex i2 i3 (vmi i3) z108 := ⟨_, rfl⟩
      have hs := hs _ eu111
      have hu := hu _ eu111
      refine x_V (As := [.ref (ad i2), .ref (ad i3), .int (bI (vmi i3)), .int (bI z108)]) (rest := []) hCF (c_X1_setSum l D cR cI cJ cZ t0 ax ar ao ad vrd vtr vsd vrn vom voh vol vop voe vow vok vos vso vmi vco vex i2 i3 (vmi i3) z108 u111 eu111 h_110 hb2 hb3) (x_cwV 4 hts (inW_6 _ (List.mem_of_getElem? (i := 28) rfl)) (inW_6 _ (List.mem_of_getElem? (i := 29) rfl)) (inW_6 _ (List.mem_of_getElem? (i := 30) rfl)) (inW_2 _ (List.mem_of_getElem? (i := 4) rfl)) (inW_1 _ (List.mem_of_getElem? (i := 34) rfl)) rfl rfl (by decide +kernel) ⟨Nat.le_of_ble_eq_true rfl, Nat.le_of_ble_eq_true rfl⟩) hK hP hD hS hA hSt 2 rfl rfl rfl hl.1 rfl (Nat.le_of_ble_eq_true rfl) dX3_setFromFinite_59 ⟨Nat.le_of_ble_eq_true rfl, Nat.le_of_ble_eq_true rfl⟩ (fun H locs hP hD hS => ?_)
      show W p l e _ s m args below meth c H locs 0 0 Q (F0 m 62 ls [])
      refine lv_aload_n hx hb dX3_setFromFinite_62 rfl (lv_at hl 0 rfl) ?_
      have h_113 := hs
      obtain ⟨u114, eu114⟩ : ∃ y9 : Int32 × Int64 × Int64 × Int32 × Int64 × Int32 × (Nat → Int32) × (Nat → Bool) × (Nat → Int64) × (Nat → Int32), y9 = F_X3_fit vrd vrn u111.1 u111.2.1 u111.2.2.1 u111.2.2.2.1 u111.2.2.2.2.1 u111.2.2.2.2.2 vok vos vso vmi vco vex := ⟨_, rfl⟩
      have hu := hu _ eu114
      refine x_V (As := []) (rest := []) hCF (c_X3_fit l D cR cI cJ cZ t0 ax ar ao ad vrd vtr vsd vrn u111.1 u111.2.1 u111.2.2.1 u111.2.2.2.1 u111.2.2.2.2.1 u111.2.2.2.2.2 vok vos vso vmi vco vex u114 eu114 h_113) (x_cwV 0 hts (inW_6 _ (List.mem_of_getElem? (i := 31) rfl)) (inW_6 _ (List.mem_of_getElem? (i := 32) rfl)) (inW_6 _ (List.mem_of_getElem? (i := 33) rfl)) (inW_1 _ (List.mem_of_getElem? (i := 25) rfl)) (inW_6 _ (List.mem_of_getElem? (i := 34) rfl)) rfl rfl (by decide +kernel) ⟨Nat.le_of_ble_eq_true rfl, Nat.le_of_ble_eq_true rfl⟩) hK hP hD hS hA hSt 0 rfl rfl rfl hl.1 rfl (Nat.le_of_ble_eq_true rfl) dX3_setFromFinite_63 ⟨Nat.le_of_ble_eq_true rfl, Nat.le_of_ble_eq_true rfl⟩ (fun H locs hP hD hS => ?_)
      show W p l e _ s m args below meth c H locs 0 0 Q (F0 m 66 ls [])
      refine lv_goto (tgt := 167) hx hb dX3_setFromFinite_66 (by decide) ?_
      have e9 := Eq.symm hu; subst e9
      exact x_vret hx hb hr hlocks hQ hK hP hD hS rfl dX3_setFromFinite_167
    obtain ⟨z9, ez9⟩ : ∃ y9 : Bool, y9 = Z_X3_setFromFinite_J_123 vrd := ⟨_, rfl⟩
    have hz := rZ_X3_setFromFinite_J_123 vrd ez9
    unfold RZ_X3_setFromFinite_J_123 at hz
    refine lv_icmp_ne (tgt := 58) hx hb dX3_setFromFinite_51 (by decide) (fun c_106 => ?_) (fun c_106 => ?_)
    · rw [if_neg c_106] at hz
      refine lv_iconst (v := 0) hx hb dX3_setFromFinite_58 (by decide) ?_
      have e9 := Eq.symm hz; subst e9
      exact J_109 _ ez9 H locs hP hD hS ls (lv_sub hl [0] rfl)
    · rw [if_pos c_106] at hz
      refine lv_iconst (v := 1) hx hb dX3_setFromFinite_54 (by decide) ?_
      refine lv_goto (tgt := 59) hx hb dX3_setFromFinite_55 (by decide) ?_
      have e9 := Eq.symm hz; subst e9
      exact J_109 _ ez9 H locs hP hD hS ls (lv_sub hl [0] rfl)
  rw [if_neg c_101] at hs
  rw [if_neg c_101] at hu
  by_cases c_102 : p0 = 1
  · rw [if_pos c_102] at hs
    rw [if_pos c_102] at hu
    refine lv_tableIn (tgt := 69) hx hb dX3_setFromFinite_1 (by rw [c_102]; decide) (by rw [c_102]; decide) (by rw [c_102]; rfl) (by decide) ?_
    refine lv_aload_n hx hb dX3_setFromFinite_69 rfl (lv_at hl 0 rfl) ?_
    refine va_get (D := D) (ci := 4) (v := .ref ao) (C := RX3) (T := TX3) (N := 7) hx hb hts hi3 hown hK hP 0 rfl rfl 2 (by decide) (hts (.fieldLink RX3 23 "DecimalWords" "outcome" "LDecimalWords$Outcome;") (inW_4 _ (List.mem_of_getElem? (i := 21) rfl))) (fun _ h9 => h9) rfl dX3_setFromFinite_70 ?_
    refine lv_aload_n hx hb dX3_setFromFinite_73 rfl (lv_at hl 2 rfl) ?_
    refine lv_aload_n hx hb dX3_setFromFinite_74 rfl (lv_at hl 3 rfl) ?_
    refine lv_aload_n hx hb dX3_setFromFinite_75 rfl (lv_at hl 3 rfl) ?_
    refine g_mi (i := i3) hx hb hts hi0 hown hK hP hb3 (hts (.fieldLink RX3 77 "DecimalWords$Datum" "minus" "Z") (inW_5 _ (List.mem_of_getElem? (i := 14) rfl))) dX3_setFromFinite_76 ?_
    have J_119 : (∀ z118 : Bool, z118 = Z_X3_setFromFinite_J_119 vmi i3 → ∀ (H : Heap) (locs : List Loc), va_P D vwCl (xw cR ax ar ao ad vrd vtr vsd vrn vom voh vol vop voe vow vok vos vso vmi vco vex) H → va_D A (xw cR ax ar ao ad vrd vtr vsd vrn vom voh vol vop voe vow vok vos vso vmi vco vex) → va_S A s.heap H locs → ∀ ls : Array Slot, lv_has ls 4 [(0, .ref ax)] → W p l e rm_X3_setFromFinite s m args below meth c H locs 0 0 Q (F0 m 87 ls [.int (bI z118), .ref (ad i3), .ref (ad i2), .ref ao])) := by
      intro z118 ez118 H locs hP hD hS ls hl
      have hs := hs _ ez118
      have hu := hu _ ez118
      refine lv_aload_n hx hb dX3_setFromFinite_87 rfl (lv_at hl 0 rfl) ?_
      refine va_get (D := D) (ci := 4) (v := .int vrd) (C := RX3) (T := TX3) (N := 7) hx hb hts hi3 hown hK hP 0 rfl rfl 3 (by decide) (hts (.fieldLink RX3 27 "DecimalWords" "rounding" "I") (inW_4 _ (List.mem_of_getElem? (i := 22) rfl))) (fun _ h9 => h9) rfl dX3_setFromFinite_88 ?_
      refine lv_iconst (v := 4) hx hb dX3_setFromFinite_91 (by decide) ?_
      have J_123 : (∀ z122 : Bool, z122 = Z_X3_setFromFinite_J_123 vrd → ∀ (H : Heap) (locs : List Loc), va_P D vwCl (xw cR ax ar ao ad vrd vtr vsd vrn vom voh vol vop voe vow vok vos vso vmi vco vex) H → va_D A (xw cR ax ar ao ad vrd vtr vsd vrn vom voh vol vop voe vow vok vos vso vmi vco vex) → va_S A s.heap H locs → ∀ ls : Array Slot, lv_has ls 4 [(0, .ref ax)] → W p l e rm_X3_setFromFinite s m args below meth c H locs 0 0 Q (F0 m 100 ls [.int (bI z122), .int (bI z118), .ref (ad i3), .ref (ad i2), .ref ao])) := by
        intro z122 ez122 H locs hP hD hS ls hl
        have hs := hs _ ez122
        have hu := hu _ ez122
        obtain ⟨h_124, hs⟩ := hs
        obtain ⟨u125, eu125⟩ : ∃ y9 : Bool × Int64 × Int64 × Int32 × Bool × Int32, y9 = F_X1_setSum vso vmi vco vex i2 i3 z118 z122 := ⟨_, rfl⟩
        have hs := hs _ eu125
        have hu := hu _ eu125
        refine x_V (As := [.ref (ad i2), .ref (ad i3), .int (bI z118), .int (bI z122)]) (rest := []) hCF (c_X1_setSum l D cR cI cJ cZ t0 ax ar ao ad vrd vtr vsd vrn vom voh vol vop voe vow vok vos vso vmi vco vex i2 i3 z118 z122 u125 eu125 h_124 hb2 hb3) (x_cwV 4 hts (inW_6 _ (List.mem_of_getElem? (i := 28) rfl)) (inW_6 _ (List.mem_of_getElem? (i := 29) rfl)) (inW_6 _ (List.mem_of_getElem? (i := 30) rfl)) (inW_2 _ (List.mem_of_getElem? (i := 4) rfl)) (inW_1 _ (List.mem_of_getElem? (i := 34) rfl)) rfl rfl (by decide +kernel) ⟨Nat.le_of_ble_eq_true rfl, Nat.le_of_ble_eq_true rfl⟩) hK hP hD hS hA hSt 2 rfl rfl rfl hl.1 rfl (Nat.le_of_ble_eq_true rfl) dX3_setFromFinite_100 ⟨Nat.le_of_ble_eq_true rfl, Nat.le_of_ble_eq_true rfl⟩ (fun H locs hP hD hS => ?_)
        show W p l e _ s m args below meth c H locs 0 0 Q (F0 m 103 ls [])
        refine lv_aload_n hx hb dX3_setFromFinite_103 rfl (lv_at hl 0 rfl) ?_
        have h_127 := hs
        obtain ⟨u128, eu128⟩ : ∃ y9 : Int32 × Int64 × Int64 × Int32 × Int64 × Int32 × (Nat → Int32) × (Nat → Bool) × (Nat → Int64) × (Nat → Int32), y9 = F_X3_fit vrd vrn u125.1 u125.2.1 u125.2.2.1 u125.2.2.2.1 u125.2.2.2.2.1 u125.2.2.2.2.2 vok vos vso vmi vco vex := ⟨_, rfl⟩
        have hu := hu _ eu128
        refine x_V (As := []) (rest := []) hCF (c_X3_fit l D cR cI cJ cZ t0 ax ar ao ad vrd vtr vsd vrn u125.1 u125.2.1 u125.2.2.1 u125.2.2.2.1 u125.2.2.2.2.1 u125.2.2.2.2.2 vok vos vso vmi vco vex u128 eu128 h_127) (x_cwV 0 hts (inW_6 _ (List.mem_of_getElem? (i := 31) rfl)) (inW_6 _ (List.mem_of_getElem? (i := 32) rfl)) (inW_6 _ (List.mem_of_getElem? (i := 33) rfl)) (inW_1 _ (List.mem_of_getElem? (i := 25) rfl)) (inW_6 _ (List.mem_of_getElem? (i := 34) rfl)) rfl rfl (by decide +kernel) ⟨Nat.le_of_ble_eq_true rfl, Nat.le_of_ble_eq_true rfl⟩) hK hP hD hS hA hSt 0 rfl rfl rfl hl.1 rfl (Nat.le_of_ble_eq_true rfl) dX3_setFromFinite_104 ⟨Nat.le_of_ble_eq_true rfl, Nat.le_of_ble_eq_true rfl⟩ (fun H locs hP hD hS => ?_)
        show W p l e _ s m args below meth c H locs 0 0 Q (F0 m 107 ls [])
        refine lv_goto (tgt := 167) hx hb dX3_setFromFinite_107 (by decide) ?_
        have e9 := Eq.symm hu; subst e9
        exact x_vret hx hb hr hlocks hQ hK hP hD hS rfl dX3_setFromFinite_167
      obtain ⟨z9, ez9⟩ : ∃ y9 : Bool, y9 = Z_X3_setFromFinite_J_123 vrd := ⟨_, rfl⟩
      have hz := rZ_X3_setFromFinite_J_123 vrd ez9
      unfold RZ_X3_setFromFinite_J_123 at hz
      refine lv_icmp_ne (tgt := 99) hx hb dX3_setFromFinite_92 (by decide) (fun c_120 => ?_) (fun c_120 => ?_)
      · rw [if_neg c_120] at hz
        refine lv_iconst (v := 0) hx hb dX3_setFromFinite_99 (by decide) ?_
        have e9 := Eq.symm hz; subst e9
        exact J_123 _ ez9 H locs hP hD hS ls (lv_sub hl [0] rfl)
      · rw [if_pos c_120] at hz
        refine lv_iconst (v := 1) hx hb dX3_setFromFinite_95 (by decide) ?_
        refine lv_goto (tgt := 100) hx hb dX3_setFromFinite_96 (by decide) ?_
        have e9 := Eq.symm hz; subst e9
        exact J_123 _ ez9 H locs hP hD hS ls (lv_sub hl [0] rfl)
    obtain ⟨z9, ez9⟩ : ∃ y9 : Bool, y9 = Z_X3_setFromFinite_J_119 vmi i3 := ⟨_, rfl⟩
    have hz := rZ_X3_setFromFinite_J_119 vmi i3 ez9
    unfold RZ_X3_setFromFinite_J_119 at hz
    refine xb_ne (tgt := 86) hx hb dX3_setFromFinite_79 (by decide) (fun c_116 => ?_) (fun c_116 => ?_)
    · rw [if_pos c_116] at hz
      refine lv_iconst (v := 0) hx hb dX3_setFromFinite_86 (by decide) ?_
      have e9 := Eq.symm hz; subst e9
      exact J_119 _ ez9 H locs hP hD hS ls (lv_sub hl [0] rfl)
    · rw [if_neg c_116] at hz
      refine lv_iconst (v := 1) hx hb dX3_setFromFinite_82 (by decide) ?_
      refine lv_goto (tgt := 87) hx hb dX3_setFromFinite_83 (by decide) ?_
      have e9 := Eq.symm hz; subst e9
      exact J_119 _ ez9 H locs hP hD hS ls (lv_sub hl [0] rfl)
  rw [if_neg c_102] at hs
  rw [if_neg c_102] at hu
  by_cases c_103 : p0 = 2
  · rw [if_pos c_103] at hs
    rw [if_pos c_103] at hu
    refine lv_tableIn (tgt := 110) hx hb dX3_setFromFinite_1 (by rw [c_103]; decide) (by rw [c_103]; decide) (by rw [c_103]; rfl) (by decide) ?_
    refine lv_aload_n hx hb dX3_setFromFinite_110 rfl (lv_at hl 0 rfl) ?_
    refine va_get (D := D) (ci := 4) (v := .ref ao) (C := RX3) (T := TX3) (N := 7) hx hb hts hi3 hown hK hP 0 rfl rfl 2 (by decide) (hts (.fieldLink RX3 23 "DecimalWords" "outcome" "LDecimalWords$Outcome;") (inW_4 _ (List.mem_of_getElem? (i := 21) rfl))) (fun _ h9 => h9) rfl dX3_setFromFinite_111 ?_
    refine lv_aload_n hx hb dX3_setFromFinite_114 rfl (lv_at hl 2 rfl) ?_
    refine lv_aload_n hx hb dX3_setFromFinite_115 rfl (lv_at hl 3 rfl) ?_
    obtain ⟨u130, eu130⟩ : ∃ y9 : Bool × Int64 × Int64 × Int32 × Bool × Int32, y9 = F_X1_setProduct vmi vco vex i2 i3 := ⟨_, rfl⟩
    have hs := hs _ eu130
    have hu := hu _ eu130
    refine x_V (As := [.ref (ad i2), .ref (ad i3)]) (rest := []) hCF (c_X1_setProduct l D cR cI cJ cZ t0 ax ar ao ad vrd vtr vsd vrn vom voh vol vop voe vow vok vos vso vmi vco vex i2 i3 u130 eu130 hb2 hb3) (x_cwV 2 hts (inW_7 _ (List.mem_of_getElem? (i := 33) rfl)) (inW_7 _ (List.mem_of_getElem? (i := 34) rfl)) (inW_7 _ (List.mem_of_getElem? (i := 35) rfl)) (inW_2 _ (List.mem_of_getElem? (i := 4) rfl)) (inW_2 _ (List.mem_of_getElem? (i := 19) rfl)) rfl rfl (by decide +kernel) ⟨Nat.le_of_ble_eq_true rfl, Nat.le_of_ble_eq_true rfl⟩) hK hP hD hS hA hSt 2 rfl rfl rfl hl.1 rfl (Nat.le_of_ble_eq_true rfl) dX3_setFromFinite_116 ⟨Nat.le_of_ble_eq_true rfl, Nat.le_of_ble_eq_true rfl⟩ (fun H locs hP hD hS => ?_)
    show W p l e _ s m args below meth c H locs 0 0 Q (F0 m 119 ls [])
    refine lv_aload_n hx hb dX3_setFromFinite_119 rfl (lv_at hl 0 rfl) ?_
    have h_132 := hs
    obtain ⟨u133, eu133⟩ : ∃ y9 : Int32 × Int64 × Int64 × Int32 × Int64 × Int32 × (Nat → Int32) × (Nat → Bool) × (Nat → Int64) × (Nat → Int32), y9 = F_X3_fit vrd vrn u130.1 u130.2.1 u130.2.2.1 u130.2.2.2.1 u130.2.2.2.2.1 u130.2.2.2.2.2 vok vos vso vmi vco vex := ⟨_, rfl⟩
    have hu := hu _ eu133
    refine x_V (As := []) (rest := []) hCF (c_X3_fit l D cR cI cJ cZ t0 ax ar ao ad vrd vtr vsd vrn u130.1 u130.2.1 u130.2.2.1 u130.2.2.2.1 u130.2.2.2.2.1 u130.2.2.2.2.2 vok vos vso vmi vco vex u133 eu133 h_132) (x_cwV 0 hts (inW_6 _ (List.mem_of_getElem? (i := 31) rfl)) (inW_6 _ (List.mem_of_getElem? (i := 32) rfl)) (inW_6 _ (List.mem_of_getElem? (i := 33) rfl)) (inW_1 _ (List.mem_of_getElem? (i := 25) rfl)) (inW_6 _ (List.mem_of_getElem? (i := 34) rfl)) rfl rfl (by decide +kernel) ⟨Nat.le_of_ble_eq_true rfl, Nat.le_of_ble_eq_true rfl⟩) hK hP hD hS hA hSt 0 rfl rfl rfl hl.1 rfl (Nat.le_of_ble_eq_true rfl) dX3_setFromFinite_120 ⟨Nat.le_of_ble_eq_true rfl, Nat.le_of_ble_eq_true rfl⟩ (fun H locs hP hD hS => ?_)
    show W p l e _ s m args below meth c H locs 0 0 Q (F0 m 123 ls [])
    refine lv_goto (tgt := 167) hx hb dX3_setFromFinite_123 (by decide) ?_
    have e9 := Eq.symm hu; subst e9
    exact x_vret hx hb hr hlocks hQ hK hP hD hS rfl dX3_setFromFinite_167
  rw [if_neg c_103] at hs
  rw [if_neg c_103] at hu
  by_cases c_104 : p0 = 3
  · rw [if_pos c_104] at hs
    rw [if_pos c_104] at hu
    refine lv_tableIn (tgt := 126) hx hb dX3_setFromFinite_1 (by rw [c_104]; decide) (by rw [c_104]; decide) (by rw [c_104]; rfl) (by decide) ?_
    refine lv_aload_n hx hb dX3_setFromFinite_126 rfl (lv_at hl 3 rfl) ?_
    refine x_V (As := []) (rest := []) hCF (c_X0_isZero l D cR cI cJ cZ t0 ax ar ao ad vrd vtr vsd vrn vom voh vol vop voe vow vok vos vso vmi vco vex i3 _ rfl hb3) (x_cwV 0 hts (inW_5 _ (List.mem_of_getElem? (i := 22) rfl)) (inW_1 _ (List.mem_of_getElem? (i := 14) rfl)) (inW_1 _ (List.mem_of_getElem? (i := 15) rfl)) (inW_1 _ (List.mem_of_getElem? (i := 16) rfl)) (inW_1 _ (List.mem_of_getElem? (i := 11) rfl)) rfl rfl (by decide +kernel) ⟨Nat.le_of_ble_eq_true rfl, Nat.le_of_ble_eq_true rfl⟩) hK hP hD hS hA hSt (3 + i3) (xw_dat hb3) rfl rfl hl.1 rfl (Nat.le_of_ble_eq_true rfl) dX3_setFromFinite_127 ⟨Nat.le_of_ble_eq_true rfl, Nat.le_of_ble_eq_true rfl⟩ (fun H locs hP hD hS => ?_)
    show W p l e _ s m args below meth c H locs 0 0 Q (F0 m 130 ls (.int (bI (F_X0_isZero vso vco i3)) :: []))
    refine xb_eq (tgt := 142) hx hb dX3_setFromFinite_130 (by decide) (fun c_136 => ?_) (fun c_136 => ?_)
    · rw [if_neg c_136] at hs
      rw [if_neg c_136] at hu
      refine lv_aload_n hx hb dX3_setFromFinite_142 rfl (lv_at hl 0 rfl) ?_
      refine va_get (D := D) (ci := 4) (v := .ref ao) (C := RX3) (T := TX3) (N := 7) hx hb hts hi3 hown hK hP 0 rfl rfl 2 (by decide) (hts (.fieldLink RX3 23 "DecimalWords" "outcome" "LDecimalWords$Outcome;") (inW_4 _ (List.mem_of_getElem? (i := 21) rfl))) (fun _ h9 => h9) rfl dX3_setFromFinite_143 ?_
      refine lv_aload_n hx hb dX3_setFromFinite_146 rfl (lv_at hl 2 rfl) ?_
      refine lv_aload_n hx hb dX3_setFromFinite_147 rfl (lv_at hl 3 rfl) ?_
      obtain ⟨h_137, hs⟩ := hs
      obtain ⟨u138, eu138⟩ : ∃ y9 : Bool × Int64 × Int64 × Int32 × Bool × Int32, y9 = F_X1_setQuotient vmi vco vex i2 i3 := ⟨_, rfl⟩
      have hs := hs _ eu138
      have hu := hu _ eu138
      refine x_V (As := [.ref (ad i2), .ref (ad i3)]) (rest := []) hCF (c_X1_setQuotient l D cR cI cJ cZ t0 ax ar ao ad vrd vtr vsd vrn vom voh vol vop voe vow vok vos vso vmi vco vex i2 i3 u138 eu138 h_137 hb2 hb3) (x_cwV 2 hts (inW_8 _ (List.mem_of_getElem? (i := 0) rfl)) (inW_8 _ (List.mem_of_getElem? (i := 1) rfl)) (inW_8 _ (List.mem_of_getElem? (i := 2) rfl)) (inW_2 _ (List.mem_of_getElem? (i := 4) rfl)) (inW_2 _ (List.mem_of_getElem? (i := 21) rfl)) rfl rfl (by decide +kernel) ⟨Nat.le_of_ble_eq_true rfl, Nat.le_of_ble_eq_true rfl⟩) hK hP hD hS hA hSt 2 rfl rfl rfl hl.1 rfl (Nat.le_of_ble_eq_true rfl) dX3_setFromFinite_148 ⟨Nat.le_of_ble_eq_true rfl, Nat.le_of_ble_eq_true rfl⟩ (fun H locs hP hD hS => ?_)
      show W p l e _ s m args below meth c H locs 0 0 Q (F0 m 151 ls [])
      refine lv_aload_n hx hb dX3_setFromFinite_151 rfl (lv_at hl 0 rfl) ?_
      have h_140 := hs
      obtain ⟨u141, eu141⟩ : ∃ y9 : Int32 × Int64 × Int64 × Int32 × Int64 × Int32 × (Nat → Int32) × (Nat → Bool) × (Nat → Int64) × (Nat → Int32), y9 = F_X3_fit vrd vrn u138.1 u138.2.1 u138.2.2.1 u138.2.2.2.1 u138.2.2.2.2.1 u138.2.2.2.2.2 vok vos vso vmi vco vex := ⟨_, rfl⟩
      have hu := hu _ eu141
      refine x_V (As := []) (rest := []) hCF (c_X3_fit l D cR cI cJ cZ t0 ax ar ao ad vrd vtr vsd vrn u138.1 u138.2.1 u138.2.2.1 u138.2.2.2.1 u138.2.2.2.2.1 u138.2.2.2.2.2 vok vos vso vmi vco vex u141 eu141 h_140) (x_cwV 0 hts (inW_6 _ (List.mem_of_getElem? (i := 31) rfl)) (inW_6 _ (List.mem_of_getElem? (i := 32) rfl)) (inW_6 _ (List.mem_of_getElem? (i := 33) rfl)) (inW_1 _ (List.mem_of_getElem? (i := 25) rfl)) (inW_6 _ (List.mem_of_getElem? (i := 34) rfl)) rfl rfl (by decide +kernel) ⟨Nat.le_of_ble_eq_true rfl, Nat.le_of_ble_eq_true rfl⟩) hK hP hD hS hA hSt 0 rfl rfl rfl hl.1 rfl (Nat.le_of_ble_eq_true rfl) dX3_setFromFinite_152 ⟨Nat.le_of_ble_eq_true rfl, Nat.le_of_ble_eq_true rfl⟩ (fun H locs hP hD hS => ?_)
      show W p l e _ s m args below meth c H locs 0 0 Q (F0 m 155 ls [])
      refine lv_goto (tgt := 167) hx hb dX3_setFromFinite_155 (by decide) ?_
      have e9 := Eq.symm hu; subst e9
      exact x_vret hx hb hr hlocks hQ hK hP hD hS rfl dX3_setFromFinite_167
    · rw [if_pos c_136] at hu
      refine lv_aload_n hx hb dX3_setFromFinite_133 rfl (lv_at hl 0 rfl) ?_
      refine lv_aload_n hx hb dX3_setFromFinite_134 rfl (lv_at hl 2 rfl) ?_
      refine lv_aload_n hx hb dX3_setFromFinite_135 rfl (lv_at hl 3 rfl) ?_
      obtain ⟨u143, eu143⟩ : ∃ y9 : Int32 × (Nat → Int32) × (Nat → Bool) × (Nat → Int64) × (Nat → Int32), y9 = F_X3_divideByZero vrn vso vmi vco vex i2 i3 := ⟨_, rfl⟩
      have hu := hu _ eu143
      refine x_V (As := [.ref (ad i2), .ref (ad i3)]) (rest := []) hCF (c_X3_divideByZero l D cR cI cJ cZ t0 ax ar ao ad vrd vtr vsd vrn vom voh vol vop voe vow vok vos vso vmi vco vex i2 i3 u143 eu143 hb2 hb3) (x_cwV 2 hts (inW_7 _ (List.mem_of_getElem? (i := 36) rfl)) (inW_7 _ (List.mem_of_getElem? (i := 37) rfl)) (inW_7 _ (List.mem_of_getElem? (i := 38) rfl)) (inW_1 _ (List.mem_of_getElem? (i := 25) rfl)) (inW_7 _ (List.mem_of_getElem? (i := 39) rfl)) rfl rfl (by decide +kernel) ⟨Nat.le_of_ble_eq_true rfl, Nat.le_of_ble_eq_true rfl⟩) hK hP hD hS hA hSt 0 rfl rfl rfl hl.1 rfl (Nat.le_of_ble_eq_true rfl) dX3_setFromFinite_136 ⟨Nat.le_of_ble_eq_true rfl, Nat.le_of_ble_eq_true rfl⟩ (fun H locs hP hD hS => ?_)
      show W p l e _ s m args below meth c H locs 0 0 Q (F0 m 139 ls [])
      refine lv_goto (tgt := 167) hx hb dX3_setFromFinite_139 (by decide) ?_
      have e9 := Eq.symm hu; subst e9
      exact x_vret hx hb hr hlocks hQ hK hP hD hS rfl dX3_setFromFinite_167
  rw [if_neg c_104] at hs
  rw [if_neg c_104] at hu
  by_cases c_105 : p0 = 4
  · rw [if_pos c_105] at hs
    rw [if_pos c_105] at hu
    refine lv_tableIn (tgt := 158) hx hb dX3_setFromFinite_1 (by rw [c_105]; decide) (by rw [c_105]; decide) (by rw [c_105]; rfl) (by decide) ?_
    refine lv_aload_n hx hb dX3_setFromFinite_158 rfl (lv_at hl 0 rfl) ?_
    refine lv_aload_n hx hb dX3_setFromFinite_159 rfl (lv_at hl 2 rfl) ?_
    refine lv_aload_n hx hb dX3_setFromFinite_160 rfl (lv_at hl 3 rfl) ?_
    refine g_ex (i := i3) hx hb hts hi0 hown hK hP hb3 (hts (.fieldLink RX3 85 "DecimalWords$Datum" "exponent" "I") (inW_5 _ (List.mem_of_getElem? (i := 17) rfl))) dX3_setFromFinite_161 ?_
    have h_145 := hs
    obtain ⟨u146, eu146⟩ : ∃ y9 : Int32 × Bool × Int64 × Int64 × Int32 × Bool × Int64 × Int32 × (Nat → Int32) × (Nat → Bool) × (Nat → Int64) × (Nat → Int32), y9 = F_X3_quantize vrd vrn vom voh vol vop voe vok vos vso vmi vco vex i2 (vex i3) := ⟨_, rfl⟩
    have hu := hu _ eu146
    refine x_V (As := [.ref (ad i2), .int (vex i3)]) (rest := []) hCF (c_X3_quantize l D cR cI cJ cZ t0 ax ar ao ad vrd vtr vsd vrn vom voh vol vop voe vow vok vos vso vmi vco vex i2 (vex i3) u146 eu146 h_145 hb2) (x_cwV 2 hts (inW_8 _ (List.mem_of_getElem? (i := 3) rfl)) (inW_8 _ (List.mem_of_getElem? (i := 4) rfl)) (inW_8 _ (List.mem_of_getElem? (i := 5) rfl)) (inW_1 _ (List.mem_of_getElem? (i := 25) rfl)) (inW_8 _ (List.mem_of_getElem? (i := 6) rfl)) rfl rfl (by decide +kernel) ⟨Nat.le_of_ble_eq_true rfl, Nat.le_of_ble_eq_true rfl⟩) hK hP hD hS hA hSt 0 rfl rfl rfl hl.1 rfl (Nat.le_of_ble_eq_true rfl) dX3_setFromFinite_164 ⟨Nat.le_of_ble_eq_true rfl, Nat.le_of_ble_eq_true rfl⟩ (fun H locs hP hD hS => ?_)
    show W p l e _ s m args below meth c H locs 0 0 Q (F0 m 167 ls [])
    have e9 := Eq.symm hu; subst e9
    exact x_vret hx hb hr hlocks hQ hK hP hD hS rfl dX3_setFromFinite_167
  rw [if_neg c_105] at hs
  rw [if_neg c_105] at hu
  refine lv_tableOut (tgt := 158) hx hb dX3_setFromFinite_1 (by have kc_101 := lv_neT c_101 (a := 0) (by decide); have kc_102 := lv_neT c_102 (a := 1) (by decide); have kc_103 := lv_neT c_103 (a := 2) (by decide); have kc_104 := lv_neT c_104 (a := 3) (by decide); have kc_105 := lv_neT c_105 (a := 4) (by decide); omega) (by decide) ?_
  refine lv_aload_n hx hb dX3_setFromFinite_158 rfl (lv_at hl 0 rfl) ?_
  refine lv_aload_n hx hb dX3_setFromFinite_159 rfl (lv_at hl 2 rfl) ?_
  refine lv_aload_n hx hb dX3_setFromFinite_160 rfl (lv_at hl 3 rfl) ?_
  refine g_ex (i := i3) hx hb hts hi0 hown hK hP hb3 (hts (.fieldLink RX3 85 "DecimalWords$Datum" "exponent" "I") (inW_5 _ (List.mem_of_getElem? (i := 17) rfl))) dX3_setFromFinite_161 ?_
  have h_148 := hs
  obtain ⟨u149, eu149⟩ : ∃ y9 : Int32 × Bool × Int64 × Int64 × Int32 × Bool × Int64 × Int32 × (Nat → Int32) × (Nat → Bool) × (Nat → Int64) × (Nat → Int32), y9 = F_X3_quantize vrd vrn vom voh vol vop voe vok vos vso vmi vco vex i2 (vex i3) := ⟨_, rfl⟩
  have hu := hu _ eu149
  refine x_V (As := [.ref (ad i2), .int (vex i3)]) (rest := []) hCF (c_X3_quantize l D cR cI cJ cZ t0 ax ar ao ad vrd vtr vsd vrn vom voh vol vop voe vow vok vos vso vmi vco vex i2 (vex i3) u149 eu149 h_148 hb2) (x_cwV 2 hts (inW_8 _ (List.mem_of_getElem? (i := 3) rfl)) (inW_8 _ (List.mem_of_getElem? (i := 4) rfl)) (inW_8 _ (List.mem_of_getElem? (i := 5) rfl)) (inW_1 _ (List.mem_of_getElem? (i := 25) rfl)) (inW_8 _ (List.mem_of_getElem? (i := 6) rfl)) rfl rfl (by decide +kernel) ⟨Nat.le_of_ble_eq_true rfl, Nat.le_of_ble_eq_true rfl⟩) hK hP hD hS hA hSt 0 rfl rfl rfl hl.1 rfl (Nat.le_of_ble_eq_true rfl) dX3_setFromFinite_164 ⟨Nat.le_of_ble_eq_true rfl, Nat.le_of_ble_eq_true rfl⟩ (fun H locs hP hD hS => ?_)
  show W p l e _ s m args below meth c H locs 0 0 Q (F0 m 167 ls [])
  have e9 := Eq.symm hu; subst e9
  exact x_vret hx hb hr hlocks hQ hK hP hD hS rfl dX3_setFromFinite_167

def Z_X3_setResult_J_122 (vso : Nat → Int32) (vmi : Nat → Bool) (vco : Nat → Int64) (vex : Nat → Int32) (i2 : Nat) (i3 : Nat) : Nat := (if 0 ≤ F_X3_order vso vmi vco vex i3 i2 then i2 else i3)
def RZ_X3_setResult_J_122 (vso : Nat → Int32) (vmi : Nat → Bool) (vco : Nat → Int64) (vex : Nat → Int32) (i2 : Nat) (i3 : Nat) (u9 : Nat) : Prop := (if 0 ≤ F_X3_order vso vmi vco vex i3 i2 then u9 = i2 else u9 = i3)
theorem rZ_X3_setResult_J_122 (vso : Nat → Int32) (vmi : Nat → Bool) (vco : Nat → Int64) (vex : Nat → Int32) (i2 : Nat) (i3 : Nat) {u9 : Nat} (hu : u9 = Z_X3_setResult_J_122 vso vmi vco vex i2 i3) : RZ_X3_setResult_J_122 vso vmi vco vex i2 i3 u9 := by
  unfold RZ_X3_setResult_J_122
  refine ite_P (fun c_118 => ?_) (fun c_118 => ?_)
  · have hu := hu.trans (if_pos c_118)
    exact hu
  · have hu := hu.trans (if_neg c_118)
    exact hu
def F_X3_setResult (vrd : Int32) (vrn : Int32) (vom : Bool) (voh : Int64) (vol : Int64) (vop : Int32) (voe : Bool) (vow : Int32) (vok : Int64) (vos : Int32) (vso : Nat → Int32) (vmi : Nat → Bool) (vco : Nat → Int64) (vex : Nat → Int32) (p0 : Int32) (i2 : Nat) (i3 : Nat) : Int32 × Bool × Int64 × Int64 × Int32 × Bool × Int32 × Int64 × Int32 × (Nat → Int32) × (Nat → Bool) × (Nat → Int64) × (Nat → Int32) := (if p0 = 6 then (bnd (F_X3_setNext vso vmi vco vex i2) (fun u128 : (Nat → Int32) × (Nat → Bool) × (Nat → Int64) × (Nat → Int32) => (vrn, vom, voh, vol, vop, voe, vow, vok, vos, u128.1, u128.2.1, u128.2.2.1, u128.2.2.2))) else (if vso i2 = 2 then (bnd (F_X0_setNothing vso vmi vco vex 8) (fun u103 : (Nat → Int32) × (Nat → Bool) × (Nat → Int64) × (Nat → Int32) => (vrn, vom, voh, vol, vop, voe, vow, vok, vos, u103.1, u103.2.1, u103.2.2.1, u103.2.2.2))) else (if vso i3 = 2 then (bnd (F_X0_setNothing vso vmi vco vex 8) (fun u125 : (Nat → Int32) × (Nat → Bool) × (Nat → Int64) × (Nat → Int32) => (vrn, vom, voh, vol, vop, voe, vow, vok, vos, u125.1, u125.2.1, u125.2.2.1, u125.2.2.2))) else (if p0 = 5 then (bnd (Z_X3_setResult_J_122 vso vmi vco vex i2 i3) (fun z120 : Nat => (bnd (F_X0_take vso vmi vco vex 8 z120) (fun u123 : (Nat → Int32) × (Nat → Bool) × (Nat → Int64) × (Nat → Int32) => (vrn, vom, voh, vol, vop, voe, vow, vok, vos, u123.1, u123.2.1, u123.2.2.1, u123.2.2.2))))) else (if vso i2 = 1 then (bnd (F_X3_setFromInfinity vrn vso vmi vco vex p0 i2 i3) (fun u108 : Int32 × (Nat → Int32) × (Nat → Bool) × (Nat → Int64) × (Nat → Int32) => (u108.1, vom, voh, vol, vop, voe, vow, vok, vos, u108.2.1, u108.2.2.1, u108.2.2.2.1, u108.2.2.2.2))) else (if vso i3 = 1 then (bnd (F_X3_setFromInfinity vrn vso vmi vco vex p0 i2 i3) (fun u114 : Int32 × (Nat → Int32) × (Nat → Bool) × (Nat → Int64) × (Nat → Int32) => (u114.1, vom, voh, vol, vop, voe, vow, vok, vos, u114.2.1, u114.2.2.1, u114.2.2.2.1, u114.2.2.2.2))) else (bnd (F_X3_setFromFinite vrd vrn vom voh vol vop voe vow vok vos vso vmi vco vex p0 i2 i3) (fun u112 : Int32 × Bool × Int64 × Int64 × Int32 × Bool × Int32 × Int64 × Int32 × (Nat → Int32) × (Nat → Bool) × (Nat → Int64) × (Nat → Int32) => (u112.1, u112.2.1, u112.2.2.1, u112.2.2.2.1, u112.2.2.2.2.1, u112.2.2.2.2.2.1, u112.2.2.2.2.2.2.1, u112.2.2.2.2.2.2.2.1, u112.2.2.2.2.2.2.2.2.1, u112.2.2.2.2.2.2.2.2.2.1, u112.2.2.2.2.2.2.2.2.2.2.1, u112.2.2.2.2.2.2.2.2.2.2.2.1, u112.2.2.2.2.2.2.2.2.2.2.2.2)))))))))
def RF_X3_setResult (vrd : Int32) (vrn : Int32) (vom : Bool) (voh : Int64) (vol : Int64) (vop : Int32) (voe : Bool) (vow : Int32) (vok : Int64) (vos : Int32) (vso : Nat → Int32) (vmi : Nat → Bool) (vco : Nat → Int64) (vex : Nat → Int32) (p0 : Int32) (i2 : Nat) (i3 : Nat) (u9 : Int32 × Bool × Int64 × Int64 × Int32 × Bool × Int32 × Int64 × Int32 × (Nat → Int32) × (Nat → Bool) × (Nat → Int64) × (Nat → Int32)) : Prop := (if p0 = 6 then (∀ u128 : (Nat → Int32) × (Nat → Bool) × (Nat → Int64) × (Nat → Int32), u128 = F_X3_setNext vso vmi vco vex i2 → u9 = (vrn, vom, voh, vol, vop, voe, vow, vok, vos, u128.1, u128.2.1, u128.2.2.1, u128.2.2.2)) else (if vso i2 = 2 then (∀ u103 : (Nat → Int32) × (Nat → Bool) × (Nat → Int64) × (Nat → Int32), u103 = F_X0_setNothing vso vmi vco vex 8 → u9 = (vrn, vom, voh, vol, vop, voe, vow, vok, vos, u103.1, u103.2.1, u103.2.2.1, u103.2.2.2)) else (if vso i3 = 2 then (∀ u125 : (Nat → Int32) × (Nat → Bool) × (Nat → Int64) × (Nat → Int32), u125 = F_X0_setNothing vso vmi vco vex 8 → u9 = (vrn, vom, voh, vol, vop, voe, vow, vok, vos, u125.1, u125.2.1, u125.2.2.1, u125.2.2.2)) else (if p0 = 5 then (∀ z120 : Nat, z120 = Z_X3_setResult_J_122 vso vmi vco vex i2 i3 → (∀ u123 : (Nat → Int32) × (Nat → Bool) × (Nat → Int64) × (Nat → Int32), u123 = F_X0_take vso vmi vco vex 8 z120 → u9 = (vrn, vom, voh, vol, vop, voe, vow, vok, vos, u123.1, u123.2.1, u123.2.2.1, u123.2.2.2))) else (if vso i2 = 1 then (∀ u108 : Int32 × (Nat → Int32) × (Nat → Bool) × (Nat → Int64) × (Nat → Int32), u108 = F_X3_setFromInfinity vrn vso vmi vco vex p0 i2 i3 → u9 = (u108.1, vom, voh, vol, vop, voe, vow, vok, vos, u108.2.1, u108.2.2.1, u108.2.2.2.1, u108.2.2.2.2)) else (if vso i3 = 1 then (∀ u114 : Int32 × (Nat → Int32) × (Nat → Bool) × (Nat → Int64) × (Nat → Int32), u114 = F_X3_setFromInfinity vrn vso vmi vco vex p0 i2 i3 → u9 = (u114.1, vom, voh, vol, vop, voe, vow, vok, vos, u114.2.1, u114.2.2.1, u114.2.2.2.1, u114.2.2.2.2)) else (∀ u112 : Int32 × Bool × Int64 × Int64 × Int32 × Bool × Int32 × Int64 × Int32 × (Nat → Int32) × (Nat → Bool) × (Nat → Int64) × (Nat → Int32), u112 = F_X3_setFromFinite vrd vrn vom voh vol vop voe vow vok vos vso vmi vco vex p0 i2 i3 → u9 = (u112.1, u112.2.1, u112.2.2.1, u112.2.2.2.1, u112.2.2.2.2.1, u112.2.2.2.2.2.1, u112.2.2.2.2.2.2.1, u112.2.2.2.2.2.2.2.1, u112.2.2.2.2.2.2.2.2.1, u112.2.2.2.2.2.2.2.2.2.1, u112.2.2.2.2.2.2.2.2.2.2.1, u112.2.2.2.2.2.2.2.2.2.2.2.1, u112.2.2.2.2.2.2.2.2.2.2.2.2))))))))
theorem rF_X3_setResult (vrd : Int32) (vrn : Int32) (vom : Bool) (voh : Int64) (vol : Int64) (vop : Int32) (voe : Bool) (vow : Int32) (vok : Int64) (vos : Int32) (vso : Nat → Int32) (vmi : Nat → Bool) (vco : Nat → Int64) (vex : Nat → Int32) (p0 : Int32) (i2 : Nat) (i3 : Nat) {u9 : Int32 × Bool × Int64 × Int64 × Int32 × Bool × Int32 × Int64 × Int32 × (Nat → Int32) × (Nat → Bool) × (Nat → Int64) × (Nat → Int32)} (hu : u9 = F_X3_setResult vrd vrn vom voh vol vop voe vow vok vos vso vmi vco vex p0 i2 i3) : RF_X3_setResult vrd vrn vom voh vol vop voe vow vok vos vso vmi vco vex p0 i2 i3 u9 := by
  unfold RF_X3_setResult
  refine ite_P (fun c_101 => ?_) (fun c_101 => ?_)
  · have hu := hu.trans (if_pos c_101)
    intro u128 eu128
    have hu := bnd_n hu eu128
    exact hu
  · have hu := hu.trans (if_neg c_101)
    refine ite_P (fun c_102 => ?_) (fun c_102 => ?_)
    · have hu := hu.trans (if_pos c_102)
      intro u103 eu103
      have hu := bnd_n hu eu103
      exact hu
    · have hu := hu.trans (if_neg c_102)
      refine ite_P (fun c_105 => ?_) (fun c_105 => ?_)
      · have hu := hu.trans (if_pos c_105)
        intro u125 eu125
        have hu := bnd_n hu eu125
        exact hu
      · have hu := hu.trans (if_neg c_105)
        refine ite_P (fun c_106 => ?_) (fun c_106 => ?_)
        · have hu := hu.trans (if_pos c_106)
          intro z120 ez120
          have hu := bnd_n hu ez120
          intro u123 eu123
          have hu := bnd_n hu eu123
          exact hu
        · have hu := hu.trans (if_neg c_106)
          refine ite_P (fun c_107 => ?_) (fun c_107 => ?_)
          · have hu := hu.trans (if_pos c_107)
            intro u108 eu108
            have hu := bnd_n hu eu108
            exact hu
          · have hu := hu.trans (if_neg c_107)
            refine ite_P (fun c_110 => ?_) (fun c_110 => ?_)
            · have hu := hu.trans (if_pos c_110)
              intro u114 eu114
              have hu := bnd_n hu eu114
              exact hu
            · have hu := hu.trans (if_neg c_110)
              intro u112 eu112
              have hu := bnd_n hu eu112
              exact hu
def S_X3_setResult (vrd : Int32) (vrn : Int32) (vom : Bool) (voh : Int64) (vol : Int64) (vop : Int32) (voe : Bool) (vow : Int32) (vok : Int64) (vos : Int32) (vso : Nat → Int32) (vmi : Nat → Bool) (vco : Nat → Int64) (vex : Nat → Int32) (p0 : Int32) (i2 : Nat) (i3 : Nat) : Prop := (if p0 = 6 then S_X3_setNext vso vmi vco vex i2 else (if vso i2 = 2 then True else (if vso i3 = 2 then True else (if p0 = 5 then S_X3_order vso vmi vco vex i3 i2 else (if vso i2 = 1 then True else (if vso i3 = 1 then True else S_X3_setFromFinite vrd vrn vom voh vol vop voe vow vok vos vso vmi vco vex p0 i2 i3))))))
def rm_X3_setResult : Room := { frames := 5, cells := 0, slots := 0, locals := 119 }
set_option maxHeartbeats 4000000 in
set_option maxRecDepth 100000 in
theorem c_X3_setResult (l : Launch) (D : va_G) (cR cI cJ cZ : ClassId) (t0 : Nat) (ax ar ao : Nat) (ad : Nat → Nat) (vrd : Int32) (vtr : Int32) (vsd : Int32) (vrn : Int32) (vom : Bool) (voh : Int64) (vol : Int64) (vop : Int32) (voe : Bool) (vow : Int32) (vok : Int64) (vos : Int32) (vso : Nat → Int32) (vmi : Nat → Bool) (vco : Nat → Int64) (vex : Nat → Int32) (p0 : Int32) (i2 : Nat) (i3 : Nat) (u : Int32 × Bool × Int64 × Int64 × Int32 × Bool × Int32 × Int64 × Int32 × (Nat → Int32) × (Nat → Bool) × (Nat → Int64) × (Nat → Int32)) (hu : u = F_X3_setResult vrd vrn vom voh vol vop voe vow vok vos vso vmi vco vex p0 i2 i3) (hs : S_X3_setResult vrd vrn vom voh vol vop voe vow vok vos vso vmi vco vex p0 i2 i3) (hb2 : i2 < 9) (hb3 : i3 < 9) : XM l D (xty cR cI cJ cZ) t0 yX3_setResult cX3_setResult 4 none rm_X3_setResult [.ref ax, .int p0, .ref (ad i2), .ref (ad i3)] none (xw cR ax ar ao ad vrd vtr vsd vrn vom voh vol vop voe vow vok vos vso vmi vco vex) (xw cR ax ar ao ad vrd vtr vsd u.1 u.2.1 u.2.2.1 u.2.2.2.1 u.2.2.2.2.1 u.2.2.2.2.2.1 u.2.2.2.2.2.2.1 u.2.2.2.2.2.2.2.1 u.2.2.2.2.2.2.2.2.1 u.2.2.2.2.2.2.2.2.2.1 u.2.2.2.2.2.2.2.2.2.2.1 u.2.2.2.2.2.2.2.2.2.2.2.1 u.2.2.2.2.2.2.2.2.2.2.2.2) := by
  refine XM.of (by decide) (Nat.le_of_ble_eq_true rfl) ?_
  intro p e s m args below meth c A Q F hK hP hD hA hSt hS hQ ls hl
  obtain ⟨hx, hb, hr, hts, hown, hlocks, hml⟩ := F
  have hCF : CallFix p m c cX3_setResult 4 s args gW RX3 := ⟨hx, hb, hml, hown, hts⟩
  unfold S_X3_setResult at hs
  have hu := rF_X3_setResult vrd vrn vom voh vol vop voe vow vok vos vso vmi vco vex p0 i2 i3 hu
  unfold RF_X3_setResult at hu
  obtain ⟨H, eH⟩ : ∃ y9 : Heap, y9 = s.heap := ⟨_, rfl⟩
  obtain ⟨locs, eL⟩ : ∃ y9 : List Loc, y9 = [] := ⟨_, rfl⟩
  rw [← eL] at hS ⊢
  have hP : va_P D vwCl (xw cR ax ar ao ad vrd vtr vsd vrn vom voh vol vop voe vow vok vos vso vmi vco vex) H := by rw [eH]; exact hP
  have hS : va_S A s.heap H locs := by rw [eH]; exact hS
  suffices goal9 : W p l e rm_X3_setResult s m args below meth c H locs 0 0 Q (F0 m 0 ls []) from by rw [← eH]; exact goal9
  have hl : lv_has ls 4 [(0, .ref ax), (1, .int p0), (2, .ref (ad i2)), (3, .ref (ad i3))] := hl
  have hi0 : ∀ w ∈ wsX00, w ∈ gW := inW_X0
  have hi3 : ∀ w ∈ wsX30, w ∈ gW := inW_X3
  refine lv_iload_n hx hb dX3_setResult_0 rfl (lv_at hl 1 rfl) ?_
  refine lv_bipush (v := 6) hx hb dX3_setResult_1 (by decide) ?_
  refine lv_icmp_ne (tgt := 14) hx hb dX3_setResult_3 (by decide) (fun c_101 => ?_) (fun c_101 => ?_)
  · rw [if_neg c_101] at hs
    rw [if_neg c_101] at hu
    refine lv_aload_n hx hb dX3_setResult_14 rfl (lv_at hl 2 rfl) ?_
    refine g_so (i := i2) hx hb hts hi0 hown hK hP hb2 (hts (.fieldLink RX3 70 "DecimalWords$Datum" "sort" "I") (inW_5 _ (List.mem_of_getElem? (i := 9) rfl))) dX3_setResult_15 ?_
    refine lv_iconst (v := 2) hx hb dX3_setResult_18 (by decide) ?_
    refine lv_icmp_eq (tgt := 30) hx hb dX3_setResult_19 (by decide) (fun c_102 => ?_) (fun c_102 => ?_)
    · rw [if_pos c_102] at hu
      refine lv_aload_n hx hb dX3_setResult_30 rfl (lv_at hl 0 rfl) ?_
      refine va_get (D := D) (ci := 4) (v := .ref (ad 8)) (C := RX3) (T := TX3) (N := 7) hx hb hts hi3 hown hK hP 0 rfl rfl 1 (by decide) (hts (.fieldLink RX3 16 "DecimalWords" "result" "LDecimalWords$Datum;") (inW_4 _ (List.mem_of_getElem? (i := 18) rfl))) (fun _ h9 => h9) rfl dX3_setResult_31 ?_
      obtain ⟨u103, eu103⟩ : ∃ y9 : (Nat → Int32) × (Nat → Bool) × (Nat → Int64) × (Nat → Int32), y9 = F_X0_setNothing vso vmi vco vex 8 := ⟨_, rfl⟩
      have hu := hu _ eu103
      refine x_V (As := []) (rest := []) hCF (c_X0_setNothing l D cR cI cJ cZ t0 ax ar ao ad vrd vtr vsd vrn vom voh vol vop voe vow vok vos vso vmi vco vex 8 u103 eu103 (by decide)) (x_cwV 0 hts (inW_5 _ (List.mem_of_getElem? (i := 35) rfl)) (inW_3 _ (List.mem_of_getElem? (i := 27) rfl)) (inW_3 _ (List.mem_of_getElem? (i := 28) rfl)) (inW_1 _ (List.mem_of_getElem? (i := 16) rfl)) (inW_1 _ (List.mem_of_getElem? (i := 9) rfl)) rfl rfl (by decide +kernel) ⟨Nat.le_of_ble_eq_true rfl, Nat.le_of_ble_eq_true rfl⟩) hK hP hD hS hA hSt (3 + 8) (xw_dat (by decide)) rfl rfl hl.1 rfl (Nat.le_of_ble_eq_true rfl) dX3_setResult_34 ⟨Nat.le_of_ble_eq_true rfl, Nat.le_of_ble_eq_true rfl⟩ (fun H locs hP hD hS => ?_)
      show W p l e _ s m args below meth c H locs 0 0 Q (F0 m 37 ls [])
      refine lv_goto (tgt := 101) hx hb dX3_setResult_37 (by decide) ?_
      have e9 := Eq.symm hu; subst e9
      exact x_vret hx hb hr hlocks hQ hK hP hD hS rfl dX3_setResult_101
    · rw [if_neg c_102] at hs
      rw [if_neg c_102] at hu
      refine lv_aload_n hx hb dX3_setResult_22 rfl (lv_at hl 3 rfl) ?_
      refine g_so (i := i3) hx hb hts hi0 hown hK hP hb3 (hts (.fieldLink RX3 70 "DecimalWords$Datum" "sort" "I") (inW_5 _ (List.mem_of_getElem? (i := 9) rfl))) dX3_setResult_23 ?_
      refine lv_iconst (v := 2) hx hb dX3_setResult_26 (by decide) ?_
      refine lv_icmp_ne (tgt := 40) hx hb dX3_setResult_27 (by decide) (fun c_105 => ?_) (fun c_105 => ?_)
      · rw [if_neg c_105] at hs
        rw [if_neg c_105] at hu
        refine lv_iload_n hx hb dX3_setResult_40 rfl (lv_at hl 1 rfl) ?_
        refine lv_iconst (v := 5) hx hb dX3_setResult_41 (by decide) ?_
        refine lv_icmp_ne (tgt := 68) hx hb dX3_setResult_42 (by decide) (fun c_106 => ?_) (fun c_106 => ?_)
        · rw [if_neg c_106] at hs
          rw [if_neg c_106] at hu
          refine lv_aload_n hx hb dX3_setResult_68 rfl (lv_at hl 2 rfl) ?_
          refine g_so (i := i2) hx hb hts hi0 hown hK hP hb2 (hts (.fieldLink RX3 70 "DecimalWords$Datum" "sort" "I") (inW_5 _ (List.mem_of_getElem? (i := 9) rfl))) dX3_setResult_69 ?_
          refine lv_iconst (v := 1) hx hb dX3_setResult_72 (by decide) ?_
          refine lv_icmp_eq (tgt := 84) hx hb dX3_setResult_73 (by decide) (fun c_107 => ?_) (fun c_107 => ?_)
          · rw [if_pos c_107] at hu
            refine lv_aload_n hx hb dX3_setResult_84 rfl (lv_at hl 0 rfl) ?_
            refine lv_iload_n hx hb dX3_setResult_85 rfl (lv_at hl 1 rfl) ?_
            refine lv_aload_n hx hb dX3_setResult_86 rfl (lv_at hl 2 rfl) ?_
            refine lv_aload_n hx hb dX3_setResult_87 rfl (lv_at hl 3 rfl) ?_
            obtain ⟨u108, eu108⟩ : ∃ y9 : Int32 × (Nat → Int32) × (Nat → Bool) × (Nat → Int64) × (Nat → Int32), y9 = F_X3_setFromInfinity vrn vso vmi vco vex p0 i2 i3 := ⟨_, rfl⟩
            have hu := hu _ eu108
            refine x_V (As := [.int p0, .ref (ad i2), .ref (ad i3)]) (rest := []) hCF (c_X3_setFromInfinity l D cR cI cJ cZ t0 ax ar ao ad vrd vtr vsd vrn vom voh vol vop voe vow vok vos vso vmi vco vex p0 i2 i3 u108 eu108 hb2 hb3) (x_cwV 3 hts (inW_6 _ (List.mem_of_getElem? (i := 8) rfl)) (inW_6 _ (List.mem_of_getElem? (i := 9) rfl)) (inW_6 _ (List.mem_of_getElem? (i := 10) rfl)) (inW_1 _ (List.mem_of_getElem? (i := 25) rfl)) (inW_6 _ (List.mem_of_getElem? (i := 11) rfl)) rfl rfl (by decide +kernel) ⟨Nat.le_of_ble_eq_true rfl, Nat.le_of_ble_eq_true rfl⟩) hK hP hD hS hA hSt 0 rfl rfl rfl hl.1 rfl (Nat.le_of_ble_eq_true rfl) dX3_setResult_88 ⟨Nat.le_of_ble_eq_true rfl, Nat.le_of_ble_eq_true rfl⟩ (fun H locs hP hD hS => ?_)
            show W p l e _ s m args below meth c H locs 0 0 Q (F0 m 91 ls [])
            refine lv_goto (tgt := 101) hx hb dX3_setResult_91 (by decide) ?_
            have e9 := Eq.symm hu; subst e9
            exact x_vret hx hb hr hlocks hQ hK hP hD hS rfl dX3_setResult_101
          · rw [if_neg c_107] at hs
            rw [if_neg c_107] at hu
            refine lv_aload_n hx hb dX3_setResult_76 rfl (lv_at hl 3 rfl) ?_
            refine g_so (i := i3) hx hb hts hi0 hown hK hP hb3 (hts (.fieldLink RX3 70 "DecimalWords$Datum" "sort" "I") (inW_5 _ (List.mem_of_getElem? (i := 9) rfl))) dX3_setResult_77 ?_
            refine lv_iconst (v := 1) hx hb dX3_setResult_80 (by decide) ?_
            refine lv_icmp_ne (tgt := 94) hx hb dX3_setResult_81 (by decide) (fun c_110 => ?_) (fun c_110 => ?_)
            · rw [if_neg c_110] at hs
              rw [if_neg c_110] at hu
              refine lv_aload_n hx hb dX3_setResult_94 rfl (lv_at hl 0 rfl) ?_
              refine lv_iload_n hx hb dX3_setResult_95 rfl (lv_at hl 1 rfl) ?_
              refine lv_aload_n hx hb dX3_setResult_96 rfl (lv_at hl 2 rfl) ?_
              refine lv_aload_n hx hb dX3_setResult_97 rfl (lv_at hl 3 rfl) ?_
              have h_111 := hs
              obtain ⟨u112, eu112⟩ : ∃ y9 : Int32 × Bool × Int64 × Int64 × Int32 × Bool × Int32 × Int64 × Int32 × (Nat → Int32) × (Nat → Bool) × (Nat → Int64) × (Nat → Int32), y9 = F_X3_setFromFinite vrd vrn vom voh vol vop voe vow vok vos vso vmi vco vex p0 i2 i3 := ⟨_, rfl⟩
              have hu := hu _ eu112
              refine x_V (As := [.int p0, .ref (ad i2), .ref (ad i3)]) (rest := []) hCF (c_X3_setFromFinite l D cR cI cJ cZ t0 ax ar ao ad vrd vtr vsd vrn vom voh vol vop voe vow vok vos vso vmi vco vex p0 i2 i3 u112 eu112 h_111 hb2 hb3) (x_cwV 3 hts (inW_6 _ (List.mem_of_getElem? (i := 24) rfl)) (inW_6 _ (List.mem_of_getElem? (i := 25) rfl)) (inW_6 _ (List.mem_of_getElem? (i := 26) rfl)) (inW_1 _ (List.mem_of_getElem? (i := 25) rfl)) (inW_6 _ (List.mem_of_getElem? (i := 27) rfl)) rfl rfl (by decide +kernel) ⟨Nat.le_of_ble_eq_true rfl, Nat.le_of_ble_eq_true rfl⟩) hK hP hD hS hA hSt 0 rfl rfl rfl hl.1 rfl (Nat.le_of_ble_eq_true rfl) dX3_setResult_98 ⟨Nat.le_of_ble_eq_true rfl, Nat.le_of_ble_eq_true rfl⟩ (fun H locs hP hD hS => ?_)
              show W p l e _ s m args below meth c H locs 0 0 Q (F0 m 101 ls [])
              have e9 := Eq.symm hu; subst e9
              exact x_vret hx hb hr hlocks hQ hK hP hD hS rfl dX3_setResult_101
            · rw [if_pos c_110] at hu
              refine lv_aload_n hx hb dX3_setResult_84 rfl (lv_at hl 0 rfl) ?_
              refine lv_iload_n hx hb dX3_setResult_85 rfl (lv_at hl 1 rfl) ?_
              refine lv_aload_n hx hb dX3_setResult_86 rfl (lv_at hl 2 rfl) ?_
              refine lv_aload_n hx hb dX3_setResult_87 rfl (lv_at hl 3 rfl) ?_
              obtain ⟨u114, eu114⟩ : ∃ y9 : Int32 × (Nat → Int32) × (Nat → Bool) × (Nat → Int64) × (Nat → Int32), y9 = F_X3_setFromInfinity vrn vso vmi vco vex p0 i2 i3 := ⟨_, rfl⟩
              have hu := hu _ eu114
              refine x_V (As := [.int p0, .ref (ad i2), .ref (ad i3)]) (rest := []) hCF (c_X3_setFromInfinity l D cR cI cJ cZ t0 ax ar ao ad vrd vtr vsd vrn vom voh vol vop voe vow vok vos vso vmi vco vex p0 i2 i3 u114 eu114 hb2 hb3) (x_cwV 3 hts (inW_6 _ (List.mem_of_getElem? (i := 8) rfl)) (inW_6 _ (List.mem_of_getElem? (i := 9) rfl)) (inW_6 _ (List.mem_of_getElem? (i := 10) rfl)) (inW_1 _ (List.mem_of_getElem? (i := 25) rfl)) (inW_6 _ (List.mem_of_getElem? (i := 11) rfl)) rfl rfl (by decide +kernel) ⟨Nat.le_of_ble_eq_true rfl, Nat.le_of_ble_eq_true rfl⟩) hK hP hD hS hA hSt 0 rfl rfl rfl hl.1 rfl (Nat.le_of_ble_eq_true rfl) dX3_setResult_88 ⟨Nat.le_of_ble_eq_true rfl, Nat.le_of_ble_eq_true rfl⟩ (fun H locs hP hD hS => ?_)
              show W p l e _ s m args below meth c H locs 0 0 Q (F0 m 91 ls [])
              refine lv_goto (tgt := 101) hx hb dX3_setResult_91 (by decide) ?_
              have e9 := Eq.symm hu; subst e9
              exact x_vret hx hb hr hlocks hQ hK hP hD hS rfl dX3_setResult_101
        · rw [if_pos c_106] at hs
          rw [if_pos c_106] at hu
          refine lv_aload_n hx hb dX3_setResult_45 rfl (lv_at hl 0 rfl) ?_
          refine va_get (D := D) (ci := 4) (v := .ref (ad 8)) (C := RX3) (T := TX3) (N := 7) hx hb hts hi3 hown hK hP 0 rfl rfl 1 (by decide) (hts (.fieldLink RX3 16 "DecimalWords" "result" "LDecimalWords$Datum;") (inW_4 _ (List.mem_of_getElem? (i := 18) rfl))) (fun _ h9 => h9) rfl dX3_setResult_46 ?_
          refine lv_aload_n hx hb dX3_setResult_49 rfl (lv_at hl 3 rfl) ?_
          refine lv_aload_n hx hb dX3_setResult_50 rfl (lv_at hl 2 rfl) ?_
          have h_116 := hs
          refine x_S (As := [.ref (ad i3), .ref (ad i2)]) (rest := [.ref (ad 8)]) hCF (c_X3_order l D cR cI cJ cZ t0 ax ar ao ad vrd vtr vsd vrn vom voh vol vop voe vow vok vos vso vmi vco vex i3 i2 _ rfl h_116 hb3 hb2) (x_cwS 2 hts (inW_5 _ (List.mem_of_getElem? (i := 36) rfl)) (inW_5 _ (List.mem_of_getElem? (i := 37) rfl)) (inW_1 _ (List.mem_of_getElem? (i := 25) rfl)) (inW_5 _ (List.mem_of_getElem? (i := 38) rfl)) rfl rfl (by decide +kernel) ⟨Nat.le_of_ble_eq_true rfl, Nat.le_of_ble_eq_true rfl⟩) hK hP hD hS hA hSt rfl hl.1 rfl (Nat.le_of_ble_eq_true rfl) dX3_setResult_51 ⟨Nat.le_of_ble_eq_true rfl, Nat.le_of_ble_eq_true rfl⟩ (fun H locs hP hD hS => ?_)
          show W p l e _ s m args below meth c H locs 0 0 Q (F0 m 54 ls (.int (F_X3_order vso vmi vco vex i3 i2) :: [.ref (ad 8)]))
          have J_122 : (∀ z120 : Nat, z120 = Z_X3_setResult_J_122 vso vmi vco vex i2 i3 → z120 < 9 → ∀ (H : Heap) (locs : List Loc), va_P D vwCl (xw cR ax ar ao ad vrd vtr vsd vrn vom voh vol vop voe vow vok vos vso vmi vco vex) H → va_D A (xw cR ax ar ao ad vrd vtr vsd vrn vom voh vol vop voe vow vok vos vso vmi vco vex) → va_S A s.heap H locs → ∀ ls : Array Slot, lv_has ls 4 [] → W p l e rm_X3_setResult s m args below meth c H locs 0 0 Q (F0 m 62 ls [.ref (ad z120), .ref (ad 8)])) := by
            intro z120 ez120 hb_121 H locs hP hD hS ls hl
            have hu := hu _ ez120
            obtain ⟨u123, eu123⟩ : ∃ y9 : (Nat → Int32) × (Nat → Bool) × (Nat → Int64) × (Nat → Int32), y9 = F_X0_take vso vmi vco vex 8 z120 := ⟨_, rfl⟩
            have hu := hu _ eu123
            refine x_V (As := [.ref (ad z120)]) (rest := []) hCF (c_X0_take l D cR cI cJ cZ t0 ax ar ao ad vrd vtr vsd vrn vom voh vol vop voe vow vok vos vso vmi vco vex 8 z120 u123 eu123 (by decide) hb_121) (x_cwV 1 hts (inW_5 _ (List.mem_of_getElem? (i := 19) rfl)) (inW_5 _ (List.mem_of_getElem? (i := 20) rfl)) (inW_5 _ (List.mem_of_getElem? (i := 21) rfl)) (inW_1 _ (List.mem_of_getElem? (i := 16) rfl)) (inW_1 _ (List.mem_of_getElem? (i := 10) rfl)) rfl rfl (by decide +kernel) ⟨Nat.le_of_ble_eq_true rfl, Nat.le_of_ble_eq_true rfl⟩) hK hP hD hS hA hSt (3 + 8) (xw_dat (by decide)) rfl rfl hl.1 rfl (Nat.le_of_ble_eq_true rfl) dX3_setResult_62 ⟨Nat.le_of_ble_eq_true rfl, Nat.le_of_ble_eq_true rfl⟩ (fun H locs hP hD hS => ?_)
            show W p l e _ s m args below meth c H locs 0 0 Q (F0 m 65 ls [])
            refine lv_goto (tgt := 101) hx hb dX3_setResult_65 (by decide) ?_
            have e9 := Eq.symm hu; subst e9
            exact x_vret hx hb hr hlocks hQ hK hP hD hS rfl dX3_setResult_101
          obtain ⟨z9, ez9⟩ : ∃ y9 : Nat, y9 = Z_X3_setResult_J_122 vso vmi vco vex i2 i3 := ⟨_, rfl⟩
          have hz := rZ_X3_setResult_J_122 vso vmi vco vex i2 i3 ez9
          unfold RZ_X3_setResult_J_122 at hz
          refine lv_if_ge (tgt := 61) hx hb dX3_setResult_54 (by decide) (fun c_118 => ?_) (fun c_118 => ?_)
          · rw [if_pos c_118] at hz
            refine lv_aload_n hx hb dX3_setResult_61 rfl (lv_at hl 2 rfl) ?_
            have e9 := Eq.symm hz; subst e9
            exact J_122 _ ez9 hb2 H locs hP hD hS ls (lv_sub hl [] rfl)
          · rw [if_neg c_118] at hz
            refine lv_aload_n hx hb dX3_setResult_57 rfl (lv_at hl 3 rfl) ?_
            refine lv_goto (tgt := 62) hx hb dX3_setResult_58 (by decide) ?_
            have e9 := Eq.symm hz; subst e9
            exact J_122 _ ez9 hb3 H locs hP hD hS ls (lv_sub hl [] rfl)
      · rw [if_pos c_105] at hu
        refine lv_aload_n hx hb dX3_setResult_30 rfl (lv_at hl 0 rfl) ?_
        refine va_get (D := D) (ci := 4) (v := .ref (ad 8)) (C := RX3) (T := TX3) (N := 7) hx hb hts hi3 hown hK hP 0 rfl rfl 1 (by decide) (hts (.fieldLink RX3 16 "DecimalWords" "result" "LDecimalWords$Datum;") (inW_4 _ (List.mem_of_getElem? (i := 18) rfl))) (fun _ h9 => h9) rfl dX3_setResult_31 ?_
        obtain ⟨u125, eu125⟩ : ∃ y9 : (Nat → Int32) × (Nat → Bool) × (Nat → Int64) × (Nat → Int32), y9 = F_X0_setNothing vso vmi vco vex 8 := ⟨_, rfl⟩
        have hu := hu _ eu125
        refine x_V (As := []) (rest := []) hCF (c_X0_setNothing l D cR cI cJ cZ t0 ax ar ao ad vrd vtr vsd vrn vom voh vol vop voe vow vok vos vso vmi vco vex 8 u125 eu125 (by decide)) (x_cwV 0 hts (inW_5 _ (List.mem_of_getElem? (i := 35) rfl)) (inW_3 _ (List.mem_of_getElem? (i := 27) rfl)) (inW_3 _ (List.mem_of_getElem? (i := 28) rfl)) (inW_1 _ (List.mem_of_getElem? (i := 16) rfl)) (inW_1 _ (List.mem_of_getElem? (i := 9) rfl)) rfl rfl (by decide +kernel) ⟨Nat.le_of_ble_eq_true rfl, Nat.le_of_ble_eq_true rfl⟩) hK hP hD hS hA hSt (3 + 8) (xw_dat (by decide)) rfl rfl hl.1 rfl (Nat.le_of_ble_eq_true rfl) dX3_setResult_34 ⟨Nat.le_of_ble_eq_true rfl, Nat.le_of_ble_eq_true rfl⟩ (fun H locs hP hD hS => ?_)
        show W p l e _ s m args below meth c H locs 0 0 Q (F0 m 37 ls [])
        refine lv_goto (tgt := 101) hx hb dX3_setResult_37 (by decide) ?_
        have e9 := Eq.symm hu; subst e9
        exact x_vret hx hb hr hlocks hQ hK hP hD hS rfl dX3_setResult_101
  · rw [if_pos c_101] at hs
    rw [if_pos c_101] at hu
    refine lv_aload_n hx hb dX3_setResult_6 rfl (lv_at hl 0 rfl) ?_
    refine lv_aload_n hx hb dX3_setResult_7 rfl (lv_at hl 2 rfl) ?_
    have h_127 := hs
    obtain ⟨u128, eu128⟩ : ∃ y9 : (Nat → Int32) × (Nat → Bool) × (Nat → Int64) × (Nat → Int32), y9 = F_X3_setNext vso vmi vco vex i2 := ⟨_, rfl⟩
    have hu := hu _ eu128
    refine x_V (As := [.ref (ad i2)]) (rest := []) hCF (c_X3_setNext l D cR cI cJ cZ t0 ax ar ao ad vrd vtr vsd vrn vom voh vol vop voe vow vok vos vso vmi vco vex i2 u128 eu128 h_127 hb2) (x_cwV 1 hts (inW_5 _ (List.mem_of_getElem? (i := 10) rfl)) (inW_5 _ (List.mem_of_getElem? (i := 11) rfl)) (inW_5 _ (List.mem_of_getElem? (i := 12) rfl)) (inW_1 _ (List.mem_of_getElem? (i := 25) rfl)) (inW_5 _ (List.mem_of_getElem? (i := 13) rfl)) rfl rfl (by decide +kernel) ⟨Nat.le_of_ble_eq_true rfl, Nat.le_of_ble_eq_true rfl⟩) hK hP hD hS hA hSt 0 rfl rfl rfl hl.1 rfl (Nat.le_of_ble_eq_true rfl) dX3_setResult_8 ⟨Nat.le_of_ble_eq_true rfl, Nat.le_of_ble_eq_true rfl⟩ (fun H locs hP hD hS => ?_)
    show W p l e _ s m args below meth c H locs 0 0 Q (F0 m 11 ls [])
    refine lv_goto (tgt := 101) hx hb dX3_setResult_11 (by decide) ?_
    have e9 := Eq.symm hu; subst e9
    exact x_vret hx hb hr hlocks hQ hK hP hD hS rfl dX3_setResult_101

def F_X3_operate (vrd : Int32) (vtr : Int32) (vsd : Int32) (vom : Bool) (voh : Int64) (vol : Int64) (vop : Int32) (voe : Bool) (vow : Int32) (vok : Int64) (vos : Int32) (vso : Nat → Int32) (vmi : Nat → Bool) (vco : Nat → Int64) (vex : Nat → Int32) (p0 : Int32) (p1 : Int32) (p2 : Int32) (p3 : Int32) : Bool × Int32 × Int32 × Bool × Int64 × Int64 × Int32 × Bool × Int32 × Int64 × Int32 × (Nat → Int32) × (Nat → Bool) × (Nat → Int64) × (Nat → Int32) := (bnd (F_X3_setResult vrd 0 vom voh vol vop voe vow vok vos vso vmi vco vex p0 (p2.toNatClampNeg) (p3.toNatClampNeg)) (fun u105 : Int32 × Bool × Int64 × Int64 × Int32 × Bool × Int32 × Int64 × Int32 × (Nat → Int32) × (Nat → Bool) × (Nat → Int64) × (Nat → Int32) => (bnd (vsd ||| u105.1) (fun f107 : Int32 => (if u105.1 &&& vtr = 0 then (bnd (F_X0_take u105.2.2.2.2.2.2.2.2.2.1 u105.2.2.2.2.2.2.2.2.2.2.1 u105.2.2.2.2.2.2.2.2.2.2.2.1 u105.2.2.2.2.2.2.2.2.2.2.2.2 (p1.toNatClampNeg) 8) (fun u111 : (Nat → Int32) × (Nat → Bool) × (Nat → Int64) × (Nat → Int32) => (true, f107, u105.1, u105.2.1, u105.2.2.1, u105.2.2.2.1, u105.2.2.2.2.1, u105.2.2.2.2.2.1, u105.2.2.2.2.2.2.1, u105.2.2.2.2.2.2.2.1, u105.2.2.2.2.2.2.2.2.1, u111.1, u111.2.1, u111.2.2.1, u111.2.2.2))) else (false, f107, u105.1, u105.2.1, u105.2.2.1, u105.2.2.2.1, u105.2.2.2.2.1, u105.2.2.2.2.2.1, u105.2.2.2.2.2.2.1, u105.2.2.2.2.2.2.2.1, u105.2.2.2.2.2.2.2.2.1, u105.2.2.2.2.2.2.2.2.2.1, u105.2.2.2.2.2.2.2.2.2.2.1, u105.2.2.2.2.2.2.2.2.2.2.2.1, u105.2.2.2.2.2.2.2.2.2.2.2.2))))))
def RF_X3_operate (vrd : Int32) (vtr : Int32) (vsd : Int32) (vom : Bool) (voh : Int64) (vol : Int64) (vop : Int32) (voe : Bool) (vow : Int32) (vok : Int64) (vos : Int32) (vso : Nat → Int32) (vmi : Nat → Bool) (vco : Nat → Int64) (vex : Nat → Int32) (p0 : Int32) (p1 : Int32) (p2 : Int32) (p3 : Int32) (u9 : Bool × Int32 × Int32 × Bool × Int64 × Int64 × Int32 × Bool × Int32 × Int64 × Int32 × (Nat → Int32) × (Nat → Bool) × (Nat → Int64) × (Nat → Int32)) : Prop := (∀ u105 : Int32 × Bool × Int64 × Int64 × Int32 × Bool × Int32 × Int64 × Int32 × (Nat → Int32) × (Nat → Bool) × (Nat → Int64) × (Nat → Int32), u105 = F_X3_setResult vrd 0 vom voh vol vop voe vow vok vos vso vmi vco vex p0 (p2.toNatClampNeg) (p3.toNatClampNeg) → (∀ f107 : Int32, f107 = vsd ||| u105.1 → (if u105.1 &&& vtr = 0 then (∀ u111 : (Nat → Int32) × (Nat → Bool) × (Nat → Int64) × (Nat → Int32), u111 = F_X0_take u105.2.2.2.2.2.2.2.2.2.1 u105.2.2.2.2.2.2.2.2.2.2.1 u105.2.2.2.2.2.2.2.2.2.2.2.1 u105.2.2.2.2.2.2.2.2.2.2.2.2 (p1.toNatClampNeg) 8 → u9 = (true, f107, u105.1, u105.2.1, u105.2.2.1, u105.2.2.2.1, u105.2.2.2.2.1, u105.2.2.2.2.2.1, u105.2.2.2.2.2.2.1, u105.2.2.2.2.2.2.2.1, u105.2.2.2.2.2.2.2.2.1, u111.1, u111.2.1, u111.2.2.1, u111.2.2.2)) else u9 = (false, f107, u105.1, u105.2.1, u105.2.2.1, u105.2.2.2.1, u105.2.2.2.2.1, u105.2.2.2.2.2.1, u105.2.2.2.2.2.2.1, u105.2.2.2.2.2.2.2.1, u105.2.2.2.2.2.2.2.2.1, u105.2.2.2.2.2.2.2.2.2.1, u105.2.2.2.2.2.2.2.2.2.2.1, u105.2.2.2.2.2.2.2.2.2.2.2.1, u105.2.2.2.2.2.2.2.2.2.2.2.2))))
theorem rF_X3_operate (vrd : Int32) (vtr : Int32) (vsd : Int32) (vom : Bool) (voh : Int64) (vol : Int64) (vop : Int32) (voe : Bool) (vow : Int32) (vok : Int64) (vos : Int32) (vso : Nat → Int32) (vmi : Nat → Bool) (vco : Nat → Int64) (vex : Nat → Int32) (p0 : Int32) (p1 : Int32) (p2 : Int32) (p3 : Int32) {u9 : Bool × Int32 × Int32 × Bool × Int64 × Int64 × Int32 × Bool × Int32 × Int64 × Int32 × (Nat → Int32) × (Nat → Bool) × (Nat → Int64) × (Nat → Int32)} (hu : u9 = F_X3_operate vrd vtr vsd vom voh vol vop voe vow vok vos vso vmi vco vex p0 p1 p2 p3) : RF_X3_operate vrd vtr vsd vom voh vol vop voe vow vok vos vso vmi vco vex p0 p1 p2 p3 u9 := by
  unfold RF_X3_operate
  intro u105 eu105
  have hu := bnd_n hu eu105
  intro f107 ef107
  have hu := bnd_n hu ef107
  refine ite_P (fun c_109 => ?_) (fun c_109 => ?_)
  · have hu := hu.trans (if_pos c_109)
    intro u111 eu111
    have hu := bnd_n hu eu111
    exact hu
  · have hu := hu.trans (if_neg c_109)
    exact hu
def S_X3_operate (vrd : Int32) (vtr : Int32) (vsd : Int32) (vom : Bool) (voh : Int64) (vol : Int64) (vop : Int32) (voe : Bool) (vow : Int32) (vok : Int64) (vos : Int32) (vso : Nat → Int32) (vmi : Nat → Bool) (vco : Nat → Int64) (vex : Nat → Int32) (p0 : Int32) (p1 : Int32) (p2 : Int32) (p3 : Int32) : Prop := (vp_in p2 8) ∧ (vp_in p3 8) ∧ (S_X3_setResult vrd 0 vom voh vol vop voe vow vok vos vso vmi vco vex p0 (p2.toNatClampNeg) (p3.toNatClampNeg)) ∧ (∀ u105 : Int32 × Bool × Int64 × Int64 × Int32 × Bool × Int32 × Int64 × Int32 × (Nat → Int32) × (Nat → Bool) × (Nat → Int64) × (Nat → Int32), u105 = F_X3_setResult vrd 0 vom voh vol vop voe vow vok vos vso vmi vco vex p0 (p2.toNatClampNeg) (p3.toNatClampNeg) → (∀ f107 : Int32, f107 = vsd ||| u105.1 → (if u105.1 &&& vtr = 0 then vp_in p1 8 else True)))
def rm_X3_operate : Room := { frames := 6, cells := 0, slots := 0, locals := 142 }
set_option maxHeartbeats 4000000 in
set_option maxRecDepth 100000 in
theorem c_X3_operate (l : Launch) (D : va_G) (cR cI cJ cZ : ClassId) (t0 : Nat) (ax ar ao : Nat) (ad : Nat → Nat) (vrd : Int32) (vtr : Int32) (vsd : Int32) (vrn : Int32) (vom : Bool) (voh : Int64) (vol : Int64) (vop : Int32) (voe : Bool) (vow : Int32) (vok : Int64) (vos : Int32) (vso : Nat → Int32) (vmi : Nat → Bool) (vco : Nat → Int64) (vex : Nat → Int32) (p0 : Int32) (p1 : Int32) (p2 : Int32) (p3 : Int32) (u : Bool × Int32 × Int32 × Bool × Int64 × Int64 × Int32 × Bool × Int32 × Int64 × Int32 × (Nat → Int32) × (Nat → Bool) × (Nat → Int64) × (Nat → Int32)) (hu : u = F_X3_operate vrd vtr vsd vom voh vol vop voe vow vok vos vso vmi vco vex p0 p1 p2 p3) (hs : S_X3_operate vrd vtr vsd vom voh vol vop voe vow vok vos vso vmi vco vex p0 p1 p2 p3) : XM l D (xty cR cI cJ cZ) t0 yX3_operate cX3_operate 5 (some .boolean) rm_X3_operate [.ref ax, .int p0, .int p1, .int p2, .int p3] (some (.int (bI u.1))) (xw cR ax ar ao ad vrd vtr vsd vrn vom voh vol vop voe vow vok vos vso vmi vco vex) (xw cR ax ar ao ad vrd vtr u.2.1 u.2.2.1 u.2.2.2.1 u.2.2.2.2.1 u.2.2.2.2.2.1 u.2.2.2.2.2.2.1 u.2.2.2.2.2.2.2.1 u.2.2.2.2.2.2.2.2.1 u.2.2.2.2.2.2.2.2.2.1 u.2.2.2.2.2.2.2.2.2.2.1 u.2.2.2.2.2.2.2.2.2.2.2.1 u.2.2.2.2.2.2.2.2.2.2.2.2.1 u.2.2.2.2.2.2.2.2.2.2.2.2.2.1 u.2.2.2.2.2.2.2.2.2.2.2.2.2.2) := by
  refine XM.of (by decide) (Nat.le_of_ble_eq_true rfl) ?_
  intro p e s m args below meth c A Q F hK hP hD hA hSt hS hQ ls hl
  obtain ⟨hx, hb, hr, hts, hown, hlocks, hml⟩ := F
  have hCF : CallFix p m c cX3_operate 5 s args gW RX3 := ⟨hx, hb, hml, hown, hts⟩
  unfold S_X3_operate at hs
  have hu := rF_X3_operate vrd vtr vsd vom voh vol vop voe vow vok vos vso vmi vco vex p0 p1 p2 p3 hu
  unfold RF_X3_operate at hu
  obtain ⟨H, eH⟩ : ∃ y9 : Heap, y9 = s.heap := ⟨_, rfl⟩
  obtain ⟨locs, eL⟩ : ∃ y9 : List Loc, y9 = [] := ⟨_, rfl⟩
  rw [← eL] at hS ⊢
  have hP : va_P D vwCl (xw cR ax ar ao ad vrd vtr vsd vrn vom voh vol vop voe vow vok vos vso vmi vco vex) H := by rw [eH]; exact hP
  have hS : va_S A s.heap H locs := by rw [eH]; exact hS
  suffices goal9 : W p l e rm_X3_operate s m args below meth c H locs 0 0 Q (F0 m 0 ls []) from by rw [← eH]; exact goal9
  have hl : lv_has ls 5 [(0, .ref ax), (1, .int p0), (2, .int p1), (3, .int p2), (4, .int p3)] := hl
  have hi3 : ∀ w ∈ wsX30, w ∈ gW := inW_X3
  refine lv_aload_n hx hb dX3_operate_0 rfl (lv_at hl 0 rfl) ?_
  refine lv_iconst (v := 0) hx hb dX3_operate_1 (by decide) ?_
  refine va_put (D := D) (ci := 4) (v := .int 0) (ty := .int) (C := RX3) (T := TX3) (N := 7) hx hb hts hi3 tyX3 tyX3_ok nmX3 hown hK hP hD hS 0 rfl rfl 6 (by decide) (hts (.fieldLink RX3 37 "DecimalWords" "raisedNow" "I") (inW_4 _ (List.mem_of_getElem? (i := 25) rfl))) (fun _ h9 => h9) rfl (by decide +kernel) rfl rfl (Nat.le_of_ble_eq_true rfl) dX3_operate_2 (fun H locs hP hD hS => ?_)
  have hP : va_P D vwCl (xw cR ax ar ao ad vrd vtr vsd 0 vom voh vol vop voe vow vok vos vso vmi vco vex) H := hP
  have hD : va_D A (xw cR ax ar ao ad vrd vtr vsd 0 vom voh vol vop voe vow vok vos vso vmi vco vex) := hD
  refine lv_aload_n hx hb dX3_operate_5 rfl (lv_at hl 0 rfl) ?_
  refine lv_iload_n hx hb dX3_operate_6 rfl (lv_at hl 1 rfl) ?_
  refine lv_aload_n hx hb dX3_operate_7 rfl (lv_at hl 0 rfl) ?_
  refine va_get (D := D) (ci := 4) (v := .ref ar) (C := RX3) (T := TX3) (N := 7) hx hb hts hi3 hown hK hP 0 rfl rfl 0 (by decide) (hts (.fieldLink RX3 11 "DecimalWords" "registers" "[LDecimalWords$Datum;") (inW_4 _ (List.mem_of_getElem? (i := 16) rfl))) (fun _ h9 => h9) rfl dX3_operate_8 ?_
  refine lv_iload_n hx hb dX3_operate_11 rfl (lv_at hl 3 rfl) ?_
  obtain ⟨h_102, hs⟩ := hs
  refine x_aald hx hb hK hP h_102 dX3_operate_12 ?_
  refine lv_aload_n hx hb dX3_operate_13 rfl (lv_at hl 0 rfl) ?_
  refine va_get (D := D) (ci := 4) (v := .ref ar) (C := RX3) (T := TX3) (N := 7) hx hb hts hi3 hown hK hP 0 rfl rfl 0 (by decide) (hts (.fieldLink RX3 11 "DecimalWords" "registers" "[LDecimalWords$Datum;") (inW_4 _ (List.mem_of_getElem? (i := 16) rfl))) (fun _ h9 => h9) rfl dX3_operate_14 ?_
  refine lv_iload hx hb dX3_operate_17 (lv_at hl 4 rfl) ?_
  obtain ⟨h_103, hs⟩ := hs
  refine x_aald hx hb hK hP h_103 dX3_operate_19 ?_
  obtain ⟨h_104, hs⟩ := hs
  obtain ⟨u105, eu105⟩ : ∃ y9 : Int32 × Bool × Int64 × Int64 × Int32 × Bool × Int32 × Int64 × Int32 × (Nat → Int32) × (Nat → Bool) × (Nat → Int64) × (Nat → Int32), y9 = F_X3_setResult vrd 0 vom voh vol vop voe vow vok vos vso vmi vco vex p0 (p2.toNatClampNeg) (p3.toNatClampNeg) := ⟨_, rfl⟩
  have hs := hs _ eu105
  have hu := hu _ eu105
  refine x_V (As := [.int p0, .ref (ad (p2.toNatClampNeg)), .ref (ad (p3.toNatClampNeg))]) (rest := []) hCF (c_X3_setResult l D cR cI cJ cZ t0 ax ar ao ad vrd vtr vsd 0 vom voh vol vop voe vow vok vos vso vmi vco vex p0 (p2.toNatClampNeg) (p3.toNatClampNeg) u105 eu105 h_104 (vp_lt9 h_102) (vp_lt9 h_103)) (x_cwV 3 hts (inW_5 _ (List.mem_of_getElem? (i := 5) rfl)) (inW_5 _ (List.mem_of_getElem? (i := 6) rfl)) (inW_5 _ (List.mem_of_getElem? (i := 7) rfl)) (inW_1 _ (List.mem_of_getElem? (i := 25) rfl)) (inW_5 _ (List.mem_of_getElem? (i := 8) rfl)) rfl rfl (by decide +kernel) ⟨Nat.le_of_ble_eq_true rfl, Nat.le_of_ble_eq_true rfl⟩) hK hP hD hS hA hSt 0 rfl rfl rfl hl.1 rfl (Nat.le_of_ble_eq_true rfl) dX3_operate_20 ⟨Nat.le_of_ble_eq_true rfl, Nat.le_of_ble_eq_true rfl⟩ (fun H locs hP hD hS => ?_)
  show W p l e _ s m args below meth c H locs 0 0 Q (F0 m 23 ls [])
  refine lv_aload_n hx hb dX3_operate_23 rfl (lv_at hl 0 rfl) ?_
  refine lv_dup hx hb dX3_operate_24 rfl ?_
  refine va_get (D := D) (ci := 4) (v := .int vsd) (C := RX3) (T := TX3) (N := 7) hx hb hts hi3 hown hK hP 0 rfl rfl 5 (by decide) (hts (.fieldLink RX3 34 "DecimalWords" "standing" "I") (inW_4 _ (List.mem_of_getElem? (i := 24) rfl))) (fun _ h9 => h9) rfl dX3_operate_25 ?_
  refine lv_aload_n hx hb dX3_operate_28 rfl (lv_at hl 0 rfl) ?_
  refine va_get (D := D) (ci := 4) (v := .int u105.1) (C := RX3) (T := TX3) (N := 7) hx hb hts hi3 hown hK hP 0 rfl rfl 6 (by decide) (hts (.fieldLink RX3 37 "DecimalWords" "raisedNow" "I") (inW_4 _ (List.mem_of_getElem? (i := 25) rfl))) (fun _ h9 => h9) rfl dX3_operate_29 ?_
  refine lv_ior hx hb dX3_operate_32 ?_
  refine lv_topi (fun f107 ef107 => ?_)
  have hs := hs _ ef107
  have hu := hu _ ef107
  refine va_put (D := D) (ci := 4) (v := .int f107) (ty := .int) (C := RX3) (T := TX3) (N := 7) hx hb hts hi3 tyX3 tyX3_ok nmX3 hown hK hP hD hS 0 rfl rfl 5 (by decide) (hts (.fieldLink RX3 34 "DecimalWords" "standing" "I") (inW_4 _ (List.mem_of_getElem? (i := 24) rfl))) (fun _ h9 => h9) rfl (by decide +kernel) rfl rfl (Nat.le_of_ble_eq_true rfl) dX3_operate_33 (fun H locs hP hD hS => ?_)
  have hP : va_P D vwCl (xw cR ax ar ao ad vrd vtr f107 u105.1 u105.2.1 u105.2.2.1 u105.2.2.2.1 u105.2.2.2.2.1 u105.2.2.2.2.2.1 u105.2.2.2.2.2.2.1 u105.2.2.2.2.2.2.2.1 u105.2.2.2.2.2.2.2.2.1 u105.2.2.2.2.2.2.2.2.2.1 u105.2.2.2.2.2.2.2.2.2.2.1 u105.2.2.2.2.2.2.2.2.2.2.2.1 u105.2.2.2.2.2.2.2.2.2.2.2.2) H := hP
  have hD : va_D A (xw cR ax ar ao ad vrd vtr f107 u105.1 u105.2.1 u105.2.2.1 u105.2.2.2.1 u105.2.2.2.2.1 u105.2.2.2.2.2.1 u105.2.2.2.2.2.2.1 u105.2.2.2.2.2.2.2.1 u105.2.2.2.2.2.2.2.2.1 u105.2.2.2.2.2.2.2.2.2.1 u105.2.2.2.2.2.2.2.2.2.2.1 u105.2.2.2.2.2.2.2.2.2.2.2.1 u105.2.2.2.2.2.2.2.2.2.2.2.2) := hD
  refine lv_aload_n hx hb dX3_operate_36 rfl (lv_at hl 0 rfl) ?_
  refine va_get (D := D) (ci := 4) (v := .int u105.1) (C := RX3) (T := TX3) (N := 7) hx hb hts hi3 hown hK hP 0 rfl rfl 6 (by decide) (hts (.fieldLink RX3 37 "DecimalWords" "raisedNow" "I") (inW_4 _ (List.mem_of_getElem? (i := 25) rfl))) (fun _ h9 => h9) rfl dX3_operate_37 ?_
  refine lv_aload_n hx hb dX3_operate_40 rfl (lv_at hl 0 rfl) ?_
  refine va_get (D := D) (ci := 4) (v := .int vtr) (C := RX3) (T := TX3) (N := 7) hx hb hts hi3 hown hK hP 0 rfl rfl 4 (by decide) (hts (.fieldLink RX3 31 "DecimalWords" "traps" "I") (inW_4 _ (List.mem_of_getElem? (i := 23) rfl))) (fun _ h9 => h9) rfl dX3_operate_41 ?_
  refine lv_iand hx hb dX3_operate_44 ?_
  refine lv_if_eq (tgt := 50) hx hb dX3_operate_45 (by decide) (fun c_109 => ?_) (fun c_109 => ?_)
  · rw [if_pos c_109] at hs
    rw [if_pos c_109] at hu
    refine lv_aload_n hx hb dX3_operate_50 rfl (lv_at hl 0 rfl) ?_
    refine va_get (D := D) (ci := 4) (v := .ref ar) (C := RX3) (T := TX3) (N := 7) hx hb hts hi3 hown hK hP 0 rfl rfl 0 (by decide) (hts (.fieldLink RX3 11 "DecimalWords" "registers" "[LDecimalWords$Datum;") (inW_4 _ (List.mem_of_getElem? (i := 16) rfl))) (fun _ h9 => h9) rfl dX3_operate_51 ?_
    refine lv_iload_n hx hb dX3_operate_54 rfl (lv_at hl 2 rfl) ?_
    have h_110 := hs
    refine x_aald hx hb hK hP h_110 dX3_operate_55 ?_
    refine lv_aload_n hx hb dX3_operate_56 rfl (lv_at hl 0 rfl) ?_
    refine va_get (D := D) (ci := 4) (v := .ref (ad 8)) (C := RX3) (T := TX3) (N := 7) hx hb hts hi3 hown hK hP 0 rfl rfl 1 (by decide) (hts (.fieldLink RX3 16 "DecimalWords" "result" "LDecimalWords$Datum;") (inW_4 _ (List.mem_of_getElem? (i := 18) rfl))) (fun _ h9 => h9) rfl dX3_operate_57 ?_
    obtain ⟨u111, eu111⟩ : ∃ y9 : (Nat → Int32) × (Nat → Bool) × (Nat → Int64) × (Nat → Int32), y9 = F_X0_take u105.2.2.2.2.2.2.2.2.2.1 u105.2.2.2.2.2.2.2.2.2.2.1 u105.2.2.2.2.2.2.2.2.2.2.2.1 u105.2.2.2.2.2.2.2.2.2.2.2.2 (p1.toNatClampNeg) 8 := ⟨_, rfl⟩
    have hu := hu _ eu111
    refine x_V (As := [.ref (ad 8)]) (rest := []) hCF (c_X0_take l D cR cI cJ cZ t0 ax ar ao ad vrd vtr f107 u105.1 u105.2.1 u105.2.2.1 u105.2.2.2.1 u105.2.2.2.2.1 u105.2.2.2.2.2.1 u105.2.2.2.2.2.2.1 u105.2.2.2.2.2.2.2.1 u105.2.2.2.2.2.2.2.2.1 u105.2.2.2.2.2.2.2.2.2.1 u105.2.2.2.2.2.2.2.2.2.2.1 u105.2.2.2.2.2.2.2.2.2.2.2.1 u105.2.2.2.2.2.2.2.2.2.2.2.2 (p1.toNatClampNeg) 8 u111 eu111 (vp_lt9 h_110) (by decide)) (x_cwV 1 hts (inW_5 _ (List.mem_of_getElem? (i := 19) rfl)) (inW_5 _ (List.mem_of_getElem? (i := 20) rfl)) (inW_5 _ (List.mem_of_getElem? (i := 21) rfl)) (inW_1 _ (List.mem_of_getElem? (i := 16) rfl)) (inW_1 _ (List.mem_of_getElem? (i := 10) rfl)) rfl rfl (by decide +kernel) ⟨Nat.le_of_ble_eq_true rfl, Nat.le_of_ble_eq_true rfl⟩) hK hP hD hS hA hSt (3 + (p1.toNatClampNeg)) (xw_dat (vp_lt9 h_110)) rfl rfl hl.1 rfl (Nat.le_of_ble_eq_true rfl) dX3_operate_60 ⟨Nat.le_of_ble_eq_true rfl, Nat.le_of_ble_eq_true rfl⟩ (fun H locs hP hD hS => ?_)
    show W p l e _ s m args below meth c H locs 0 0 Q (F0 m 63 ls [])
    refine lv_iconst (v := 1) hx hb dX3_operate_63 (by decide) ?_
    have e9 := Eq.symm hu; subst e9
    exact x_zret (v := true) hx hb hr hlocks hQ hK hP hD hS rfl rfl dX3_operate_64
  · rw [if_neg c_109] at hu
    refine lv_iconst (v := 0) hx hb dX3_operate_48 (by decide) ?_
    have e9 := Eq.symm hu; subst e9
    exact x_zret (v := false) hx hb hr hlocks hQ hK hP hD hS rfl rfl dX3_operate_49
