def F_X3_fitWithoutRest (vom : Bool) (voh : Int64) (vol : Int64) (vop : Int32) (voe : Bool) (vow : Int32) (vso : Nat → Int32) (vmi : Nat → Bool) (vco : Nat → Int64) (vex : Nat → Int32)  : Bool × Int64 × Int64 × Int32 × (Nat → Int32) × (Nat → Bool) × (Nat → Int64) × (Nat → Int32) := (if voe = true then (false, voh, vol, vop, vso, vmi, vco, vex) else (bnd (F_X1_dropZeros voh vol vop) (fun u3 : Int64 × Int64 × Int32 => (if u3.1 = 0 then (bnd (jmax (-398) (u3.2.2 - (16 - (F_X3_digitsOf u3.2.1)))) (fun n8 : Int32 => (bnd (jmin 369 u3.2.2) (fun n9 : Int32 => (if n8 ≤ n9 then (bnd (jmax n8 (jmin vow n9)) (fun n11 : Int32 => (bnd (F_X0_setFinite vso vmi vco vex 8 vom (u3.2.1 * (F_X3_tenTo (u3.2.2 - n11))) n11) (fun u14 : (Nat → Int32) × (Nat → Bool) × (Nat → Int64) × (Nat → Int32) => (true, u3.1, u3.2.1, u3.2.2, u14.1, u14.2.1, u14.2.2.1, u14.2.2.2))))) else (false, u3.1, u3.2.1, u3.2.2, vso, vmi, vco, vex)))))) else (false, u3.1, u3.2.1, u3.2.2, vso, vmi, vco, vex)))))
def RF_X3_fitWithoutRest (vom : Bool) (voh : Int64) (vol : Int64) (vop : Int32) (voe : Bool) (vow : Int32) (vso : Nat → Int32) (vmi : Nat → Bool) (vco : Nat → Int64) (vex : Nat → Int32)  (u9 : Bool × Int64 × Int64 × Int32 × (Nat → Int32) × (Nat → Bool) × (Nat → Int64) × (Nat → Int32)) : Prop := (if voe = true then u9 = (false, voh, vol, vop, vso, vmi, vco, vex) else (∀ u3 : Int64 × Int64 × Int32, u3 = F_X1_dropZeros voh vol vop → (if u3.1 = 0 then (∀ n8 : Int32, n8 = jmax (-398) (u3.2.2 - (16 - (F_X3_digitsOf u3.2.1))) → (∀ n9 : Int32, n9 = jmin 369 u3.2.2 → (if n8 ≤ n9 then (∀ n11 : Int32, n11 = jmax n8 (jmin vow n9) → (∀ u14 : (Nat → Int32) × (Nat → Bool) × (Nat → Int64) × (Nat → Int32), u14 = F_X0_setFinite vso vmi vco vex 8 vom (u3.2.1 * (F_X3_tenTo (u3.2.2 - n11))) n11 → u9 = (true, u3.1, u3.2.1, u3.2.2, u14.1, u14.2.1, u14.2.2.1, u14.2.2.2))) else u9 = (false, u3.1, u3.2.1, u3.2.2, vso, vmi, vco, vex)))) else u9 = (false, u3.1, u3.2.1, u3.2.2, vso, vmi, vco, vex))))
theorem rF_X3_fitWithoutRest (vom : Bool) (voh : Int64) (vol : Int64) (vop : Int32) (voe : Bool) (vow : Int32) (vso : Nat → Int32) (vmi : Nat → Bool) (vco : Nat → Int64) (vex : Nat → Int32)  {u9 : Bool × Int64 × Int64 × Int32 × (Nat → Int32) × (Nat → Bool) × (Nat → Int64) × (Nat → Int32)} (hu : u9 = F_X3_fitWithoutRest vom voh vol vop voe vow vso vmi vco vex) : RF_X3_fitWithoutRest vom voh vol vop voe vow vso vmi vco vex u9 := by
  unfold RF_X3_fitWithoutRest
  refine ite_P (fun c_1 => ?_) (fun c_1 => ?_)
  · have hu := hu.trans (if_pos c_1)
    exact hu
  · have hu := hu.trans (if_neg c_1)
    intro u3 eu3
    have hu := bnd_n hu eu3
    refine ite_P (fun c_5 => ?_) (fun c_5 => ?_)
    · have hu := hu.trans (if_pos c_5)
      intro n8 en8
      have hu := bnd_n hu en8
      intro n9 en9
      have hu := bnd_n hu en9
      refine ite_P (fun c_10 => ?_) (fun c_10 => ?_)
      · have hu := hu.trans (if_pos c_10)
        intro n11 en11
        have hu := bnd_n hu en11
        intro u14 eu14
        have hu := bnd_n hu eu14
        exact hu
      · have hu := hu.trans (if_neg c_10)
        exact hu
    · have hu := hu.trans (if_neg c_5)
      exact hu
def S_X3_fitWithoutRest (vom : Bool) (voh : Int64) (vol : Int64) (vop : Int32) (voe : Bool) (vow : Int32) (vso : Nat → Int32) (vmi : Nat → Bool) (vco : Nat → Int64) (vex : Nat → Int32)  : Prop := (if voe = true then True else (S_X1_dropZeros voh vol vop) ∧ (∀ u3 : Int64 × Int64 × Int32, u3 = F_X1_dropZeros voh vol vop → (if u3.1 = 0 then (S_X3_digitsOf u3.2.1) ∧ (∀ n8 : Int32, n8 = jmax (-398) (u3.2.2 - (16 - (F_X3_digitsOf u3.2.1))) → (∀ n9 : Int32, n9 = jmin 369 u3.2.2 → (if n8 ≤ n9 then (∀ n11 : Int32, n11 = jmax n8 (jmin vow n9) → S_X3_tenTo (u3.2.2 - n11)) else True))) else True)))
def rm_X3_fitWithoutRest : Room := { frames := 2, cells := 0, slots := 0, locals := 60 }
set_option maxHeartbeats 4000000 in
set_option maxRecDepth 100000 in
theorem c_X3_fitWithoutRest (l : Launch) (D : va_G) (cR cI cJ cZ : ClassId) (t0 : Nat) (ax ar ao : Nat) (ad : Nat → Nat) (vrd : Int32) (vtr : Int32) (vsd : Int32) (vrn : Int32) (vom : Bool) (voh : Int64) (vol : Int64) (vop : Int32) (voe : Bool) (vow : Int32) (vok : Int64) (vos : Int32) (vso : Nat → Int32) (vmi : Nat → Bool) (vco : Nat → Int64) (vex : Nat → Int32)  (u : Bool × Int64 × Int64 × Int32 × (Nat → Int32) × (Nat → Bool) × (Nat → Int64) × (Nat → Int32)) (hu : u = F_X3_fitWithoutRest vom voh vol vop voe vow vso vmi vco vex) (hs : S_X3_fitWithoutRest vom voh vol vop voe vow vso vmi vco vex) : XM l D (xty cR cI cJ cZ) t0 yX3_fitWithoutRest cX3_fitWithoutRest 4 (some .boolean) rm_X3_fitWithoutRest [.ref ax] (some (.int (bI u.1))) (xw cR ax ar ao ad vrd vtr vsd vrn vom voh vol vop voe vow vok vos vso vmi vco vex) (xw cR ax ar ao ad vrd vtr vsd vrn vom u.2.1 u.2.2.1 u.2.2.2.1 voe vow vok vos u.2.2.2.2.1 u.2.2.2.2.2.1 u.2.2.2.2.2.2.1 u.2.2.2.2.2.2.2) := by
  refine XM.of (by decide) (Nat.le_of_ble_eq_true rfl) ?_
  intro p e s m args below meth c A Q F hK hP hD hA hSt hS hQ ls hl
  obtain ⟨hx, hb, hr, hts, hown, hlocks, hml⟩ := F
  have hCF : CallFix p m c cX3_fitWithoutRest 4 s args gW RX3 := ⟨hx, hb, hml, hown, hts⟩
  unfold S_X3_fitWithoutRest at hs
  have hu := rF_X3_fitWithoutRest vom voh vol vop voe vow vso vmi vco vex hu
  unfold RF_X3_fitWithoutRest at hu
  obtain ⟨H, eH⟩ : ∃ y9 : Heap, y9 = s.heap := ⟨_, rfl⟩
  obtain ⟨locs, eL⟩ : ∃ y9 : List Loc, y9 = [] := ⟨_, rfl⟩
  rw [← eL] at hS ⊢
  have hP : va_P D vwCl (xw cR ax ar ao ad vrd vtr vsd vrn vom voh vol vop voe vow vok vos vso vmi vco vex) H := by rw [eH]; exact hP
  have hS : va_S A s.heap H locs := by rw [eH]; exact hS
  suffices goal9 : W p l e rm_X3_fitWithoutRest s m args below meth c H locs 0 0 Q (F0 m 0 ls []) from by rw [← eH]; exact goal9
  have hl : lv_has ls 4 [(0, .ref ax)] := hl
  have hi1 : ∀ w ∈ wsX10, w ∈ gW := inW_X1
  have hi3 : ∀ w ∈ wsX30, w ∈ gW := inW_X3
  refine lv_aload_n hx hb dX3_fitWithoutRest_0 rfl (lv_at hl 0 rfl) ?_
  refine va_get (D := D) (ci := 4) (v := .ref ao) (C := RX3) (T := TX3) (N := 7) hx hb hts hi3 hown hK hP 0 rfl rfl 2 (by decide) (hts (.fieldLink RX3 23 "DecimalWords" "outcome" "LDecimalWords$Outcome;") (inW_4 _ (List.mem_of_getElem? (i := 25) rfl))) (fun _ h9 => h9) rfl dX3_fitWithoutRest_1 ?_
  refine va_get (D := D) (ci := 3) (v := .int (bI voe)) (C := RX1) (T := TX1) (N := 8) hx hb hts hi1 hown hK hP 2 rfl rfl 4 (by decide) (hts (.fieldLink RX3 223 "DecimalWords$Outcome" "more" "Z") (inW_7 _ (List.mem_of_getElem? (i := 5) rfl))) (fun _ h9 => h9) rfl dX3_fitWithoutRest_4 ?_
  refine xb_eq (tgt := 12) hx hb dX3_fitWithoutRest_7 (by decide) (fun c_1 => ?_) (fun c_1 => ?_)
  · rw [if_neg c_1] at hs
    rw [if_neg c_1] at hu
    refine lv_aload_n hx hb dX3_fitWithoutRest_12 rfl (lv_at hl 0 rfl) ?_
    refine va_get (D := D) (ci := 4) (v := .ref ao) (C := RX3) (T := TX3) (N := 7) hx hb hts hi3 hown hK hP 0 rfl rfl 2 (by decide) (hts (.fieldLink RX3 23 "DecimalWords" "outcome" "LDecimalWords$Outcome;") (inW_4 _ (List.mem_of_getElem? (i := 25) rfl))) (fun _ h9 => h9) rfl dX3_fitWithoutRest_13 ?_
    obtain ⟨h_2, hs⟩ := hs
    obtain ⟨u3, eu3⟩ : ∃ y9 : Int64 × Int64 × Int32, y9 = F_X1_dropZeros voh vol vop := ⟨_, rfl⟩
    have hs := hs _ eu3
    have hu := hu _ eu3
    refine x_V (As := []) (rest := []) hCF (c_X1_dropZeros l D cR cI cJ cZ t0 ax ar ao ad vrd vtr vsd vrn vom voh vol vop voe vow vok vos vso vmi vco vex u3 eu3 h_2) (x_cwV 0 hts (inW_7 _ (List.mem_of_getElem? (i := 9) rfl)) (inW_7 _ (List.mem_of_getElem? (i := 10) rfl)) (inW_7 _ (List.mem_of_getElem? (i := 11) rfl)) (inW_2 _ (List.mem_of_getElem? (i := 4) rfl)) (inW_2 _ (List.mem_of_getElem? (i := 30) rfl)) rfl rfl (by decide +kernel) ⟨Nat.le_of_ble_eq_true rfl, Nat.le_of_ble_eq_true rfl⟩) hK hP hD hS hA hSt 2 rfl rfl rfl hl.1 rfl (Nat.le_of_ble_eq_true rfl) dX3_fitWithoutRest_16 ⟨Nat.le_of_ble_eq_true rfl, Nat.le_of_ble_eq_true rfl⟩ (fun H locs hP hD hS => ?_)
    show W p l e _ s m args below meth c H locs 0 0 Q (F0 m 19 ls [])
    refine lv_aload_n hx hb dX3_fitWithoutRest_19 rfl (lv_at hl 0 rfl) ?_
    refine va_get (D := D) (ci := 4) (v := .ref ao) (C := RX3) (T := TX3) (N := 7) hx hb hts hi3 hown hK hP 0 rfl rfl 2 (by decide) (hts (.fieldLink RX3 23 "DecimalWords" "outcome" "LDecimalWords$Outcome;") (inW_4 _ (List.mem_of_getElem? (i := 25) rfl))) (fun _ h9 => h9) rfl dX3_fitWithoutRest_20 ?_
    refine va_get (D := D) (ci := 3) (v := .long u3.1) (C := RX1) (T := TX1) (N := 8) hx hb hts hi1 hown hK hP 2 rfl rfl 1 (by decide) (hts (.fieldLink RX3 229 "DecimalWords$Outcome" "high" "J") (inW_7 _ (List.mem_of_getElem? (i := 6) rfl))) (fun _ h9 => h9) rfl dX3_fitWithoutRest_23 ?_
    refine lv_lconst (v := 0) hx hb dX3_fitWithoutRest_26 (by decide) ?_
    refine xl_eq (tgt := 33) hx hb dX3_fitWithoutRest_27 dX3_fitWithoutRest_28 (by decide) (fun c_5 => ?_) (fun c_5 => ?_)
    · rw [if_pos c_5] at hs
      rw [if_pos c_5] at hu
      refine lv_sipush (v := (-398)) hx hb dX3_fitWithoutRest_33 (by decide) ?_
      refine lv_aload_n hx hb dX3_fitWithoutRest_36 rfl (lv_at hl 0 rfl) ?_
      refine va_get (D := D) (ci := 4) (v := .ref ao) (C := RX3) (T := TX3) (N := 7) hx hb hts hi3 hown hK hP 0 rfl rfl 2 (by decide) (hts (.fieldLink RX3 23 "DecimalWords" "outcome" "LDecimalWords$Outcome;") (inW_4 _ (List.mem_of_getElem? (i := 25) rfl))) (fun _ h9 => h9) rfl dX3_fitWithoutRest_37 ?_
      refine va_get (D := D) (ci := 3) (v := .int u3.2.2) (C := RX1) (T := TX1) (N := 8) hx hb hts hi1 hown hK hP 2 rfl rfl 3 (by decide) (hts (.fieldLink RX3 232 "DecimalWords$Outcome" "power" "I") (inW_7 _ (List.mem_of_getElem? (i := 7) rfl))) (fun _ h9 => h9) rfl dX3_fitWithoutRest_40 ?_
      refine lv_bipush (v := 16) hx hb dX3_fitWithoutRest_43 (by decide) ?_
      refine lv_aload_n hx hb dX3_fitWithoutRest_45 rfl (lv_at hl 0 rfl) ?_
      refine va_get (D := D) (ci := 4) (v := .ref ao) (C := RX3) (T := TX3) (N := 7) hx hb hts hi3 hown hK hP 0 rfl rfl 2 (by decide) (hts (.fieldLink RX3 23 "DecimalWords" "outcome" "LDecimalWords$Outcome;") (inW_4 _ (List.mem_of_getElem? (i := 25) rfl))) (fun _ h9 => h9) rfl dX3_fitWithoutRest_46 ?_
      refine va_get (D := D) (ci := 3) (v := .long u3.2.1) (C := RX1) (T := TX1) (N := 8) hx hb hts hi1 hown hK hP 2 rfl rfl 2 (by decide) (hts (.fieldLink RX3 235 "DecimalWords$Outcome" "low" "J") (inW_7 _ (List.mem_of_getElem? (i := 8) rfl))) (fun _ h9 => h9) rfl dX3_fitWithoutRest_49 ?_
      obtain ⟨h_6, hs⟩ := hs
      refine x_S (As := [.long u3.2.1]) (rest := [.int 16, .int u3.2.2, .int (-398)]) hCF (c_X3_digitsOf l D cR cI cJ cZ t0 (xw cR ax ar ao ad vrd vtr vsd vrn vom u3.1 u3.2.1 u3.2.2 voe vow vok vos vso vmi vco vex) u3.2.1 _ rfl h_6) (x_cwS 1 hts (inW_5 _ (List.mem_of_getElem? (i := 26) rfl)) (inW_1 _ (List.mem_of_getElem? (i := 24) rfl)) (inW_1 _ (List.mem_of_getElem? (i := 25) rfl)) (inW_1 _ (List.mem_of_getElem? (i := 26) rfl)) rfl rfl (by decide +kernel) ⟨Nat.le_of_ble_eq_true rfl, Nat.le_of_ble_eq_true rfl⟩) hK hP hD hS hA hSt rfl hl.1 rfl (Nat.le_of_ble_eq_true rfl) dX3_fitWithoutRest_52 ⟨Nat.le_of_ble_eq_true rfl, Nat.le_of_ble_eq_true rfl⟩ (fun H locs hP hD hS => ?_)
      show W p l e _ s m args below meth c H locs 0 0 Q (F0 m 55 ls (.int (F_X3_digitsOf u3.2.1) :: [.int 16, .int u3.2.2, .int (-398)]))
      refine lv_isub hx hb dX3_fitWithoutRest_55 ?_
      refine lv_isub hx hb dX3_fitWithoutRest_56 ?_
      refine x_max hx hb hml hl.1 hts hown (inW_2 _ (List.mem_of_getElem? (i := 12) rfl)) (inW_2 _ (List.mem_of_getElem? (i := 13) rfl)) (inW_1 _ (List.mem_of_getElem? (i := 37) rfl)) (inW_2 _ (List.mem_of_getElem? (i := 14) rfl)) (Nat.le_of_ble_eq_true rfl) (Nat.le_of_ble_eq_true rfl) (Nat.le_of_ble_eq_true rfl) (Nat.le_of_ble_eq_true rfl) dX3_fitWithoutRest_57 ?_
      refine lv_topi (fun n8 en8 => ?_)
      have hs := hs _ en8
      have hu := hu _ en8
      refine lv_istore_n (lv' := [(1, .int n8), (0, .ref ax)]) hx hb dX3_fitWithoutRest_60 rfl hl (by decide) rfl (fun ls hl => ?_)
      refine lv_sipush (v := 369) hx hb dX3_fitWithoutRest_61 (by decide) ?_
      refine lv_aload_n hx hb dX3_fitWithoutRest_64 rfl (lv_at hl 1 rfl) ?_
      refine va_get (D := D) (ci := 4) (v := .ref ao) (C := RX3) (T := TX3) (N := 7) hx hb hts hi3 hown hK hP 0 rfl rfl 2 (by decide) (hts (.fieldLink RX3 23 "DecimalWords" "outcome" "LDecimalWords$Outcome;") (inW_4 _ (List.mem_of_getElem? (i := 25) rfl))) (fun _ h9 => h9) rfl dX3_fitWithoutRest_65 ?_
      refine va_get (D := D) (ci := 3) (v := .int u3.2.2) (C := RX1) (T := TX1) (N := 8) hx hb hts hi1 hown hK hP 2 rfl rfl 3 (by decide) (hts (.fieldLink RX3 232 "DecimalWords$Outcome" "power" "I") (inW_7 _ (List.mem_of_getElem? (i := 7) rfl))) (fun _ h9 => h9) rfl dX3_fitWithoutRest_68 ?_
      refine x_min hx hb hml hl.1 hts hown (inW_2 _ (List.mem_of_getElem? (i := 11) rfl)) (inW_1 _ (List.mem_of_getElem? (i := 36) rfl)) (inW_1 _ (List.mem_of_getElem? (i := 37) rfl)) (inW_1 _ (List.mem_of_getElem? (i := 38) rfl)) (Nat.le_of_ble_eq_true rfl) (Nat.le_of_ble_eq_true rfl) (Nat.le_of_ble_eq_true rfl) (Nat.le_of_ble_eq_true rfl) dX3_fitWithoutRest_71 ?_
      refine lv_topi (fun n9 en9 => ?_)
      have hs := hs _ en9
      have hu := hu _ en9
      refine lv_istore_n (lv' := [(2, .int n9), (1, .int n8), (0, .ref ax)]) hx hb dX3_fitWithoutRest_74 rfl hl (by decide) rfl (fun ls hl => ?_)
      refine lv_iload_n hx hb dX3_fitWithoutRest_75 rfl (lv_at hl 1 rfl) ?_
      refine lv_iload_n hx hb dX3_fitWithoutRest_76 rfl (lv_at hl 0 rfl) ?_
      refine lv_icmp_le (tgt := 82) hx hb dX3_fitWithoutRest_77 (by decide) (fun c_10 => ?_) (fun c_10 => ?_)
      · rw [if_pos c_10] at hs
        rw [if_pos c_10] at hu
        refine lv_iload_n hx hb dX3_fitWithoutRest_82 rfl (lv_at hl 1 rfl) ?_
        refine lv_aload_n hx hb dX3_fitWithoutRest_83 rfl (lv_at hl 2 rfl) ?_
        refine va_get (D := D) (ci := 4) (v := .ref ao) (C := RX3) (T := TX3) (N := 7) hx hb hts hi3 hown hK hP 0 rfl rfl 2 (by decide) (hts (.fieldLink RX3 23 "DecimalWords" "outcome" "LDecimalWords$Outcome;") (inW_4 _ (List.mem_of_getElem? (i := 25) rfl))) (fun _ h9 => h9) rfl dX3_fitWithoutRest_84 ?_
        refine va_get (D := D) (ci := 3) (v := .int vow) (C := RX1) (T := TX1) (N := 8) hx hb hts hi1 hown hK hP 2 rfl rfl 5 (by decide) (hts (.fieldLink RX3 210 "DecimalWords$Outcome" "wish" "I") (inW_6 _ (List.mem_of_getElem? (i := 38) rfl))) (fun _ h9 => h9) rfl dX3_fitWithoutRest_87 ?_
        refine lv_iload_n hx hb dX3_fitWithoutRest_90 rfl (lv_at hl 0 rfl) ?_
        refine x_min hx hb hml hl.1 hts hown (inW_2 _ (List.mem_of_getElem? (i := 11) rfl)) (inW_1 _ (List.mem_of_getElem? (i := 36) rfl)) (inW_1 _ (List.mem_of_getElem? (i := 37) rfl)) (inW_1 _ (List.mem_of_getElem? (i := 38) rfl)) (Nat.le_of_ble_eq_true rfl) (Nat.le_of_ble_eq_true rfl) (Nat.le_of_ble_eq_true rfl) (Nat.le_of_ble_eq_true rfl) dX3_fitWithoutRest_91 ?_
        refine x_max hx hb hml hl.1 hts hown (inW_2 _ (List.mem_of_getElem? (i := 12) rfl)) (inW_2 _ (List.mem_of_getElem? (i := 13) rfl)) (inW_1 _ (List.mem_of_getElem? (i := 37) rfl)) (inW_2 _ (List.mem_of_getElem? (i := 14) rfl)) (Nat.le_of_ble_eq_true rfl) (Nat.le_of_ble_eq_true rfl) (Nat.le_of_ble_eq_true rfl) (Nat.le_of_ble_eq_true rfl) dX3_fitWithoutRest_94 ?_
        refine lv_topi (fun n11 en11 => ?_)
        have hs := hs _ en11
        have hu := hu _ en11
        refine lv_istore_n (lv' := [(3, .int n11), (2, .int n9), (1, .int n8), (0, .ref ax)]) hx hb dX3_fitWithoutRest_97 rfl hl (by decide) rfl (fun ls hl => ?_)
        refine lv_aload_n hx hb dX3_fitWithoutRest_98 rfl (lv_at hl 3 rfl) ?_
        refine va_get (D := D) (ci := 4) (v := .ref (ad 8)) (C := RX3) (T := TX3) (N := 7) hx hb hts hi3 hown hK hP 0 rfl rfl 1 (by decide) (hts (.fieldLink RX3 16 "DecimalWords" "result" "LDecimalWords$Datum;") (inW_4 _ (List.mem_of_getElem? (i := 22) rfl))) (fun _ h9 => h9) rfl dX3_fitWithoutRest_99 ?_
        refine lv_aload_n hx hb dX3_fitWithoutRest_102 rfl (lv_at hl 3 rfl) ?_
        refine va_get (D := D) (ci := 4) (v := .ref ao) (C := RX3) (T := TX3) (N := 7) hx hb hts hi3 hown hK hP 0 rfl rfl 2 (by decide) (hts (.fieldLink RX3 23 "DecimalWords" "outcome" "LDecimalWords$Outcome;") (inW_4 _ (List.mem_of_getElem? (i := 25) rfl))) (fun _ h9 => h9) rfl dX3_fitWithoutRest_103 ?_
        refine va_get (D := D) (ci := 3) (v := .int (bI vom)) (C := RX1) (T := TX1) (N := 8) hx hb hts hi1 hown hK hP 2 rfl rfl 0 (by decide) (hts (.fieldLink RX3 216 "DecimalWords$Outcome" "minus" "Z") (inW_6 _ (List.mem_of_getElem? (i := 39) rfl))) (fun _ h9 => h9) rfl dX3_fitWithoutRest_106 ?_
        refine lv_aload_n hx hb dX3_fitWithoutRest_109 rfl (lv_at hl 3 rfl) ?_
        refine va_get (D := D) (ci := 4) (v := .ref ao) (C := RX3) (T := TX3) (N := 7) hx hb hts hi3 hown hK hP 0 rfl rfl 2 (by decide) (hts (.fieldLink RX3 23 "DecimalWords" "outcome" "LDecimalWords$Outcome;") (inW_4 _ (List.mem_of_getElem? (i := 25) rfl))) (fun _ h9 => h9) rfl dX3_fitWithoutRest_110 ?_
        refine va_get (D := D) (ci := 3) (v := .long u3.2.1) (C := RX1) (T := TX1) (N := 8) hx hb hts hi1 hown hK hP 2 rfl rfl 2 (by decide) (hts (.fieldLink RX3 235 "DecimalWords$Outcome" "low" "J") (inW_7 _ (List.mem_of_getElem? (i := 8) rfl))) (fun _ h9 => h9) rfl dX3_fitWithoutRest_113 ?_
        refine lv_aload_n hx hb dX3_fitWithoutRest_116 rfl (lv_at hl 3 rfl) ?_
        refine va_get (D := D) (ci := 4) (v := .ref ao) (C := RX3) (T := TX3) (N := 7) hx hb hts hi3 hown hK hP 0 rfl rfl 2 (by decide) (hts (.fieldLink RX3 23 "DecimalWords" "outcome" "LDecimalWords$Outcome;") (inW_4 _ (List.mem_of_getElem? (i := 25) rfl))) (fun _ h9 => h9) rfl dX3_fitWithoutRest_117 ?_
        refine va_get (D := D) (ci := 3) (v := .int u3.2.2) (C := RX1) (T := TX1) (N := 8) hx hb hts hi1 hown hK hP 2 rfl rfl 3 (by decide) (hts (.fieldLink RX3 232 "DecimalWords$Outcome" "power" "I") (inW_7 _ (List.mem_of_getElem? (i := 7) rfl))) (fun _ h9 => h9) rfl dX3_fitWithoutRest_120 ?_
        refine lv_iload_n hx hb dX3_fitWithoutRest_123 rfl (lv_at hl 0 rfl) ?_
        refine lv_isub hx hb dX3_fitWithoutRest_124 ?_
        have h_12 := hs
        refine x_S (As := [.int (u3.2.2 - n11)]) (rest := [.long u3.2.1, .int (bI vom), .ref (ad 8)]) hCF (c_X3_tenTo l D cR cI cJ cZ t0 (xw cR ax ar ao ad vrd vtr vsd vrn vom u3.1 u3.2.1 u3.2.2 voe vow vok vos vso vmi vco vex) (u3.2.2 - n11) _ rfl h_12) (x_cwS 1 hts (inW_5 _ (List.mem_of_getElem? (i := 27) rfl)) (inW_2 _ (List.mem_of_getElem? (i := 9) rfl)) (inW_1 _ (List.mem_of_getElem? (i := 25) rfl)) (inW_2 _ (List.mem_of_getElem? (i := 10) rfl)) rfl rfl (by decide +kernel) ⟨Nat.le_of_ble_eq_true rfl, Nat.le_of_ble_eq_true rfl⟩) hK hP hD hS hA hSt rfl hl.1 rfl (Nat.le_of_ble_eq_true rfl) dX3_fitWithoutRest_125 ⟨Nat.le_of_ble_eq_true rfl, Nat.le_of_ble_eq_true rfl⟩ (fun H locs hP hD hS => ?_)
        show W p l e _ s m args below meth c H locs 0 0 Q (F0 m 128 ls (.long (F_X3_tenTo (u3.2.2 - n11)) :: [.long u3.2.1, .int (bI vom), .ref (ad 8)]))
        refine lv_lmul hx hb dX3_fitWithoutRest_128 ?_
        refine lv_iload_n hx hb dX3_fitWithoutRest_129 rfl (lv_at hl 0 rfl) ?_
        obtain ⟨u14, eu14⟩ : ∃ y9 : (Nat → Int32) × (Nat → Bool) × (Nat → Int64) × (Nat → Int32), y9 = F_X0_setFinite vso vmi vco vex 8 vom (u3.2.1 * (F_X3_tenTo (u3.2.2 - n11))) n11 := ⟨_, rfl⟩
        have hu := hu _ eu14
        refine x_V (As := [.int (bI vom), .long (u3.2.1 * (F_X3_tenTo (u3.2.2 - n11))), .int n11]) (rest := []) hCF (c_X0_setFinite l D cR cI cJ cZ t0 ax ar ao ad vrd vtr vsd vrn vom u3.1 u3.2.1 u3.2.2 voe vow vok vos vso vmi vco vex 8 vom (u3.2.1 * (F_X3_tenTo (u3.2.2 - n11))) n11 u14 eu14 (by decide)) (x_cwV 3 hts (inW_5 _ (List.mem_of_getElem? (i := 1) rfl)) (inW_4 _ (List.mem_of_getElem? (i := 9) rfl)) (inW_4 _ (List.mem_of_getElem? (i := 10) rfl)) (inW_1 _ (List.mem_of_getElem? (i := 16) rfl)) (inW_1 _ (List.mem_of_getElem? (i := 3) rfl)) rfl rfl (by decide +kernel) ⟨Nat.le_of_ble_eq_true rfl, Nat.le_of_ble_eq_true rfl⟩) hK hP hD hS hA hSt (3 + 8) (xw_dat (by decide)) rfl rfl hl.1 rfl (Nat.le_of_ble_eq_true rfl) dX3_fitWithoutRest_130 ⟨Nat.le_of_ble_eq_true rfl, Nat.le_of_ble_eq_true rfl⟩ (fun H locs hP hD hS => ?_)
        show W p l e _ s m args below meth c H locs 0 0 Q (F0 m 133 ls [])
        refine lv_iconst (v := 1) hx hb dX3_fitWithoutRest_133 (by decide) ?_
        have e9 := Eq.symm hu; subst e9
        exact x_zret (v := true) hx hb hr hlocks hQ hK hP hD hS rfl rfl dX3_fitWithoutRest_134
      · rw [if_neg c_10] at hu
        refine lv_iconst (v := 0) hx hb dX3_fitWithoutRest_80 (by decide) ?_
        have e9 := Eq.symm hu; subst e9
        exact x_zret (v := false) hx hb hr hlocks hQ hK hP hD hS rfl rfl dX3_fitWithoutRest_81
    · rw [if_neg c_5] at hu
      refine lv_iconst (v := 0) hx hb dX3_fitWithoutRest_31 (by decide) ?_
      have e9 := Eq.symm hu; subst e9
      exact x_zret (v := false) hx hb hr hlocks hQ hK hP hD hS rfl rfl dX3_fitWithoutRest_32
  · rw [if_pos c_1] at hu
    refine lv_iconst (v := 0) hx hb dX3_fitWithoutRest_10 (by decide) ?_
    have e9 := Eq.symm hu; subst e9
    exact x_zret (v := false) hx hb hr hlocks hQ hK hP hD hS rfl rfl dX3_fitWithoutRest_11

def Z_X3_fitRounded_J_24 (u1 : Int32) (n5 : Int32) (u9 : Int64 × Int32) : Int32 := (if (-383) < n5 then u1 else (bnd (F_X3_raise u1 (8 : Int32)) (fun u20 : Int32 => u20)))
def RZ_X3_fitRounded_J_24 (u1 : Int32) (n5 : Int32) (u9 : Int64 × Int32) (u9 : Int32) : Prop := (if (-383) < n5 then u9 = u1 else (∀ u20 : Int32, u20 = F_X3_raise u1 (8 : Int32) → u9 = u20))
theorem rZ_X3_fitRounded_J_24 (u1 : Int32) (n5 : Int32) (u9 : Int64 × Int32) {u9 : Int32} (hu : u9 = Z_X3_fitRounded_J_24 u1 n5 u9) : RZ_X3_fitRounded_J_24 u1 n5 u9 u9 := by
  unfold RZ_X3_fitRounded_J_24
  refine ite_P (fun c_19 => ?_) (fun c_19 => ?_)
  · have hu := hu.trans (if_pos c_19)
    exact hu
  · have hu := hu.trans (if_neg c_19)
    intro u20 eu20
    have hu := bnd_n hu eu20
    exact hu
def Z_X3_fitRounded_J_17 (n6 : Int32) (u9 : Int64 × Int32) (n12 : Int64) : Int32 × Int64 := (if n12 < 10000000000000000 then (n6, n12) else (bnd (n6 + 1) (fun n14 : Int32 => (n14, 1000000000000000))))
def RZ_X3_fitRounded_J_17 (n6 : Int32) (u9 : Int64 × Int32) (n12 : Int64) (u9 : Int32 × Int64) : Prop := (if n12 < 10000000000000000 then u9 = (n6, n12) else (∀ n14 : Int32, n14 = n6 + 1 → u9 = (n14, 1000000000000000)))
theorem rZ_X3_fitRounded_J_17 (n6 : Int32) (u9 : Int64 × Int32) (n12 : Int64) {u9 : Int32 × Int64} (hu : u9 = Z_X3_fitRounded_J_17 n6 u9 n12) : RZ_X3_fitRounded_J_17 n6 u9 n12 u9 := by
  unfold RZ_X3_fitRounded_J_17
  refine ite_P (fun c_13 => ?_) (fun c_13 => ?_)
  · have hu := hu.trans (if_pos c_13)
    exact hu
  · have hu := hu.trans (if_neg c_13)
    intro n14 en14
    have hu := bnd_n hu en14
    exact hu
def F_X3_fitRounded (vrd : Int32) (vrn : Int32) (vom : Bool) (voh : Int64) (vol : Int64) (vop : Int32) (voe : Bool) (vok : Int64) (vos : Int32) (vso : Nat → Int32) (vmi : Nat → Bool) (vco : Nat → Int64) (vex : Nat → Int32)  : Int32 × Int64 × Int32 × (Nat → Int32) × (Nat → Bool) × (Nat → Int64) × (Nat → Int32) := (bnd (F_X3_raise vrn (16 : Int32)) (fun u1 : Int32 => (bnd (vop + (F_X1_digits voh vol)) (fun n5 : Int32 => (bnd (jmax (-398) (n5 - 16)) (fun n6 : Int32 => (if n6 ≤ 369 then (bnd (F_X1_cut voh vol voe (n6 - vop)) (fun u9 : Int64 × Int32 => (bnd (F_X3_roundedKept vrd u9.1 u9.2 vom) (fun n12 : Int64 => (bnd (Z_X3_fitRounded_J_17 n6 u9 n12) (fun z16 : Int32 × Int64 => (if z16.1 ≤ 369 then (bnd (Z_X3_fitRounded_J_24 u1 n5 u9) (fun z23 : Int32 => (bnd (F_X0_setFinite vso vmi vco vex 8 vom z16.2 z16.1) (fun u25 : (Nat → Int32) × (Nat → Bool) × (Nat → Int64) × (Nat → Int32) => (z23, u9.1, u9.2, u25.1, u25.2.1, u25.2.2.1, u25.2.2.2))))) else (bnd (F_X3_setTooGreat vrd u1 vom vso vmi vco vex) (fun u27 : Int32 × (Nat → Int32) × (Nat → Bool) × (Nat → Int64) × (Nat → Int32) => (u27.1, u9.1, u9.2, u27.2.1, u27.2.2.1, u27.2.2.2.1, u27.2.2.2.2)))))))))) else (bnd (F_X3_setTooGreat vrd u1 vom vso vmi vco vex) (fun u29 : Int32 × (Nat → Int32) × (Nat → Bool) × (Nat → Int64) × (Nat → Int32) => (u29.1, vok, vos, u29.2.1, u29.2.2.1, u29.2.2.2.1, u29.2.2.2.2))))))))))
def RF_X3_fitRounded (vrd : Int32) (vrn : Int32) (vom : Bool) (voh : Int64) (vol : Int64) (vop : Int32) (voe : Bool) (vok : Int64) (vos : Int32) (vso : Nat → Int32) (vmi : Nat → Bool) (vco : Nat → Int64) (vex : Nat → Int32)  (u9 : Int32 × Int64 × Int32 × (Nat → Int32) × (Nat → Bool) × (Nat → Int64) × (Nat → Int32)) : Prop := (∀ u1 : Int32, u1 = F_X3_raise vrn (16 : Int32) → (∀ n5 : Int32, n5 = vop + (F_X1_digits voh vol) → (∀ n6 : Int32, n6 = jmax (-398) (n5 - 16) → (if n6 ≤ 369 then (∀ u9 : Int64 × Int32, u9 = F_X1_cut voh vol voe (n6 - vop) → (∀ n12 : Int64, n12 = F_X3_roundedKept vrd u9.1 u9.2 vom → (∀ z16 : Int32 × Int64, z16 = Z_X3_fitRounded_J_17 n6 u9 n12 → (if z16.1 ≤ 369 then (∀ z23 : Int32, z23 = Z_X3_fitRounded_J_24 u1 n5 u9 → (∀ u25 : (Nat → Int32) × (Nat → Bool) × (Nat → Int64) × (Nat → Int32), u25 = F_X0_setFinite vso vmi vco vex 8 vom z16.2 z16.1 → u9 = (z23, u9.1, u9.2, u25.1, u25.2.1, u25.2.2.1, u25.2.2.2))) else (∀ u27 : Int32 × (Nat → Int32) × (Nat → Bool) × (Nat → Int64) × (Nat → Int32), u27 = F_X3_setTooGreat vrd u1 vom vso vmi vco vex → u9 = (u27.1, u9.1, u9.2, u27.2.1, u27.2.2.1, u27.2.2.2.1, u27.2.2.2.2)))))) else (∀ u29 : Int32 × (Nat → Int32) × (Nat → Bool) × (Nat → Int64) × (Nat → Int32), u29 = F_X3_setTooGreat vrd u1 vom vso vmi vco vex → u9 = (u29.1, vok, vos, u29.2.1, u29.2.2.1, u29.2.2.2.1, u29.2.2.2.2))))))
theorem rF_X3_fitRounded (vrd : Int32) (vrn : Int32) (vom : Bool) (voh : Int64) (vol : Int64) (vop : Int32) (voe : Bool) (vok : Int64) (vos : Int32) (vso : Nat → Int32) (vmi : Nat → Bool) (vco : Nat → Int64) (vex : Nat → Int32)  {u9 : Int32 × Int64 × Int32 × (Nat → Int32) × (Nat → Bool) × (Nat → Int64) × (Nat → Int32)} (hu : u9 = F_X3_fitRounded vrd vrn vom voh vol vop voe vok vos vso vmi vco vex) : RF_X3_fitRounded vrd vrn vom voh vol vop voe vok vos vso vmi vco vex u9 := by
  unfold RF_X3_fitRounded
  intro u1 eu1
  have hu := bnd_n hu eu1
  intro n5 en5
  have hu := bnd_n hu en5
  intro n6 en6
  have hu := bnd_n hu en6
  refine ite_P (fun c_7 => ?_) (fun c_7 => ?_)
  · have hu := hu.trans (if_pos c_7)
    intro u9 eu9
    have hu := bnd_n hu eu9
    intro n12 en12
    have hu := bnd_n hu en12
    intro z16 ez16
    have hu := bnd_n hu ez16
    refine ite_P (fun c_18 => ?_) (fun c_18 => ?_)
    · have hu := hu.trans (if_pos c_18)
      intro z23 ez23
      have hu := bnd_n hu ez23
      intro u25 eu25
      have hu := bnd_n hu eu25
      exact hu
    · have hu := hu.trans (if_neg c_18)
      intro u27 eu27
      have hu := bnd_n hu eu27
      exact hu
  · have hu := hu.trans (if_neg c_7)
    intro u29 eu29
    have hu := bnd_n hu eu29
    exact hu
def S_X3_fitRounded (vrd : Int32) (vrn : Int32) (vom : Bool) (voh : Int64) (vol : Int64) (vop : Int32) (voe : Bool) (vok : Int64) (vos : Int32) (vso : Nat → Int32) (vmi : Nat → Bool) (vco : Nat → Int64) (vex : Nat → Int32)  : Prop := (∀ u1 : Int32, u1 = F_X3_raise vrn (16 : Int32) → (S_X1_digits voh vol) ∧ (∀ n5 : Int32, n5 = vop + (F_X1_digits voh vol) → (∀ n6 : Int32, n6 = jmax (-398) (n5 - 16) → (if n6 ≤ 369 then S_X1_cut voh vol voe (n6 - vop) else True))))
def rm_X3_fitRounded : Room := { frames := 3, cells := 0, slots := 0, locals := 83 }
set_option maxHeartbeats 4000000 in
set_option maxRecDepth 100000 in
theorem c_X3_fitRounded (l : Launch) (D : va_G) (cR cI cJ cZ : ClassId) (t0 : Nat) (ax ar ao : Nat) (ad : Nat → Nat) (vrd : Int32) (vtr : Int32) (vsd : Int32) (vrn : Int32) (vom : Bool) (voh : Int64) (vol : Int64) (vop : Int32) (voe : Bool) (vow : Int32) (vok : Int64) (vos : Int32) (vso : Nat → Int32) (vmi : Nat → Bool) (vco : Nat → Int64) (vex : Nat → Int32)  (u : Int32 × Int64 × Int32 × (Nat → Int32) × (Nat → Bool) × (Nat → Int64) × (Nat → Int32)) (hu : u = F_X3_fitRounded vrd vrn vom voh vol vop voe vok vos vso vmi vco vex) (hs : S_X3_fitRounded vrd vrn vom voh vol vop voe vok vos vso vmi vco vex) : XM l D (xty cR cI cJ cZ) t0 yX3_fitRounded cX3_fitRounded 5 none rm_X3_fitRounded [.ref ax] none (xw cR ax ar ao ad vrd vtr vsd vrn vom voh vol vop voe vow vok vos vso vmi vco vex) (xw cR ax ar ao ad vrd vtr vsd u.1 vom voh vol vop voe vow u.2.1 u.2.2.1 u.2.2.2.1 u.2.2.2.2.1 u.2.2.2.2.2.1 u.2.2.2.2.2.2) := by
  refine XM.of (by decide) (Nat.le_of_ble_eq_true rfl) ?_
  intro p e s m args below meth c A Q F hK hP hD hA hSt hS hQ ls hl
  obtain ⟨hx, hb, hr, hts, hown, hlocks, hml⟩ := F
  have hCF : CallFix p m c cX3_fitRounded 5 s args gW RX3 := ⟨hx, hb, hml, hown, hts⟩
  unfold S_X3_fitRounded at hs
  have hu := rF_X3_fitRounded vrd vrn vom voh vol vop voe vok vos vso vmi vco vex hu
  unfold RF_X3_fitRounded at hu
  obtain ⟨H, eH⟩ : ∃ y9 : Heap, y9 = s.heap := ⟨_, rfl⟩
  obtain ⟨locs, eL⟩ : ∃ y9 : List Loc, y9 = [] := ⟨_, rfl⟩
  rw [← eL] at hS ⊢
  have hP : va_P D vwCl (xw cR ax ar ao ad vrd vtr vsd vrn vom voh vol vop voe vow vok vos vso vmi vco vex) H := by rw [eH]; exact hP
  have hS : va_S A s.heap H locs := by rw [eH]; exact hS
  suffices goal9 : W p l e rm_X3_fitRounded s m args below meth c H locs 0 0 Q (F0 m 0 ls []) from by rw [← eH]; exact goal9
  have hl : lv_has ls 5 [(0, .ref ax)] := hl
  have hi1 : ∀ w ∈ wsX10, w ∈ gW := inW_X1
  have hi3 : ∀ w ∈ wsX30, w ∈ gW := inW_X3
  refine lv_aload_n hx hb dX3_fitRounded_0 rfl (lv_at hl 0 rfl) ?_
  refine lv_bipush (v := 16) hx hb dX3_fitRounded_1 (by decide) ?_
  obtain ⟨u1, eu1⟩ : ∃ y9 : Int32, y9 = F_X3_raise vrn (16 : Int32) := ⟨_, rfl⟩
  have hs := hs _ eu1
  have hu := hu _ eu1
  refine x_V (As := [.int 16]) (rest := []) hCF (c_X3_raise l D cR cI cJ cZ t0 ax ar ao ad vrd vtr vsd vrn vom voh vol vop voe vow vok vos vso vmi vco vex (16 : Int32) u1 eu1) (x_cwV 1 hts (inW_6 _ (List.mem_of_getElem? (i := 23) rfl)) (inW_6 _ (List.mem_of_getElem? (i := 24) rfl)) (inW_6 _ (List.mem_of_getElem? (i := 25) rfl)) (inW_1 _ (List.mem_of_getElem? (i := 25) rfl)) (inW_6 _ (List.mem_of_getElem? (i := 26) rfl)) rfl rfl (by decide +kernel) ⟨Nat.le_of_ble_eq_true rfl, Nat.le_of_ble_eq_true rfl⟩) hK hP hD hS hA hSt 0 rfl rfl rfl hl.1 rfl (Nat.le_of_ble_eq_true rfl) dX3_fitRounded_3 ⟨Nat.le_of_ble_eq_true rfl, Nat.le_of_ble_eq_true rfl⟩ (fun H locs hP hD hS => ?_)
  show W p l e _ s m args below meth c H locs 0 0 Q (F0 m 6 ls [])
  refine lv_aload_n hx hb dX3_fitRounded_6 rfl (lv_at hl 0 rfl) ?_
  refine va_get (D := D) (ci := 4) (v := .ref ao) (C := RX3) (T := TX3) (N := 7) hx hb hts hi3 hown hK hP 0 rfl rfl 2 (by decide) (hts (.fieldLink RX3 23 "DecimalWords" "outcome" "LDecimalWords$Outcome;") (inW_4 _ (List.mem_of_getElem? (i := 25) rfl))) (fun _ h9 => h9) rfl dX3_fitRounded_7 ?_
  refine va_get (D := D) (ci := 3) (v := .int vop) (C := RX1) (T := TX1) (N := 8) hx hb hts hi1 hown hK hP 2 rfl rfl 3 (by decide) (hts (.fieldLink RX3 232 "DecimalWords$Outcome" "power" "I") (inW_7 _ (List.mem_of_getElem? (i := 7) rfl))) (fun _ h9 => h9) rfl dX3_fitRounded_10 ?_
  refine lv_aload_n hx hb dX3_fitRounded_13 rfl (lv_at hl 0 rfl) ?_
  refine va_get (D := D) (ci := 4) (v := .ref ao) (C := RX3) (T := TX3) (N := 7) hx hb hts hi3 hown hK hP 0 rfl rfl 2 (by decide) (hts (.fieldLink RX3 23 "DecimalWords" "outcome" "LDecimalWords$Outcome;") (inW_4 _ (List.mem_of_getElem? (i := 25) rfl))) (fun _ h9 => h9) rfl dX3_fitRounded_14 ?_
  obtain ⟨h_3, hs⟩ := hs
  refine x_V (As := []) (rest := [.int vop]) hCF (c_X1_digits l D cR cI cJ cZ t0 ax ar ao ad vrd vtr vsd u1 vom voh vol vop voe vow vok vos vso vmi vco vex _ rfl h_3) (x_cwV 0 hts (inW_7 _ (List.mem_of_getElem? (i := 16) rfl)) (inW_7 _ (List.mem_of_getElem? (i := 17) rfl)) (inW_7 _ (List.mem_of_getElem? (i := 18) rfl)) (inW_2 _ (List.mem_of_getElem? (i := 4) rfl)) (inW_1 _ (List.mem_of_getElem? (i := 23) rfl)) rfl rfl (by decide +kernel) ⟨Nat.le_of_ble_eq_true rfl, Nat.le_of_ble_eq_true rfl⟩) hK hP hD hS hA hSt 2 rfl rfl rfl hl.1 rfl (Nat.le_of_ble_eq_true rfl) dX3_fitRounded_17 ⟨Nat.le_of_ble_eq_true rfl, Nat.le_of_ble_eq_true rfl⟩ (fun H locs hP hD hS => ?_)
  show W p l e _ s m args below meth c H locs 0 0 Q (F0 m 20 ls (.int (F_X1_digits voh vol) :: [.int vop]))
  refine lv_iadd hx hb dX3_fitRounded_20 ?_
  refine lv_topi (fun n5 en5 => ?_)
  have hs := hs _ en5
  have hu := hu _ en5
  refine lv_istore_n (lv' := [(1, .int n5), (0, .ref ax)]) hx hb dX3_fitRounded_21 rfl hl (by decide) rfl (fun ls hl => ?_)
  refine lv_sipush (v := (-398)) hx hb dX3_fitRounded_22 (by decide) ?_
  refine lv_iload_n hx hb dX3_fitRounded_25 rfl (lv_at hl 0 rfl) ?_
  refine lv_bipush (v := 16) hx hb dX3_fitRounded_26 (by decide) ?_
  refine lv_isub hx hb dX3_fitRounded_28 ?_
  refine x_max hx hb hml hl.1 hts hown (inW_2 _ (List.mem_of_getElem? (i := 12) rfl)) (inW_2 _ (List.mem_of_getElem? (i := 13) rfl)) (inW_1 _ (List.mem_of_getElem? (i := 37) rfl)) (inW_2 _ (List.mem_of_getElem? (i := 14) rfl)) (Nat.le_of_ble_eq_true rfl) (Nat.le_of_ble_eq_true rfl) (Nat.le_of_ble_eq_true rfl) (Nat.le_of_ble_eq_true rfl) dX3_fitRounded_29 ?_
  refine lv_topi (fun n6 en6 => ?_)
  have hs := hs _ en6
  have hu := hu _ en6
  refine lv_istore_n (lv' := [(2, .int n6), (1, .int n5), (0, .ref ax)]) hx hb dX3_fitRounded_32 rfl hl (by decide) rfl (fun ls hl => ?_)
  refine lv_iload_n hx hb dX3_fitRounded_33 rfl (lv_at hl 0 rfl) ?_
  refine lv_sipush (v := 369) hx hb dX3_fitRounded_34 (by decide) ?_
  refine lv_icmp_le (tgt := 45) hx hb dX3_fitRounded_37 (by decide) (fun c_7 => ?_) (fun c_7 => ?_)
  · rw [if_pos c_7] at hs
    rw [if_pos c_7] at hu
    refine lv_aload_n hx hb dX3_fitRounded_45 rfl (lv_at hl 2 rfl) ?_
    refine va_get (D := D) (ci := 4) (v := .ref ao) (C := RX3) (T := TX3) (N := 7) hx hb hts hi3 hown hK hP 0 rfl rfl 2 (by decide) (hts (.fieldLink RX3 23 "DecimalWords" "outcome" "LDecimalWords$Outcome;") (inW_4 _ (List.mem_of_getElem? (i := 25) rfl))) (fun _ h9 => h9) rfl dX3_fitRounded_46 ?_
    refine lv_iload_n hx hb dX3_fitRounded_49 rfl (lv_at hl 0 rfl) ?_
    refine lv_aload_n hx hb dX3_fitRounded_50 rfl (lv_at hl 2 rfl) ?_
    refine va_get (D := D) (ci := 4) (v := .ref ao) (C := RX3) (T := TX3) (N := 7) hx hb hts hi3 hown hK hP 0 rfl rfl 2 (by decide) (hts (.fieldLink RX3 23 "DecimalWords" "outcome" "LDecimalWords$Outcome;") (inW_4 _ (List.mem_of_getElem? (i := 25) rfl))) (fun _ h9 => h9) rfl dX3_fitRounded_51 ?_
    refine va_get (D := D) (ci := 3) (v := .int vop) (C := RX1) (T := TX1) (N := 8) hx hb hts hi1 hown hK hP 2 rfl rfl 3 (by decide) (hts (.fieldLink RX3 232 "DecimalWords$Outcome" "power" "I") (inW_7 _ (List.mem_of_getElem? (i := 7) rfl))) (fun _ h9 => h9) rfl dX3_fitRounded_54 ?_
    refine lv_isub hx hb dX3_fitRounded_57 ?_
    have h_8 := hs
    obtain ⟨u9, eu9⟩ : ∃ y9 : Int64 × Int32, y9 = F_X1_cut voh vol voe (n6 - vop) := ⟨_, rfl⟩
    have hu := hu _ eu9
    refine x_V (As := [.int (n6 - vop)]) (rest := []) hCF (c_X1_cut l D cR cI cJ cZ t0 ax ar ao ad vrd vtr vsd u1 vom voh vol vop voe vow vok vos vso vmi vco vex (n6 - vop) u9 eu9 h_8) (x_cwV 1 hts (inW_7 _ (List.mem_of_getElem? (i := 23) rfl)) (inW_7 _ (List.mem_of_getElem? (i := 24) rfl)) (inW_7 _ (List.mem_of_getElem? (i := 25) rfl)) (inW_2 _ (List.mem_of_getElem? (i := 4) rfl)) (inW_2 _ (List.mem_of_getElem? (i := 32) rfl)) rfl rfl (by decide +kernel) ⟨Nat.le_of_ble_eq_true rfl, Nat.le_of_ble_eq_true rfl⟩) hK hP hD hS hA hSt 2 rfl rfl rfl hl.1 rfl (Nat.le_of_ble_eq_true rfl) dX3_fitRounded_58 ⟨Nat.le_of_ble_eq_true rfl, Nat.le_of_ble_eq_true rfl⟩ (fun H locs hP hD hS => ?_)
    show W p l e _ s m args below meth c H locs 0 0 Q (F0 m 61 ls [])
    refine lv_aload_n hx hb dX3_fitRounded_61 rfl (lv_at hl 2 rfl) ?_
    refine lv_aload_n hx hb dX3_fitRounded_62 rfl (lv_at hl 2 rfl) ?_
    refine va_get (D := D) (ci := 4) (v := .ref ao) (C := RX3) (T := TX3) (N := 7) hx hb hts hi3 hown hK hP 0 rfl rfl 2 (by decide) (hts (.fieldLink RX3 23 "DecimalWords" "outcome" "LDecimalWords$Outcome;") (inW_4 _ (List.mem_of_getElem? (i := 25) rfl))) (fun _ h9 => h9) rfl dX3_fitRounded_63 ?_
    refine va_get (D := D) (ci := 3) (v := .int (bI vom)) (C := RX1) (T := TX1) (N := 8) hx hb hts hi1 hown hK hP 2 rfl rfl 0 (by decide) (hts (.fieldLink RX3 216 "DecimalWords$Outcome" "minus" "Z") (inW_6 _ (List.mem_of_getElem? (i := 39) rfl))) (fun _ h9 => h9) rfl dX3_fitRounded_66 ?_
    refine x_V (As := [.int (bI vom)]) (rest := []) hCF (c_X3_roundedKept l D cR cI cJ cZ t0 ax ar ao ad vrd vtr vsd u1 vom voh vol vop voe vow u9.1 u9.2 vso vmi vco vex vom _ rfl) (x_cwV 1 hts (inW_7 _ (List.mem_of_getElem? (i := 26) rfl)) (inW_7 _ (List.mem_of_getElem? (i := 27) rfl)) (inW_7 _ (List.mem_of_getElem? (i := 28) rfl)) (inW_1 _ (List.mem_of_getElem? (i := 25) rfl)) (inW_7 _ (List.mem_of_getElem? (i := 29) rfl)) rfl rfl (by decide +kernel) ⟨Nat.le_of_ble_eq_true rfl, Nat.le_of_ble_eq_true rfl⟩) hK hP hD hS hA hSt 0 rfl rfl rfl hl.1 rfl (Nat.le_of_ble_eq_true rfl) dX3_fitRounded_69 ⟨Nat.le_of_ble_eq_true rfl, Nat.le_of_ble_eq_true rfl⟩ (fun H locs hP hD hS => ?_)
    show W p l e _ s m args below meth c H locs 0 0 Q (F0 m 72 ls (.long (F_X3_roundedKept vrd u9.1 u9.2 vom) :: []))
    refine lv_topl (fun n12 en12 => ?_)
    have hu := hu _ en12
    refine lv_lstore_n (lv' := [(3, .long n12), (2, .int n6), (1, .int n5), (0, .ref ax)]) hx hb dX3_fitRounded_72 rfl hl (by decide) rfl (fun ls hl => ?_)
    refine lv_lload_n hx hb dX3_fitRounded_73 rfl (lv_at hl 0 rfl) ?_
    refine lv_ldc2 (v := 10000000000000000) hx hb hown (hts (.constantLong RX3 44 (10000000000000000)) (inW_4 _ (List.mem_of_getElem? (i := 35) rfl))) dX3_fitRounded_74 ?_
    have J_17 : (∀ z16 : Int32 × Int64, z16 = Z_X3_fitRounded_J_17 n6 u9 n12 → ∀ (H : Heap) (locs : List Loc), va_P D vwCl (xw cR ax ar ao ad vrd vtr vsd u1 vom voh vol vop voe vow u9.1 u9.2 vso vmi vco vex) H → va_D A (xw cR ax ar ao ad vrd vtr vsd u1 vom voh vol vop voe vow u9.1 u9.2 vso vmi vco vex) → va_S A s.heap H locs → ∀ ls : Array Slot, lv_has ls 5 [(0, .ref ax), (1, .int n5), (2, .int z16.1), (3, .long z16.2)] → W p l e rm_X3_fitRounded s m args below meth c H locs 0 0 Q (F0 m 88 ls [])) := by
      intro z16 ez16 H locs hP hD hS ls hl
      have hu := hu _ ez16
      refine lv_iload_n hx hb dX3_fitRounded_88 rfl (lv_at hl 2 rfl) ?_
      refine lv_sipush (v := 369) hx hb dX3_fitRounded_89 (by decide) ?_
      refine lv_icmp_le (tgt := 100) hx hb dX3_fitRounded_92 (by decide) (fun c_18 => ?_) (fun c_18 => ?_)
      · rw [if_pos c_18] at hu
        refine lv_iload_n hx hb dX3_fitRounded_100 rfl (lv_at hl 1 rfl) ?_
        refine lv_sipush (v := (-383)) hx hb dX3_fitRounded_101 (by decide) ?_
        have J_24 : (∀ z23 : Int32, z23 = Z_X3_fitRounded_J_24 u1 n5 u9 → ∀ (H : Heap) (locs : List Loc), va_P D vwCl (xw cR ax ar ao ad vrd vtr vsd z23 vom voh vol vop voe vow u9.1 u9.2 vso vmi vco vex) H → va_D A (xw cR ax ar ao ad vrd vtr vsd z23 vom voh vol vop voe vow u9.1 u9.2 vso vmi vco vex) → va_S A s.heap H locs → ∀ ls : Array Slot, lv_has ls 5 [(0, .ref ax), (2, .int z16.1), (3, .long z16.2)] → W p l e rm_X3_fitRounded s m args below meth c H locs 0 0 Q (F0 m 113 ls [])) := by
          intro z23 ez23 H locs hP hD hS ls hl
          have hu := hu _ ez23
          refine lv_aload_n hx hb dX3_fitRounded_113 rfl (lv_at hl 0 rfl) ?_
          refine va_get (D := D) (ci := 4) (v := .ref (ad 8)) (C := RX3) (T := TX3) (N := 7) hx hb hts hi3 hown hK hP 0 rfl rfl 1 (by decide) (hts (.fieldLink RX3 16 "DecimalWords" "result" "LDecimalWords$Datum;") (inW_4 _ (List.mem_of_getElem? (i := 22) rfl))) (fun _ h9 => h9) rfl dX3_fitRounded_114 ?_
          refine lv_aload_n hx hb dX3_fitRounded_117 rfl (lv_at hl 0 rfl) ?_
          refine va_get (D := D) (ci := 4) (v := .ref ao) (C := RX3) (T := TX3) (N := 7) hx hb hts hi3 hown hK hP 0 rfl rfl 2 (by decide) (hts (.fieldLink RX3 23 "DecimalWords" "outcome" "LDecimalWords$Outcome;") (inW_4 _ (List.mem_of_getElem? (i := 25) rfl))) (fun _ h9 => h9) rfl dX3_fitRounded_118 ?_
          refine va_get (D := D) (ci := 3) (v := .int (bI vom)) (C := RX1) (T := TX1) (N := 8) hx hb hts hi1 hown hK hP 2 rfl rfl 0 (by decide) (hts (.fieldLink RX3 216 "DecimalWords$Outcome" "minus" "Z") (inW_6 _ (List.mem_of_getElem? (i := 39) rfl))) (fun _ h9 => h9) rfl dX3_fitRounded_121 ?_
          refine lv_lload_n hx hb dX3_fitRounded_124 rfl (lv_at hl 2 rfl) ?_
          refine lv_iload_n hx hb dX3_fitRounded_125 rfl (lv_at hl 1 rfl) ?_
          obtain ⟨u25, eu25⟩ : ∃ y9 : (Nat → Int32) × (Nat → Bool) × (Nat → Int64) × (Nat → Int32), y9 = F_X0_setFinite vso vmi vco vex 8 vom z16.2 z16.1 := ⟨_, rfl⟩
          have hu := hu _ eu25
          refine x_V (As := [.int (bI vom), .long z16.2, .int z16.1]) (rest := []) hCF (c_X0_setFinite l D cR cI cJ cZ t0 ax ar ao ad vrd vtr vsd z23 vom voh vol vop voe vow u9.1 u9.2 vso vmi vco vex 8 vom z16.2 z16.1 u25 eu25 (by decide)) (x_cwV 3 hts (inW_5 _ (List.mem_of_getElem? (i := 1) rfl)) (inW_4 _ (List.mem_of_getElem? (i := 9) rfl)) (inW_4 _ (List.mem_of_getElem? (i := 10) rfl)) (inW_1 _ (List.mem_of_getElem? (i := 16) rfl)) (inW_1 _ (List.mem_of_getElem? (i := 3) rfl)) rfl rfl (by decide +kernel) ⟨Nat.le_of_ble_eq_true rfl, Nat.le_of_ble_eq_true rfl⟩) hK hP hD hS hA hSt (3 + 8) (xw_dat (by decide)) rfl rfl hl.1 rfl (Nat.le_of_ble_eq_true rfl) dX3_fitRounded_126 ⟨Nat.le_of_ble_eq_true rfl, Nat.le_of_ble_eq_true rfl⟩ (fun H locs hP hD hS => ?_)
          show W p l e _ s m args below meth c H locs 0 0 Q (F0 m 129 ls [])
          have e9 := Eq.symm hu; subst e9
          exact x_vret hx hb hr hlocks hQ hK hP hD hS rfl dX3_fitRounded_129
        obtain ⟨z9, ez9⟩ : ∃ y9 : Int32, y9 = Z_X3_fitRounded_J_24 u1 n5 u9 := ⟨_, rfl⟩
        have hz := rZ_X3_fitRounded_J_24 u1 n5 u9 ez9
        unfold RZ_X3_fitRounded_J_24 at hz
        refine lv_icmp_gt (tgt := 113) hx hb dX3_fitRounded_104 (by decide) (fun c_19 => ?_) (fun c_19 => ?_)
        · rw [if_pos c_19] at hz
          have e9 := Eq.symm hz; subst e9
          exact J_24 _ ez9 H locs hP hD hS ls (lv_sub hl [0, 2, 3] rfl)
        · rw [if_neg c_19] at hz
          refine lv_aload_n hx hb dX3_fitRounded_107 rfl (lv_at hl 0 rfl) ?_
          refine lv_bipush (v := 8) hx hb dX3_fitRounded_108 (by decide) ?_
          obtain ⟨u20, eu20⟩ : ∃ y9 : Int32, y9 = F_X3_raise u1 (8 : Int32) := ⟨_, rfl⟩
          have hz := hz _ eu20
          refine x_V (As := [.int 8]) (rest := []) hCF (c_X3_raise l D cR cI cJ cZ t0 ax ar ao ad vrd vtr vsd u1 vom voh vol vop voe vow u9.1 u9.2 vso vmi vco vex (8 : Int32) u20 eu20) (x_cwV 1 hts (inW_6 _ (List.mem_of_getElem? (i := 23) rfl)) (inW_6 _ (List.mem_of_getElem? (i := 24) rfl)) (inW_6 _ (List.mem_of_getElem? (i := 25) rfl)) (inW_1 _ (List.mem_of_getElem? (i := 25) rfl)) (inW_6 _ (List.mem_of_getElem? (i := 26) rfl)) rfl rfl (by decide +kernel) ⟨Nat.le_of_ble_eq_true rfl, Nat.le_of_ble_eq_true rfl⟩) hK hP hD hS hA hSt 0 rfl rfl rfl hl.1 rfl (Nat.le_of_ble_eq_true rfl) dX3_fitRounded_110 ⟨Nat.le_of_ble_eq_true rfl, Nat.le_of_ble_eq_true rfl⟩ (fun H locs hP hD hS => ?_)
          show W p l e _ s m args below meth c H locs 0 0 Q (F0 m 113 ls [])
          have e9 := Eq.symm hz; subst e9
          exact J_24 _ ez9 H locs hP hD hS ls (lv_sub hl [0, 2, 3] rfl)
      · rw [if_neg c_18] at hu
        refine lv_aload_n hx hb dX3_fitRounded_95 rfl (lv_at hl 0 rfl) ?_
        obtain ⟨u27, eu27⟩ : ∃ y9 : Int32 × (Nat → Int32) × (Nat → Bool) × (Nat → Int64) × (Nat → Int32), y9 = F_X3_setTooGreat vrd u1 vom vso vmi vco vex := ⟨_, rfl⟩
        have hu := hu _ eu27
        refine x_V (As := []) (rest := []) hCF (c_X3_setTooGreat l D cR cI cJ cZ t0 ax ar ao ad vrd vtr vsd u1 vom voh vol vop voe vow u9.1 u9.2 vso vmi vco vex u27 eu27) (x_cwV 0 hts (inW_7 _ (List.mem_of_getElem? (i := 19) rfl)) (inW_7 _ (List.mem_of_getElem? (i := 20) rfl)) (inW_7 _ (List.mem_of_getElem? (i := 21) rfl)) (inW_1 _ (List.mem_of_getElem? (i := 25) rfl)) (inW_7 _ (List.mem_of_getElem? (i := 22) rfl)) rfl rfl (by decide +kernel) ⟨Nat.le_of_ble_eq_true rfl, Nat.le_of_ble_eq_true rfl⟩) hK hP hD hS hA hSt 0 rfl rfl rfl hl.1 rfl (Nat.le_of_ble_eq_true rfl) dX3_fitRounded_96 ⟨Nat.le_of_ble_eq_true rfl, Nat.le_of_ble_eq_true rfl⟩ (fun H locs hP hD hS => ?_)
        show W p l e _ s m args below meth c H locs 0 0 Q (F0 m 99 ls [])
        have e9 := Eq.symm hu; subst e9
        exact x_vret hx hb hr hlocks hQ hK hP hD hS rfl dX3_fitRounded_99
    obtain ⟨z9, ez9⟩ : ∃ y9 : Int32 × Int64, y9 = Z_X3_fitRounded_J_17 n6 u9 n12 := ⟨_, rfl⟩
    have hz := rZ_X3_fitRounded_J_17 n6 u9 n12 ez9
    unfold RZ_X3_fitRounded_J_17 at hz
    refine xl_lt (tgt := 88) hx hb dX3_fitRounded_77 dX3_fitRounded_78 (by decide) (fun c_13 => ?_) (fun c_13 => ?_)
    · rw [if_pos c_13] at hz
      have e9 := Eq.symm hz; subst e9
      exact J_17 _ ez9 H locs hP hD hS ls (lv_sub hl [3, 2, 1, 0] rfl)
    · rw [if_neg c_13] at hz
      refine lv_ldc2 (v := 1000000000000000) hx hb hown (hts (.constantLong RX3 207 (1000000000000000)) (inW_5 _ (List.mem_of_getElem? (i := 32) rfl))) dX3_fitRounded_81 ?_
      refine lv_lstore_n (lv' := [(3, .long 1000000000000000), (2, .int n6), (1, .int n5), (0, .ref ax)]) hx hb dX3_fitRounded_84 rfl hl (by decide) rfl (fun ls hl => ?_)
      obtain ⟨n14, en14⟩ : ∃ y9 : Int32, y9 = n6 + 1 := ⟨_, rfl⟩
      have hz := hz _ en14
      refine lv_iinc (v := n14) (lv' := [(2, .int n14), (3, .long 1000000000000000), (1, .int n5), (0, .ref ax)]) hx hb dX3_fitRounded_85 hl (k := 1) rfl (by rw [en14]; rfl) (by decide) rfl (fun ls hl => ?_)
      have e9 := Eq.symm hz; subst e9
      exact J_17 _ ez9 H locs hP hD hS ls (lv_sub hl [3, 2, 0, 1] rfl)
  · rw [if_neg c_7] at hu
    refine lv_aload_n hx hb dX3_fitRounded_40 rfl (lv_at hl 2 rfl) ?_
    obtain ⟨u29, eu29⟩ : ∃ y9 : Int32 × (Nat → Int32) × (Nat → Bool) × (Nat → Int64) × (Nat → Int32), y9 = F_X3_setTooGreat vrd u1 vom vso vmi vco vex := ⟨_, rfl⟩
    have hu := hu _ eu29
    refine x_V (As := []) (rest := []) hCF (c_X3_setTooGreat l D cR cI cJ cZ t0 ax ar ao ad vrd vtr vsd u1 vom voh vol vop voe vow vok vos vso vmi vco vex u29 eu29) (x_cwV 0 hts (inW_7 _ (List.mem_of_getElem? (i := 19) rfl)) (inW_7 _ (List.mem_of_getElem? (i := 20) rfl)) (inW_7 _ (List.mem_of_getElem? (i := 21) rfl)) (inW_1 _ (List.mem_of_getElem? (i := 25) rfl)) (inW_7 _ (List.mem_of_getElem? (i := 22) rfl)) rfl rfl (by decide +kernel) ⟨Nat.le_of_ble_eq_true rfl, Nat.le_of_ble_eq_true rfl⟩) hK hP hD hS hA hSt 0 rfl rfl rfl hl.1 rfl (Nat.le_of_ble_eq_true rfl) dX3_fitRounded_41 ⟨Nat.le_of_ble_eq_true rfl, Nat.le_of_ble_eq_true rfl⟩ (fun H locs hP hD hS => ?_)
    show W p l e _ s m args below meth c H locs 0 0 Q (F0 m 44 ls [])
    have e9 := Eq.symm hu; subst e9
    exact x_vret hx hb hr hlocks hQ hK hP hD hS rfl dX3_fitRounded_44

def F_X3_fit (vrd : Int32) (vrn : Int32) (vom : Bool) (voh : Int64) (vol : Int64) (vop : Int32) (voe : Bool) (vow : Int32) (vok : Int64) (vos : Int32) (vso : Nat → Int32) (vmi : Nat → Bool) (vco : Nat → Int64) (vex : Nat → Int32)  : Int32 × Int64 × Int64 × Int32 × Int64 × Int32 × (Nat → Int32) × (Nat → Bool) × (Nat → Int64) × (Nat → Int32) := (if F_X1_isZero voh vol voe = true then (bnd (jmax (-398) (jmin vow 369)) (fun n10 : Int32 => (bnd (F_X0_setFinite vso vmi vco vex 8 vom (0 : Int64) n10) (fun u11 : (Nat → Int32) × (Nat → Bool) × (Nat → Int64) × (Nat → Int32) => (vrn, voh, vol, vop, vok, vos, u11.1, u11.2.1, u11.2.2.1, u11.2.2.2))))) else (bnd (F_X3_fitWithoutRest vom voh vol vop voe vow vso vmi vco vex) (fun u4 : Bool × Int64 × Int64 × Int32 × (Nat → Int32) × (Nat → Bool) × (Nat → Int64) × (Nat → Int32) => (if u4.1 = true then (vrn, u4.2.1, u4.2.2.1, u4.2.2.2.1, vok, vos, u4.2.2.2.2.1, u4.2.2.2.2.2.1, u4.2.2.2.2.2.2.1, u4.2.2.2.2.2.2.2) else (bnd (F_X3_fitRounded vrd vrn vom u4.2.1 u4.2.2.1 u4.2.2.2.1 voe vok vos u4.2.2.2.2.1 u4.2.2.2.2.2.1 u4.2.2.2.2.2.2.1 u4.2.2.2.2.2.2.2) (fun u8 : Int32 × Int64 × Int32 × (Nat → Int32) × (Nat → Bool) × (Nat → Int64) × (Nat → Int32) => (u8.1, u4.2.1, u4.2.2.1, u4.2.2.2.1, u8.2.1, u8.2.2.1, u8.2.2.2.1, u8.2.2.2.2.1, u8.2.2.2.2.2.1, u8.2.2.2.2.2.2)))))))
def RF_X3_fit (vrd : Int32) (vrn : Int32) (vom : Bool) (voh : Int64) (vol : Int64) (vop : Int32) (voe : Bool) (vow : Int32) (vok : Int64) (vos : Int32) (vso : Nat → Int32) (vmi : Nat → Bool) (vco : Nat → Int64) (vex : Nat → Int32)  (u9 : Int32 × Int64 × Int64 × Int32 × Int64 × Int32 × (Nat → Int32) × (Nat → Bool) × (Nat → Int64) × (Nat → Int32)) : Prop := (if F_X1_isZero voh vol voe = true then (∀ n10 : Int32, n10 = jmax (-398) (jmin vow 369) → (∀ u11 : (Nat → Int32) × (Nat → Bool) × (Nat → Int64) × (Nat → Int32), u11 = F_X0_setFinite vso vmi vco vex 8 vom (0 : Int64) n10 → u9 = (vrn, voh, vol, vop, vok, vos, u11.1, u11.2.1, u11.2.2.1, u11.2.2.2))) else (∀ u4 : Bool × Int64 × Int64 × Int32 × (Nat → Int32) × (Nat → Bool) × (Nat → Int64) × (Nat → Int32), u4 = F_X3_fitWithoutRest vom voh vol vop voe vow vso vmi vco vex → (if u4.1 = true then u9 = (vrn, u4.2.1, u4.2.2.1, u4.2.2.2.1, vok, vos, u4.2.2.2.2.1, u4.2.2.2.2.2.1, u4.2.2.2.2.2.2.1, u4.2.2.2.2.2.2.2) else (∀ u8 : Int32 × Int64 × Int32 × (Nat → Int32) × (Nat → Bool) × (Nat → Int64) × (Nat → Int32), u8 = F_X3_fitRounded vrd vrn vom u4.2.1 u4.2.2.1 u4.2.2.2.1 voe vok vos u4.2.2.2.2.1 u4.2.2.2.2.2.1 u4.2.2.2.2.2.2.1 u4.2.2.2.2.2.2.2 → u9 = (u8.1, u4.2.1, u4.2.2.1, u4.2.2.2.1, u8.2.1, u8.2.2.1, u8.2.2.2.1, u8.2.2.2.2.1, u8.2.2.2.2.2.1, u8.2.2.2.2.2.2)))))
theorem rF_X3_fit (vrd : Int32) (vrn : Int32) (vom : Bool) (voh : Int64) (vol : Int64) (vop : Int32) (voe : Bool) (vow : Int32) (vok : Int64) (vos : Int32) (vso : Nat → Int32) (vmi : Nat → Bool) (vco : Nat → Int64) (vex : Nat → Int32)  {u9 : Int32 × Int64 × Int64 × Int32 × Int64 × Int32 × (Nat → Int32) × (Nat → Bool) × (Nat → Int64) × (Nat → Int32)} (hu : u9 = F_X3_fit vrd vrn vom voh vol vop voe vow vok vos vso vmi vco vex) : RF_X3_fit vrd vrn vom voh vol vop voe vow vok vos vso vmi vco vex u9 := by
  unfold RF_X3_fit
  refine ite_P (fun c_2 => ?_) (fun c_2 => ?_)
  · have hu := hu.trans (if_pos c_2)
    intro n10 en10
    have hu := bnd_n hu en10
    intro u11 eu11
    have hu := bnd_n hu eu11
    exact hu
  · have hu := hu.trans (if_neg c_2)
    intro u4 eu4
    have hu := bnd_n hu eu4
    refine ite_P (fun c_6 => ?_) (fun c_6 => ?_)
    · have hu := hu.trans (if_pos c_6)
      exact hu
    · have hu := hu.trans (if_neg c_6)
      intro u8 eu8
      have hu := bnd_n hu eu8
      exact hu
def S_X3_fit (vrd : Int32) (vrn : Int32) (vom : Bool) (voh : Int64) (vol : Int64) (vop : Int32) (voe : Bool) (vow : Int32) (vok : Int64) (vos : Int32) (vso : Nat → Int32) (vmi : Nat → Bool) (vco : Nat → Int64) (vex : Nat → Int32)  : Prop := (if F_X1_isZero voh vol voe = true then True else (S_X3_fitWithoutRest vom voh vol vop voe vow vso vmi vco vex) ∧ (∀ u4 : Bool × Int64 × Int64 × Int32 × (Nat → Int32) × (Nat → Bool) × (Nat → Int64) × (Nat → Int32), u4 = F_X3_fitWithoutRest vom voh vol vop voe vow vso vmi vco vex → (if u4.1 = true then True else S_X3_fitRounded vrd vrn vom u4.2.1 u4.2.2.1 u4.2.2.2.1 voe vok vos u4.2.2.2.2.1 u4.2.2.2.2.2.1 u4.2.2.2.2.2.2.1 u4.2.2.2.2.2.2.2)))
def rm_X3_fit : Room := { frames := 4, cells := 0, slots := 0, locals := 107 }
set_option maxHeartbeats 4000000 in
set_option maxRecDepth 100000 in
theorem c_X3_fit (l : Launch) (D : va_G) (cR cI cJ cZ : ClassId) (t0 : Nat) (ax ar ao : Nat) (ad : Nat → Nat) (vrd : Int32) (vtr : Int32) (vsd : Int32) (vrn : Int32) (vom : Bool) (voh : Int64) (vol : Int64) (vop : Int32) (voe : Bool) (vow : Int32) (vok : Int64) (vos : Int32) (vso : Nat → Int32) (vmi : Nat → Bool) (vco : Nat → Int64) (vex : Nat → Int32)  (u : Int32 × Int64 × Int64 × Int32 × Int64 × Int32 × (Nat → Int32) × (Nat → Bool) × (Nat → Int64) × (Nat → Int32)) (hu : u = F_X3_fit vrd vrn vom voh vol vop voe vow vok vos vso vmi vco vex) (hs : S_X3_fit vrd vrn vom voh vol vop voe vow vok vos vso vmi vco vex) : XM l D (xty cR cI cJ cZ) t0 yX3_fit cX3_fit 2 none rm_X3_fit [.ref ax] none (xw cR ax ar ao ad vrd vtr vsd vrn vom voh vol vop voe vow vok vos vso vmi vco vex) (xw cR ax ar ao ad vrd vtr vsd u.1 vom u.2.1 u.2.2.1 u.2.2.2.1 voe vow u.2.2.2.2.1 u.2.2.2.2.2.1 u.2.2.2.2.2.2.1 u.2.2.2.2.2.2.2.1 u.2.2.2.2.2.2.2.2.1 u.2.2.2.2.2.2.2.2.2) := by
  refine XM.of (by decide) (Nat.le_of_ble_eq_true rfl) ?_
  intro p e s m args below meth c A Q F hK hP hD hA hSt hS hQ ls hl
  obtain ⟨hx, hb, hr, hts, hown, hlocks, hml⟩ := F
  have hCF : CallFix p m c cX3_fit 2 s args gW RX3 := ⟨hx, hb, hml, hown, hts⟩
  unfold S_X3_fit at hs
  have hu := rF_X3_fit vrd vrn vom voh vol vop voe vow vok vos vso vmi vco vex hu
  unfold RF_X3_fit at hu
  obtain ⟨H, eH⟩ : ∃ y9 : Heap, y9 = s.heap := ⟨_, rfl⟩
  obtain ⟨locs, eL⟩ : ∃ y9 : List Loc, y9 = [] := ⟨_, rfl⟩
  rw [← eL] at hS ⊢
  have hP : va_P D vwCl (xw cR ax ar ao ad vrd vtr vsd vrn vom voh vol vop voe vow vok vos vso vmi vco vex) H := by rw [eH]; exact hP
  have hS : va_S A s.heap H locs := by rw [eH]; exact hS
  suffices goal9 : W p l e rm_X3_fit s m args below meth c H locs 0 0 Q (F0 m 0 ls []) from by rw [← eH]; exact goal9
  have hl : lv_has ls 2 [(0, .ref ax)] := hl
  have hi1 : ∀ w ∈ wsX10, w ∈ gW := inW_X1
  have hi3 : ∀ w ∈ wsX30, w ∈ gW := inW_X3
  refine lv_aload_n hx hb dX3_fit_0 rfl (lv_at hl 0 rfl) ?_
  refine va_get (D := D) (ci := 4) (v := .ref ao) (C := RX3) (T := TX3) (N := 7) hx hb hts hi3 hown hK hP 0 rfl rfl 2 (by decide) (hts (.fieldLink RX3 23 "DecimalWords" "outcome" "LDecimalWords$Outcome;") (inW_4 _ (List.mem_of_getElem? (i := 25) rfl))) (fun _ h9 => h9) rfl dX3_fit_1 ?_
  refine x_V (As := []) (rest := []) hCF (c_X1_isZero l D cR cI cJ cZ t0 ax ar ao ad vrd vtr vsd vrn vom voh vol vop voe vow vok vos vso vmi vco vex _ rfl) (x_cwV 0 hts (inW_7 _ (List.mem_of_getElem? (i := 0) rfl)) (inW_2 _ (List.mem_of_getElem? (i := 21) rfl)) (inW_2 _ (List.mem_of_getElem? (i := 22) rfl)) (inW_2 _ (List.mem_of_getElem? (i := 4) rfl)) (inW_1 _ (List.mem_of_getElem? (i := 19) rfl)) rfl rfl (by decide +kernel) ⟨Nat.le_of_ble_eq_true rfl, Nat.le_of_ble_eq_true rfl⟩) hK hP hD hS hA hSt 2 rfl rfl rfl hl.1 rfl (Nat.le_of_ble_eq_true rfl) dX3_fit_4 ⟨Nat.le_of_ble_eq_true rfl, Nat.le_of_ble_eq_true rfl⟩ (fun H locs hP hD hS => ?_)
  show W p l e _ s m args below meth c H locs 0 0 Q (F0 m 7 ls (.int (bI (F_X1_isZero voh vol voe)) :: []))
  refine xb_eq (tgt := 49) hx hb dX3_fit_7 (by decide) (fun c_2 => ?_) (fun c_2 => ?_)
  · rw [if_neg c_2] at hs
    rw [if_neg c_2] at hu
    refine lv_aload_n hx hb dX3_fit_49 rfl (lv_at hl 0 rfl) ?_
    obtain ⟨h_3, hs⟩ := hs
    obtain ⟨u4, eu4⟩ : ∃ y9 : Bool × Int64 × Int64 × Int32 × (Nat → Int32) × (Nat → Bool) × (Nat → Int64) × (Nat → Int32), y9 = F_X3_fitWithoutRest vom voh vol vop voe vow vso vmi vco vex := ⟨_, rfl⟩
    have hs := hs _ eu4
    have hu := hu _ eu4
    refine x_V (As := []) (rest := []) hCF (c_X3_fitWithoutRest l D cR cI cJ cZ t0 ax ar ao ad vrd vtr vsd vrn vom voh vol vop voe vow vok vos vso vmi vco vex u4 eu4 h_3) (x_cwV 0 hts (inW_7 _ (List.mem_of_getElem? (i := 1) rfl)) (inW_7 _ (List.mem_of_getElem? (i := 2) rfl)) (inW_7 _ (List.mem_of_getElem? (i := 3) rfl)) (inW_1 _ (List.mem_of_getElem? (i := 25) rfl)) (inW_7 _ (List.mem_of_getElem? (i := 4) rfl)) rfl rfl (by decide +kernel) ⟨Nat.le_of_ble_eq_true rfl, Nat.le_of_ble_eq_true rfl⟩) hK hP hD hS hA hSt 0 rfl rfl rfl hl.1 rfl (Nat.le_of_ble_eq_true rfl) dX3_fit_50 ⟨Nat.le_of_ble_eq_true rfl, Nat.le_of_ble_eq_true rfl⟩ (fun H locs hP hD hS => ?_)
    show W p l e _ s m args below meth c H locs 0 0 Q (F0 m 53 ls (.int (bI u4.1) :: []))
    refine xb_ne (tgt := 60) hx hb dX3_fit_53 (by decide) (fun c_6 => ?_) (fun c_6 => ?_)
    · rw [if_pos c_6] at hu
      have e9 := Eq.symm hu; subst e9
      exact x_vret hx hb hr hlocks hQ hK hP hD hS rfl dX3_fit_60
    · rw [if_neg c_6] at hs
      rw [if_neg c_6] at hu
      refine lv_aload_n hx hb dX3_fit_56 rfl (lv_at hl 0 rfl) ?_
      have h_7 := hs
      obtain ⟨u8, eu8⟩ : ∃ y9 : Int32 × Int64 × Int32 × (Nat → Int32) × (Nat → Bool) × (Nat → Int64) × (Nat → Int32), y9 = F_X3_fitRounded vrd vrn vom u4.2.1 u4.2.2.1 u4.2.2.2.1 voe vok vos u4.2.2.2.2.1 u4.2.2.2.2.2.1 u4.2.2.2.2.2.2.1 u4.2.2.2.2.2.2.2 := ⟨_, rfl⟩
      have hu := hu _ eu8
      refine x_V (As := []) (rest := []) hCF (c_X3_fitRounded l D cR cI cJ cZ t0 ax ar ao ad vrd vtr vsd vrn vom u4.2.1 u4.2.2.1 u4.2.2.2.1 voe vow vok vos u4.2.2.2.2.1 u4.2.2.2.2.2.1 u4.2.2.2.2.2.2.1 u4.2.2.2.2.2.2.2 u8 eu8 h_7) (x_cwV 0 hts (inW_7 _ (List.mem_of_getElem? (i := 12) rfl)) (inW_7 _ (List.mem_of_getElem? (i := 13) rfl)) (inW_7 _ (List.mem_of_getElem? (i := 14) rfl)) (inW_1 _ (List.mem_of_getElem? (i := 25) rfl)) (inW_7 _ (List.mem_of_getElem? (i := 15) rfl)) rfl rfl (by decide +kernel) ⟨Nat.le_of_ble_eq_true rfl, Nat.le_of_ble_eq_true rfl⟩) hK hP hD hS hA hSt 0 rfl rfl rfl hl.1 rfl (Nat.le_of_ble_eq_true rfl) dX3_fit_57 ⟨Nat.le_of_ble_eq_true rfl, Nat.le_of_ble_eq_true rfl⟩ (fun H locs hP hD hS => ?_)
      show W p l e _ s m args below meth c H locs 0 0 Q (F0 m 60 ls [])
      have e9 := Eq.symm hu; subst e9
      exact x_vret hx hb hr hlocks hQ hK hP hD hS rfl dX3_fit_60
  · rw [if_pos c_2] at hu
    refine lv_sipush (v := (-398)) hx hb dX3_fit_10 (by decide) ?_
    refine lv_aload_n hx hb dX3_fit_13 rfl (lv_at hl 0 rfl) ?_
    refine va_get (D := D) (ci := 4) (v := .ref ao) (C := RX3) (T := TX3) (N := 7) hx hb hts hi3 hown hK hP 0 rfl rfl 2 (by decide) (hts (.fieldLink RX3 23 "DecimalWords" "outcome" "LDecimalWords$Outcome;") (inW_4 _ (List.mem_of_getElem? (i := 25) rfl))) (fun _ h9 => h9) rfl dX3_fit_14 ?_
    refine va_get (D := D) (ci := 3) (v := .int vow) (C := RX1) (T := TX1) (N := 8) hx hb hts hi1 hown hK hP 2 rfl rfl 5 (by decide) (hts (.fieldLink RX3 210 "DecimalWords$Outcome" "wish" "I") (inW_6 _ (List.mem_of_getElem? (i := 38) rfl))) (fun _ h9 => h9) rfl dX3_fit_17 ?_
    refine lv_sipush (v := 369) hx hb dX3_fit_20 (by decide) ?_
    refine x_min hx hb hml hl.1 hts hown (inW_2 _ (List.mem_of_getElem? (i := 11) rfl)) (inW_1 _ (List.mem_of_getElem? (i := 36) rfl)) (inW_1 _ (List.mem_of_getElem? (i := 37) rfl)) (inW_1 _ (List.mem_of_getElem? (i := 38) rfl)) (Nat.le_of_ble_eq_true rfl) (Nat.le_of_ble_eq_true rfl) (Nat.le_of_ble_eq_true rfl) (Nat.le_of_ble_eq_true rfl) dX3_fit_23 ?_
    refine x_max hx hb hml hl.1 hts hown (inW_2 _ (List.mem_of_getElem? (i := 12) rfl)) (inW_2 _ (List.mem_of_getElem? (i := 13) rfl)) (inW_1 _ (List.mem_of_getElem? (i := 37) rfl)) (inW_2 _ (List.mem_of_getElem? (i := 14) rfl)) (Nat.le_of_ble_eq_true rfl) (Nat.le_of_ble_eq_true rfl) (Nat.le_of_ble_eq_true rfl) (Nat.le_of_ble_eq_true rfl) dX3_fit_26 ?_
    refine lv_topi (fun n10 en10 => ?_)
    have hu := hu _ en10
    refine lv_istore_n (lv' := [(1, .int n10), (0, .ref ax)]) hx hb dX3_fit_29 rfl hl (by decide) rfl (fun ls hl => ?_)
    refine lv_aload_n hx hb dX3_fit_30 rfl (lv_at hl 1 rfl) ?_
    refine va_get (D := D) (ci := 4) (v := .ref (ad 8)) (C := RX3) (T := TX3) (N := 7) hx hb hts hi3 hown hK hP 0 rfl rfl 1 (by decide) (hts (.fieldLink RX3 16 "DecimalWords" "result" "LDecimalWords$Datum;") (inW_4 _ (List.mem_of_getElem? (i := 22) rfl))) (fun _ h9 => h9) rfl dX3_fit_31 ?_
    refine lv_aload_n hx hb dX3_fit_34 rfl (lv_at hl 1 rfl) ?_
    refine va_get (D := D) (ci := 4) (v := .ref ao) (C := RX3) (T := TX3) (N := 7) hx hb hts hi3 hown hK hP 0 rfl rfl 2 (by decide) (hts (.fieldLink RX3 23 "DecimalWords" "outcome" "LDecimalWords$Outcome;") (inW_4 _ (List.mem_of_getElem? (i := 25) rfl))) (fun _ h9 => h9) rfl dX3_fit_35 ?_
    refine va_get (D := D) (ci := 3) (v := .int (bI vom)) (C := RX1) (T := TX1) (N := 8) hx hb hts hi1 hown hK hP 2 rfl rfl 0 (by decide) (hts (.fieldLink RX3 216 "DecimalWords$Outcome" "minus" "Z") (inW_6 _ (List.mem_of_getElem? (i := 39) rfl))) (fun _ h9 => h9) rfl dX3_fit_38 ?_
    refine lv_lconst (v := 0) hx hb dX3_fit_41 (by decide) ?_
    refine lv_iload_n hx hb dX3_fit_42 rfl (lv_at hl 0 rfl) ?_
    obtain ⟨u11, eu11⟩ : ∃ y9 : (Nat → Int32) × (Nat → Bool) × (Nat → Int64) × (Nat → Int32), y9 = F_X0_setFinite vso vmi vco vex 8 vom (0 : Int64) n10 := ⟨_, rfl⟩
    have hu := hu _ eu11
    refine x_V (As := [.int (bI vom), .long 0, .int n10]) (rest := []) hCF (c_X0_setFinite l D cR cI cJ cZ t0 ax ar ao ad vrd vtr vsd vrn vom voh vol vop voe vow vok vos vso vmi vco vex 8 vom (0 : Int64) n10 u11 eu11 (by decide)) (x_cwV 3 hts (inW_5 _ (List.mem_of_getElem? (i := 1) rfl)) (inW_4 _ (List.mem_of_getElem? (i := 9) rfl)) (inW_4 _ (List.mem_of_getElem? (i := 10) rfl)) (inW_1 _ (List.mem_of_getElem? (i := 16) rfl)) (inW_1 _ (List.mem_of_getElem? (i := 3) rfl)) rfl rfl (by decide +kernel) ⟨Nat.le_of_ble_eq_true rfl, Nat.le_of_ble_eq_true rfl⟩) hK hP hD hS hA hSt (3 + 8) (xw_dat (by decide)) rfl rfl hl.1 rfl (Nat.le_of_ble_eq_true rfl) dX3_fit_43 ⟨Nat.le_of_ble_eq_true rfl, Nat.le_of_ble_eq_true rfl⟩ (fun H locs hP hD hS => ?_)
    show W p l e _ s m args below meth c H locs 0 0 Q (F0 m 46 ls [])
    refine lv_goto (tgt := 60) hx hb dX3_fit_46 (by decide) ?_
    have e9 := Eq.symm hu; subst e9
    exact x_vret hx hb hr hlocks hQ hK hP hD hS rfl dX3_fit_60

def Z_X3_divide_J_10 (vmi : Nat → Bool) (i1 : Nat) (i2 : Nat) : Bool := (if vmi i1 = vmi i2 then false else true)
def RZ_X3_divide_J_10 (vmi : Nat → Bool) (i1 : Nat) (i2 : Nat) (u9 : Bool) : Prop := (if vmi i1 = vmi i2 then u9 = false else u9 = true)
theorem rZ_X3_divide_J_10 (vmi : Nat → Bool) (i1 : Nat) (i2 : Nat) {u9 : Bool} (hu : u9 = Z_X3_divide_J_10 vmi i1 i2) : RZ_X3_divide_J_10 vmi i1 i2 u9 := by
  unfold RZ_X3_divide_J_10
  refine ite_P (fun c_7 => ?_) (fun c_7 => ?_)
  · have hu := hu.trans (if_pos c_7)
    exact hu
  · have hu := hu.trans (if_neg c_7)
    exact hu
def F_X3_divide (vrd : Int32) (vrn : Int32) (vom : Bool) (voh : Int64) (vol : Int64) (vop : Int32) (voe : Bool) (vow : Int32) (vok : Int64) (vos : Int32) (vso : Nat → Int32) (vmi : Nat → Bool) (vco : Nat → Int64) (vex : Nat → Int32) (i1 : Nat) (i2 : Nat) : Int32 × Bool × Int64 × Int64 × Int32 × Bool × Int32 × Int64 × Int32 × (Nat → Int32) × (Nat → Bool) × (Nat → Int64) × (Nat → Int32) := (if F_X0_isZero vso vco i2 = true then (if F_X0_isZero vso vco i1 = true then (bnd (F_X3_setInvalid vrn vso vmi vco vex) (fun u13 : Int32 × (Nat → Int32) × (Nat → Bool) × (Nat → Int64) × (Nat → Int32) => (u13.1, vom, voh, vol, vop, voe, vow, vok, vos, u13.2.1, u13.2.2.1, u13.2.2.2.1, u13.2.2.2.2))) else (bnd (F_X3_raise vrn (2 : Int32)) (fun u5 : Int32 => (bnd (Z_X3_divide_J_10 vmi i1 i2) (fun z9 : Bool => (bnd (F_X0_setInfinity vso vmi vco vex 8 z9) (fun u11 : (Nat → Int32) × (Nat → Bool) × (Nat → Int64) × (Nat → Int32) => (u5, vom, voh, vol, vop, voe, vow, vok, vos, u11.1, u11.2.1, u11.2.2.1, u11.2.2.2)))))))) else (bnd (F_X1_setQuotient vmi vco vex i1 i2) (fun u16 : Bool × Int64 × Int64 × Int32 × Bool × Int32 => (bnd (F_X3_fit vrd vrn u16.1 u16.2.1 u16.2.2.1 u16.2.2.2.1 u16.2.2.2.2.1 u16.2.2.2.2.2 vok vos vso vmi vco vex) (fun u19 : Int32 × Int64 × Int64 × Int32 × Int64 × Int32 × (Nat → Int32) × (Nat → Bool) × (Nat → Int64) × (Nat → Int32) => (u19.1, u16.1, u19.2.1, u19.2.2.1, u19.2.2.2.1, u16.2.2.2.2.1, u16.2.2.2.2.2, u19.2.2.2.2.1, u19.2.2.2.2.2.1, u19.2.2.2.2.2.2.1, u19.2.2.2.2.2.2.2.1, u19.2.2.2.2.2.2.2.2.1, u19.2.2.2.2.2.2.2.2.2))))))
def RF_X3_divide (vrd : Int32) (vrn : Int32) (vom : Bool) (voh : Int64) (vol : Int64) (vop : Int32) (voe : Bool) (vow : Int32) (vok : Int64) (vos : Int32) (vso : Nat → Int32) (vmi : Nat → Bool) (vco : Nat → Int64) (vex : Nat → Int32) (i1 : Nat) (i2 : Nat) (u9 : Int32 × Bool × Int64 × Int64 × Int32 × Bool × Int32 × Int64 × Int32 × (Nat → Int32) × (Nat → Bool) × (Nat → Int64) × (Nat → Int32)) : Prop := (if F_X0_isZero vso vco i2 = true then (if F_X0_isZero vso vco i1 = true then (∀ u13 : Int32 × (Nat → Int32) × (Nat → Bool) × (Nat → Int64) × (Nat → Int32), u13 = F_X3_setInvalid vrn vso vmi vco vex → u9 = (u13.1, vom, voh, vol, vop, voe, vow, vok, vos, u13.2.1, u13.2.2.1, u13.2.2.2.1, u13.2.2.2.2)) else (∀ u5 : Int32, u5 = F_X3_raise vrn (2 : Int32) → (∀ z9 : Bool, z9 = Z_X3_divide_J_10 vmi i1 i2 → (∀ u11 : (Nat → Int32) × (Nat → Bool) × (Nat → Int64) × (Nat → Int32), u11 = F_X0_setInfinity vso vmi vco vex 8 z9 → u9 = (u5, vom, voh, vol, vop, voe, vow, vok, vos, u11.1, u11.2.1, u11.2.2.1, u11.2.2.2))))) else (∀ u16 : Bool × Int64 × Int64 × Int32 × Bool × Int32, u16 = F_X1_setQuotient vmi vco vex i1 i2 → (∀ u19 : Int32 × Int64 × Int64 × Int32 × Int64 × Int32 × (Nat → Int32) × (Nat → Bool) × (Nat → Int64) × (Nat → Int32), u19 = F_X3_fit vrd vrn u16.1 u16.2.1 u16.2.2.1 u16.2.2.2.1 u16.2.2.2.2.1 u16.2.2.2.2.2 vok vos vso vmi vco vex → u9 = (u19.1, u16.1, u19.2.1, u19.2.2.1, u19.2.2.2.1, u16.2.2.2.2.1, u16.2.2.2.2.2, u19.2.2.2.2.1, u19.2.2.2.2.2.1, u19.2.2.2.2.2.2.1, u19.2.2.2.2.2.2.2.1, u19.2.2.2.2.2.2.2.2.1, u19.2.2.2.2.2.2.2.2.2))))
theorem rF_X3_divide (vrd : Int32) (vrn : Int32) (vom : Bool) (voh : Int64) (vol : Int64) (vop : Int32) (voe : Bool) (vow : Int32) (vok : Int64) (vos : Int32) (vso : Nat → Int32) (vmi : Nat → Bool) (vco : Nat → Int64) (vex : Nat → Int32) (i1 : Nat) (i2 : Nat) {u9 : Int32 × Bool × Int64 × Int64 × Int32 × Bool × Int32 × Int64 × Int32 × (Nat → Int32) × (Nat → Bool) × (Nat → Int64) × (Nat → Int32)} (hu : u9 = F_X3_divide vrd vrn vom voh vol vop voe vow vok vos vso vmi vco vex i1 i2) : RF_X3_divide vrd vrn vom voh vol vop voe vow vok vos vso vmi vco vex i1 i2 u9 := by
  unfold RF_X3_divide
  refine ite_P (fun c_2 => ?_) (fun c_2 => ?_)
  · have hu := hu.trans (if_pos c_2)
    refine ite_P (fun c_4 => ?_) (fun c_4 => ?_)
    · have hu := hu.trans (if_pos c_4)
      intro u13 eu13
      have hu := bnd_n hu eu13
      exact hu
    · have hu := hu.trans (if_neg c_4)
      intro u5 eu5
      have hu := bnd_n hu eu5
      intro z9 ez9
      have hu := bnd_n hu ez9
      intro u11 eu11
      have hu := bnd_n hu eu11
      exact hu
  · have hu := hu.trans (if_neg c_2)
    intro u16 eu16
    have hu := bnd_n hu eu16
    intro u19 eu19
    have hu := bnd_n hu eu19
    exact hu
def S_X3_divide (vrd : Int32) (vrn : Int32) (vom : Bool) (voh : Int64) (vol : Int64) (vop : Int32) (voe : Bool) (vow : Int32) (vok : Int64) (vos : Int32) (vso : Nat → Int32) (vmi : Nat → Bool) (vco : Nat → Int64) (vex : Nat → Int32) (i1 : Nat) (i2 : Nat) : Prop := (if F_X0_isZero vso vco i2 = true then True else (S_X1_setQuotient vmi vco vex i1 i2) ∧ (∀ u16 : Bool × Int64 × Int64 × Int32 × Bool × Int32, u16 = F_X1_setQuotient vmi vco vex i1 i2 → S_X3_fit vrd vrn u16.1 u16.2.1 u16.2.2.1 u16.2.2.2.1 u16.2.2.2.2.1 u16.2.2.2.2.2 vok vos vso vmi vco vex))
def rm_X3_divide : Room := { frames := 5, cells := 0, slots := 0, locals := 128 }
set_option maxHeartbeats 4000000 in
set_option maxRecDepth 100000 in
theorem c_X3_divide (l : Launch) (D : va_G) (cR cI cJ cZ : ClassId) (t0 : Nat) (ax ar ao : Nat) (ad : Nat → Nat) (vrd : Int32) (vtr : Int32) (vsd : Int32) (vrn : Int32) (vom : Bool) (voh : Int64) (vol : Int64) (vop : Int32) (voe : Bool) (vow : Int32) (vok : Int64) (vos : Int32) (vso : Nat → Int32) (vmi : Nat → Bool) (vco : Nat → Int64) (vex : Nat → Int32) (i1 : Nat) (i2 : Nat) (u : Int32 × Bool × Int64 × Int64 × Int32 × Bool × Int32 × Int64 × Int32 × (Nat → Int32) × (Nat → Bool) × (Nat → Int64) × (Nat → Int32)) (hu : u = F_X3_divide vrd vrn vom voh vol vop voe vow vok vos vso vmi vco vex i1 i2) (hs : S_X3_divide vrd vrn vom voh vol vop voe vow vok vos vso vmi vco vex i1 i2) (hb1 : i1 < 9) (hb2 : i2 < 9) : XM l D (xty cR cI cJ cZ) t0 yX3_divide cX3_divide 3 none rm_X3_divide [.ref ax, .ref (ad i1), .ref (ad i2)] none (xw cR ax ar ao ad vrd vtr vsd vrn vom voh vol vop voe vow vok vos vso vmi vco vex) (xw cR ax ar ao ad vrd vtr vsd u.1 u.2.1 u.2.2.1 u.2.2.2.1 u.2.2.2.2.1 u.2.2.2.2.2.1 u.2.2.2.2.2.2.1 u.2.2.2.2.2.2.2.1 u.2.2.2.2.2.2.2.2.1 u.2.2.2.2.2.2.2.2.2.1 u.2.2.2.2.2.2.2.2.2.2.1 u.2.2.2.2.2.2.2.2.2.2.2.1 u.2.2.2.2.2.2.2.2.2.2.2.2) := by
  refine XM.of (by decide) (Nat.le_of_ble_eq_true rfl) ?_
  intro p e s m args below meth c A Q F hK hP hD hA hSt hS hQ ls hl
  obtain ⟨hx, hb, hr, hts, hown, hlocks, hml⟩ := F
  have hCF : CallFix p m c cX3_divide 3 s args gW RX3 := ⟨hx, hb, hml, hown, hts⟩
  unfold S_X3_divide at hs
  have hu := rF_X3_divide vrd vrn vom voh vol vop voe vow vok vos vso vmi vco vex i1 i2 hu
  unfold RF_X3_divide at hu
  obtain ⟨H, eH⟩ : ∃ y9 : Heap, y9 = s.heap := ⟨_, rfl⟩
  obtain ⟨locs, eL⟩ : ∃ y9 : List Loc, y9 = [] := ⟨_, rfl⟩
  rw [← eL] at hS ⊢
  have hP : va_P D vwCl (xw cR ax ar ao ad vrd vtr vsd vrn vom voh vol vop voe vow vok vos vso vmi vco vex) H := by rw [eH]; exact hP
  have hS : va_S A s.heap H locs := by rw [eH]; exact hS
  suffices goal9 : W p l e rm_X3_divide s m args below meth c H locs 0 0 Q (F0 m 0 ls []) from by rw [← eH]; exact goal9
  have hl : lv_has ls 3 [(0, .ref ax), (1, .ref (ad i1)), (2, .ref (ad i2))] := hl
  have hi0 : ∀ w ∈ wsX00, w ∈ gW := inW_X0
  have hi3 : ∀ w ∈ wsX30, w ∈ gW := inW_X3
  refine lv_aload_n hx hb dX3_divide_0 rfl (lv_at hl 2 rfl) ?_
  refine x_V (As := []) (rest := []) hCF (c_X0_isZero l D cR cI cJ cZ t0 ax ar ao ad vrd vtr vsd vrn vom voh vol vop voe vow vok vos vso vmi vco vex i2 _ rfl hb2) (x_cwV 0 hts (inW_5 _ (List.mem_of_getElem? (i := 25) rfl)) (inW_1 _ (List.mem_of_getElem? (i := 14) rfl)) (inW_1 _ (List.mem_of_getElem? (i := 15) rfl)) (inW_1 _ (List.mem_of_getElem? (i := 16) rfl)) (inW_1 _ (List.mem_of_getElem? (i := 11) rfl)) rfl rfl (by decide +kernel) ⟨Nat.le_of_ble_eq_true rfl, Nat.le_of_ble_eq_true rfl⟩) hK hP hD hS hA hSt (3 + i2) (xw_dat hb2) rfl rfl hl.1 rfl (Nat.le_of_ble_eq_true rfl) dX3_divide_1 ⟨Nat.le_of_ble_eq_true rfl, Nat.le_of_ble_eq_true rfl⟩ (fun H locs hP hD hS => ?_)
  show W p l e _ s m args below meth c H locs 0 0 Q (F0 m 4 ls (.int (bI (F_X0_isZero vso vco i2)) :: []))
  refine xb_ne (tgt := 23) hx hb dX3_divide_4 (by decide) (fun c_2 => ?_) (fun c_2 => ?_)
  · rw [if_pos c_2] at hu
    refine lv_aload_n hx hb dX3_divide_23 rfl (lv_at hl 1 rfl) ?_
    refine x_V (As := []) (rest := []) hCF (c_X0_isZero l D cR cI cJ cZ t0 ax ar ao ad vrd vtr vsd vrn vom voh vol vop voe vow vok vos vso vmi vco vex i1 _ rfl hb1) (x_cwV 0 hts (inW_5 _ (List.mem_of_getElem? (i := 25) rfl)) (inW_1 _ (List.mem_of_getElem? (i := 14) rfl)) (inW_1 _ (List.mem_of_getElem? (i := 15) rfl)) (inW_1 _ (List.mem_of_getElem? (i := 16) rfl)) (inW_1 _ (List.mem_of_getElem? (i := 11) rfl)) rfl rfl (by decide +kernel) ⟨Nat.le_of_ble_eq_true rfl, Nat.le_of_ble_eq_true rfl⟩) hK hP hD hS hA hSt (3 + i1) (xw_dat hb1) rfl rfl hl.1 rfl (Nat.le_of_ble_eq_true rfl) dX3_divide_24 ⟨Nat.le_of_ble_eq_true rfl, Nat.le_of_ble_eq_true rfl⟩ (fun H locs hP hD hS => ?_)
    show W p l e _ s m args below meth c H locs 0 0 Q (F0 m 27 ls (.int (bI (F_X0_isZero vso vco i1)) :: []))
    refine xb_eq (tgt := 37) hx hb dX3_divide_27 (by decide) (fun c_4 => ?_) (fun c_4 => ?_)
    · rw [if_neg c_4] at hu
      refine lv_aload_n hx hb dX3_divide_37 rfl (lv_at hl 0 rfl) ?_
      refine lv_iconst (v := 2) hx hb dX3_divide_38 (by decide) ?_
      obtain ⟨u5, eu5⟩ : ∃ y9 : Int32, y9 = F_X3_raise vrn (2 : Int32) := ⟨_, rfl⟩
      have hu := hu _ eu5
      refine x_V (As := [.int 2]) (rest := []) hCF (c_X3_raise l D cR cI cJ cZ t0 ax ar ao ad vrd vtr vsd vrn vom voh vol vop voe vow vok vos vso vmi vco vex (2 : Int32) u5 eu5) (x_cwV 1 hts (inW_6 _ (List.mem_of_getElem? (i := 23) rfl)) (inW_6 _ (List.mem_of_getElem? (i := 24) rfl)) (inW_6 _ (List.mem_of_getElem? (i := 25) rfl)) (inW_1 _ (List.mem_of_getElem? (i := 25) rfl)) (inW_6 _ (List.mem_of_getElem? (i := 26) rfl)) rfl rfl (by decide +kernel) ⟨Nat.le_of_ble_eq_true rfl, Nat.le_of_ble_eq_true rfl⟩) hK hP hD hS hA hSt 0 rfl rfl rfl hl.1 rfl (Nat.le_of_ble_eq_true rfl) dX3_divide_39 ⟨Nat.le_of_ble_eq_true rfl, Nat.le_of_ble_eq_true rfl⟩ (fun H locs hP hD hS => ?_)
      show W p l e _ s m args below meth c H locs 0 0 Q (F0 m 42 ls [])
      refine lv_aload_n hx hb dX3_divide_42 rfl (lv_at hl 0 rfl) ?_
      refine va_get (D := D) (ci := 4) (v := .ref (ad 8)) (C := RX3) (T := TX3) (N := 7) hx hb hts hi3 hown hK hP 0 rfl rfl 1 (by decide) (hts (.fieldLink RX3 16 "DecimalWords" "result" "LDecimalWords$Datum;") (inW_4 _ (List.mem_of_getElem? (i := 22) rfl))) (fun _ h9 => h9) rfl dX3_divide_43 ?_
      refine lv_aload_n hx hb dX3_divide_46 rfl (lv_at hl 1 rfl) ?_
      refine g_mi (i := i1) hx hb hts hi0 hown hK hP hb1 (hts (.fieldLink RX3 77 "DecimalWords$Datum" "minus" "Z") (inW_5 _ (List.mem_of_getElem? (i := 18) rfl))) dX3_divide_47 ?_
      refine lv_aload_n hx hb dX3_divide_50 rfl (lv_at hl 2 rfl) ?_
      refine g_mi (i := i2) hx hb hts hi0 hown hK hP hb2 (hts (.fieldLink RX3 77 "DecimalWords$Datum" "minus" "Z") (inW_5 _ (List.mem_of_getElem? (i := 18) rfl))) dX3_divide_51 ?_
      have J_10 : (∀ z9 : Bool, z9 = Z_X3_divide_J_10 vmi i1 i2 → ∀ (H : Heap) (locs : List Loc), va_P D vwCl (xw cR ax ar ao ad vrd vtr vsd u5 vom voh vol vop voe vow vok vos vso vmi vco vex) H → va_D A (xw cR ax ar ao ad vrd vtr vsd u5 vom voh vol vop voe vow vok vos vso vmi vco vex) → va_S A s.heap H locs → ∀ ls : Array Slot, lv_has ls 3 [] → W p l e rm_X3_divide s m args below meth c H locs 0 0 Q (F0 m 62 ls [.int (bI z9), .ref (ad 8)])) := by
        intro z9 ez9 H locs hP hD hS ls hl
        have hu := hu _ ez9
        obtain ⟨u11, eu11⟩ : ∃ y9 : (Nat → Int32) × (Nat → Bool) × (Nat → Int64) × (Nat → Int32), y9 = F_X0_setInfinity vso vmi vco vex 8 z9 := ⟨_, rfl⟩
        have hu := hu _ eu11
        refine x_V (As := [.int (bI z9)]) (rest := []) hCF (c_X0_setInfinity l D cR cI cJ cZ t0 ax ar ao ad vrd vtr vsd u5 vom voh vol vop voe vow vok vos vso vmi vco vex 8 z9 u11 eu11 (by decide)) (x_cwV 1 hts (inW_5 _ (List.mem_of_getElem? (i := 37) rfl)) (inW_3 _ (List.mem_of_getElem? (i := 28) rfl)) (inW_3 _ (List.mem_of_getElem? (i := 29) rfl)) (inW_1 _ (List.mem_of_getElem? (i := 16) rfl)) (inW_1 _ (List.mem_of_getElem? (i := 8) rfl)) rfl rfl (by decide +kernel) ⟨Nat.le_of_ble_eq_true rfl, Nat.le_of_ble_eq_true rfl⟩) hK hP hD hS hA hSt (3 + 8) (xw_dat (by decide)) rfl rfl hl.1 rfl (Nat.le_of_ble_eq_true rfl) dX3_divide_62 ⟨Nat.le_of_ble_eq_true rfl, Nat.le_of_ble_eq_true rfl⟩ (fun H locs hP hD hS => ?_)
        show W p l e _ s m args below meth c H locs 0 0 Q (F0 m 65 ls [])
        have e9 := Eq.symm hu; subst e9
        exact x_vret hx hb hr hlocks hQ hK hP hD hS rfl dX3_divide_65
      obtain ⟨z9, ez9⟩ : ∃ y9 : Bool, y9 = Z_X3_divide_J_10 vmi i1 i2 := ⟨_, rfl⟩
      have hz := rZ_X3_divide_J_10 vmi i1 i2 ez9
      unfold RZ_X3_divide_J_10 at hz
      refine xbb_eq (tgt := 61) hx hb dX3_divide_54 (by decide) (fun c_7 => ?_) (fun c_7 => ?_)
      · rw [if_pos c_7] at hz
        refine lv_iconst (v := 0) hx hb dX3_divide_61 (by decide) ?_
        have e9 := Eq.symm hz; subst e9
        exact J_10 _ ez9 H locs hP hD hS ls (lv_sub hl [] rfl)
      · rw [if_neg c_7] at hz
        refine lv_iconst (v := 1) hx hb dX3_divide_57 (by decide) ?_
        refine lv_goto (tgt := 62) hx hb dX3_divide_58 (by decide) ?_
        have e9 := Eq.symm hz; subst e9
        exact J_10 _ ez9 H locs hP hD hS ls (lv_sub hl [] rfl)
    · rw [if_pos c_4] at hu
      refine lv_aload_n hx hb dX3_divide_30 rfl (lv_at hl 0 rfl) ?_
      obtain ⟨u13, eu13⟩ : ∃ y9 : Int32 × (Nat → Int32) × (Nat → Bool) × (Nat → Int64) × (Nat → Int32), y9 = F_X3_setInvalid vrn vso vmi vco vex := ⟨_, rfl⟩
      have hu := hu _ eu13
      refine x_V (As := []) (rest := []) hCF (c_X3_setInvalid l D cR cI cJ cZ t0 ax ar ao ad vrd vtr vsd vrn vom voh vol vop voe vow vok vos vso vmi vco vex u13 eu13) (x_cwV 0 hts (inW_6 _ (List.mem_of_getElem? (i := 19) rfl)) (inW_6 _ (List.mem_of_getElem? (i := 20) rfl)) (inW_6 _ (List.mem_of_getElem? (i := 21) rfl)) (inW_1 _ (List.mem_of_getElem? (i := 25) rfl)) (inW_6 _ (List.mem_of_getElem? (i := 22) rfl)) rfl rfl (by decide +kernel) ⟨Nat.le_of_ble_eq_true rfl, Nat.le_of_ble_eq_true rfl⟩) hK hP hD hS hA hSt 0 rfl rfl rfl hl.1 rfl (Nat.le_of_ble_eq_true rfl) dX3_divide_31 ⟨Nat.le_of_ble_eq_true rfl, Nat.le_of_ble_eq_true rfl⟩ (fun H locs hP hD hS => ?_)
      show W p l e _ s m args below meth c H locs 0 0 Q (F0 m 34 ls [])
      refine lv_goto (tgt := 65) hx hb dX3_divide_34 (by decide) ?_
      have e9 := Eq.symm hu; subst e9
      exact x_vret hx hb hr hlocks hQ hK hP hD hS rfl dX3_divide_65
  · rw [if_neg c_2] at hs
    rw [if_neg c_2] at hu
    refine lv_aload_n hx hb dX3_divide_7 rfl (lv_at hl 0 rfl) ?_
    refine va_get (D := D) (ci := 4) (v := .ref ao) (C := RX3) (T := TX3) (N := 7) hx hb hts hi3 hown hK hP 0 rfl rfl 2 (by decide) (hts (.fieldLink RX3 23 "DecimalWords" "outcome" "LDecimalWords$Outcome;") (inW_4 _ (List.mem_of_getElem? (i := 25) rfl))) (fun _ h9 => h9) rfl dX3_divide_8 ?_
    refine lv_aload_n hx hb dX3_divide_11 rfl (lv_at hl 1 rfl) ?_
    refine lv_aload_n hx hb dX3_divide_12 rfl (lv_at hl 2 rfl) ?_
    obtain ⟨h_15, hs⟩ := hs
    obtain ⟨u16, eu16⟩ : ∃ y9 : Bool × Int64 × Int64 × Int32 × Bool × Int32, y9 = F_X1_setQuotient vmi vco vex i1 i2 := ⟨_, rfl⟩
    have hs := hs _ eu16
    have hu := hu _ eu16
    refine x_V (As := [.ref (ad i1), .ref (ad i2)]) (rest := []) hCF (c_X1_setQuotient l D cR cI cJ cZ t0 ax ar ao ad vrd vtr vsd vrn vom voh vol vop voe vow vok vos vso vmi vco vex i1 i2 u16 eu16 h_15 hb1 hb2) (x_cwV 2 hts (inW_8 _ (List.mem_of_getElem? (i := 0) rfl)) (inW_8 _ (List.mem_of_getElem? (i := 1) rfl)) (inW_8 _ (List.mem_of_getElem? (i := 2) rfl)) (inW_2 _ (List.mem_of_getElem? (i := 4) rfl)) (inW_2 _ (List.mem_of_getElem? (i := 25) rfl)) rfl rfl (by decide +kernel) ⟨Nat.le_of_ble_eq_true rfl, Nat.le_of_ble_eq_true rfl⟩) hK hP hD hS hA hSt 2 rfl rfl rfl hl.1 rfl (Nat.le_of_ble_eq_true rfl) dX3_divide_13 ⟨Nat.le_of_ble_eq_true rfl, Nat.le_of_ble_eq_true rfl⟩ (fun H locs hP hD hS => ?_)
    show W p l e _ s m args below meth c H locs 0 0 Q (F0 m 16 ls [])
    refine lv_aload_n hx hb dX3_divide_16 rfl (lv_at hl 0 rfl) ?_
    have h_18 := hs
    obtain ⟨u19, eu19⟩ : ∃ y9 : Int32 × Int64 × Int64 × Int32 × Int64 × Int32 × (Nat → Int32) × (Nat → Bool) × (Nat → Int64) × (Nat → Int32), y9 = F_X3_fit vrd vrn u16.1 u16.2.1 u16.2.2.1 u16.2.2.2.1 u16.2.2.2.2.1 u16.2.2.2.2.2 vok vos vso vmi vco vex := ⟨_, rfl⟩
    have hu := hu _ eu19
    refine x_V (As := []) (rest := []) hCF (c_X3_fit l D cR cI cJ cZ t0 ax ar ao ad vrd vtr vsd vrn u16.1 u16.2.1 u16.2.2.1 u16.2.2.2.1 u16.2.2.2.2.1 u16.2.2.2.2.2 vok vos vso vmi vco vex u19 eu19 h_18) (x_cwV 0 hts (inW_6 _ (List.mem_of_getElem? (i := 34) rfl)) (inW_6 _ (List.mem_of_getElem? (i := 35) rfl)) (inW_6 _ (List.mem_of_getElem? (i := 36) rfl)) (inW_1 _ (List.mem_of_getElem? (i := 25) rfl)) (inW_6 _ (List.mem_of_getElem? (i := 37) rfl)) rfl rfl (by decide +kernel) ⟨Nat.le_of_ble_eq_true rfl, Nat.le_of_ble_eq_true rfl⟩) hK hP hD hS hA hSt 0 rfl rfl rfl hl.1 rfl (Nat.le_of_ble_eq_true rfl) dX3_divide_17 ⟨Nat.le_of_ble_eq_true rfl, Nat.le_of_ble_eq_true rfl⟩ (fun H locs hP hD hS => ?_)
    show W p l e _ s m args below meth c H locs 0 0 Q (F0 m 20 ls [])
    refine lv_goto (tgt := 65) hx hb dX3_divide_20 (by decide) ?_
    have e9 := Eq.symm hu; subst e9
    exact x_vret hx hb hr hlocks hQ hK hP hD hS rfl dX3_divide_65

def Z_X3_quantize_J_26 (vrn : Int32) (u19 : Int64 × Int32) : Int32 := (if u19.2 = 0 then vrn else (bnd (F_X3_raise vrn (16 : Int32)) (fun u22 : Int32 => u22)))
def RZ_X3_quantize_J_26 (vrn : Int32) (u19 : Int64 × Int32) (u9 : Int32) : Prop := (if u19.2 = 0 then u9 = vrn else (∀ u22 : Int32, u22 = F_X3_raise vrn (16 : Int32) → u9 = u22))
theorem rZ_X3_quantize_J_26 (vrn : Int32) (u19 : Int64 × Int32) {u9 : Int32} (hu : u9 = Z_X3_quantize_J_26 vrn u19) : RZ_X3_quantize_J_26 vrn u19 u9 := by
  unfold RZ_X3_quantize_J_26
  refine ite_P (fun c_21 => ?_) (fun c_21 => ?_)
  · have hu := hu.trans (if_pos c_21)
    exact hu
  · have hu := hu.trans (if_neg c_21)
    intro u22 eu22
    have hu := bnd_n hu eu22
    exact hu
def F_X3_quantize (vrd : Int32) (vrn : Int32) (vom : Bool) (voh : Int64) (vol : Int64) (vop : Int32) (voe : Bool) (vok : Int64) (vos : Int32) (vso : Nat → Int32) (vmi : Nat → Bool) (vco : Nat → Int64) (vex : Nat → Int32) (i1 : Nat) (p1 : Int32) : Int32 × Bool × Int64 × Int64 × Int32 × Bool × Int64 × Int32 × (Nat → Int32) × (Nat → Bool) × (Nat → Int64) × (Nat → Int32) := (bnd (p1 - (vex i1)) (fun n1 : Int32 => (if n1 ≤ 0 then (if F_X0_isZero vso vco i1 = true then (bnd (F_X0_setFinite vso vmi vco vex 8 (vmi i1) (0 : Int64) p1) (fun u14 : (Nat → Int32) × (Nat → Bool) × (Nat → Int64) × (Nat → Int32) => (vrn, vom, voh, vol, vop, voe, vok, vos, u14.1, u14.2.1, u14.2.2.1, u14.2.2.2))) else (if (F_X3_digitsOf (vco i1)) - n1 ≤ 16 then (bnd (F_X0_setFinite vso vmi vco vex 8 (vmi i1) ((vco i1) * (F_X3_tenTo (-n1))) p1) (fun u10 : (Nat → Int32) × (Nat → Bool) × (Nat → Int64) × (Nat → Int32) => (vrn, vom, voh, vol, vop, voe, vok, vos, u10.1, u10.2.1, u10.2.2.1, u10.2.2.2))) else (bnd (F_X3_setInvalid vrn vso vmi vco vex) (fun u12 : Int32 × (Nat → Int32) × (Nat → Bool) × (Nat → Int64) × (Nat → Int32) => (u12.1, vom, voh, vol, vop, voe, vok, vos, u12.2.1, u12.2.2.1, u12.2.2.2.1, u12.2.2.2.2))))) else (bnd (F_X1_setWhole vmi vco vex i1) (fun u16 : Bool × Int64 × Int64 × Int32 × Bool => (bnd (F_X1_cut u16.2.1 u16.2.2.1 u16.2.2.2.2 n1) (fun u19 : Int64 × Int32 => (bnd (Z_X3_quantize_J_26 vrn u19) (fun z25 : Int32 => (bnd (F_X0_setFinite vso vmi vco vex 8 (vmi i1) (F_X3_roundedKept vrd u19.1 u19.2 (vmi i1)) p1) (fun u28 : (Nat → Int32) × (Nat → Bool) × (Nat → Int64) × (Nat → Int32) => (z25, u16.1, u16.2.1, u16.2.2.1, u16.2.2.2.1, u16.2.2.2.2, u19.1, u19.2, u28.1, u28.2.1, u28.2.2.1, u28.2.2.2))))))))))))
def RF_X3_quantize (vrd : Int32) (vrn : Int32) (vom : Bool) (voh : Int64) (vol : Int64) (vop : Int32) (voe : Bool) (vok : Int64) (vos : Int32) (vso : Nat → Int32) (vmi : Nat → Bool) (vco : Nat → Int64) (vex : Nat → Int32) (i1 : Nat) (p1 : Int32) (u9 : Int32 × Bool × Int64 × Int64 × Int32 × Bool × Int64 × Int32 × (Nat → Int32) × (Nat → Bool) × (Nat → Int64) × (Nat → Int32)) : Prop := (∀ n1 : Int32, n1 = p1 - (vex i1) → (if n1 ≤ 0 then (if F_X0_isZero vso vco i1 = true then (∀ u14 : (Nat → Int32) × (Nat → Bool) × (Nat → Int64) × (Nat → Int32), u14 = F_X0_setFinite vso vmi vco vex 8 (vmi i1) (0 : Int64) p1 → u9 = (vrn, vom, voh, vol, vop, voe, vok, vos, u14.1, u14.2.1, u14.2.2.1, u14.2.2.2)) else (if (F_X3_digitsOf (vco i1)) - n1 ≤ 16 then (∀ u10 : (Nat → Int32) × (Nat → Bool) × (Nat → Int64) × (Nat → Int32), u10 = F_X0_setFinite vso vmi vco vex 8 (vmi i1) ((vco i1) * (F_X3_tenTo (-n1))) p1 → u9 = (vrn, vom, voh, vol, vop, voe, vok, vos, u10.1, u10.2.1, u10.2.2.1, u10.2.2.2)) else (∀ u12 : Int32 × (Nat → Int32) × (Nat → Bool) × (Nat → Int64) × (Nat → Int32), u12 = F_X3_setInvalid vrn vso vmi vco vex → u9 = (u12.1, vom, voh, vol, vop, voe, vok, vos, u12.2.1, u12.2.2.1, u12.2.2.2.1, u12.2.2.2.2)))) else (∀ u16 : Bool × Int64 × Int64 × Int32 × Bool, u16 = F_X1_setWhole vmi vco vex i1 → (∀ u19 : Int64 × Int32, u19 = F_X1_cut u16.2.1 u16.2.2.1 u16.2.2.2.2 n1 → (∀ z25 : Int32, z25 = Z_X3_quantize_J_26 vrn u19 → (∀ u28 : (Nat → Int32) × (Nat → Bool) × (Nat → Int64) × (Nat → Int32), u28 = F_X0_setFinite vso vmi vco vex 8 (vmi i1) (F_X3_roundedKept vrd u19.1 u19.2 (vmi i1)) p1 → u9 = (z25, u16.1, u16.2.1, u16.2.2.1, u16.2.2.2.1, u16.2.2.2.2, u19.1, u19.2, u28.1, u28.2.1, u28.2.2.1, u28.2.2.2)))))))
theorem rF_X3_quantize (vrd : Int32) (vrn : Int32) (vom : Bool) (voh : Int64) (vol : Int64) (vop : Int32) (voe : Bool) (vok : Int64) (vos : Int32) (vso : Nat → Int32) (vmi : Nat → Bool) (vco : Nat → Int64) (vex : Nat → Int32) (i1 : Nat) (p1 : Int32) {u9 : Int32 × Bool × Int64 × Int64 × Int32 × Bool × Int64 × Int32 × (Nat → Int32) × (Nat → Bool) × (Nat → Int64) × (Nat → Int32)} (hu : u9 = F_X3_quantize vrd vrn vom voh vol vop voe vok vos vso vmi vco vex i1 p1) : RF_X3_quantize vrd vrn vom voh vol vop voe vok vos vso vmi vco vex i1 p1 u9 := by
  unfold RF_X3_quantize
  intro n1 en1
  have hu := bnd_n hu en1
  refine ite_P (fun c_2 => ?_) (fun c_2 => ?_)
  · have hu := hu.trans (if_pos c_2)
    refine ite_P (fun c_4 => ?_) (fun c_4 => ?_)
    · have hu := hu.trans (if_pos c_4)
      intro u14 eu14
      have hu := bnd_n hu eu14
      exact hu
    · have hu := hu.trans (if_neg c_4)
      refine ite_P (fun c_7 => ?_) (fun c_7 => ?_)
      · have hu := hu.trans (if_pos c_7)
        intro u10 eu10
        have hu := bnd_n hu eu10
        exact hu
      · have hu := hu.trans (if_neg c_7)
        intro u12 eu12
        have hu := bnd_n hu eu12
        exact hu
  · have hu := hu.trans (if_neg c_2)
    intro u16 eu16
    have hu := bnd_n hu eu16
    intro u19 eu19
    have hu := bnd_n hu eu19
    intro z25 ez25
    have hu := bnd_n hu ez25
    intro u28 eu28
    have hu := bnd_n hu eu28
    exact hu
def S_X3_quantize (vrd : Int32) (vrn : Int32) (vom : Bool) (voh : Int64) (vol : Int64) (vop : Int32) (voe : Bool) (vok : Int64) (vos : Int32) (vso : Nat → Int32) (vmi : Nat → Bool) (vco : Nat → Int64) (vex : Nat → Int32) (i1 : Nat) (p1 : Int32) : Prop := (∀ n1 : Int32, n1 = p1 - (vex i1) → (if n1 ≤ 0 then (if F_X0_isZero vso vco i1 = true then True else (S_X3_digitsOf (vco i1)) ∧ (if (F_X3_digitsOf (vco i1)) - n1 ≤ 16 then S_X3_tenTo (-n1) else True)) else (∀ u16 : Bool × Int64 × Int64 × Int32 × Bool, u16 = F_X1_setWhole vmi vco vex i1 → S_X1_cut u16.2.1 u16.2.2.1 u16.2.2.2.2 n1)))
def rm_X3_quantize : Room := { frames := 3, cells := 0, slots := 0, locals := 83 }
set_option maxHeartbeats 4000000 in
set_option maxRecDepth 100000 in
theorem c_X3_quantize (l : Launch) (D : va_G) (cR cI cJ cZ : ClassId) (t0 : Nat) (ax ar ao : Nat) (ad : Nat → Nat) (vrd : Int32) (vtr : Int32) (vsd : Int32) (vrn : Int32) (vom : Bool) (voh : Int64) (vol : Int64) (vop : Int32) (voe : Bool) (vow : Int32) (vok : Int64) (vos : Int32) (vso : Nat → Int32) (vmi : Nat → Bool) (vco : Nat → Int64) (vex : Nat → Int32) (i1 : Nat) (p1 : Int32) (u : Int32 × Bool × Int64 × Int64 × Int32 × Bool × Int64 × Int32 × (Nat → Int32) × (Nat → Bool) × (Nat → Int64) × (Nat → Int32)) (hu : u = F_X3_quantize vrd vrn vom voh vol vop voe vok vos vso vmi vco vex i1 p1) (hs : S_X3_quantize vrd vrn vom voh vol vop voe vok vos vso vmi vco vex i1 p1) (hb1 : i1 < 9) : XM l D (xty cR cI cJ cZ) t0 yX3_quantize cX3_quantize 4 none rm_X3_quantize [.ref ax, .ref (ad i1), .int p1] none (xw cR ax ar ao ad vrd vtr vsd vrn vom voh vol vop voe vow vok vos vso vmi vco vex) (xw cR ax ar ao ad vrd vtr vsd u.1 u.2.1 u.2.2.1 u.2.2.2.1 u.2.2.2.2.1 u.2.2.2.2.2.1 vow u.2.2.2.2.2.2.1 u.2.2.2.2.2.2.2.1 u.2.2.2.2.2.2.2.2.1 u.2.2.2.2.2.2.2.2.2.1 u.2.2.2.2.2.2.2.2.2.2.1 u.2.2.2.2.2.2.2.2.2.2.2) := by
  refine XM.of (by decide) (Nat.le_of_ble_eq_true rfl) ?_
  intro p e s m args below meth c A Q F hK hP hD hA hSt hS hQ ls hl
  obtain ⟨hx, hb, hr, hts, hown, hlocks, hml⟩ := F
  have hCF : CallFix p m c cX3_quantize 4 s args gW RX3 := ⟨hx, hb, hml, hown, hts⟩
  unfold S_X3_quantize at hs
  have hu := rF_X3_quantize vrd vrn vom voh vol vop voe vok vos vso vmi vco vex i1 p1 hu
  unfold RF_X3_quantize at hu
  obtain ⟨H, eH⟩ : ∃ y9 : Heap, y9 = s.heap := ⟨_, rfl⟩
  obtain ⟨locs, eL⟩ : ∃ y9 : List Loc, y9 = [] := ⟨_, rfl⟩
  rw [← eL] at hS ⊢
  have hP : va_P D vwCl (xw cR ax ar ao ad vrd vtr vsd vrn vom voh vol vop voe vow vok vos vso vmi vco vex) H := by rw [eH]; exact hP
  have hS : va_S A s.heap H locs := by rw [eH]; exact hS
  suffices goal9 : W p l e rm_X3_quantize s m args below meth c H locs 0 0 Q (F0 m 0 ls []) from by rw [← eH]; exact goal9
  have hl : lv_has ls 4 [(0, .ref ax), (1, .ref (ad i1)), (2, .int p1)] := hl
  have hi0 : ∀ w ∈ wsX00, w ∈ gW := inW_X0
  have hi1 : ∀ w ∈ wsX10, w ∈ gW := inW_X1
  have hi3 : ∀ w ∈ wsX30, w ∈ gW := inW_X3
  refine lv_iload_n hx hb dX3_quantize_0 rfl (lv_at hl 2 rfl) ?_
  refine lv_aload_n hx hb dX3_quantize_1 rfl (lv_at hl 1 rfl) ?_
  refine g_ex (i := i1) hx hb hts hi0 hown hK hP hb1 (hts (.fieldLink RX3 85 "DecimalWords$Datum" "exponent" "I") (inW_5 _ (List.mem_of_getElem? (i := 21) rfl))) dX3_quantize_2 ?_
  refine lv_isub hx hb dX3_quantize_5 ?_
  refine lv_topi (fun n1 en1 => ?_)
  have hs := hs _ en1
  have hu := hu _ en1
  refine lv_istore_n (lv' := [(3, .int n1), (0, .ref ax), (1, .ref (ad i1)), (2, .int p1)]) hx hb dX3_quantize_6 rfl hl (by decide) rfl (fun ls hl => ?_)
  refine lv_iload_n hx hb dX3_quantize_7 rfl (lv_at hl 0 rfl) ?_
  refine lv_if_le (tgt := 66) hx hb dX3_quantize_8 (by decide) (fun c_2 => ?_) (fun c_2 => ?_)
  · rw [if_pos c_2] at hs
    rw [if_pos c_2] at hu
    refine lv_aload_n hx hb dX3_quantize_66 rfl (lv_at hl 2 rfl) ?_
    refine x_V (As := []) (rest := []) hCF (c_X0_isZero l D cR cI cJ cZ t0 ax ar ao ad vrd vtr vsd vrn vom voh vol vop voe vow vok vos vso vmi vco vex i1 _ rfl hb1) (x_cwV 0 hts (inW_5 _ (List.mem_of_getElem? (i := 25) rfl)) (inW_1 _ (List.mem_of_getElem? (i := 14) rfl)) (inW_1 _ (List.mem_of_getElem? (i := 15) rfl)) (inW_1 _ (List.mem_of_getElem? (i := 16) rfl)) (inW_1 _ (List.mem_of_getElem? (i := 11) rfl)) rfl rfl (by decide +kernel) ⟨Nat.le_of_ble_eq_true rfl, Nat.le_of_ble_eq_true rfl⟩) hK hP hD hS hA hSt (3 + i1) (xw_dat hb1) rfl rfl hl.1 rfl (Nat.le_of_ble_eq_true rfl) dX3_quantize_67 ⟨Nat.le_of_ble_eq_true rfl, Nat.le_of_ble_eq_true rfl⟩ (fun H locs hP hD hS => ?_)
    show W p l e _ s m args below meth c H locs 0 0 Q (F0 m 70 ls (.int (bI (F_X0_isZero vso vco i1)) :: []))
    refine xb_eq (tgt := 89) hx hb dX3_quantize_70 (by decide) (fun c_4 => ?_) (fun c_4 => ?_)
    · rw [if_neg c_4] at hs
      rw [if_neg c_4] at hu
      refine lv_aload_n hx hb dX3_quantize_89 rfl (lv_at hl 2 rfl) ?_
      refine g_co (i := i1) hx hb hts hi0 hown hK hP hb1 (hts (.fieldLink RX3 81 "DecimalWords$Datum" "coefficient" "J") (inW_5 _ (List.mem_of_getElem? (i := 20) rfl))) dX3_quantize_90 ?_
      obtain ⟨h_5, hs⟩ := hs
      refine x_S (As := [.long (vco i1)]) (rest := []) hCF (c_X3_digitsOf l D cR cI cJ cZ t0 (xw cR ax ar ao ad vrd vtr vsd vrn vom voh vol vop voe vow vok vos vso vmi vco vex) (vco i1) _ rfl h_5) (x_cwS 1 hts (inW_5 _ (List.mem_of_getElem? (i := 26) rfl)) (inW_1 _ (List.mem_of_getElem? (i := 24) rfl)) (inW_1 _ (List.mem_of_getElem? (i := 25) rfl)) (inW_1 _ (List.mem_of_getElem? (i := 26) rfl)) rfl rfl (by decide +kernel) ⟨Nat.le_of_ble_eq_true rfl, Nat.le_of_ble_eq_true rfl⟩) hK hP hD hS hA hSt rfl hl.1 rfl (Nat.le_of_ble_eq_true rfl) dX3_quantize_93 ⟨Nat.le_of_ble_eq_true rfl, Nat.le_of_ble_eq_true rfl⟩ (fun H locs hP hD hS => ?_)
      show W p l e _ s m args below meth c H locs 0 0 Q (F0 m 96 ls (.int (F_X3_digitsOf (vco i1)) :: []))
      refine lv_iload_n hx hb dX3_quantize_96 rfl (lv_at hl 0 rfl) ?_
      refine lv_isub hx hb dX3_quantize_97 ?_
      refine lv_bipush (v := 16) hx hb dX3_quantize_98 (by decide) ?_
      refine lv_icmp_le (tgt := 110) hx hb dX3_quantize_100 (by decide) (fun c_7 => ?_) (fun c_7 => ?_)
      · rw [if_pos c_7] at hs
        rw [if_pos c_7] at hu
        refine lv_aload_n hx hb dX3_quantize_110 rfl (lv_at hl 1 rfl) ?_
        refine va_get (D := D) (ci := 4) (v := .ref (ad 8)) (C := RX3) (T := TX3) (N := 7) hx hb hts hi3 hown hK hP 0 rfl rfl 1 (by decide) (hts (.fieldLink RX3 16 "DecimalWords" "result" "LDecimalWords$Datum;") (inW_4 _ (List.mem_of_getElem? (i := 22) rfl))) (fun _ h9 => h9) rfl dX3_quantize_111 ?_
        refine lv_aload_n hx hb dX3_quantize_114 rfl (lv_at hl 2 rfl) ?_
        refine g_mi (i := i1) hx hb hts hi0 hown hK hP hb1 (hts (.fieldLink RX3 77 "DecimalWords$Datum" "minus" "Z") (inW_5 _ (List.mem_of_getElem? (i := 18) rfl))) dX3_quantize_115 ?_
        refine lv_aload_n hx hb dX3_quantize_118 rfl (lv_at hl 2 rfl) ?_
        refine g_co (i := i1) hx hb hts hi0 hown hK hP hb1 (hts (.fieldLink RX3 81 "DecimalWords$Datum" "coefficient" "J") (inW_5 _ (List.mem_of_getElem? (i := 20) rfl))) dX3_quantize_119 ?_
        refine lv_iload_n hx hb dX3_quantize_122 rfl (lv_at hl 0 rfl) ?_
        refine lv_ineg hx hb dX3_quantize_123 ?_
        have h_8 := hs
        refine x_S (As := [.int (-n1)]) (rest := [.long (vco i1), .int (bI (vmi i1)), .ref (ad 8)]) hCF (c_X3_tenTo l D cR cI cJ cZ t0 (xw cR ax ar ao ad vrd vtr vsd vrn vom voh vol vop voe vow vok vos vso vmi vco vex) (-n1) _ rfl h_8) (x_cwS 1 hts (inW_5 _ (List.mem_of_getElem? (i := 27) rfl)) (inW_2 _ (List.mem_of_getElem? (i := 9) rfl)) (inW_1 _ (List.mem_of_getElem? (i := 25) rfl)) (inW_2 _ (List.mem_of_getElem? (i := 10) rfl)) rfl rfl (by decide +kernel) ⟨Nat.le_of_ble_eq_true rfl, Nat.le_of_ble_eq_true rfl⟩) hK hP hD hS hA hSt rfl hl.1 rfl (Nat.le_of_ble_eq_true rfl) dX3_quantize_124 ⟨Nat.le_of_ble_eq_true rfl, Nat.le_of_ble_eq_true rfl⟩ (fun H locs hP hD hS => ?_)
        show W p l e _ s m args below meth c H locs 0 0 Q (F0 m 127 ls (.long (F_X3_tenTo (-n1)) :: [.long (vco i1), .int (bI (vmi i1)), .ref (ad 8)]))
        refine lv_lmul hx hb dX3_quantize_127 ?_
        refine lv_iload_n hx hb dX3_quantize_128 rfl (lv_at hl 3 rfl) ?_
        obtain ⟨u10, eu10⟩ : ∃ y9 : (Nat → Int32) × (Nat → Bool) × (Nat → Int64) × (Nat → Int32), y9 = F_X0_setFinite vso vmi vco vex 8 (vmi i1) ((vco i1) * (F_X3_tenTo (-n1))) p1 := ⟨_, rfl⟩
        have hu := hu _ eu10
        refine x_V (As := [.int (bI (vmi i1)), .long ((vco i1) * (F_X3_tenTo (-n1))), .int p1]) (rest := []) hCF (c_X0_setFinite l D cR cI cJ cZ t0 ax ar ao ad vrd vtr vsd vrn vom voh vol vop voe vow vok vos vso vmi vco vex 8 (vmi i1) ((vco i1) * (F_X3_tenTo (-n1))) p1 u10 eu10 (by decide)) (x_cwV 3 hts (inW_5 _ (List.mem_of_getElem? (i := 1) rfl)) (inW_4 _ (List.mem_of_getElem? (i := 9) rfl)) (inW_4 _ (List.mem_of_getElem? (i := 10) rfl)) (inW_1 _ (List.mem_of_getElem? (i := 16) rfl)) (inW_1 _ (List.mem_of_getElem? (i := 3) rfl)) rfl rfl (by decide +kernel) ⟨Nat.le_of_ble_eq_true rfl, Nat.le_of_ble_eq_true rfl⟩) hK hP hD hS hA hSt (3 + 8) (xw_dat (by decide)) rfl rfl hl.1 rfl (Nat.le_of_ble_eq_true rfl) dX3_quantize_129 ⟨Nat.le_of_ble_eq_true rfl, Nat.le_of_ble_eq_true rfl⟩ (fun H locs hP hD hS => ?_)
        show W p l e _ s m args below meth c H locs 0 0 Q (F0 m 132 ls [])
        have e9 := Eq.symm hu; subst e9
        exact x_vret hx hb hr hlocks hQ hK hP hD hS rfl dX3_quantize_132
      · rw [if_neg c_7] at hu
        refine lv_aload_n hx hb dX3_quantize_103 rfl (lv_at hl 1 rfl) ?_
        obtain ⟨u12, eu12⟩ : ∃ y9 : Int32 × (Nat → Int32) × (Nat → Bool) × (Nat → Int64) × (Nat → Int32), y9 = F_X3_setInvalid vrn vso vmi vco vex := ⟨_, rfl⟩
        have hu := hu _ eu12
        refine x_V (As := []) (rest := []) hCF (c_X3_setInvalid l D cR cI cJ cZ t0 ax ar ao ad vrd vtr vsd vrn vom voh vol vop voe vow vok vos vso vmi vco vex u12 eu12) (x_cwV 0 hts (inW_6 _ (List.mem_of_getElem? (i := 19) rfl)) (inW_6 _ (List.mem_of_getElem? (i := 20) rfl)) (inW_6 _ (List.mem_of_getElem? (i := 21) rfl)) (inW_1 _ (List.mem_of_getElem? (i := 25) rfl)) (inW_6 _ (List.mem_of_getElem? (i := 22) rfl)) rfl rfl (by decide +kernel) ⟨Nat.le_of_ble_eq_true rfl, Nat.le_of_ble_eq_true rfl⟩) hK hP hD hS hA hSt 0 rfl rfl rfl hl.1 rfl (Nat.le_of_ble_eq_true rfl) dX3_quantize_104 ⟨Nat.le_of_ble_eq_true rfl, Nat.le_of_ble_eq_true rfl⟩ (fun H locs hP hD hS => ?_)
        show W p l e _ s m args below meth c H locs 0 0 Q (F0 m 107 ls [])
        refine lv_goto (tgt := 132) hx hb dX3_quantize_107 (by decide) ?_
        have e9 := Eq.symm hu; subst e9
        exact x_vret hx hb hr hlocks hQ hK hP hD hS rfl dX3_quantize_132
    · rw [if_pos c_4] at hu
      refine lv_aload_n hx hb dX3_quantize_73 rfl (lv_at hl 1 rfl) ?_
      refine va_get (D := D) (ci := 4) (v := .ref (ad 8)) (C := RX3) (T := TX3) (N := 7) hx hb hts hi3 hown hK hP 0 rfl rfl 1 (by decide) (hts (.fieldLink RX3 16 "DecimalWords" "result" "LDecimalWords$Datum;") (inW_4 _ (List.mem_of_getElem? (i := 22) rfl))) (fun _ h9 => h9) rfl dX3_quantize_74 ?_
      refine lv_aload_n hx hb dX3_quantize_77 rfl (lv_at hl 2 rfl) ?_
      refine g_mi (i := i1) hx hb hts hi0 hown hK hP hb1 (hts (.fieldLink RX3 77 "DecimalWords$Datum" "minus" "Z") (inW_5 _ (List.mem_of_getElem? (i := 18) rfl))) dX3_quantize_78 ?_
      refine lv_lconst (v := 0) hx hb dX3_quantize_81 (by decide) ?_
      refine lv_iload_n hx hb dX3_quantize_82 rfl (lv_at hl 3 rfl) ?_
      obtain ⟨u14, eu14⟩ : ∃ y9 : (Nat → Int32) × (Nat → Bool) × (Nat → Int64) × (Nat → Int32), y9 = F_X0_setFinite vso vmi vco vex 8 (vmi i1) (0 : Int64) p1 := ⟨_, rfl⟩
      have hu := hu _ eu14
      refine x_V (As := [.int (bI (vmi i1)), .long 0, .int p1]) (rest := []) hCF (c_X0_setFinite l D cR cI cJ cZ t0 ax ar ao ad vrd vtr vsd vrn vom voh vol vop voe vow vok vos vso vmi vco vex 8 (vmi i1) (0 : Int64) p1 u14 eu14 (by decide)) (x_cwV 3 hts (inW_5 _ (List.mem_of_getElem? (i := 1) rfl)) (inW_4 _ (List.mem_of_getElem? (i := 9) rfl)) (inW_4 _ (List.mem_of_getElem? (i := 10) rfl)) (inW_1 _ (List.mem_of_getElem? (i := 16) rfl)) (inW_1 _ (List.mem_of_getElem? (i := 3) rfl)) rfl rfl (by decide +kernel) ⟨Nat.le_of_ble_eq_true rfl, Nat.le_of_ble_eq_true rfl⟩) hK hP hD hS hA hSt (3 + 8) (xw_dat (by decide)) rfl rfl hl.1 rfl (Nat.le_of_ble_eq_true rfl) dX3_quantize_83 ⟨Nat.le_of_ble_eq_true rfl, Nat.le_of_ble_eq_true rfl⟩ (fun H locs hP hD hS => ?_)
      show W p l e _ s m args below meth c H locs 0 0 Q (F0 m 86 ls [])
      refine lv_goto (tgt := 132) hx hb dX3_quantize_86 (by decide) ?_
      have e9 := Eq.symm hu; subst e9
      exact x_vret hx hb hr hlocks hQ hK hP hD hS rfl dX3_quantize_132
  · rw [if_neg c_2] at hs
    rw [if_neg c_2] at hu
    refine lv_aload_n hx hb dX3_quantize_11 rfl (lv_at hl 1 rfl) ?_
    refine va_get (D := D) (ci := 4) (v := .ref ao) (C := RX3) (T := TX3) (N := 7) hx hb hts hi3 hown hK hP 0 rfl rfl 2 (by decide) (hts (.fieldLink RX3 23 "DecimalWords" "outcome" "LDecimalWords$Outcome;") (inW_4 _ (List.mem_of_getElem? (i := 25) rfl))) (fun _ h9 => h9) rfl dX3_quantize_12 ?_
    refine lv_aload_n hx hb dX3_quantize_15 rfl (lv_at hl 2 rfl) ?_
    obtain ⟨u16, eu16⟩ : ∃ y9 : Bool × Int64 × Int64 × Int32 × Bool, y9 = F_X1_setWhole vmi vco vex i1 := ⟨_, rfl⟩
    have hs := hs _ eu16
    have hu := hu _ eu16
    refine x_V (As := [.ref (ad i1)]) (rest := []) hCF (c_X1_setWhole l D cR cI cJ cZ t0 ax ar ao ad vrd vtr vsd vrn vom voh vol vop voe vow vok vos vso vmi vco vex i1 u16 eu16 hb1) (x_cwV 1 hts (inW_8 _ (List.mem_of_getElem? (i := 7) rfl)) (inW_2 _ (List.mem_of_getElem? (i := 2) rfl)) (inW_2 _ (List.mem_of_getElem? (i := 3) rfl)) (inW_2 _ (List.mem_of_getElem? (i := 4) rfl)) (inW_1 _ (List.mem_of_getElem? (i := 28) rfl)) rfl rfl (by decide +kernel) ⟨Nat.le_of_ble_eq_true rfl, Nat.le_of_ble_eq_true rfl⟩) hK hP hD hS hA hSt 2 rfl rfl rfl hl.1 rfl (Nat.le_of_ble_eq_true rfl) dX3_quantize_16 ⟨Nat.le_of_ble_eq_true rfl, Nat.le_of_ble_eq_true rfl⟩ (fun H locs hP hD hS => ?_)
    show W p l e _ s m args below meth c H locs 0 0 Q (F0 m 19 ls [])
    refine lv_aload_n hx hb dX3_quantize_19 rfl (lv_at hl 1 rfl) ?_
    refine va_get (D := D) (ci := 4) (v := .ref ao) (C := RX3) (T := TX3) (N := 7) hx hb hts hi3 hown hK hP 0 rfl rfl 2 (by decide) (hts (.fieldLink RX3 23 "DecimalWords" "outcome" "LDecimalWords$Outcome;") (inW_4 _ (List.mem_of_getElem? (i := 25) rfl))) (fun _ h9 => h9) rfl dX3_quantize_20 ?_
    refine lv_iload_n hx hb dX3_quantize_23 rfl (lv_at hl 0 rfl) ?_
    have h_18 := hs
    obtain ⟨u19, eu19⟩ : ∃ y9 : Int64 × Int32, y9 = F_X1_cut u16.2.1 u16.2.2.1 u16.2.2.2.2 n1 := ⟨_, rfl⟩
    have hu := hu _ eu19
    refine x_V (As := [.int n1]) (rest := []) hCF (c_X1_cut l D cR cI cJ cZ t0 ax ar ao ad vrd vtr vsd vrn u16.1 u16.2.1 u16.2.2.1 u16.2.2.2.1 u16.2.2.2.2 vow vok vos vso vmi vco vex n1 u19 eu19 h_18) (x_cwV 1 hts (inW_7 _ (List.mem_of_getElem? (i := 23) rfl)) (inW_7 _ (List.mem_of_getElem? (i := 24) rfl)) (inW_7 _ (List.mem_of_getElem? (i := 25) rfl)) (inW_2 _ (List.mem_of_getElem? (i := 4) rfl)) (inW_2 _ (List.mem_of_getElem? (i := 32) rfl)) rfl rfl (by decide +kernel) ⟨Nat.le_of_ble_eq_true rfl, Nat.le_of_ble_eq_true rfl⟩) hK hP hD hS hA hSt 2 rfl rfl rfl hl.1 rfl (Nat.le_of_ble_eq_true rfl) dX3_quantize_24 ⟨Nat.le_of_ble_eq_true rfl, Nat.le_of_ble_eq_true rfl⟩ (fun H locs hP hD hS => ?_)
    show W p l e _ s m args below meth c H locs 0 0 Q (F0 m 27 ls [])
    refine lv_aload_n hx hb dX3_quantize_27 rfl (lv_at hl 1 rfl) ?_
    refine va_get (D := D) (ci := 4) (v := .ref ao) (C := RX3) (T := TX3) (N := 7) hx hb hts hi3 hown hK hP 0 rfl rfl 2 (by decide) (hts (.fieldLink RX3 23 "DecimalWords" "outcome" "LDecimalWords$Outcome;") (inW_4 _ (List.mem_of_getElem? (i := 25) rfl))) (fun _ h9 => h9) rfl dX3_quantize_28 ?_
    refine va_get (D := D) (ci := 3) (v := .int u19.2) (C := RX1) (T := TX1) (N := 8) hx hb hts hi1 hown hK hP 2 rfl rfl 7 (by decide) (hts (.fieldLink RX3 177 "DecimalWords$Outcome" "rest" "I") (inW_7 _ (List.mem_of_getElem? (i := 30) rfl))) (fun _ h9 => h9) rfl dX3_quantize_31 ?_
    have J_26 : (∀ z25 : Int32, z25 = Z_X3_quantize_J_26 vrn u19 → ∀ (H : Heap) (locs : List Loc), va_P D vwCl (xw cR ax ar ao ad vrd vtr vsd z25 u16.1 u16.2.1 u16.2.2.1 u16.2.2.2.1 u16.2.2.2.2 vow u19.1 u19.2 vso vmi vco vex) H → va_D A (xw cR ax ar ao ad vrd vtr vsd z25 u16.1 u16.2.1 u16.2.2.1 u16.2.2.2.1 u16.2.2.2.2 vow u19.1 u19.2 vso vmi vco vex) → va_S A s.heap H locs → ∀ ls : Array Slot, lv_has ls 4 [(0, .ref ax), (1, .ref (ad i1)), (2, .int p1)] → W p l e rm_X3_quantize s m args below meth c H locs 0 0 Q (F0 m 43 ls [])) := by
      intro z25 ez25 H locs hP hD hS ls hl
      have hu := hu _ ez25
      refine lv_aload_n hx hb dX3_quantize_43 rfl (lv_at hl 0 rfl) ?_
      refine va_get (D := D) (ci := 4) (v := .ref (ad 8)) (C := RX3) (T := TX3) (N := 7) hx hb hts hi3 hown hK hP 0 rfl rfl 1 (by decide) (hts (.fieldLink RX3 16 "DecimalWords" "result" "LDecimalWords$Datum;") (inW_4 _ (List.mem_of_getElem? (i := 22) rfl))) (fun _ h9 => h9) rfl dX3_quantize_44 ?_
      refine lv_aload_n hx hb dX3_quantize_47 rfl (lv_at hl 1 rfl) ?_
      refine g_mi (i := i1) hx hb hts hi0 hown hK hP hb1 (hts (.fieldLink RX3 77 "DecimalWords$Datum" "minus" "Z") (inW_5 _ (List.mem_of_getElem? (i := 18) rfl))) dX3_quantize_48 ?_
      refine lv_aload_n hx hb dX3_quantize_51 rfl (lv_at hl 0 rfl) ?_
      refine lv_aload_n hx hb dX3_quantize_52 rfl (lv_at hl 1 rfl) ?_
      refine g_mi (i := i1) hx hb hts hi0 hown hK hP hb1 (hts (.fieldLink RX3 77 "DecimalWords$Datum" "minus" "Z") (inW_5 _ (List.mem_of_getElem? (i := 18) rfl))) dX3_quantize_53 ?_
      refine x_V (As := [.int (bI (vmi i1))]) (rest := [.int (bI (vmi i1)), .ref (ad 8)]) hCF (c_X3_roundedKept l D cR cI cJ cZ t0 ax ar ao ad vrd vtr vsd z25 u16.1 u16.2.1 u16.2.2.1 u16.2.2.2.1 u16.2.2.2.2 vow u19.1 u19.2 vso vmi vco vex (vmi i1) _ rfl) (x_cwV 1 hts (inW_7 _ (List.mem_of_getElem? (i := 26) rfl)) (inW_7 _ (List.mem_of_getElem? (i := 27) rfl)) (inW_7 _ (List.mem_of_getElem? (i := 28) rfl)) (inW_1 _ (List.mem_of_getElem? (i := 25) rfl)) (inW_7 _ (List.mem_of_getElem? (i := 29) rfl)) rfl rfl (by decide +kernel) ⟨Nat.le_of_ble_eq_true rfl, Nat.le_of_ble_eq_true rfl⟩) hK hP hD hS hA hSt 0 rfl rfl rfl hl.1 rfl (Nat.le_of_ble_eq_true rfl) dX3_quantize_56 ⟨Nat.le_of_ble_eq_true rfl, Nat.le_of_ble_eq_true rfl⟩ (fun H locs hP hD hS => ?_)
      show W p l e _ s m args below meth c H locs 0 0 Q (F0 m 59 ls (.long (F_X3_roundedKept vrd u19.1 u19.2 (vmi i1)) :: [.int (bI (vmi i1)), .ref (ad 8)]))
      refine lv_iload_n hx hb dX3_quantize_59 rfl (lv_at hl 2 rfl) ?_
      obtain ⟨u28, eu28⟩ : ∃ y9 : (Nat → Int32) × (Nat → Bool) × (Nat → Int64) × (Nat → Int32), y9 = F_X0_setFinite vso vmi vco vex 8 (vmi i1) (F_X3_roundedKept vrd u19.1 u19.2 (vmi i1)) p1 := ⟨_, rfl⟩
      have hu := hu _ eu28
      refine x_V (As := [.int (bI (vmi i1)), .long (F_X3_roundedKept vrd u19.1 u19.2 (vmi i1)), .int p1]) (rest := []) hCF (c_X0_setFinite l D cR cI cJ cZ t0 ax ar ao ad vrd vtr vsd z25 u16.1 u16.2.1 u16.2.2.1 u16.2.2.2.1 u16.2.2.2.2 vow u19.1 u19.2 vso vmi vco vex 8 (vmi i1) (F_X3_roundedKept vrd u19.1 u19.2 (vmi i1)) p1 u28 eu28 (by decide)) (x_cwV 3 hts (inW_5 _ (List.mem_of_getElem? (i := 1) rfl)) (inW_4 _ (List.mem_of_getElem? (i := 9) rfl)) (inW_4 _ (List.mem_of_getElem? (i := 10) rfl)) (inW_1 _ (List.mem_of_getElem? (i := 16) rfl)) (inW_1 _ (List.mem_of_getElem? (i := 3) rfl)) rfl rfl (by decide +kernel) ⟨Nat.le_of_ble_eq_true rfl, Nat.le_of_ble_eq_true rfl⟩) hK hP hD hS hA hSt (3 + 8) (xw_dat (by decide)) rfl rfl hl.1 rfl (Nat.le_of_ble_eq_true rfl) dX3_quantize_60 ⟨Nat.le_of_ble_eq_true rfl, Nat.le_of_ble_eq_true rfl⟩ (fun H locs hP hD hS => ?_)
      show W p l e _ s m args below meth c H locs 0 0 Q (F0 m 63 ls [])
      refine lv_goto (tgt := 132) hx hb dX3_quantize_63 (by decide) ?_
      have e9 := Eq.symm hu; subst e9
      exact x_vret hx hb hr hlocks hQ hK hP hD hS rfl dX3_quantize_132
    obtain ⟨z9, ez9⟩ : ∃ y9 : Int32, y9 = Z_X3_quantize_J_26 vrn u19 := ⟨_, rfl⟩
    have hz := rZ_X3_quantize_J_26 vrn u19 ez9
    unfold RZ_X3_quantize_J_26 at hz
    refine lv_if_eq (tgt := 43) hx hb dX3_quantize_34 (by decide) (fun c_21 => ?_) (fun c_21 => ?_)
    · rw [if_pos c_21] at hz
      have e9 := Eq.symm hz; subst e9
      exact J_26 _ ez9 H locs hP hD hS ls (lv_sub hl [1, 2, 3] rfl)
    · rw [if_neg c_21] at hz
      refine lv_aload_n hx hb dX3_quantize_37 rfl (lv_at hl 1 rfl) ?_
      refine lv_bipush (v := 16) hx hb dX3_quantize_38 (by decide) ?_
      obtain ⟨u22, eu22⟩ : ∃ y9 : Int32, y9 = F_X3_raise vrn (16 : Int32) := ⟨_, rfl⟩
      have hz := hz _ eu22
      refine x_V (As := [.int 16]) (rest := []) hCF (c_X3_raise l D cR cI cJ cZ t0 ax ar ao ad vrd vtr vsd vrn u16.1 u16.2.1 u16.2.2.1 u16.2.2.2.1 u16.2.2.2.2 vow u19.1 u19.2 vso vmi vco vex (16 : Int32) u22 eu22) (x_cwV 1 hts (inW_6 _ (List.mem_of_getElem? (i := 23) rfl)) (inW_6 _ (List.mem_of_getElem? (i := 24) rfl)) (inW_6 _ (List.mem_of_getElem? (i := 25) rfl)) (inW_1 _ (List.mem_of_getElem? (i := 25) rfl)) (inW_6 _ (List.mem_of_getElem? (i := 26) rfl)) rfl rfl (by decide +kernel) ⟨Nat.le_of_ble_eq_true rfl, Nat.le_of_ble_eq_true rfl⟩) hK hP hD hS hA hSt 0 rfl rfl rfl hl.1 rfl (Nat.le_of_ble_eq_true rfl) dX3_quantize_40 ⟨Nat.le_of_ble_eq_true rfl, Nat.le_of_ble_eq_true rfl⟩ (fun H locs hP hD hS => ?_)
      show W p l e _ s m args below meth c H locs 0 0 Q (F0 m 43 ls [])
      have e9 := Eq.symm hz; subst e9
      exact J_26 _ ez9 H locs hP hD hS ls (lv_sub hl [1, 2, 3] rfl)

def Z_X3_setFromFinite_J_23 (vrd : Int32) : Bool := (if vrd = 4 then true else false)
def RZ_X3_setFromFinite_J_23 (vrd : Int32) (u9 : Bool) : Prop := (if vrd = 4 then u9 = true else u9 = false)
theorem rZ_X3_setFromFinite_J_23 (vrd : Int32) {u9 : Bool} (hu : u9 = Z_X3_setFromFinite_J_23 vrd) : RZ_X3_setFromFinite_J_23 vrd u9 := by
  unfold RZ_X3_setFromFinite_J_23
  refine ite_P (fun c_20 => ?_) (fun c_20 => ?_)
  · have hu := hu.trans (if_pos c_20)
    exact hu
  · have hu := hu.trans (if_neg c_20)
    exact hu
def Z_X3_setFromFinite_J_19 (vmi : Nat → Bool) (i3 : Nat) : Bool := (if vmi i3 = true then false else true)
def RZ_X3_setFromFinite_J_19 (vmi : Nat → Bool) (i3 : Nat) (u9 : Bool) : Prop := (if vmi i3 = true then u9 = false else u9 = true)
theorem rZ_X3_setFromFinite_J_19 (vmi : Nat → Bool) (i3 : Nat) {u9 : Bool} (hu : u9 = Z_X3_setFromFinite_J_19 vmi i3) : RZ_X3_setFromFinite_J_19 vmi i3 u9 := by
  unfold RZ_X3_setFromFinite_J_19
  refine ite_P (fun c_16 => ?_) (fun c_16 => ?_)
  · have hu := hu.trans (if_pos c_16)
    exact hu
  · have hu := hu.trans (if_neg c_16)
    exact hu
def Z_X3_setFromFinite_J_9 (vrd : Int32) : Bool := (if vrd = 4 then true else false)
def RZ_X3_setFromFinite_J_9 (vrd : Int32) (u9 : Bool) : Prop := (if vrd = 4 then u9 = true else u9 = false)
theorem rZ_X3_setFromFinite_J_9 (vrd : Int32) {u9 : Bool} (hu : u9 = Z_X3_setFromFinite_J_9 vrd) : RZ_X3_setFromFinite_J_9 vrd u9 := by
  unfold RZ_X3_setFromFinite_J_9
  refine ite_P (fun c_6 => ?_) (fun c_6 => ?_)
  · have hu := hu.trans (if_pos c_6)
    exact hu
  · have hu := hu.trans (if_neg c_6)
    exact hu
def F_X3_setFromFinite (vrd : Int32) (vrn : Int32) (vom : Bool) (voh : Int64) (vol : Int64) (vop : Int32) (voe : Bool) (vow : Int32) (vok : Int64) (vos : Int32) (vso : Nat → Int32) (vmi : Nat → Bool) (vco : Nat → Int64) (vex : Nat → Int32) (p0 : Int32) (i2 : Nat) (i3 : Nat) : Int32 × Bool × Int64 × Int64 × Int32 × Bool × Int32 × Int64 × Int32 × (Nat → Int32) × (Nat → Bool) × (Nat → Int64) × (Nat → Int32) := (if p0 = 0 then (bnd (Z_X3_setFromFinite_J_9 vrd) (fun z8 : Bool => (bnd (F_X1_setSum vso vmi vco vex i2 i3 (vmi i3) z8) (fun u11 : Bool × Int64 × Int64 × Int32 × Bool × Int32 => (bnd (F_X3_fit vrd vrn u11.1 u11.2.1 u11.2.2.1 u11.2.2.2.1 u11.2.2.2.2.1 u11.2.2.2.2.2 vok vos vso vmi vco vex) (fun u14 : Int32 × Int64 × Int64 × Int32 × Int64 × Int32 × (Nat → Int32) × (Nat → Bool) × (Nat → Int64) × (Nat → Int32) => (u14.1, u11.1, u14.2.1, u14.2.2.1, u14.2.2.2.1, u11.2.2.2.2.1, u11.2.2.2.2.2, u14.2.2.2.2.1, u14.2.2.2.2.2.1, u14.2.2.2.2.2.2.1, u14.2.2.2.2.2.2.2.1, u14.2.2.2.2.2.2.2.2.1, u14.2.2.2.2.2.2.2.2.2))))))) else (if p0 = 1 then (bnd (Z_X3_setFromFinite_J_19 vmi i3) (fun z18 : Bool => (bnd (Z_X3_setFromFinite_J_23 vrd) (fun z22 : Bool => (bnd (F_X1_setSum vso vmi vco vex i2 i3 z18 z22) (fun u25 : Bool × Int64 × Int64 × Int32 × Bool × Int32 => (bnd (F_X3_fit vrd vrn u25.1 u25.2.1 u25.2.2.1 u25.2.2.2.1 u25.2.2.2.2.1 u25.2.2.2.2.2 vok vos vso vmi vco vex) (fun u28 : Int32 × Int64 × Int64 × Int32 × Int64 × Int32 × (Nat → Int32) × (Nat → Bool) × (Nat → Int64) × (Nat → Int32) => (u28.1, u25.1, u28.2.1, u28.2.2.1, u28.2.2.2.1, u25.2.2.2.2.1, u25.2.2.2.2.2, u28.2.2.2.2.1, u28.2.2.2.2.2.1, u28.2.2.2.2.2.2.1, u28.2.2.2.2.2.2.2.1, u28.2.2.2.2.2.2.2.2.1, u28.2.2.2.2.2.2.2.2.2))))))))) else (if p0 = 2 then (bnd (F_X1_setProduct vmi vco vex i2 i3) (fun u30 : Bool × Int64 × Int64 × Int32 × Bool × Int32 => (bnd (F_X3_fit vrd vrn u30.1 u30.2.1 u30.2.2.1 u30.2.2.2.1 u30.2.2.2.2.1 u30.2.2.2.2.2 vok vos vso vmi vco vex) (fun u33 : Int32 × Int64 × Int64 × Int32 × Int64 × Int32 × (Nat → Int32) × (Nat → Bool) × (Nat → Int64) × (Nat → Int32) => (u33.1, u30.1, u33.2.1, u33.2.2.1, u33.2.2.2.1, u30.2.2.2.2.1, u30.2.2.2.2.2, u33.2.2.2.2.1, u33.2.2.2.2.2.1, u33.2.2.2.2.2.2.1, u33.2.2.2.2.2.2.2.1, u33.2.2.2.2.2.2.2.2.1, u33.2.2.2.2.2.2.2.2.2))))) else (if p0 = 3 then (bnd (F_X3_divide vrd vrn vom voh vol vop voe vow vok vos vso vmi vco vex i2 i3) (fun u36 : Int32 × Bool × Int64 × Int64 × Int32 × Bool × Int32 × Int64 × Int32 × (Nat → Int32) × (Nat → Bool) × (Nat → Int64) × (Nat → Int32) => (u36.1, u36.2.1, u36.2.2.1, u36.2.2.2.1, u36.2.2.2.2.1, u36.2.2.2.2.2.1, u36.2.2.2.2.2.2.1, u36.2.2.2.2.2.2.2.1, u36.2.2.2.2.2.2.2.2.1, u36.2.2.2.2.2.2.2.2.2.1, u36.2.2.2.2.2.2.2.2.2.2.1, u36.2.2.2.2.2.2.2.2.2.2.2.1, u36.2.2.2.2.2.2.2.2.2.2.2.2))) else (if p0 = 4 then (bnd (F_X3_quantize vrd vrn vom voh vol vop voe vok vos vso vmi vco vex i2 (vex i3)) (fun u39 : Int32 × Bool × Int64 × Int64 × Int32 × Bool × Int64 × Int32 × (Nat → Int32) × (Nat → Bool) × (Nat → Int64) × (Nat → Int32) => (u39.1, u39.2.1, u39.2.2.1, u39.2.2.2.1, u39.2.2.2.2.1, u39.2.2.2.2.2.1, vow, u39.2.2.2.2.2.2.1, u39.2.2.2.2.2.2.2.1, u39.2.2.2.2.2.2.2.2.1, u39.2.2.2.2.2.2.2.2.2.1, u39.2.2.2.2.2.2.2.2.2.2.1, u39.2.2.2.2.2.2.2.2.2.2.2))) else (bnd (F_X3_quantize vrd vrn vom voh vol vop voe vok vos vso vmi vco vex i2 (vex i3)) (fun u42 : Int32 × Bool × Int64 × Int64 × Int32 × Bool × Int64 × Int32 × (Nat → Int32) × (Nat → Bool) × (Nat → Int64) × (Nat → Int32) => (u42.1, u42.2.1, u42.2.2.1, u42.2.2.2.1, u42.2.2.2.2.1, u42.2.2.2.2.2.1, vow, u42.2.2.2.2.2.2.1, u42.2.2.2.2.2.2.2.1, u42.2.2.2.2.2.2.2.2.1, u42.2.2.2.2.2.2.2.2.2.1, u42.2.2.2.2.2.2.2.2.2.2.1, u42.2.2.2.2.2.2.2.2.2.2.2))))))))
def RF_X3_setFromFinite (vrd : Int32) (vrn : Int32) (vom : Bool) (voh : Int64) (vol : Int64) (vop : Int32) (voe : Bool) (vow : Int32) (vok : Int64) (vos : Int32) (vso : Nat → Int32) (vmi : Nat → Bool) (vco : Nat → Int64) (vex : Nat → Int32) (p0 : Int32) (i2 : Nat) (i3 : Nat) (u9 : Int32 × Bool × Int64 × Int64 × Int32 × Bool × Int32 × Int64 × Int32 × (Nat → Int32) × (Nat → Bool) × (Nat → Int64) × (Nat → Int32)) : Prop := (if p0 = 0 then (∀ z8 : Bool, z8 = Z_X3_setFromFinite_J_9 vrd → (∀ u11 : Bool × Int64 × Int64 × Int32 × Bool × Int32, u11 = F_X1_setSum vso vmi vco vex i2 i3 (vmi i3) z8 → (∀ u14 : Int32 × Int64 × Int64 × Int32 × Int64 × Int32 × (Nat → Int32) × (Nat → Bool) × (Nat → Int64) × (Nat → Int32), u14 = F_X3_fit vrd vrn u11.1 u11.2.1 u11.2.2.1 u11.2.2.2.1 u11.2.2.2.2.1 u11.2.2.2.2.2 vok vos vso vmi vco vex → u9 = (u14.1, u11.1, u14.2.1, u14.2.2.1, u14.2.2.2.1, u11.2.2.2.2.1, u11.2.2.2.2.2, u14.2.2.2.2.1, u14.2.2.2.2.2.1, u14.2.2.2.2.2.2.1, u14.2.2.2.2.2.2.2.1, u14.2.2.2.2.2.2.2.2.1, u14.2.2.2.2.2.2.2.2.2)))) else (if p0 = 1 then (∀ z18 : Bool, z18 = Z_X3_setFromFinite_J_19 vmi i3 → (∀ z22 : Bool, z22 = Z_X3_setFromFinite_J_23 vrd → (∀ u25 : Bool × Int64 × Int64 × Int32 × Bool × Int32, u25 = F_X1_setSum vso vmi vco vex i2 i3 z18 z22 → (∀ u28 : Int32 × Int64 × Int64 × Int32 × Int64 × Int32 × (Nat → Int32) × (Nat → Bool) × (Nat → Int64) × (Nat → Int32), u28 = F_X3_fit vrd vrn u25.1 u25.2.1 u25.2.2.1 u25.2.2.2.1 u25.2.2.2.2.1 u25.2.2.2.2.2 vok vos vso vmi vco vex → u9 = (u28.1, u25.1, u28.2.1, u28.2.2.1, u28.2.2.2.1, u25.2.2.2.2.1, u25.2.2.2.2.2, u28.2.2.2.2.1, u28.2.2.2.2.2.1, u28.2.2.2.2.2.2.1, u28.2.2.2.2.2.2.2.1, u28.2.2.2.2.2.2.2.2.1, u28.2.2.2.2.2.2.2.2.2))))) else (if p0 = 2 then (∀ u30 : Bool × Int64 × Int64 × Int32 × Bool × Int32, u30 = F_X1_setProduct vmi vco vex i2 i3 → (∀ u33 : Int32 × Int64 × Int64 × Int32 × Int64 × Int32 × (Nat → Int32) × (Nat → Bool) × (Nat → Int64) × (Nat → Int32), u33 = F_X3_fit vrd vrn u30.1 u30.2.1 u30.2.2.1 u30.2.2.2.1 u30.2.2.2.2.1 u30.2.2.2.2.2 vok vos vso vmi vco vex → u9 = (u33.1, u30.1, u33.2.1, u33.2.2.1, u33.2.2.2.1, u30.2.2.2.2.1, u30.2.2.2.2.2, u33.2.2.2.2.1, u33.2.2.2.2.2.1, u33.2.2.2.2.2.2.1, u33.2.2.2.2.2.2.2.1, u33.2.2.2.2.2.2.2.2.1, u33.2.2.2.2.2.2.2.2.2))) else (if p0 = 3 then (∀ u36 : Int32 × Bool × Int64 × Int64 × Int32 × Bool × Int32 × Int64 × Int32 × (Nat → Int32) × (Nat → Bool) × (Nat → Int64) × (Nat → Int32), u36 = F_X3_divide vrd vrn vom voh vol vop voe vow vok vos vso vmi vco vex i2 i3 → u9 = (u36.1, u36.2.1, u36.2.2.1, u36.2.2.2.1, u36.2.2.2.2.1, u36.2.2.2.2.2.1, u36.2.2.2.2.2.2.1, u36.2.2.2.2.2.2.2.1, u36.2.2.2.2.2.2.2.2.1, u36.2.2.2.2.2.2.2.2.2.1, u36.2.2.2.2.2.2.2.2.2.2.1, u36.2.2.2.2.2.2.2.2.2.2.2.1, u36.2.2.2.2.2.2.2.2.2.2.2.2)) else (if p0 = 4 then (∀ u39 : Int32 × Bool × Int64 × Int64 × Int32 × Bool × Int64 × Int32 × (Nat → Int32) × (Nat → Bool) × (Nat → Int64) × (Nat → Int32), u39 = F_X3_quantize vrd vrn vom voh vol vop voe vok vos vso vmi vco vex i2 (vex i3) → u9 = (u39.1, u39.2.1, u39.2.2.1, u39.2.2.2.1, u39.2.2.2.2.1, u39.2.2.2.2.2.1, vow, u39.2.2.2.2.2.2.1, u39.2.2.2.2.2.2.2.1, u39.2.2.2.2.2.2.2.2.1, u39.2.2.2.2.2.2.2.2.2.1, u39.2.2.2.2.2.2.2.2.2.2.1, u39.2.2.2.2.2.2.2.2.2.2.2)) else (∀ u42 : Int32 × Bool × Int64 × Int64 × Int32 × Bool × Int64 × Int32 × (Nat → Int32) × (Nat → Bool) × (Nat → Int64) × (Nat → Int32), u42 = F_X3_quantize vrd vrn vom voh vol vop voe vok vos vso vmi vco vex i2 (vex i3) → u9 = (u42.1, u42.2.1, u42.2.2.1, u42.2.2.2.1, u42.2.2.2.2.1, u42.2.2.2.2.2.1, vow, u42.2.2.2.2.2.2.1, u42.2.2.2.2.2.2.2.1, u42.2.2.2.2.2.2.2.2.1, u42.2.2.2.2.2.2.2.2.2.1, u42.2.2.2.2.2.2.2.2.2.2.1, u42.2.2.2.2.2.2.2.2.2.2.2)))))))
theorem rF_X3_setFromFinite (vrd : Int32) (vrn : Int32) (vom : Bool) (voh : Int64) (vol : Int64) (vop : Int32) (voe : Bool) (vow : Int32) (vok : Int64) (vos : Int32) (vso : Nat → Int32) (vmi : Nat → Bool) (vco : Nat → Int64) (vex : Nat → Int32) (p0 : Int32) (i2 : Nat) (i3 : Nat) {u9 : Int32 × Bool × Int64 × Int64 × Int32 × Bool × Int32 × Int64 × Int32 × (Nat → Int32) × (Nat → Bool) × (Nat → Int64) × (Nat → Int32)} (hu : u9 = F_X3_setFromFinite vrd vrn vom voh vol vop voe vow vok vos vso vmi vco vex p0 i2 i3) : RF_X3_setFromFinite vrd vrn vom voh vol vop voe vow vok vos vso vmi vco vex p0 i2 i3 u9 := by
  unfold RF_X3_setFromFinite
  refine ite_P (fun c_1 => ?_) (fun c_1 => ?_)
  · have hu := hu.trans (if_pos c_1)
    intro z8 ez8
    have hu := bnd_n hu ez8
    intro u11 eu11
    have hu := bnd_n hu eu11
    intro u14 eu14
    have hu := bnd_n hu eu14
    exact hu
  have hu := hu.trans (if_neg c_1)
  refine ite_P (fun c_2 => ?_) (fun c_2 => ?_)
  · have hu := hu.trans (if_pos c_2)
    intro z18 ez18
    have hu := bnd_n hu ez18
    intro z22 ez22
    have hu := bnd_n hu ez22
    intro u25 eu25
    have hu := bnd_n hu eu25
    intro u28 eu28
    have hu := bnd_n hu eu28
    exact hu
  have hu := hu.trans (if_neg c_2)
  refine ite_P (fun c_3 => ?_) (fun c_3 => ?_)
  · have hu := hu.trans (if_pos c_3)
    intro u30 eu30
    have hu := bnd_n hu eu30
    intro u33 eu33
    have hu := bnd_n hu eu33
    exact hu
  have hu := hu.trans (if_neg c_3)
  refine ite_P (fun c_4 => ?_) (fun c_4 => ?_)
  · have hu := hu.trans (if_pos c_4)
    intro u36 eu36
    have hu := bnd_n hu eu36
    exact hu
  have hu := hu.trans (if_neg c_4)
  refine ite_P (fun c_5 => ?_) (fun c_5 => ?_)
  · have hu := hu.trans (if_pos c_5)
    intro u39 eu39
    have hu := bnd_n hu eu39
    exact hu
  have hu := hu.trans (if_neg c_5)
  intro u42 eu42
  have hu := bnd_n hu eu42
  exact hu
def S_X3_setFromFinite (vrd : Int32) (vrn : Int32) (vom : Bool) (voh : Int64) (vol : Int64) (vop : Int32) (voe : Bool) (vow : Int32) (vok : Int64) (vos : Int32) (vso : Nat → Int32) (vmi : Nat → Bool) (vco : Nat → Int64) (vex : Nat → Int32) (p0 : Int32) (i2 : Nat) (i3 : Nat) : Prop := (if p0 = 0 then (∀ z8 : Bool, z8 = Z_X3_setFromFinite_J_9 vrd → (S_X1_setSum vso vmi vco vex i2 i3 (vmi i3) z8) ∧ (∀ u11 : Bool × Int64 × Int64 × Int32 × Bool × Int32, u11 = F_X1_setSum vso vmi vco vex i2 i3 (vmi i3) z8 → S_X3_fit vrd vrn u11.1 u11.2.1 u11.2.2.1 u11.2.2.2.1 u11.2.2.2.2.1 u11.2.2.2.2.2 vok vos vso vmi vco vex)) else (if p0 = 1 then (∀ z18 : Bool, z18 = Z_X3_setFromFinite_J_19 vmi i3 → (∀ z22 : Bool, z22 = Z_X3_setFromFinite_J_23 vrd → (S_X1_setSum vso vmi vco vex i2 i3 z18 z22) ∧ (∀ u25 : Bool × Int64 × Int64 × Int32 × Bool × Int32, u25 = F_X1_setSum vso vmi vco vex i2 i3 z18 z22 → S_X3_fit vrd vrn u25.1 u25.2.1 u25.2.2.1 u25.2.2.2.1 u25.2.2.2.2.1 u25.2.2.2.2.2 vok vos vso vmi vco vex))) else (if p0 = 2 then (∀ u30 : Bool × Int64 × Int64 × Int32 × Bool × Int32, u30 = F_X1_setProduct vmi vco vex i2 i3 → S_X3_fit vrd vrn u30.1 u30.2.1 u30.2.2.1 u30.2.2.2.1 u30.2.2.2.2.1 u30.2.2.2.2.2 vok vos vso vmi vco vex) else (if p0 = 3 then S_X3_divide vrd vrn vom voh vol vop voe vow vok vos vso vmi vco vex i2 i3 else (if p0 = 4 then S_X3_quantize vrd vrn vom voh vol vop voe vok vos vso vmi vco vex i2 (vex i3) else S_X3_quantize vrd vrn vom voh vol vop voe vok vos vso vmi vco vex i2 (vex i3))))))
def rm_X3_setFromFinite : Room := { frames := 6, cells := 0, slots := 0, locals := 150 }
set_option maxHeartbeats 4000000 in
set_option maxRecDepth 100000 in
theorem c_X3_setFromFinite (l : Launch) (D : va_G) (cR cI cJ cZ : ClassId) (t0 : Nat) (ax ar ao : Nat) (ad : Nat → Nat) (vrd : Int32) (vtr : Int32) (vsd : Int32) (vrn : Int32) (vom : Bool) (voh : Int64) (vol : Int64) (vop : Int32) (voe : Bool) (vow : Int32) (vok : Int64) (vos : Int32) (vso : Nat → Int32) (vmi : Nat → Bool) (vco : Nat → Int64) (vex : Nat → Int32) (p0 : Int32) (i2 : Nat) (i3 : Nat) (u : Int32 × Bool × Int64 × Int64 × Int32 × Bool × Int32 × Int64 × Int32 × (Nat → Int32) × (Nat → Bool) × (Nat → Int64) × (Nat → Int32)) (hu : u = F_X3_setFromFinite vrd vrn vom voh vol vop voe vow vok vos vso vmi vco vex p0 i2 i3) (hs : S_X3_setFromFinite vrd vrn vom voh vol vop voe vow vok vos vso vmi vco vex p0 i2 i3) (hb2 : i2 < 9) (hb3 : i3 < 9) : XM l D (xty cR cI cJ cZ) t0 yX3_setFromFinite cX3_setFromFinite 4 none rm_X3_setFromFinite [.ref ax, .int p0, .ref (ad i2), .ref (ad i3)] none (xw cR ax ar ao ad vrd vtr vsd vrn vom voh vol vop voe vow vok vos vso vmi vco vex) (xw cR ax ar ao ad vrd vtr vsd u.1 u.2.1 u.2.2.1 u.2.2.2.1 u.2.2.2.2.1 u.2.2.2.2.2.1 u.2.2.2.2.2.2.1 u.2.2.2.2.2.2.2.1 u.2.2.2.2.2.2.2.2.1 u.2.2.2.2.2.2.2.2.2.1 u.2.2.2.2.2.2.2.2.2.2.1 u.2.2.2.2.2.2.2.2.2.2.2.1 u.2.2.2.2.2.2.2.2.2.2.2.2) := by
  refine XM.of (by decide) (Nat.le_of_ble_eq_true rfl) ?_
  intro p e s m args below meth c A Q F hK hP hD hA hSt hS hQ ls hl
  obtain ⟨hx, hb, hr, hts, hown, hlocks, hml⟩ := F
  have hCF : CallFix p m c cX3_setFromFinite 4 s args gW RX3 := ⟨hx, hb, hml, hown, hts⟩
  unfold S_X3_setFromFinite at hs
  have hu := rF_X3_setFromFinite vrd vrn vom voh vol vop voe vow vok vos vso vmi vco vex p0 i2 i3 hu
  unfold RF_X3_setFromFinite at hu
  obtain ⟨H, eH⟩ : ∃ y9 : Heap, y9 = s.heap := ⟨_, rfl⟩
  obtain ⟨locs, eL⟩ : ∃ y9 : List Loc, y9 = [] := ⟨_, rfl⟩
  rw [← eL] at hS ⊢
  have hP : va_P D vwCl (xw cR ax ar ao ad vrd vtr vsd vrn vom voh vol vop voe vow vok vos vso vmi vco vex) H := by rw [eH]; exact hP
  have hS : va_S A s.heap H locs := by rw [eH]; exact hS
  suffices goal9 : W p l e rm_X3_setFromFinite s m args below meth c H locs 0 0 Q (F0 m 0 ls []) from by rw [← eH]; exact goal9
  have hl : lv_has ls 4 [(0, .ref ax), (1, .int p0), (2, .ref (ad i2)), (3, .ref (ad i3))] := hl
  have hi0 : ∀ w ∈ wsX00, w ∈ gW := inW_X0
  have hi3 : ∀ w ∈ wsX30, w ∈ gW := inW_X3
  refine lv_iload_n hx hb dX3_setFromFinite_0 rfl (lv_at hl 1 rfl) ?_
  by_cases c_1 : p0 = 0
  · rw [if_pos c_1] at hs
    rw [if_pos c_1] at hu
    refine lv_tableIn (tgt := 36) hx hb dX3_setFromFinite_1 (by rw [c_1]; decide) (by rw [c_1]; decide) (by rw [c_1]; rfl) (by decide) ?_
    refine lv_aload_n hx hb dX3_setFromFinite_36 rfl (lv_at hl 0 rfl) ?_
    refine va_get (D := D) (ci := 4) (v := .ref ao) (C := RX3) (T := TX3) (N := 7) hx hb hts hi3 hown hK hP 0 rfl rfl 2 (by decide) (hts (.fieldLink RX3 23 "DecimalWords" "outcome" "LDecimalWords$Outcome;") (inW_4 _ (List.mem_of_getElem? (i := 25) rfl))) (fun _ h9 => h9) rfl dX3_setFromFinite_37 ?_
    refine lv_aload_n hx hb dX3_setFromFinite_40 rfl (lv_at hl 2 rfl) ?_
    refine lv_aload_n hx hb dX3_setFromFinite_41 rfl (lv_at hl 3 rfl) ?_
    refine lv_aload_n hx hb dX3_setFromFinite_42 rfl (lv_at hl 3 rfl) ?_
    refine g_mi (i := i3) hx hb hts hi0 hown hK hP hb3 (hts (.fieldLink RX3 77 "DecimalWords$Datum" "minus" "Z") (inW_5 _ (List.mem_of_getElem? (i := 18) rfl))) dX3_setFromFinite_43 ?_
    refine lv_aload_n hx hb dX3_setFromFinite_46 rfl (lv_at hl 0 rfl) ?_
    refine va_get (D := D) (ci := 4) (v := .int vrd) (C := RX3) (T := TX3) (N := 7) hx hb hts hi3 hown hK hP 0 rfl rfl 3 (by decide) (hts (.fieldLink RX3 27 "DecimalWords" "rounding" "I") (inW_4 _ (List.mem_of_getElem? (i := 26) rfl))) (fun _ h9 => h9) rfl dX3_setFromFinite_47 ?_
    refine lv_iconst (v := 4) hx hb dX3_setFromFinite_50 (by decide) ?_
    have J_9 : (∀ z8 : Bool, z8 = Z_X3_setFromFinite_J_9 vrd → ∀ (H : Heap) (locs : List Loc), va_P D vwCl (xw cR ax ar ao ad vrd vtr vsd vrn vom voh vol vop voe vow vok vos vso vmi vco vex) H → va_D A (xw cR ax ar ao ad vrd vtr vsd vrn vom voh vol vop voe vow vok vos vso vmi vco vex) → va_S A s.heap H locs → ∀ ls : Array Slot, lv_has ls 4 [(0, .ref ax)] → W p l e rm_X3_setFromFinite s m args below meth c H locs 0 0 Q (F0 m 59 ls [.int (bI z8), .int (bI (vmi i3)), .ref (ad i3), .ref (ad i2), .ref ao])) := by
      intro z8 ez8 H locs hP hD hS ls hl
      have hs := hs _ ez8
      have hu := hu _ ez8
      obtain ⟨h_10, hs⟩ := hs
      obtain ⟨u11, eu11⟩ : ∃ y9 : Bool × Int64 × Int64 × Int32 × Bool × Int32, y9 = F_X1_setSum vso vmi vco vex i2 i3 (vmi i3) z8 := ⟨_, rfl⟩
      have hs := hs _ eu11
      have hu := hu _ eu11
      refine x_V (As := [.ref (ad i2), .ref (ad i3), .int (bI (vmi i3)), .int (bI z8)]) (rest := []) hCF (c_X1_setSum l D cR cI cJ cZ t0 ax ar ao ad vrd vtr vsd vrn vom voh vol vop voe vow vok vos vso vmi vco vex i2 i3 (vmi i3) z8 u11 eu11 h_10 hb2 hb3) (x_cwV 4 hts (inW_6 _ (List.mem_of_getElem? (i := 31) rfl)) (inW_6 _ (List.mem_of_getElem? (i := 32) rfl)) (inW_6 _ (List.mem_of_getElem? (i := 33) rfl)) (inW_2 _ (List.mem_of_getElem? (i := 4) rfl)) (inW_1 _ (List.mem_of_getElem? (i := 34) rfl)) rfl rfl (by decide +kernel) ⟨Nat.le_of_ble_eq_true rfl, Nat.le_of_ble_eq_true rfl⟩) hK hP hD hS hA hSt 2 rfl rfl rfl hl.1 rfl (Nat.le_of_ble_eq_true rfl) dX3_setFromFinite_59 ⟨Nat.le_of_ble_eq_true rfl, Nat.le_of_ble_eq_true rfl⟩ (fun H locs hP hD hS => ?_)
      show W p l e _ s m args below meth c H locs 0 0 Q (F0 m 62 ls [])
      refine lv_aload_n hx hb dX3_setFromFinite_62 rfl (lv_at hl 0 rfl) ?_
      have h_13 := hs
      obtain ⟨u14, eu14⟩ : ∃ y9 : Int32 × Int64 × Int64 × Int32 × Int64 × Int32 × (Nat → Int32) × (Nat → Bool) × (Nat → Int64) × (Nat → Int32), y9 = F_X3_fit vrd vrn u11.1 u11.2.1 u11.2.2.1 u11.2.2.2.1 u11.2.2.2.2.1 u11.2.2.2.2.2 vok vos vso vmi vco vex := ⟨_, rfl⟩
      have hu := hu _ eu14
      refine x_V (As := []) (rest := []) hCF (c_X3_fit l D cR cI cJ cZ t0 ax ar ao ad vrd vtr vsd vrn u11.1 u11.2.1 u11.2.2.1 u11.2.2.2.1 u11.2.2.2.2.1 u11.2.2.2.2.2 vok vos vso vmi vco vex u14 eu14 h_13) (x_cwV 0 hts (inW_6 _ (List.mem_of_getElem? (i := 34) rfl)) (inW_6 _ (List.mem_of_getElem? (i := 35) rfl)) (inW_6 _ (List.mem_of_getElem? (i := 36) rfl)) (inW_1 _ (List.mem_of_getElem? (i := 25) rfl)) (inW_6 _ (List.mem_of_getElem? (i := 37) rfl)) rfl rfl (by decide +kernel) ⟨Nat.le_of_ble_eq_true rfl, Nat.le_of_ble_eq_true rfl⟩) hK hP hD hS hA hSt 0 rfl rfl rfl hl.1 rfl (Nat.le_of_ble_eq_true rfl) dX3_setFromFinite_63 ⟨Nat.le_of_ble_eq_true rfl, Nat.le_of_ble_eq_true rfl⟩ (fun H locs hP hD hS => ?_)
      show W p l e _ s m args below meth c H locs 0 0 Q (F0 m 66 ls [])
      refine lv_goto (tgt := 144) hx hb dX3_setFromFinite_66 (by decide) ?_
      have e9 := Eq.symm hu; subst e9
      exact x_vret hx hb hr hlocks hQ hK hP hD hS rfl dX3_setFromFinite_144
    obtain ⟨z9, ez9⟩ : ∃ y9 : Bool, y9 = Z_X3_setFromFinite_J_9 vrd := ⟨_, rfl⟩
    have hz := rZ_X3_setFromFinite_J_9 vrd ez9
    unfold RZ_X3_setFromFinite_J_9 at hz
    refine lv_icmp_ne (tgt := 58) hx hb dX3_setFromFinite_51 (by decide) (fun c_6 => ?_) (fun c_6 => ?_)
    · rw [if_neg c_6] at hz
      refine lv_iconst (v := 0) hx hb dX3_setFromFinite_58 (by decide) ?_
      have e9 := Eq.symm hz; subst e9
      exact J_9 _ ez9 H locs hP hD hS ls (lv_sub hl [0] rfl)
    · rw [if_pos c_6] at hz
      refine lv_iconst (v := 1) hx hb dX3_setFromFinite_54 (by decide) ?_
      refine lv_goto (tgt := 59) hx hb dX3_setFromFinite_55 (by decide) ?_
      have e9 := Eq.symm hz; subst e9
      exact J_9 _ ez9 H locs hP hD hS ls (lv_sub hl [0] rfl)
  rw [if_neg c_1] at hs
  rw [if_neg c_1] at hu
  by_cases c_2 : p0 = 1
  · rw [if_pos c_2] at hs
    rw [if_pos c_2] at hu
    refine lv_tableIn (tgt := 69) hx hb dX3_setFromFinite_1 (by rw [c_2]; decide) (by rw [c_2]; decide) (by rw [c_2]; rfl) (by decide) ?_
    refine lv_aload_n hx hb dX3_setFromFinite_69 rfl (lv_at hl 0 rfl) ?_
    refine va_get (D := D) (ci := 4) (v := .ref ao) (C := RX3) (T := TX3) (N := 7) hx hb hts hi3 hown hK hP 0 rfl rfl 2 (by decide) (hts (.fieldLink RX3 23 "DecimalWords" "outcome" "LDecimalWords$Outcome;") (inW_4 _ (List.mem_of_getElem? (i := 25) rfl))) (fun _ h9 => h9) rfl dX3_setFromFinite_70 ?_
    refine lv_aload_n hx hb dX3_setFromFinite_73 rfl (lv_at hl 2 rfl) ?_
    refine lv_aload_n hx hb dX3_setFromFinite_74 rfl (lv_at hl 3 rfl) ?_
    refine lv_aload_n hx hb dX3_setFromFinite_75 rfl (lv_at hl 3 rfl) ?_
    refine g_mi (i := i3) hx hb hts hi0 hown hK hP hb3 (hts (.fieldLink RX3 77 "DecimalWords$Datum" "minus" "Z") (inW_5 _ (List.mem_of_getElem? (i := 18) rfl))) dX3_setFromFinite_76 ?_
    have J_19 : (∀ z18 : Bool, z18 = Z_X3_setFromFinite_J_19 vmi i3 → ∀ (H : Heap) (locs : List Loc), va_P D vwCl (xw cR ax ar ao ad vrd vtr vsd vrn vom voh vol vop voe vow vok vos vso vmi vco vex) H → va_D A (xw cR ax ar ao ad vrd vtr vsd vrn vom voh vol vop voe vow vok vos vso vmi vco vex) → va_S A s.heap H locs → ∀ ls : Array Slot, lv_has ls 4 [(0, .ref ax)] → W p l e rm_X3_setFromFinite s m args below meth c H locs 0 0 Q (F0 m 87 ls [.int (bI z18), .ref (ad i3), .ref (ad i2), .ref ao])) := by
      intro z18 ez18 H locs hP hD hS ls hl
      have hs := hs _ ez18
      have hu := hu _ ez18
      refine lv_aload_n hx hb dX3_setFromFinite_87 rfl (lv_at hl 0 rfl) ?_
      refine va_get (D := D) (ci := 4) (v := .int vrd) (C := RX3) (T := TX3) (N := 7) hx hb hts hi3 hown hK hP 0 rfl rfl 3 (by decide) (hts (.fieldLink RX3 27 "DecimalWords" "rounding" "I") (inW_4 _ (List.mem_of_getElem? (i := 26) rfl))) (fun _ h9 => h9) rfl dX3_setFromFinite_88 ?_
      refine lv_iconst (v := 4) hx hb dX3_setFromFinite_91 (by decide) ?_
      have J_23 : (∀ z22 : Bool, z22 = Z_X3_setFromFinite_J_23 vrd → ∀ (H : Heap) (locs : List Loc), va_P D vwCl (xw cR ax ar ao ad vrd vtr vsd vrn vom voh vol vop voe vow vok vos vso vmi vco vex) H → va_D A (xw cR ax ar ao ad vrd vtr vsd vrn vom voh vol vop voe vow vok vos vso vmi vco vex) → va_S A s.heap H locs → ∀ ls : Array Slot, lv_has ls 4 [(0, .ref ax)] → W p l e rm_X3_setFromFinite s m args below meth c H locs 0 0 Q (F0 m 100 ls [.int (bI z22), .int (bI z18), .ref (ad i3), .ref (ad i2), .ref ao])) := by
        intro z22 ez22 H locs hP hD hS ls hl
        have hs := hs _ ez22
        have hu := hu _ ez22
        obtain ⟨h_24, hs⟩ := hs
        obtain ⟨u25, eu25⟩ : ∃ y9 : Bool × Int64 × Int64 × Int32 × Bool × Int32, y9 = F_X1_setSum vso vmi vco vex i2 i3 z18 z22 := ⟨_, rfl⟩
        have hs := hs _ eu25
        have hu := hu _ eu25
        refine x_V (As := [.ref (ad i2), .ref (ad i3), .int (bI z18), .int (bI z22)]) (rest := []) hCF (c_X1_setSum l D cR cI cJ cZ t0 ax ar ao ad vrd vtr vsd vrn vom voh vol vop voe vow vok vos vso vmi vco vex i2 i3 z18 z22 u25 eu25 h_24 hb2 hb3) (x_cwV 4 hts (inW_6 _ (List.mem_of_getElem? (i := 31) rfl)) (inW_6 _ (List.mem_of_getElem? (i := 32) rfl)) (inW_6 _ (List.mem_of_getElem? (i := 33) rfl)) (inW_2 _ (List.mem_of_getElem? (i := 4) rfl)) (inW_1 _ (List.mem_of_getElem? (i := 34) rfl)) rfl rfl (by decide +kernel) ⟨Nat.le_of_ble_eq_true rfl, Nat.le_of_ble_eq_true rfl⟩) hK hP hD hS hA hSt 2 rfl rfl rfl hl.1 rfl (Nat.le_of_ble_eq_true rfl) dX3_setFromFinite_100 ⟨Nat.le_of_ble_eq_true rfl, Nat.le_of_ble_eq_true rfl⟩ (fun H locs hP hD hS => ?_)
        show W p l e _ s m args below meth c H locs 0 0 Q (F0 m 103 ls [])
        refine lv_aload_n hx hb dX3_setFromFinite_103 rfl (lv_at hl 0 rfl) ?_
        have h_27 := hs
        obtain ⟨u28, eu28⟩ : ∃ y9 : Int32 × Int64 × Int64 × Int32 × Int64 × Int32 × (Nat → Int32) × (Nat → Bool) × (Nat → Int64) × (Nat → Int32), y9 = F_X3_fit vrd vrn u25.1 u25.2.1 u25.2.2.1 u25.2.2.2.1 u25.2.2.2.2.1 u25.2.2.2.2.2 vok vos vso vmi vco vex := ⟨_, rfl⟩
        have hu := hu _ eu28
        refine x_V (As := []) (rest := []) hCF (c_X3_fit l D cR cI cJ cZ t0 ax ar ao ad vrd vtr vsd vrn u25.1 u25.2.1 u25.2.2.1 u25.2.2.2.1 u25.2.2.2.2.1 u25.2.2.2.2.2 vok vos vso vmi vco vex u28 eu28 h_27) (x_cwV 0 hts (inW_6 _ (List.mem_of_getElem? (i := 34) rfl)) (inW_6 _ (List.mem_of_getElem? (i := 35) rfl)) (inW_6 _ (List.mem_of_getElem? (i := 36) rfl)) (inW_1 _ (List.mem_of_getElem? (i := 25) rfl)) (inW_6 _ (List.mem_of_getElem? (i := 37) rfl)) rfl rfl (by decide +kernel) ⟨Nat.le_of_ble_eq_true rfl, Nat.le_of_ble_eq_true rfl⟩) hK hP hD hS hA hSt 0 rfl rfl rfl hl.1 rfl (Nat.le_of_ble_eq_true rfl) dX3_setFromFinite_104 ⟨Nat.le_of_ble_eq_true rfl, Nat.le_of_ble_eq_true rfl⟩ (fun H locs hP hD hS => ?_)
        show W p l e _ s m args below meth c H locs 0 0 Q (F0 m 107 ls [])
        refine lv_goto (tgt := 144) hx hb dX3_setFromFinite_107 (by decide) ?_
        have e9 := Eq.symm hu; subst e9
        exact x_vret hx hb hr hlocks hQ hK hP hD hS rfl dX3_setFromFinite_144
      obtain ⟨z9, ez9⟩ : ∃ y9 : Bool, y9 = Z_X3_setFromFinite_J_23 vrd := ⟨_, rfl⟩
      have hz := rZ_X3_setFromFinite_J_23 vrd ez9
      unfold RZ_X3_setFromFinite_J_23 at hz
      refine lv_icmp_ne (tgt := 99) hx hb dX3_setFromFinite_92 (by decide) (fun c_20 => ?_) (fun c_20 => ?_)
      · rw [if_neg c_20] at hz
        refine lv_iconst (v := 0) hx hb dX3_setFromFinite_99 (by decide) ?_
        have e9 := Eq.symm hz; subst e9
        exact J_23 _ ez9 H locs hP hD hS ls (lv_sub hl [0] rfl)
      · rw [if_pos c_20] at hz
        refine lv_iconst (v := 1) hx hb dX3_setFromFinite_95 (by decide) ?_
        refine lv_goto (tgt := 100) hx hb dX3_setFromFinite_96 (by decide) ?_
        have e9 := Eq.symm hz; subst e9
        exact J_23 _ ez9 H locs hP hD hS ls (lv_sub hl [0] rfl)
    obtain ⟨z9, ez9⟩ : ∃ y9 : Bool, y9 = Z_X3_setFromFinite_J_19 vmi i3 := ⟨_, rfl⟩
    have hz := rZ_X3_setFromFinite_J_19 vmi i3 ez9
    unfold RZ_X3_setFromFinite_J_19 at hz
    refine xb_ne (tgt := 86) hx hb dX3_setFromFinite_79 (by decide) (fun c_16 => ?_) (fun c_16 => ?_)
    · rw [if_pos c_16] at hz
      refine lv_iconst (v := 0) hx hb dX3_setFromFinite_86 (by decide) ?_
      have e9 := Eq.symm hz; subst e9
      exact J_19 _ ez9 H locs hP hD hS ls (lv_sub hl [0] rfl)
    · rw [if_neg c_16] at hz
      refine lv_iconst (v := 1) hx hb dX3_setFromFinite_82 (by decide) ?_
      refine lv_goto (tgt := 87) hx hb dX3_setFromFinite_83 (by decide) ?_
      have e9 := Eq.symm hz; subst e9
      exact J_19 _ ez9 H locs hP hD hS ls (lv_sub hl [0] rfl)
  rw [if_neg c_2] at hs
  rw [if_neg c_2] at hu
  by_cases c_3 : p0 = 2
  · rw [if_pos c_3] at hs
    rw [if_pos c_3] at hu
    refine lv_tableIn (tgt := 110) hx hb dX3_setFromFinite_1 (by rw [c_3]; decide) (by rw [c_3]; decide) (by rw [c_3]; rfl) (by decide) ?_
    refine lv_aload_n hx hb dX3_setFromFinite_110 rfl (lv_at hl 0 rfl) ?_
    refine va_get (D := D) (ci := 4) (v := .ref ao) (C := RX3) (T := TX3) (N := 7) hx hb hts hi3 hown hK hP 0 rfl rfl 2 (by decide) (hts (.fieldLink RX3 23 "DecimalWords" "outcome" "LDecimalWords$Outcome;") (inW_4 _ (List.mem_of_getElem? (i := 25) rfl))) (fun _ h9 => h9) rfl dX3_setFromFinite_111 ?_
    refine lv_aload_n hx hb dX3_setFromFinite_114 rfl (lv_at hl 2 rfl) ?_
    refine lv_aload_n hx hb dX3_setFromFinite_115 rfl (lv_at hl 3 rfl) ?_
    obtain ⟨u30, eu30⟩ : ∃ y9 : Bool × Int64 × Int64 × Int32 × Bool × Int32, y9 = F_X1_setProduct vmi vco vex i2 i3 := ⟨_, rfl⟩
    have hs := hs _ eu30
    have hu := hu _ eu30
    refine x_V (As := [.ref (ad i2), .ref (ad i3)]) (rest := []) hCF (c_X1_setProduct l D cR cI cJ cZ t0 ax ar ao ad vrd vtr vsd vrn vom voh vol vop voe vow vok vos vso vmi vco vex i2 i3 u30 eu30 hb2 hb3) (x_cwV 2 hts (inW_7 _ (List.mem_of_getElem? (i := 33) rfl)) (inW_7 _ (List.mem_of_getElem? (i := 34) rfl)) (inW_7 _ (List.mem_of_getElem? (i := 35) rfl)) (inW_2 _ (List.mem_of_getElem? (i := 4) rfl)) (inW_2 _ (List.mem_of_getElem? (i := 23) rfl)) rfl rfl (by decide +kernel) ⟨Nat.le_of_ble_eq_true rfl, Nat.le_of_ble_eq_true rfl⟩) hK hP hD hS hA hSt 2 rfl rfl rfl hl.1 rfl (Nat.le_of_ble_eq_true rfl) dX3_setFromFinite_116 ⟨Nat.le_of_ble_eq_true rfl, Nat.le_of_ble_eq_true rfl⟩ (fun H locs hP hD hS => ?_)
    show W p l e _ s m args below meth c H locs 0 0 Q (F0 m 119 ls [])
    refine lv_aload_n hx hb dX3_setFromFinite_119 rfl (lv_at hl 0 rfl) ?_
    have h_32 := hs
    obtain ⟨u33, eu33⟩ : ∃ y9 : Int32 × Int64 × Int64 × Int32 × Int64 × Int32 × (Nat → Int32) × (Nat → Bool) × (Nat → Int64) × (Nat → Int32), y9 = F_X3_fit vrd vrn u30.1 u30.2.1 u30.2.2.1 u30.2.2.2.1 u30.2.2.2.2.1 u30.2.2.2.2.2 vok vos vso vmi vco vex := ⟨_, rfl⟩
    have hu := hu _ eu33
    refine x_V (As := []) (rest := []) hCF (c_X3_fit l D cR cI cJ cZ t0 ax ar ao ad vrd vtr vsd vrn u30.1 u30.2.1 u30.2.2.1 u30.2.2.2.1 u30.2.2.2.2.1 u30.2.2.2.2.2 vok vos vso vmi vco vex u33 eu33 h_32) (x_cwV 0 hts (inW_6 _ (List.mem_of_getElem? (i := 34) rfl)) (inW_6 _ (List.mem_of_getElem? (i := 35) rfl)) (inW_6 _ (List.mem_of_getElem? (i := 36) rfl)) (inW_1 _ (List.mem_of_getElem? (i := 25) rfl)) (inW_6 _ (List.mem_of_getElem? (i := 37) rfl)) rfl rfl (by decide +kernel) ⟨Nat.le_of_ble_eq_true rfl, Nat.le_of_ble_eq_true rfl⟩) hK hP hD hS hA hSt 0 rfl rfl rfl hl.1 rfl (Nat.le_of_ble_eq_true rfl) dX3_setFromFinite_120 ⟨Nat.le_of_ble_eq_true rfl, Nat.le_of_ble_eq_true rfl⟩ (fun H locs hP hD hS => ?_)
    show W p l e _ s m args below meth c H locs 0 0 Q (F0 m 123 ls [])
    refine lv_goto (tgt := 144) hx hb dX3_setFromFinite_123 (by decide) ?_
    have e9 := Eq.symm hu; subst e9
    exact x_vret hx hb hr hlocks hQ hK hP hD hS rfl dX3_setFromFinite_144
  rw [if_neg c_3] at hs
  rw [if_neg c_3] at hu
  by_cases c_4 : p0 = 3
  · rw [if_pos c_4] at hs
    rw [if_pos c_4] at hu
    refine lv_tableIn (tgt := 126) hx hb dX3_setFromFinite_1 (by rw [c_4]; decide) (by rw [c_4]; decide) (by rw [c_4]; rfl) (by decide) ?_
    refine lv_aload_n hx hb dX3_setFromFinite_126 rfl (lv_at hl 0 rfl) ?_
    refine lv_aload_n hx hb dX3_setFromFinite_127 rfl (lv_at hl 2 rfl) ?_
    refine lv_aload_n hx hb dX3_setFromFinite_128 rfl (lv_at hl 3 rfl) ?_
    have h_35 := hs
    obtain ⟨u36, eu36⟩ : ∃ y9 : Int32 × Bool × Int64 × Int64 × Int32 × Bool × Int32 × Int64 × Int32 × (Nat → Int32) × (Nat → Bool) × (Nat → Int64) × (Nat → Int32), y9 = F_X3_divide vrd vrn vom voh vol vop voe vow vok vos vso vmi vco vex i2 i3 := ⟨_, rfl⟩
    have hu := hu _ eu36
    refine x_V (As := [.ref (ad i2), .ref (ad i3)]) (rest := []) hCF (c_X3_divide l D cR cI cJ cZ t0 ax ar ao ad vrd vtr vsd vrn vom voh vol vop voe vow vok vos vso vmi vco vex i2 i3 u36 eu36 h_35 hb2 hb3) (x_cwV 2 hts (inW_7 _ (List.mem_of_getElem? (i := 36) rfl)) (inW_7 _ (List.mem_of_getElem? (i := 37) rfl)) (inW_7 _ (List.mem_of_getElem? (i := 38) rfl)) (inW_1 _ (List.mem_of_getElem? (i := 25) rfl)) (inW_7 _ (List.mem_of_getElem? (i := 39) rfl)) rfl rfl (by decide +kernel) ⟨Nat.le_of_ble_eq_true rfl, Nat.le_of_ble_eq_true rfl⟩) hK hP hD hS hA hSt 0 rfl rfl rfl hl.1 rfl (Nat.le_of_ble_eq_true rfl) dX3_setFromFinite_129 ⟨Nat.le_of_ble_eq_true rfl, Nat.le_of_ble_eq_true rfl⟩ (fun H locs hP hD hS => ?_)
    show W p l e _ s m args below meth c H locs 0 0 Q (F0 m 132 ls [])
    refine lv_goto (tgt := 144) hx hb dX3_setFromFinite_132 (by decide) ?_
    have e9 := Eq.symm hu; subst e9
    exact x_vret hx hb hr hlocks hQ hK hP hD hS rfl dX3_setFromFinite_144
  rw [if_neg c_4] at hs
  rw [if_neg c_4] at hu
  by_cases c_5 : p0 = 4
  · rw [if_pos c_5] at hs
    rw [if_pos c_5] at hu
    refine lv_tableIn (tgt := 135) hx hb dX3_setFromFinite_1 (by rw [c_5]; decide) (by rw [c_5]; decide) (by rw [c_5]; rfl) (by decide) ?_
    refine lv_aload_n hx hb dX3_setFromFinite_135 rfl (lv_at hl 0 rfl) ?_
    refine lv_aload_n hx hb dX3_setFromFinite_136 rfl (lv_at hl 2 rfl) ?_
    refine lv_aload_n hx hb dX3_setFromFinite_137 rfl (lv_at hl 3 rfl) ?_
    refine g_ex (i := i3) hx hb hts hi0 hown hK hP hb3 (hts (.fieldLink RX3 85 "DecimalWords$Datum" "exponent" "I") (inW_5 _ (List.mem_of_getElem? (i := 21) rfl))) dX3_setFromFinite_138 ?_
    have h_38 := hs
    obtain ⟨u39, eu39⟩ : ∃ y9 : Int32 × Bool × Int64 × Int64 × Int32 × Bool × Int64 × Int32 × (Nat → Int32) × (Nat → Bool) × (Nat → Int64) × (Nat → Int32), y9 = F_X3_quantize vrd vrn vom voh vol vop voe vok vos vso vmi vco vex i2 (vex i3) := ⟨_, rfl⟩
    have hu := hu _ eu39
    refine x_V (As := [.ref (ad i2), .int (vex i3)]) (rest := []) hCF (c_X3_quantize l D cR cI cJ cZ t0 ax ar ao ad vrd vtr vsd vrn vom voh vol vop voe vow vok vos vso vmi vco vex i2 (vex i3) u39 eu39 h_38 hb2) (x_cwV 2 hts (inW_8 _ (List.mem_of_getElem? (i := 3) rfl)) (inW_8 _ (List.mem_of_getElem? (i := 4) rfl)) (inW_8 _ (List.mem_of_getElem? (i := 5) rfl)) (inW_1 _ (List.mem_of_getElem? (i := 25) rfl)) (inW_8 _ (List.mem_of_getElem? (i := 6) rfl)) rfl rfl (by decide +kernel) ⟨Nat.le_of_ble_eq_true rfl, Nat.le_of_ble_eq_true rfl⟩) hK hP hD hS hA hSt 0 rfl rfl rfl hl.1 rfl (Nat.le_of_ble_eq_true rfl) dX3_setFromFinite_141 ⟨Nat.le_of_ble_eq_true rfl, Nat.le_of_ble_eq_true rfl⟩ (fun H locs hP hD hS => ?_)
    show W p l e _ s m args below meth c H locs 0 0 Q (F0 m 144 ls [])
    have e9 := Eq.symm hu; subst e9
    exact x_vret hx hb hr hlocks hQ hK hP hD hS rfl dX3_setFromFinite_144
  rw [if_neg c_5] at hs
  rw [if_neg c_5] at hu
  refine lv_tableOut (tgt := 135) hx hb dX3_setFromFinite_1 (by have kc_1 := lv_neT c_1 (a := 0) (by decide); have kc_2 := lv_neT c_2 (a := 1) (by decide); have kc_3 := lv_neT c_3 (a := 2) (by decide); have kc_4 := lv_neT c_4 (a := 3) (by decide); have kc_5 := lv_neT c_5 (a := 4) (by decide); omega) (by decide) ?_
  refine lv_aload_n hx hb dX3_setFromFinite_135 rfl (lv_at hl 0 rfl) ?_
  refine lv_aload_n hx hb dX3_setFromFinite_136 rfl (lv_at hl 2 rfl) ?_
  refine lv_aload_n hx hb dX3_setFromFinite_137 rfl (lv_at hl 3 rfl) ?_
  refine g_ex (i := i3) hx hb hts hi0 hown hK hP hb3 (hts (.fieldLink RX3 85 "DecimalWords$Datum" "exponent" "I") (inW_5 _ (List.mem_of_getElem? (i := 21) rfl))) dX3_setFromFinite_138 ?_
  have h_41 := hs
  obtain ⟨u42, eu42⟩ : ∃ y9 : Int32 × Bool × Int64 × Int64 × Int32 × Bool × Int64 × Int32 × (Nat → Int32) × (Nat → Bool) × (Nat → Int64) × (Nat → Int32), y9 = F_X3_quantize vrd vrn vom voh vol vop voe vok vos vso vmi vco vex i2 (vex i3) := ⟨_, rfl⟩
  have hu := hu _ eu42
  refine x_V (As := [.ref (ad i2), .int (vex i3)]) (rest := []) hCF (c_X3_quantize l D cR cI cJ cZ t0 ax ar ao ad vrd vtr vsd vrn vom voh vol vop voe vow vok vos vso vmi vco vex i2 (vex i3) u42 eu42 h_41 hb2) (x_cwV 2 hts (inW_8 _ (List.mem_of_getElem? (i := 3) rfl)) (inW_8 _ (List.mem_of_getElem? (i := 4) rfl)) (inW_8 _ (List.mem_of_getElem? (i := 5) rfl)) (inW_1 _ (List.mem_of_getElem? (i := 25) rfl)) (inW_8 _ (List.mem_of_getElem? (i := 6) rfl)) rfl rfl (by decide +kernel) ⟨Nat.le_of_ble_eq_true rfl, Nat.le_of_ble_eq_true rfl⟩) hK hP hD hS hA hSt 0 rfl rfl rfl hl.1 rfl (Nat.le_of_ble_eq_true rfl) dX3_setFromFinite_141 ⟨Nat.le_of_ble_eq_true rfl, Nat.le_of_ble_eq_true rfl⟩ (fun H locs hP hD hS => ?_)
  show W p l e _ s m args below meth c H locs 0 0 Q (F0 m 144 ls [])
  have e9 := Eq.symm hu; subst e9
  exact x_vret hx hb hr hlocks hQ hK hP hD hS rfl dX3_setFromFinite_144

def Z_X3_setResult_J_22 (vso : Nat → Int32) (vmi : Nat → Bool) (vco : Nat → Int64) (vex : Nat → Int32) (i2 : Nat) (i3 : Nat) : Nat := (if 0 ≤ F_X3_order vso vmi vco vex i3 i2 then i2 else i3)
def RZ_X3_setResult_J_22 (vso : Nat → Int32) (vmi : Nat → Bool) (vco : Nat → Int64) (vex : Nat → Int32) (i2 : Nat) (i3 : Nat) (u9 : Nat) : Prop := (if 0 ≤ F_X3_order vso vmi vco vex i3 i2 then u9 = i2 else u9 = i3)
theorem rZ_X3_setResult_J_22 (vso : Nat → Int32) (vmi : Nat → Bool) (vco : Nat → Int64) (vex : Nat → Int32) (i2 : Nat) (i3 : Nat) {u9 : Nat} (hu : u9 = Z_X3_setResult_J_22 vso vmi vco vex i2 i3) : RZ_X3_setResult_J_22 vso vmi vco vex i2 i3 u9 := by
  unfold RZ_X3_setResult_J_22
  refine ite_P (fun c_18 => ?_) (fun c_18 => ?_)
  · have hu := hu.trans (if_pos c_18)
    exact hu
  · have hu := hu.trans (if_neg c_18)
    exact hu
def F_X3_setResult (vrd : Int32) (vrn : Int32) (vom : Bool) (voh : Int64) (vol : Int64) (vop : Int32) (voe : Bool) (vow : Int32) (vok : Int64) (vos : Int32) (vso : Nat → Int32) (vmi : Nat → Bool) (vco : Nat → Int64) (vex : Nat → Int32) (p0 : Int32) (i2 : Nat) (i3 : Nat) : Int32 × Bool × Int64 × Int64 × Int32 × Bool × Int32 × Int64 × Int32 × (Nat → Int32) × (Nat → Bool) × (Nat → Int64) × (Nat → Int32) := (if p0 = 6 then (bnd (F_X3_setNext vso vmi vco vex i2) (fun u28 : (Nat → Int32) × (Nat → Bool) × (Nat → Int64) × (Nat → Int32) => (vrn, vom, voh, vol, vop, voe, vow, vok, vos, u28.1, u28.2.1, u28.2.2.1, u28.2.2.2))) else (if vso i2 = 2 then (bnd (F_X0_setNothing vso vmi vco vex 8) (fun u3 : (Nat → Int32) × (Nat → Bool) × (Nat → Int64) × (Nat → Int32) => (vrn, vom, voh, vol, vop, voe, vow, vok, vos, u3.1, u3.2.1, u3.2.2.1, u3.2.2.2))) else (if vso i3 = 2 then (bnd (F_X0_setNothing vso vmi vco vex 8) (fun u25 : (Nat → Int32) × (Nat → Bool) × (Nat → Int64) × (Nat → Int32) => (vrn, vom, voh, vol, vop, voe, vow, vok, vos, u25.1, u25.2.1, u25.2.2.1, u25.2.2.2))) else (if p0 = 5 then (bnd (Z_X3_setResult_J_22 vso vmi vco vex i2 i3) (fun z20 : Nat => (bnd (F_X0_take vso vmi vco vex 8 z20) (fun u23 : (Nat → Int32) × (Nat → Bool) × (Nat → Int64) × (Nat → Int32) => (vrn, vom, voh, vol, vop, voe, vow, vok, vos, u23.1, u23.2.1, u23.2.2.1, u23.2.2.2))))) else (if vso i2 = 1 then (bnd (F_X3_setFromInfinity vrn vso vmi vco vex p0 i2 i3) (fun u8 : Int32 × (Nat → Int32) × (Nat → Bool) × (Nat → Int64) × (Nat → Int32) => (u8.1, vom, voh, vol, vop, voe, vow, vok, vos, u8.2.1, u8.2.2.1, u8.2.2.2.1, u8.2.2.2.2))) else (if vso i3 = 1 then (bnd (F_X3_setFromInfinity vrn vso vmi vco vex p0 i2 i3) (fun u14 : Int32 × (Nat → Int32) × (Nat → Bool) × (Nat → Int64) × (Nat → Int32) => (u14.1, vom, voh, vol, vop, voe, vow, vok, vos, u14.2.1, u14.2.2.1, u14.2.2.2.1, u14.2.2.2.2))) else (bnd (F_X3_setFromFinite vrd vrn vom voh vol vop voe vow vok vos vso vmi vco vex p0 i2 i3) (fun u12 : Int32 × Bool × Int64 × Int64 × Int32 × Bool × Int32 × Int64 × Int32 × (Nat → Int32) × (Nat → Bool) × (Nat → Int64) × (Nat → Int32) => (u12.1, u12.2.1, u12.2.2.1, u12.2.2.2.1, u12.2.2.2.2.1, u12.2.2.2.2.2.1, u12.2.2.2.2.2.2.1, u12.2.2.2.2.2.2.2.1, u12.2.2.2.2.2.2.2.2.1, u12.2.2.2.2.2.2.2.2.2.1, u12.2.2.2.2.2.2.2.2.2.2.1, u12.2.2.2.2.2.2.2.2.2.2.2.1, u12.2.2.2.2.2.2.2.2.2.2.2.2)))))))))
def RF_X3_setResult (vrd : Int32) (vrn : Int32) (vom : Bool) (voh : Int64) (vol : Int64) (vop : Int32) (voe : Bool) (vow : Int32) (vok : Int64) (vos : Int32) (vso : Nat → Int32) (vmi : Nat → Bool) (vco : Nat → Int64) (vex : Nat → Int32) (p0 : Int32) (i2 : Nat) (i3 : Nat) (u9 : Int32 × Bool × Int64 × Int64 × Int32 × Bool × Int32 × Int64 × Int32 × (Nat → Int32) × (Nat → Bool) × (Nat → Int64) × (Nat → Int32)) : Prop := (if p0 = 6 then (∀ u28 : (Nat → Int32) × (Nat → Bool) × (Nat → Int64) × (Nat → Int32), u28 = F_X3_setNext vso vmi vco vex i2 → u9 = (vrn, vom, voh, vol, vop, voe, vow, vok, vos, u28.1, u28.2.1, u28.2.2.1, u28.2.2.2)) else (if vso i2 = 2 then (∀ u3 : (Nat → Int32) × (Nat → Bool) × (Nat → Int64) × (Nat → Int32), u3 = F_X0_setNothing vso vmi vco vex 8 → u9 = (vrn, vom, voh, vol, vop, voe, vow, vok, vos, u3.1, u3.2.1, u3.2.2.1, u3.2.2.2)) else (if vso i3 = 2 then (∀ u25 : (Nat → Int32) × (Nat → Bool) × (Nat → Int64) × (Nat → Int32), u25 = F_X0_setNothing vso vmi vco vex 8 → u9 = (vrn, vom, voh, vol, vop, voe, vow, vok, vos, u25.1, u25.2.1, u25.2.2.1, u25.2.2.2)) else (if p0 = 5 then (∀ z20 : Nat, z20 = Z_X3_setResult_J_22 vso vmi vco vex i2 i3 → (∀ u23 : (Nat → Int32) × (Nat → Bool) × (Nat → Int64) × (Nat → Int32), u23 = F_X0_take vso vmi vco vex 8 z20 → u9 = (vrn, vom, voh, vol, vop, voe, vow, vok, vos, u23.1, u23.2.1, u23.2.2.1, u23.2.2.2))) else (if vso i2 = 1 then (∀ u8 : Int32 × (Nat → Int32) × (Nat → Bool) × (Nat → Int64) × (Nat → Int32), u8 = F_X3_setFromInfinity vrn vso vmi vco vex p0 i2 i3 → u9 = (u8.1, vom, voh, vol, vop, voe, vow, vok, vos, u8.2.1, u8.2.2.1, u8.2.2.2.1, u8.2.2.2.2)) else (if vso i3 = 1 then (∀ u14 : Int32 × (Nat → Int32) × (Nat → Bool) × (Nat → Int64) × (Nat → Int32), u14 = F_X3_setFromInfinity vrn vso vmi vco vex p0 i2 i3 → u9 = (u14.1, vom, voh, vol, vop, voe, vow, vok, vos, u14.2.1, u14.2.2.1, u14.2.2.2.1, u14.2.2.2.2)) else (∀ u12 : Int32 × Bool × Int64 × Int64 × Int32 × Bool × Int32 × Int64 × Int32 × (Nat → Int32) × (Nat → Bool) × (Nat → Int64) × (Nat → Int32), u12 = F_X3_setFromFinite vrd vrn vom voh vol vop voe vow vok vos vso vmi vco vex p0 i2 i3 → u9 = (u12.1, u12.2.1, u12.2.2.1, u12.2.2.2.1, u12.2.2.2.2.1, u12.2.2.2.2.2.1, u12.2.2.2.2.2.2.1, u12.2.2.2.2.2.2.2.1, u12.2.2.2.2.2.2.2.2.1, u12.2.2.2.2.2.2.2.2.2.1, u12.2.2.2.2.2.2.2.2.2.2.1, u12.2.2.2.2.2.2.2.2.2.2.2.1, u12.2.2.2.2.2.2.2.2.2.2.2.2))))))))
theorem rF_X3_setResult (vrd : Int32) (vrn : Int32) (vom : Bool) (voh : Int64) (vol : Int64) (vop : Int32) (voe : Bool) (vow : Int32) (vok : Int64) (vos : Int32) (vso : Nat → Int32) (vmi : Nat → Bool) (vco : Nat → Int64) (vex : Nat → Int32) (p0 : Int32) (i2 : Nat) (i3 : Nat) {u9 : Int32 × Bool × Int64 × Int64 × Int32 × Bool × Int32 × Int64 × Int32 × (Nat → Int32) × (Nat → Bool) × (Nat → Int64) × (Nat → Int32)} (hu : u9 = F_X3_setResult vrd vrn vom voh vol vop voe vow vok vos vso vmi vco vex p0 i2 i3) : RF_X3_setResult vrd vrn vom voh vol vop voe vow vok vos vso vmi vco vex p0 i2 i3 u9 := by
  unfold RF_X3_setResult
  refine ite_P (fun c_1 => ?_) (fun c_1 => ?_)
  · have hu := hu.trans (if_pos c_1)
    intro u28 eu28
    have hu := bnd_n hu eu28
    exact hu
  · have hu := hu.trans (if_neg c_1)
    refine ite_P (fun c_2 => ?_) (fun c_2 => ?_)
    · have hu := hu.trans (if_pos c_2)
      intro u3 eu3
      have hu := bnd_n hu eu3
      exact hu
    · have hu := hu.trans (if_neg c_2)
      refine ite_P (fun c_5 => ?_) (fun c_5 => ?_)
      · have hu := hu.trans (if_pos c_5)
        intro u25 eu25
        have hu := bnd_n hu eu25
        exact hu
      · have hu := hu.trans (if_neg c_5)
        refine ite_P (fun c_6 => ?_) (fun c_6 => ?_)
        · have hu := hu.trans (if_pos c_6)
          intro z20 ez20
          have hu := bnd_n hu ez20
          intro u23 eu23
          have hu := bnd_n hu eu23
          exact hu
        · have hu := hu.trans (if_neg c_6)
          refine ite_P (fun c_7 => ?_) (fun c_7 => ?_)
          · have hu := hu.trans (if_pos c_7)
            intro u8 eu8
            have hu := bnd_n hu eu8
            exact hu
          · have hu := hu.trans (if_neg c_7)
            refine ite_P (fun c_10 => ?_) (fun c_10 => ?_)
            · have hu := hu.trans (if_pos c_10)
              intro u14 eu14
              have hu := bnd_n hu eu14
              exact hu
            · have hu := hu.trans (if_neg c_10)
              intro u12 eu12
              have hu := bnd_n hu eu12
              exact hu
def S_X3_setResult (vrd : Int32) (vrn : Int32) (vom : Bool) (voh : Int64) (vol : Int64) (vop : Int32) (voe : Bool) (vow : Int32) (vok : Int64) (vos : Int32) (vso : Nat → Int32) (vmi : Nat → Bool) (vco : Nat → Int64) (vex : Nat → Int32) (p0 : Int32) (i2 : Nat) (i3 : Nat) : Prop := (if p0 = 6 then S_X3_setNext vso vmi vco vex i2 else (if vso i2 = 2 then True else (if vso i3 = 2 then True else (if p0 = 5 then S_X3_order vso vmi vco vex i3 i2 else (if vso i2 = 1 then True else (if vso i3 = 1 then True else S_X3_setFromFinite vrd vrn vom voh vol vop voe vow vok vos vso vmi vco vex p0 i2 i3))))))
def rm_X3_setResult : Room := { frames := 7, cells := 0, slots := 0, locals := 173 }
set_option maxHeartbeats 4000000 in
set_option maxRecDepth 100000 in
theorem c_X3_setResult (l : Launch) (D : va_G) (cR cI cJ cZ : ClassId) (t0 : Nat) (ax ar ao : Nat) (ad : Nat → Nat) (vrd : Int32) (vtr : Int32) (vsd : Int32) (vrn : Int32) (vom : Bool) (voh : Int64) (vol : Int64) (vop : Int32) (voe : Bool) (vow : Int32) (vok : Int64) (vos : Int32) (vso : Nat → Int32) (vmi : Nat → Bool) (vco : Nat → Int64) (vex : Nat → Int32) (p0 : Int32) (i2 : Nat) (i3 : Nat) (u : Int32 × Bool × Int64 × Int64 × Int32 × Bool × Int32 × Int64 × Int32 × (Nat → Int32) × (Nat → Bool) × (Nat → Int64) × (Nat → Int32)) (hu : u = F_X3_setResult vrd vrn vom voh vol vop voe vow vok vos vso vmi vco vex p0 i2 i3) (hs : S_X3_setResult vrd vrn vom voh vol vop voe vow vok vos vso vmi vco vex p0 i2 i3) (hb2 : i2 < 9) (hb3 : i3 < 9) : XM l D (xty cR cI cJ cZ) t0 yX3_setResult cX3_setResult 4 none rm_X3_setResult [.ref ax, .int p0, .ref (ad i2), .ref (ad i3)] none (xw cR ax ar ao ad vrd vtr vsd vrn vom voh vol vop voe vow vok vos vso vmi vco vex) (xw cR ax ar ao ad vrd vtr vsd u.1 u.2.1 u.2.2.1 u.2.2.2.1 u.2.2.2.2.1 u.2.2.2.2.2.1 u.2.2.2.2.2.2.1 u.2.2.2.2.2.2.2.1 u.2.2.2.2.2.2.2.2.1 u.2.2.2.2.2.2.2.2.2.1 u.2.2.2.2.2.2.2.2.2.2.1 u.2.2.2.2.2.2.2.2.2.2.2.1 u.2.2.2.2.2.2.2.2.2.2.2.2) := by
  refine XM.of (by decide) (Nat.le_of_ble_eq_true rfl) ?_
  intro p e s m args below meth c A Q F hK hP hD hA hSt hS hQ ls hl
  obtain ⟨hx, hb, hr, hts, hown, hlocks, hml⟩ := F
  have hCF : CallFix p m c cX3_setResult 4 s args gW RX3 := ⟨hx, hb, hml, hown, hts⟩
  unfold S_X3_setResult at hs
  have hu := rF_X3_setResult vrd vrn vom voh vol vop voe vow vok vos vso vmi vco vex p0 i2 i3 hu
  unfold RF_X3_setResult at hu
  obtain ⟨H, eH⟩ : ∃ y9 : Heap, y9 = s.heap := ⟨_, rfl⟩
  obtain ⟨locs, eL⟩ : ∃ y9 : List Loc, y9 = [] := ⟨_, rfl⟩
  rw [← eL] at hS ⊢
  have hP : va_P D vwCl (xw cR ax ar ao ad vrd vtr vsd vrn vom voh vol vop voe vow vok vos vso vmi vco vex) H := by rw [eH]; exact hP
  have hS : va_S A s.heap H locs := by rw [eH]; exact hS
  suffices goal9 : W p l e rm_X3_setResult s m args below meth c H locs 0 0 Q (F0 m 0 ls []) from by rw [← eH]; exact goal9
  have hl : lv_has ls 4 [(0, .ref ax), (1, .int p0), (2, .ref (ad i2)), (3, .ref (ad i3))] := hl
  have hi0 : ∀ w ∈ wsX00, w ∈ gW := inW_X0
  have hi3 : ∀ w ∈ wsX30, w ∈ gW := inW_X3
  refine lv_iload_n hx hb dX3_setResult_0 rfl (lv_at hl 1 rfl) ?_
  refine lv_bipush (v := 6) hx hb dX3_setResult_1 (by decide) ?_
  refine lv_icmp_ne (tgt := 14) hx hb dX3_setResult_3 (by decide) (fun c_1 => ?_) (fun c_1 => ?_)
  · rw [if_neg c_1] at hs
    rw [if_neg c_1] at hu
    refine lv_aload_n hx hb dX3_setResult_14 rfl (lv_at hl 2 rfl) ?_
    refine g_so (i := i2) hx hb hts hi0 hown hK hP hb2 (hts (.fieldLink RX3 70 "DecimalWords$Datum" "sort" "I") (inW_5 _ (List.mem_of_getElem? (i := 13) rfl))) dX3_setResult_15 ?_
    refine lv_iconst (v := 2) hx hb dX3_setResult_18 (by decide) ?_
    refine lv_icmp_eq (tgt := 30) hx hb dX3_setResult_19 (by decide) (fun c_2 => ?_) (fun c_2 => ?_)
    · rw [if_pos c_2] at hu
      refine lv_aload_n hx hb dX3_setResult_30 rfl (lv_at hl 0 rfl) ?_
      refine va_get (D := D) (ci := 4) (v := .ref (ad 8)) (C := RX3) (T := TX3) (N := 7) hx hb hts hi3 hown hK hP 0 rfl rfl 1 (by decide) (hts (.fieldLink RX3 16 "DecimalWords" "result" "LDecimalWords$Datum;") (inW_4 _ (List.mem_of_getElem? (i := 22) rfl))) (fun _ h9 => h9) rfl dX3_setResult_31 ?_
      obtain ⟨u3, eu3⟩ : ∃ y9 : (Nat → Int32) × (Nat → Bool) × (Nat → Int64) × (Nat → Int32), y9 = F_X0_setNothing vso vmi vco vex 8 := ⟨_, rfl⟩
      have hu := hu _ eu3
      refine x_V (As := []) (rest := []) hCF (c_X0_setNothing l D cR cI cJ cZ t0 ax ar ao ad vrd vtr vsd vrn vom voh vol vop voe vow vok vos vso vmi vco vex 8 u3 eu3 (by decide)) (x_cwV 0 hts (inW_5 _ (List.mem_of_getElem? (i := 38) rfl)) (inW_3 _ (List.mem_of_getElem? (i := 31) rfl)) (inW_3 _ (List.mem_of_getElem? (i := 32) rfl)) (inW_1 _ (List.mem_of_getElem? (i := 16) rfl)) (inW_1 _ (List.mem_of_getElem? (i := 9) rfl)) rfl rfl (by decide +kernel) ⟨Nat.le_of_ble_eq_true rfl, Nat.le_of_ble_eq_true rfl⟩) hK hP hD hS hA hSt (3 + 8) (xw_dat (by decide)) rfl rfl hl.1 rfl (Nat.le_of_ble_eq_true rfl) dX3_setResult_34 ⟨Nat.le_of_ble_eq_true rfl, Nat.le_of_ble_eq_true rfl⟩ (fun H locs hP hD hS => ?_)
      show W p l e _ s m args below meth c H locs 0 0 Q (F0 m 37 ls [])
      refine lv_goto (tgt := 101) hx hb dX3_setResult_37 (by decide) ?_
      have e9 := Eq.symm hu; subst e9
      exact x_vret hx hb hr hlocks hQ hK hP hD hS rfl dX3_setResult_101
    · rw [if_neg c_2] at hs
      rw [if_neg c_2] at hu
      refine lv_aload_n hx hb dX3_setResult_22 rfl (lv_at hl 3 rfl) ?_
      refine g_so (i := i3) hx hb hts hi0 hown hK hP hb3 (hts (.fieldLink RX3 70 "DecimalWords$Datum" "sort" "I") (inW_5 _ (List.mem_of_getElem? (i := 13) rfl))) dX3_setResult_23 ?_
      refine lv_iconst (v := 2) hx hb dX3_setResult_26 (by decide) ?_
      refine lv_icmp_ne (tgt := 40) hx hb dX3_setResult_27 (by decide) (fun c_5 => ?_) (fun c_5 => ?_)
      · rw [if_neg c_5] at hs
        rw [if_neg c_5] at hu
        refine lv_iload_n hx hb dX3_setResult_40 rfl (lv_at hl 1 rfl) ?_
        refine lv_iconst (v := 5) hx hb dX3_setResult_41 (by decide) ?_
        refine lv_icmp_ne (tgt := 68) hx hb dX3_setResult_42 (by decide) (fun c_6 => ?_) (fun c_6 => ?_)
        · rw [if_neg c_6] at hs
          rw [if_neg c_6] at hu
          refine lv_aload_n hx hb dX3_setResult_68 rfl (lv_at hl 2 rfl) ?_
          refine g_so (i := i2) hx hb hts hi0 hown hK hP hb2 (hts (.fieldLink RX3 70 "DecimalWords$Datum" "sort" "I") (inW_5 _ (List.mem_of_getElem? (i := 13) rfl))) dX3_setResult_69 ?_
          refine lv_iconst (v := 1) hx hb dX3_setResult_72 (by decide) ?_
          refine lv_icmp_eq (tgt := 84) hx hb dX3_setResult_73 (by decide) (fun c_7 => ?_) (fun c_7 => ?_)
          · rw [if_pos c_7] at hu
            refine lv_aload_n hx hb dX3_setResult_84 rfl (lv_at hl 0 rfl) ?_
            refine lv_iload_n hx hb dX3_setResult_85 rfl (lv_at hl 1 rfl) ?_
            refine lv_aload_n hx hb dX3_setResult_86 rfl (lv_at hl 2 rfl) ?_
            refine lv_aload_n hx hb dX3_setResult_87 rfl (lv_at hl 3 rfl) ?_
            obtain ⟨u8, eu8⟩ : ∃ y9 : Int32 × (Nat → Int32) × (Nat → Bool) × (Nat → Int64) × (Nat → Int32), y9 = F_X3_setFromInfinity vrn vso vmi vco vex p0 i2 i3 := ⟨_, rfl⟩
            have hu := hu _ eu8
            refine x_V (As := [.int p0, .ref (ad i2), .ref (ad i3)]) (rest := []) hCF (c_X3_setFromInfinity l D cR cI cJ cZ t0 ax ar ao ad vrd vtr vsd vrn vom voh vol vop voe vow vok vos vso vmi vco vex p0 i2 i3 u8 eu8 hb2 hb3) (x_cwV 3 hts (inW_6 _ (List.mem_of_getElem? (i := 11) rfl)) (inW_6 _ (List.mem_of_getElem? (i := 12) rfl)) (inW_6 _ (List.mem_of_getElem? (i := 13) rfl)) (inW_1 _ (List.mem_of_getElem? (i := 25) rfl)) (inW_6 _ (List.mem_of_getElem? (i := 14) rfl)) rfl rfl (by decide +kernel) ⟨Nat.le_of_ble_eq_true rfl, Nat.le_of_ble_eq_true rfl⟩) hK hP hD hS hA hSt 0 rfl rfl rfl hl.1 rfl (Nat.le_of_ble_eq_true rfl) dX3_setResult_88 ⟨Nat.le_of_ble_eq_true rfl, Nat.le_of_ble_eq_true rfl⟩ (fun H locs hP hD hS => ?_)
            show W p l e _ s m args below meth c H locs 0 0 Q (F0 m 91 ls [])
            refine lv_goto (tgt := 101) hx hb dX3_setResult_91 (by decide) ?_
            have e9 := Eq.symm hu; subst e9
            exact x_vret hx hb hr hlocks hQ hK hP hD hS rfl dX3_setResult_101
          · rw [if_neg c_7] at hs
            rw [if_neg c_7] at hu
            refine lv_aload_n hx hb dX3_setResult_76 rfl (lv_at hl 3 rfl) ?_
            refine g_so (i := i3) hx hb hts hi0 hown hK hP hb3 (hts (.fieldLink RX3 70 "DecimalWords$Datum" "sort" "I") (inW_5 _ (List.mem_of_getElem? (i := 13) rfl))) dX3_setResult_77 ?_
            refine lv_iconst (v := 1) hx hb dX3_setResult_80 (by decide) ?_
            refine lv_icmp_ne (tgt := 94) hx hb dX3_setResult_81 (by decide) (fun c_10 => ?_) (fun c_10 => ?_)
            · rw [if_neg c_10] at hs
              rw [if_neg c_10] at hu
              refine lv_aload_n hx hb dX3_setResult_94 rfl (lv_at hl 0 rfl) ?_
              refine lv_iload_n hx hb dX3_setResult_95 rfl (lv_at hl 1 rfl) ?_
              refine lv_aload_n hx hb dX3_setResult_96 rfl (lv_at hl 2 rfl) ?_
              refine lv_aload_n hx hb dX3_setResult_97 rfl (lv_at hl 3 rfl) ?_
              have h_11 := hs
              obtain ⟨u12, eu12⟩ : ∃ y9 : Int32 × Bool × Int64 × Int64 × Int32 × Bool × Int32 × Int64 × Int32 × (Nat → Int32) × (Nat → Bool) × (Nat → Int64) × (Nat → Int32), y9 = F_X3_setFromFinite vrd vrn vom voh vol vop voe vow vok vos vso vmi vco vex p0 i2 i3 := ⟨_, rfl⟩
              have hu := hu _ eu12
              refine x_V (As := [.int p0, .ref (ad i2), .ref (ad i3)]) (rest := []) hCF (c_X3_setFromFinite l D cR cI cJ cZ t0 ax ar ao ad vrd vtr vsd vrn vom voh vol vop voe vow vok vos vso vmi vco vex p0 i2 i3 u12 eu12 h_11 hb2 hb3) (x_cwV 3 hts (inW_6 _ (List.mem_of_getElem? (i := 27) rfl)) (inW_6 _ (List.mem_of_getElem? (i := 28) rfl)) (inW_6 _ (List.mem_of_getElem? (i := 29) rfl)) (inW_1 _ (List.mem_of_getElem? (i := 25) rfl)) (inW_6 _ (List.mem_of_getElem? (i := 30) rfl)) rfl rfl (by decide +kernel) ⟨Nat.le_of_ble_eq_true rfl, Nat.le_of_ble_eq_true rfl⟩) hK hP hD hS hA hSt 0 rfl rfl rfl hl.1 rfl (Nat.le_of_ble_eq_true rfl) dX3_setResult_98 ⟨Nat.le_of_ble_eq_true rfl, Nat.le_of_ble_eq_true rfl⟩ (fun H locs hP hD hS => ?_)
              show W p l e _ s m args below meth c H locs 0 0 Q (F0 m 101 ls [])
              have e9 := Eq.symm hu; subst e9
              exact x_vret hx hb hr hlocks hQ hK hP hD hS rfl dX3_setResult_101
            · rw [if_pos c_10] at hu
              refine lv_aload_n hx hb dX3_setResult_84 rfl (lv_at hl 0 rfl) ?_
              refine lv_iload_n hx hb dX3_setResult_85 rfl (lv_at hl 1 rfl) ?_
              refine lv_aload_n hx hb dX3_setResult_86 rfl (lv_at hl 2 rfl) ?_
              refine lv_aload_n hx hb dX3_setResult_87 rfl (lv_at hl 3 rfl) ?_
              obtain ⟨u14, eu14⟩ : ∃ y9 : Int32 × (Nat → Int32) × (Nat → Bool) × (Nat → Int64) × (Nat → Int32), y9 = F_X3_setFromInfinity vrn vso vmi vco vex p0 i2 i3 := ⟨_, rfl⟩
              have hu := hu _ eu14
              refine x_V (As := [.int p0, .ref (ad i2), .ref (ad i3)]) (rest := []) hCF (c_X3_setFromInfinity l D cR cI cJ cZ t0 ax ar ao ad vrd vtr vsd vrn vom voh vol vop voe vow vok vos vso vmi vco vex p0 i2 i3 u14 eu14 hb2 hb3) (x_cwV 3 hts (inW_6 _ (List.mem_of_getElem? (i := 11) rfl)) (inW_6 _ (List.mem_of_getElem? (i := 12) rfl)) (inW_6 _ (List.mem_of_getElem? (i := 13) rfl)) (inW_1 _ (List.mem_of_getElem? (i := 25) rfl)) (inW_6 _ (List.mem_of_getElem? (i := 14) rfl)) rfl rfl (by decide +kernel) ⟨Nat.le_of_ble_eq_true rfl, Nat.le_of_ble_eq_true rfl⟩) hK hP hD hS hA hSt 0 rfl rfl rfl hl.1 rfl (Nat.le_of_ble_eq_true rfl) dX3_setResult_88 ⟨Nat.le_of_ble_eq_true rfl, Nat.le_of_ble_eq_true rfl⟩ (fun H locs hP hD hS => ?_)
              show W p l e _ s m args below meth c H locs 0 0 Q (F0 m 91 ls [])
              refine lv_goto (tgt := 101) hx hb dX3_setResult_91 (by decide) ?_
              have e9 := Eq.symm hu; subst e9
              exact x_vret hx hb hr hlocks hQ hK hP hD hS rfl dX3_setResult_101
        · rw [if_pos c_6] at hs
          rw [if_pos c_6] at hu
          refine lv_aload_n hx hb dX3_setResult_45 rfl (lv_at hl 0 rfl) ?_
          refine va_get (D := D) (ci := 4) (v := .ref (ad 8)) (C := RX3) (T := TX3) (N := 7) hx hb hts hi3 hown hK hP 0 rfl rfl 1 (by decide) (hts (.fieldLink RX3 16 "DecimalWords" "result" "LDecimalWords$Datum;") (inW_4 _ (List.mem_of_getElem? (i := 22) rfl))) (fun _ h9 => h9) rfl dX3_setResult_46 ?_
          refine lv_aload_n hx hb dX3_setResult_49 rfl (lv_at hl 3 rfl) ?_
          refine lv_aload_n hx hb dX3_setResult_50 rfl (lv_at hl 2 rfl) ?_
          have h_16 := hs
          refine x_S (As := [.ref (ad i3), .ref (ad i2)]) (rest := [.ref (ad 8)]) hCF (c_X3_order l D cR cI cJ cZ t0 ax ar ao ad vrd vtr vsd vrn vom voh vol vop voe vow vok vos vso vmi vco vex i3 i2 _ rfl h_16 hb3 hb2) (x_cwS 2 hts (inW_5 _ (List.mem_of_getElem? (i := 39) rfl)) (inW_6 _ (List.mem_of_getElem? (i := 0) rfl)) (inW_1 _ (List.mem_of_getElem? (i := 25) rfl)) (inW_6 _ (List.mem_of_getElem? (i := 1) rfl)) rfl rfl (by decide +kernel) ⟨Nat.le_of_ble_eq_true rfl, Nat.le_of_ble_eq_true rfl⟩) hK hP hD hS hA hSt rfl hl.1 rfl (Nat.le_of_ble_eq_true rfl) dX3_setResult_51 ⟨Nat.le_of_ble_eq_true rfl, Nat.le_of_ble_eq_true rfl⟩ (fun H locs hP hD hS => ?_)
          show W p l e _ s m args below meth c H locs 0 0 Q (F0 m 54 ls (.int (F_X3_order vso vmi vco vex i3 i2) :: [.ref (ad 8)]))
          have J_22 : (∀ z20 : Nat, z20 = Z_X3_setResult_J_22 vso vmi vco vex i2 i3 → z20 < 9 → ∀ (H : Heap) (locs : List Loc), va_P D vwCl (xw cR ax ar ao ad vrd vtr vsd vrn vom voh vol vop voe vow vok vos vso vmi vco vex) H → va_D A (xw cR ax ar ao ad vrd vtr vsd vrn vom voh vol vop voe vow vok vos vso vmi vco vex) → va_S A s.heap H locs → ∀ ls : Array Slot, lv_has ls 4 [] → W p l e rm_X3_setResult s m args below meth c H locs 0 0 Q (F0 m 62 ls [.ref (ad z20), .ref (ad 8)])) := by
            intro z20 ez20 hb_21 H locs hP hD hS ls hl
            have hu := hu _ ez20
            obtain ⟨u23, eu23⟩ : ∃ y9 : (Nat → Int32) × (Nat → Bool) × (Nat → Int64) × (Nat → Int32), y9 = F_X0_take vso vmi vco vex 8 z20 := ⟨_, rfl⟩
            have hu := hu _ eu23
            refine x_V (As := [.ref (ad z20)]) (rest := []) hCF (c_X0_take l D cR cI cJ cZ t0 ax ar ao ad vrd vtr vsd vrn vom voh vol vop voe vow vok vos vso vmi vco vex 8 z20 u23 eu23 (by decide) hb_21) (x_cwV 1 hts (inW_5 _ (List.mem_of_getElem? (i := 22) rfl)) (inW_5 _ (List.mem_of_getElem? (i := 23) rfl)) (inW_5 _ (List.mem_of_getElem? (i := 24) rfl)) (inW_1 _ (List.mem_of_getElem? (i := 16) rfl)) (inW_1 _ (List.mem_of_getElem? (i := 10) rfl)) rfl rfl (by decide +kernel) ⟨Nat.le_of_ble_eq_true rfl, Nat.le_of_ble_eq_true rfl⟩) hK hP hD hS hA hSt (3 + 8) (xw_dat (by decide)) rfl rfl hl.1 rfl (Nat.le_of_ble_eq_true rfl) dX3_setResult_62 ⟨Nat.le_of_ble_eq_true rfl, Nat.le_of_ble_eq_true rfl⟩ (fun H locs hP hD hS => ?_)
            show W p l e _ s m args below meth c H locs 0 0 Q (F0 m 65 ls [])
            refine lv_goto (tgt := 101) hx hb dX3_setResult_65 (by decide) ?_
            have e9 := Eq.symm hu; subst e9
            exact x_vret hx hb hr hlocks hQ hK hP hD hS rfl dX3_setResult_101
          obtain ⟨z9, ez9⟩ : ∃ y9 : Nat, y9 = Z_X3_setResult_J_22 vso vmi vco vex i2 i3 := ⟨_, rfl⟩
          have hz := rZ_X3_setResult_J_22 vso vmi vco vex i2 i3 ez9
          unfold RZ_X3_setResult_J_22 at hz
          refine lv_if_ge (tgt := 61) hx hb dX3_setResult_54 (by decide) (fun c_18 => ?_) (fun c_18 => ?_)
          · rw [if_pos c_18] at hz
            refine lv_aload_n hx hb dX3_setResult_61 rfl (lv_at hl 2 rfl) ?_
            have e9 := Eq.symm hz; subst e9
            exact J_22 _ ez9 hb2 H locs hP hD hS ls (lv_sub hl [] rfl)
          · rw [if_neg c_18] at hz
            refine lv_aload_n hx hb dX3_setResult_57 rfl (lv_at hl 3 rfl) ?_
            refine lv_goto (tgt := 62) hx hb dX3_setResult_58 (by decide) ?_
            have e9 := Eq.symm hz; subst e9
            exact J_22 _ ez9 hb3 H locs hP hD hS ls (lv_sub hl [] rfl)
      · rw [if_pos c_5] at hu
        refine lv_aload_n hx hb dX3_setResult_30 rfl (lv_at hl 0 rfl) ?_
        refine va_get (D := D) (ci := 4) (v := .ref (ad 8)) (C := RX3) (T := TX3) (N := 7) hx hb hts hi3 hown hK hP 0 rfl rfl 1 (by decide) (hts (.fieldLink RX3 16 "DecimalWords" "result" "LDecimalWords$Datum;") (inW_4 _ (List.mem_of_getElem? (i := 22) rfl))) (fun _ h9 => h9) rfl dX3_setResult_31 ?_
        obtain ⟨u25, eu25⟩ : ∃ y9 : (Nat → Int32) × (Nat → Bool) × (Nat → Int64) × (Nat → Int32), y9 = F_X0_setNothing vso vmi vco vex 8 := ⟨_, rfl⟩
        have hu := hu _ eu25
        refine x_V (As := []) (rest := []) hCF (c_X0_setNothing l D cR cI cJ cZ t0 ax ar ao ad vrd vtr vsd vrn vom voh vol vop voe vow vok vos vso vmi vco vex 8 u25 eu25 (by decide)) (x_cwV 0 hts (inW_5 _ (List.mem_of_getElem? (i := 38) rfl)) (inW_3 _ (List.mem_of_getElem? (i := 31) rfl)) (inW_3 _ (List.mem_of_getElem? (i := 32) rfl)) (inW_1 _ (List.mem_of_getElem? (i := 16) rfl)) (inW_1 _ (List.mem_of_getElem? (i := 9) rfl)) rfl rfl (by decide +kernel) ⟨Nat.le_of_ble_eq_true rfl, Nat.le_of_ble_eq_true rfl⟩) hK hP hD hS hA hSt (3 + 8) (xw_dat (by decide)) rfl rfl hl.1 rfl (Nat.le_of_ble_eq_true rfl) dX3_setResult_34 ⟨Nat.le_of_ble_eq_true rfl, Nat.le_of_ble_eq_true rfl⟩ (fun H locs hP hD hS => ?_)
        show W p l e _ s m args below meth c H locs 0 0 Q (F0 m 37 ls [])
        refine lv_goto (tgt := 101) hx hb dX3_setResult_37 (by decide) ?_
        have e9 := Eq.symm hu; subst e9
        exact x_vret hx hb hr hlocks hQ hK hP hD hS rfl dX3_setResult_101
  · rw [if_pos c_1] at hs
    rw [if_pos c_1] at hu
    refine lv_aload_n hx hb dX3_setResult_6 rfl (lv_at hl 0 rfl) ?_
    refine lv_aload_n hx hb dX3_setResult_7 rfl (lv_at hl 2 rfl) ?_
    have h_27 := hs
    obtain ⟨u28, eu28⟩ : ∃ y9 : (Nat → Int32) × (Nat → Bool) × (Nat → Int64) × (Nat → Int32), y9 = F_X3_setNext vso vmi vco vex i2 := ⟨_, rfl⟩
    have hu := hu _ eu28
    refine x_V (As := [.ref (ad i2)]) (rest := []) hCF (c_X3_setNext l D cR cI cJ cZ t0 ax ar ao ad vrd vtr vsd vrn vom voh vol vop voe vow vok vos vso vmi vco vex i2 u28 eu28 h_27 hb2) (x_cwV 1 hts (inW_5 _ (List.mem_of_getElem? (i := 14) rfl)) (inW_5 _ (List.mem_of_getElem? (i := 15) rfl)) (inW_5 _ (List.mem_of_getElem? (i := 16) rfl)) (inW_1 _ (List.mem_of_getElem? (i := 25) rfl)) (inW_5 _ (List.mem_of_getElem? (i := 17) rfl)) rfl rfl (by decide +kernel) ⟨Nat.le_of_ble_eq_true rfl, Nat.le_of_ble_eq_true rfl⟩) hK hP hD hS hA hSt 0 rfl rfl rfl hl.1 rfl (Nat.le_of_ble_eq_true rfl) dX3_setResult_8 ⟨Nat.le_of_ble_eq_true rfl, Nat.le_of_ble_eq_true rfl⟩ (fun H locs hP hD hS => ?_)
    show W p l e _ s m args below meth c H locs 0 0 Q (F0 m 11 ls [])
    refine lv_goto (tgt := 101) hx hb dX3_setResult_11 (by decide) ?_
    have e9 := Eq.symm hu; subst e9
    exact x_vret hx hb hr hlocks hQ hK hP hD hS rfl dX3_setResult_101

def F_X3_operate (vrd : Int32) (vtr : Int32) (vsd : Int32) (vom : Bool) (voh : Int64) (vol : Int64) (vop : Int32) (voe : Bool) (vow : Int32) (vok : Int64) (vos : Int32) (vso : Nat → Int32) (vmi : Nat → Bool) (vco : Nat → Int64) (vex : Nat → Int32) (p0 : Int32) (p1 : Int32) (p2 : Int32) (p3 : Int32) : Bool × Int32 × Int32 × Bool × Int64 × Int64 × Int32 × Bool × Int32 × Int64 × Int32 × (Nat → Int32) × (Nat → Bool) × (Nat → Int64) × (Nat → Int32) := (bnd (F_X3_setResult vrd 0 vom voh vol vop voe vow vok vos vso vmi vco vex p0 (p2.toNatClampNeg) (p3.toNatClampNeg)) (fun u5 : Int32 × Bool × Int64 × Int64 × Int32 × Bool × Int32 × Int64 × Int32 × (Nat → Int32) × (Nat → Bool) × (Nat → Int64) × (Nat → Int32) => (bnd (vsd ||| u5.1) (fun f7 : Int32 => (if u5.1 &&& vtr = 0 then (bnd (F_X0_take u5.2.2.2.2.2.2.2.2.2.1 u5.2.2.2.2.2.2.2.2.2.2.1 u5.2.2.2.2.2.2.2.2.2.2.2.1 u5.2.2.2.2.2.2.2.2.2.2.2.2 (p1.toNatClampNeg) 8) (fun u11 : (Nat → Int32) × (Nat → Bool) × (Nat → Int64) × (Nat → Int32) => (true, f7, u5.1, u5.2.1, u5.2.2.1, u5.2.2.2.1, u5.2.2.2.2.1, u5.2.2.2.2.2.1, u5.2.2.2.2.2.2.1, u5.2.2.2.2.2.2.2.1, u5.2.2.2.2.2.2.2.2.1, u11.1, u11.2.1, u11.2.2.1, u11.2.2.2))) else (false, f7, u5.1, u5.2.1, u5.2.2.1, u5.2.2.2.1, u5.2.2.2.2.1, u5.2.2.2.2.2.1, u5.2.2.2.2.2.2.1, u5.2.2.2.2.2.2.2.1, u5.2.2.2.2.2.2.2.2.1, u5.2.2.2.2.2.2.2.2.2.1, u5.2.2.2.2.2.2.2.2.2.2.1, u5.2.2.2.2.2.2.2.2.2.2.2.1, u5.2.2.2.2.2.2.2.2.2.2.2.2))))))
def RF_X3_operate (vrd : Int32) (vtr : Int32) (vsd : Int32) (vom : Bool) (voh : Int64) (vol : Int64) (vop : Int32) (voe : Bool) (vow : Int32) (vok : Int64) (vos : Int32) (vso : Nat → Int32) (vmi : Nat → Bool) (vco : Nat → Int64) (vex : Nat → Int32) (p0 : Int32) (p1 : Int32) (p2 : Int32) (p3 : Int32) (u9 : Bool × Int32 × Int32 × Bool × Int64 × Int64 × Int32 × Bool × Int32 × Int64 × Int32 × (Nat → Int32) × (Nat → Bool) × (Nat → Int64) × (Nat → Int32)) : Prop := (∀ u5 : Int32 × Bool × Int64 × Int64 × Int32 × Bool × Int32 × Int64 × Int32 × (Nat → Int32) × (Nat → Bool) × (Nat → Int64) × (Nat → Int32), u5 = F_X3_setResult vrd 0 vom voh vol vop voe vow vok vos vso vmi vco vex p0 (p2.toNatClampNeg) (p3.toNatClampNeg) → (∀ f7 : Int32, f7 = vsd ||| u5.1 → (if u5.1 &&& vtr = 0 then (∀ u11 : (Nat → Int32) × (Nat → Bool) × (Nat → Int64) × (Nat → Int32), u11 = F_X0_take u5.2.2.2.2.2.2.2.2.2.1 u5.2.2.2.2.2.2.2.2.2.2.1 u5.2.2.2.2.2.2.2.2.2.2.2.1 u5.2.2.2.2.2.2.2.2.2.2.2.2 (p1.toNatClampNeg) 8 → u9 = (true, f7, u5.1, u5.2.1, u5.2.2.1, u5.2.2.2.1, u5.2.2.2.2.1, u5.2.2.2.2.2.1, u5.2.2.2.2.2.2.1, u5.2.2.2.2.2.2.2.1, u5.2.2.2.2.2.2.2.2.1, u11.1, u11.2.1, u11.2.2.1, u11.2.2.2)) else u9 = (false, f7, u5.1, u5.2.1, u5.2.2.1, u5.2.2.2.1, u5.2.2.2.2.1, u5.2.2.2.2.2.1, u5.2.2.2.2.2.2.1, u5.2.2.2.2.2.2.2.1, u5.2.2.2.2.2.2.2.2.1, u5.2.2.2.2.2.2.2.2.2.1, u5.2.2.2.2.2.2.2.2.2.2.1, u5.2.2.2.2.2.2.2.2.2.2.2.1, u5.2.2.2.2.2.2.2.2.2.2.2.2))))
theorem rF_X3_operate (vrd : Int32) (vtr : Int32) (vsd : Int32) (vom : Bool) (voh : Int64) (vol : Int64) (vop : Int32) (voe : Bool) (vow : Int32) (vok : Int64) (vos : Int32) (vso : Nat → Int32) (vmi : Nat → Bool) (vco : Nat → Int64) (vex : Nat → Int32) (p0 : Int32) (p1 : Int32) (p2 : Int32) (p3 : Int32) {u9 : Bool × Int32 × Int32 × Bool × Int64 × Int64 × Int32 × Bool × Int32 × Int64 × Int32 × (Nat → Int32) × (Nat → Bool) × (Nat → Int64) × (Nat → Int32)} (hu : u9 = F_X3_operate vrd vtr vsd vom voh vol vop voe vow vok vos vso vmi vco vex p0 p1 p2 p3) : RF_X3_operate vrd vtr vsd vom voh vol vop voe vow vok vos vso vmi vco vex p0 p1 p2 p3 u9 := by
  unfold RF_X3_operate
  intro u5 eu5
  have hu := bnd_n hu eu5
  intro f7 ef7
  have hu := bnd_n hu ef7
  refine ite_P (fun c_9 => ?_) (fun c_9 => ?_)
  · have hu := hu.trans (if_pos c_9)
    intro u11 eu11
    have hu := bnd_n hu eu11
    exact hu
  · have hu := hu.trans (if_neg c_9)
    exact hu
def S_X3_operate (vrd : Int32) (vtr : Int32) (vsd : Int32) (vom : Bool) (voh : Int64) (vol : Int64) (vop : Int32) (voe : Bool) (vow : Int32) (vok : Int64) (vos : Int32) (vso : Nat → Int32) (vmi : Nat → Bool) (vco : Nat → Int64) (vex : Nat → Int32) (p0 : Int32) (p1 : Int32) (p2 : Int32) (p3 : Int32) : Prop := (vp_in p2 8) ∧ (vp_in p3 8) ∧ (S_X3_setResult vrd 0 vom voh vol vop voe vow vok vos vso vmi vco vex p0 (p2.toNatClampNeg) (p3.toNatClampNeg)) ∧ (∀ u5 : Int32 × Bool × Int64 × Int64 × Int32 × Bool × Int32 × Int64 × Int32 × (Nat → Int32) × (Nat → Bool) × (Nat → Int64) × (Nat → Int32), u5 = F_X3_setResult vrd 0 vom voh vol vop voe vow vok vos vso vmi vco vex p0 (p2.toNatClampNeg) (p3.toNatClampNeg) → (∀ f7 : Int32, f7 = vsd ||| u5.1 → (if u5.1 &&& vtr = 0 then vp_in p1 8 else True)))
def rm_X3_operate : Room := { frames := 8, cells := 0, slots := 0, locals := 196 }
set_option maxHeartbeats 4000000 in
set_option maxRecDepth 100000 in
theorem c_X3_operate (l : Launch) (D : va_G) (cR cI cJ cZ : ClassId) (t0 : Nat) (ax ar ao : Nat) (ad : Nat → Nat) (vrd : Int32) (vtr : Int32) (vsd : Int32) (vrn : Int32) (vom : Bool) (voh : Int64) (vol : Int64) (vop : Int32) (voe : Bool) (vow : Int32) (vok : Int64) (vos : Int32) (vso : Nat → Int32) (vmi : Nat → Bool) (vco : Nat → Int64) (vex : Nat → Int32) (p0 : Int32) (p1 : Int32) (p2 : Int32) (p3 : Int32) (u : Bool × Int32 × Int32 × Bool × Int64 × Int64 × Int32 × Bool × Int32 × Int64 × Int32 × (Nat → Int32) × (Nat → Bool) × (Nat → Int64) × (Nat → Int32)) (hu : u = F_X3_operate vrd vtr vsd vom voh vol vop voe vow vok vos vso vmi vco vex p0 p1 p2 p3) (hs : S_X3_operate vrd vtr vsd vom voh vol vop voe vow vok vos vso vmi vco vex p0 p1 p2 p3) : XM l D (xty cR cI cJ cZ) t0 yX3_operate cX3_operate 5 (some .boolean) rm_X3_operate [.ref ax, .int p0, .int p1, .int p2, .int p3] (some (.int (bI u.1))) (xw cR ax ar ao ad vrd vtr vsd vrn vom voh vol vop voe vow vok vos vso vmi vco vex) (xw cR ax ar ao ad vrd vtr u.2.1 u.2.2.1 u.2.2.2.1 u.2.2.2.2.1 u.2.2.2.2.2.1 u.2.2.2.2.2.2.1 u.2.2.2.2.2.2.2.1 u.2.2.2.2.2.2.2.2.1 u.2.2.2.2.2.2.2.2.2.1 u.2.2.2.2.2.2.2.2.2.2.1 u.2.2.2.2.2.2.2.2.2.2.2.1 u.2.2.2.2.2.2.2.2.2.2.2.2.1 u.2.2.2.2.2.2.2.2.2.2.2.2.2.1 u.2.2.2.2.2.2.2.2.2.2.2.2.2.2) := by
  refine XM.of (by decide) (Nat.le_of_ble_eq_true rfl) ?_
  intro p e s m args below meth c A Q F hK hP hD hA hSt hS hQ ls hl
  obtain ⟨hx, hb, hr, hts, hown, hlocks, hml⟩ := F
  have hCF : CallFix p m c cX3_operate 5 s args gW RX3 := ⟨hx, hb, hml, hown, hts⟩
  unfold S_X3_operate at hs
  have hu := rF_X3_operate vrd vtr vsd vom voh vol vop voe vow vok vos vso vmi vco vex p0 p1 p2 p3 hu
  unfold RF_X3_operate at hu
  obtain ⟨H, eH⟩ : ∃ y9 : Heap, y9 = s.heap := ⟨_, rfl⟩
  obtain ⟨locs, eL⟩ : ∃ y9 : List Loc, y9 = [] := ⟨_, rfl⟩
  rw [← eL] at hS ⊢
  have hP : va_P D vwCl (xw cR ax ar ao ad vrd vtr vsd vrn vom voh vol vop voe vow vok vos vso vmi vco vex) H := by rw [eH]; exact hP
  have hS : va_S A s.heap H locs := by rw [eH]; exact hS
  suffices goal9 : W p l e rm_X3_operate s m args below meth c H locs 0 0 Q (F0 m 0 ls []) from by rw [← eH]; exact goal9
  have hl : lv_has ls 5 [(0, .ref ax), (1, .int p0), (2, .int p1), (3, .int p2), (4, .int p3)] := hl
  have hi3 : ∀ w ∈ wsX30, w ∈ gW := inW_X3
  refine lv_aload_n hx hb dX3_operate_0 rfl (lv_at hl 0 rfl) ?_
  refine lv_iconst (v := 0) hx hb dX3_operate_1 (by decide) ?_
  refine va_put (D := D) (ci := 4) (v := .int 0) (ty := .int) (C := RX3) (T := TX3) (N := 7) hx hb hts hi3 tyX3 tyX3_ok nmX3 hown hK hP hD hS 0 rfl rfl 6 (by decide) (hts (.fieldLink RX3 37 "DecimalWords" "raisedNow" "I") (inW_4 _ (List.mem_of_getElem? (i := 29) rfl))) (fun _ h9 => h9) rfl (by decide +kernel) rfl rfl (Nat.le_of_ble_eq_true rfl) dX3_operate_2 (fun H locs hP hD hS => ?_)
  have hP : va_P D vwCl (xw cR ax ar ao ad vrd vtr vsd 0 vom voh vol vop voe vow vok vos vso vmi vco vex) H := hP
  have hD : va_D A (xw cR ax ar ao ad vrd vtr vsd 0 vom voh vol vop voe vow vok vos vso vmi vco vex) := hD
  refine lv_aload_n hx hb dX3_operate_5 rfl (lv_at hl 0 rfl) ?_
  refine lv_iload_n hx hb dX3_operate_6 rfl (lv_at hl 1 rfl) ?_
  refine lv_aload_n hx hb dX3_operate_7 rfl (lv_at hl 0 rfl) ?_
  refine va_get (D := D) (ci := 4) (v := .ref ar) (C := RX3) (T := TX3) (N := 7) hx hb hts hi3 hown hK hP 0 rfl rfl 0 (by decide) (hts (.fieldLink RX3 11 "DecimalWords" "registers" "[LDecimalWords$Datum;") (inW_4 _ (List.mem_of_getElem? (i := 20) rfl))) (fun _ h9 => h9) rfl dX3_operate_8 ?_
  refine lv_iload_n hx hb dX3_operate_11 rfl (lv_at hl 3 rfl) ?_
  obtain ⟨h_2, hs⟩ := hs
  refine x_aald hx hb hK hP h_2 dX3_operate_12 ?_
  refine lv_aload_n hx hb dX3_operate_13 rfl (lv_at hl 0 rfl) ?_
  refine va_get (D := D) (ci := 4) (v := .ref ar) (C := RX3) (T := TX3) (N := 7) hx hb hts hi3 hown hK hP 0 rfl rfl 0 (by decide) (hts (.fieldLink RX3 11 "DecimalWords" "registers" "[LDecimalWords$Datum;") (inW_4 _ (List.mem_of_getElem? (i := 20) rfl))) (fun _ h9 => h9) rfl dX3_operate_14 ?_
  refine lv_iload hx hb dX3_operate_17 (lv_at hl 4 rfl) ?_
  obtain ⟨h_3, hs⟩ := hs
  refine x_aald hx hb hK hP h_3 dX3_operate_19 ?_
  obtain ⟨h_4, hs⟩ := hs
  obtain ⟨u5, eu5⟩ : ∃ y9 : Int32 × Bool × Int64 × Int64 × Int32 × Bool × Int32 × Int64 × Int32 × (Nat → Int32) × (Nat → Bool) × (Nat → Int64) × (Nat → Int32), y9 = F_X3_setResult vrd 0 vom voh vol vop voe vow vok vos vso vmi vco vex p0 (p2.toNatClampNeg) (p3.toNatClampNeg) := ⟨_, rfl⟩
  have hs := hs _ eu5
  have hu := hu _ eu5
  refine x_V (As := [.int p0, .ref (ad (p2.toNatClampNeg)), .ref (ad (p3.toNatClampNeg))]) (rest := []) hCF (c_X3_setResult l D cR cI cJ cZ t0 ax ar ao ad vrd vtr vsd 0 vom voh vol vop voe vow vok vos vso vmi vco vex p0 (p2.toNatClampNeg) (p3.toNatClampNeg) u5 eu5 h_4 (vp_lt9 h_2) (vp_lt9 h_3)) (x_cwV 3 hts (inW_5 _ (List.mem_of_getElem? (i := 9) rfl)) (inW_5 _ (List.mem_of_getElem? (i := 10) rfl)) (inW_5 _ (List.mem_of_getElem? (i := 11) rfl)) (inW_1 _ (List.mem_of_getElem? (i := 25) rfl)) (inW_5 _ (List.mem_of_getElem? (i := 12) rfl)) rfl rfl (by decide +kernel) ⟨Nat.le_of_ble_eq_true rfl, Nat.le_of_ble_eq_true rfl⟩) hK hP hD hS hA hSt 0 rfl rfl rfl hl.1 rfl (Nat.le_of_ble_eq_true rfl) dX3_operate_20 ⟨Nat.le_of_ble_eq_true rfl, Nat.le_of_ble_eq_true rfl⟩ (fun H locs hP hD hS => ?_)
  show W p l e _ s m args below meth c H locs 0 0 Q (F0 m 23 ls [])
  refine lv_aload_n hx hb dX3_operate_23 rfl (lv_at hl 0 rfl) ?_
  refine lv_dup hx hb dX3_operate_24 rfl ?_
  refine va_get (D := D) (ci := 4) (v := .int vsd) (C := RX3) (T := TX3) (N := 7) hx hb hts hi3 hown hK hP 0 rfl rfl 5 (by decide) (hts (.fieldLink RX3 34 "DecimalWords" "standing" "I") (inW_4 _ (List.mem_of_getElem? (i := 28) rfl))) (fun _ h9 => h9) rfl dX3_operate_25 ?_
  refine lv_aload_n hx hb dX3_operate_28 rfl (lv_at hl 0 rfl) ?_
  refine va_get (D := D) (ci := 4) (v := .int u5.1) (C := RX3) (T := TX3) (N := 7) hx hb hts hi3 hown hK hP 0 rfl rfl 6 (by decide) (hts (.fieldLink RX3 37 "DecimalWords" "raisedNow" "I") (inW_4 _ (List.mem_of_getElem? (i := 29) rfl))) (fun _ h9 => h9) rfl dX3_operate_29 ?_
  refine lv_ior hx hb dX3_operate_32 ?_
  refine lv_topi (fun f7 ef7 => ?_)
  have hs := hs _ ef7
  have hu := hu _ ef7
  refine va_put (D := D) (ci := 4) (v := .int f7) (ty := .int) (C := RX3) (T := TX3) (N := 7) hx hb hts hi3 tyX3 tyX3_ok nmX3 hown hK hP hD hS 0 rfl rfl 5 (by decide) (hts (.fieldLink RX3 34 "DecimalWords" "standing" "I") (inW_4 _ (List.mem_of_getElem? (i := 28) rfl))) (fun _ h9 => h9) rfl (by decide +kernel) rfl rfl (Nat.le_of_ble_eq_true rfl) dX3_operate_33 (fun H locs hP hD hS => ?_)
  have hP : va_P D vwCl (xw cR ax ar ao ad vrd vtr f7 u5.1 u5.2.1 u5.2.2.1 u5.2.2.2.1 u5.2.2.2.2.1 u5.2.2.2.2.2.1 u5.2.2.2.2.2.2.1 u5.2.2.2.2.2.2.2.1 u5.2.2.2.2.2.2.2.2.1 u5.2.2.2.2.2.2.2.2.2.1 u5.2.2.2.2.2.2.2.2.2.2.1 u5.2.2.2.2.2.2.2.2.2.2.2.1 u5.2.2.2.2.2.2.2.2.2.2.2.2) H := hP
  have hD : va_D A (xw cR ax ar ao ad vrd vtr f7 u5.1 u5.2.1 u5.2.2.1 u5.2.2.2.1 u5.2.2.2.2.1 u5.2.2.2.2.2.1 u5.2.2.2.2.2.2.1 u5.2.2.2.2.2.2.2.1 u5.2.2.2.2.2.2.2.2.1 u5.2.2.2.2.2.2.2.2.2.1 u5.2.2.2.2.2.2.2.2.2.2.1 u5.2.2.2.2.2.2.2.2.2.2.2.1 u5.2.2.2.2.2.2.2.2.2.2.2.2) := hD
  refine lv_aload_n hx hb dX3_operate_36 rfl (lv_at hl 0 rfl) ?_
  refine va_get (D := D) (ci := 4) (v := .int u5.1) (C := RX3) (T := TX3) (N := 7) hx hb hts hi3 hown hK hP 0 rfl rfl 6 (by decide) (hts (.fieldLink RX3 37 "DecimalWords" "raisedNow" "I") (inW_4 _ (List.mem_of_getElem? (i := 29) rfl))) (fun _ h9 => h9) rfl dX3_operate_37 ?_
  refine lv_aload_n hx hb dX3_operate_40 rfl (lv_at hl 0 rfl) ?_
  refine va_get (D := D) (ci := 4) (v := .int vtr) (C := RX3) (T := TX3) (N := 7) hx hb hts hi3 hown hK hP 0 rfl rfl 4 (by decide) (hts (.fieldLink RX3 31 "DecimalWords" "traps" "I") (inW_4 _ (List.mem_of_getElem? (i := 27) rfl))) (fun _ h9 => h9) rfl dX3_operate_41 ?_
  refine lv_iand hx hb dX3_operate_44 ?_
  refine lv_if_eq (tgt := 50) hx hb dX3_operate_45 (by decide) (fun c_9 => ?_) (fun c_9 => ?_)
  · rw [if_pos c_9] at hs
    rw [if_pos c_9] at hu
    refine lv_aload_n hx hb dX3_operate_50 rfl (lv_at hl 0 rfl) ?_
    refine va_get (D := D) (ci := 4) (v := .ref ar) (C := RX3) (T := TX3) (N := 7) hx hb hts hi3 hown hK hP 0 rfl rfl 0 (by decide) (hts (.fieldLink RX3 11 "DecimalWords" "registers" "[LDecimalWords$Datum;") (inW_4 _ (List.mem_of_getElem? (i := 20) rfl))) (fun _ h9 => h9) rfl dX3_operate_51 ?_
    refine lv_iload_n hx hb dX3_operate_54 rfl (lv_at hl 2 rfl) ?_
    have h_10 := hs
    refine x_aald hx hb hK hP h_10 dX3_operate_55 ?_
    refine lv_aload_n hx hb dX3_operate_56 rfl (lv_at hl 0 rfl) ?_
    refine va_get (D := D) (ci := 4) (v := .ref (ad 8)) (C := RX3) (T := TX3) (N := 7) hx hb hts hi3 hown hK hP 0 rfl rfl 1 (by decide) (hts (.fieldLink RX3 16 "DecimalWords" "result" "LDecimalWords$Datum;") (inW_4 _ (List.mem_of_getElem? (i := 22) rfl))) (fun _ h9 => h9) rfl dX3_operate_57 ?_
    obtain ⟨u11, eu11⟩ : ∃ y9 : (Nat → Int32) × (Nat → Bool) × (Nat → Int64) × (Nat → Int32), y9 = F_X0_take u5.2.2.2.2.2.2.2.2.2.1 u5.2.2.2.2.2.2.2.2.2.2.1 u5.2.2.2.2.2.2.2.2.2.2.2.1 u5.2.2.2.2.2.2.2.2.2.2.2.2 (p1.toNatClampNeg) 8 := ⟨_, rfl⟩
    have hu := hu _ eu11
    refine x_V (As := [.ref (ad 8)]) (rest := []) hCF (c_X0_take l D cR cI cJ cZ t0 ax ar ao ad vrd vtr f7 u5.1 u5.2.1 u5.2.2.1 u5.2.2.2.1 u5.2.2.2.2.1 u5.2.2.2.2.2.1 u5.2.2.2.2.2.2.1 u5.2.2.2.2.2.2.2.1 u5.2.2.2.2.2.2.2.2.1 u5.2.2.2.2.2.2.2.2.2.1 u5.2.2.2.2.2.2.2.2.2.2.1 u5.2.2.2.2.2.2.2.2.2.2.2.1 u5.2.2.2.2.2.2.2.2.2.2.2.2 (p1.toNatClampNeg) 8 u11 eu11 (vp_lt9 h_10) (by decide)) (x_cwV 1 hts (inW_5 _ (List.mem_of_getElem? (i := 22) rfl)) (inW_5 _ (List.mem_of_getElem? (i := 23) rfl)) (inW_5 _ (List.mem_of_getElem? (i := 24) rfl)) (inW_1 _ (List.mem_of_getElem? (i := 16) rfl)) (inW_1 _ (List.mem_of_getElem? (i := 10) rfl)) rfl rfl (by decide +kernel) ⟨Nat.le_of_ble_eq_true rfl, Nat.le_of_ble_eq_true rfl⟩) hK hP hD hS hA hSt (3 + (p1.toNatClampNeg)) (xw_dat (vp_lt9 h_10)) rfl rfl hl.1 rfl (Nat.le_of_ble_eq_true rfl) dX3_operate_60 ⟨Nat.le_of_ble_eq_true rfl, Nat.le_of_ble_eq_true rfl⟩ (fun H locs hP hD hS => ?_)
    show W p l e _ s m args below meth c H locs 0 0 Q (F0 m 63 ls [])
    refine lv_iconst (v := 1) hx hb dX3_operate_63 (by decide) ?_
    have e9 := Eq.symm hu; subst e9
    exact x_zret (v := true) hx hb hr hlocks hQ hK hP hD hS rfl rfl dX3_operate_64
  · rw [if_neg c_9] at hu
    refine lv_iconst (v := 0) hx hb dX3_operate_48 (by decide) ?_
    have e9 := Eq.symm hu; subst e9
    exact x_zret (v := false) hx hb hr hlocks hQ hK hP hD hS rfl rfl dX3_operate_49
