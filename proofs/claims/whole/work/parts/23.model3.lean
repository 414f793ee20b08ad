def F_X4_compareSizes (vcs : Nat → Int64) (ves : Nat → Int32) (p0 : Int32) (p1 : Int32) : Int32 := (bnd (vcs p0.toNatClampNeg) (fun n102 : Int64 => (bnd (vcs p1.toNatClampNeg) (fun n104 : Int64 => (if n102 = 0 then (if n102 = n104 then 0 else (-1)) else (if n104 = 0 then (if n102 = n104 then 0 else 1) else (bnd (F_X4_lengthOf n102) (fun n110 : Int32 => (bnd (F_X4_lengthOf n104) (fun n113 : Int32 => (if n110 + (ves p0.toNatClampNeg) = n113 + (ves p1.toNatClampNeg) then (bnd (F_X4_times n102 (16 - n110)) (fun n117 : Int64 => (bnd (F_X4_times n104 (16 - n113)) (fun n120 : Int64 => (if n120 ≤ n117 then (if n117 ≤ n120 then 0 else 1) else (-1)))))) else (if n113 + (ves p1.toNatClampNeg) ≤ n110 + (ves p0.toNatClampNeg) then 1 else (-1)))))))))))))
def RF_X4_compareSizes (vcs : Nat → Int64) (ves : Nat → Int32) (p0 : Int32) (p1 : Int32) (u9 : Int32) : Prop := (∀ n102 : Int64, n102 = vcs p0.toNatClampNeg → (∀ n104 : Int64, n104 = vcs p1.toNatClampNeg → (if n102 = 0 then (if n102 = n104 then u9 = 0 else u9 = (-1)) else (if n104 = 0 then (if n102 = n104 then u9 = 0 else u9 = 1) else (∀ n110 : Int32, n110 = F_X4_lengthOf n102 → (∀ n113 : Int32, n113 = F_X4_lengthOf n104 → (if n110 + (ves p0.toNatClampNeg) = n113 + (ves p1.toNatClampNeg) then (∀ n117 : Int64, n117 = F_X4_times n102 (16 - n110) → (∀ n120 : Int64, n120 = F_X4_times n104 (16 - n113) → (if n120 ≤ n117 then (if n117 ≤ n120 then u9 = 0 else u9 = 1) else u9 = (-1)))) else (if n113 + (ves p1.toNatClampNeg) ≤ n110 + (ves p0.toNatClampNeg) then u9 = 1 else u9 = (-1)))))))))
theorem rF_X4_compareSizes (vcs : Nat → Int64) (ves : Nat → Int32) (p0 : Int32) (p1 : Int32) {u9 : Int32} (hu : u9 = F_X4_compareSizes vcs ves p0 p1) : RF_X4_compareSizes vcs ves p0 p1 u9 := by
  unfold RF_X4_compareSizes
  intro n102 en102
  have hu := bnd_n hu en102
  intro n104 en104
  have hu := bnd_n hu en104
  refine ite_P (fun c_105 => ?_) (fun c_105 => ?_)
  · have hu := hu.trans (if_pos c_105)
    refine ite_P (fun c_106 => ?_) (fun c_106 => ?_)
    · have hu := hu.trans (if_pos c_106)
      exact hu
    · have hu := hu.trans (if_neg c_106)
      exact hu
  · have hu := hu.trans (if_neg c_105)
    refine ite_P (fun c_107 => ?_) (fun c_107 => ?_)
    · have hu := hu.trans (if_pos c_107)
      refine ite_P (fun c_124 => ?_) (fun c_124 => ?_)
      · have hu := hu.trans (if_pos c_124)
        exact hu
      · have hu := hu.trans (if_neg c_124)
        exact hu
    · have hu := hu.trans (if_neg c_107)
      intro n110 en110
      have hu := bnd_n hu en110
      intro n113 en113
      have hu := bnd_n hu en113
      refine ite_P (fun c_114 => ?_) (fun c_114 => ?_)
      · have hu := hu.trans (if_pos c_114)
        intro n117 en117
        have hu := bnd_n hu en117
        intro n120 en120
        have hu := bnd_n hu en120
        refine ite_P (fun c_121 => ?_) (fun c_121 => ?_)
        · have hu := hu.trans (if_pos c_121)
          refine ite_P (fun c_122 => ?_) (fun c_122 => ?_)
          · have hu := hu.trans (if_pos c_122)
            exact hu
          · have hu := hu.trans (if_neg c_122)
            exact hu
        · have hu := hu.trans (if_neg c_121)
          exact hu
      · have hu := hu.trans (if_neg c_114)
        refine ite_P (fun c_123 => ?_) (fun c_123 => ?_)
        · have hu := hu.trans (if_pos c_123)
          exact hu
        · have hu := hu.trans (if_neg c_123)
          exact hu
def S_X4_compareSizes (vcs : Nat → Int64) (ves : Nat → Int32) (p0 : Int32) (p1 : Int32) : Prop := (vp_in p0 8) ∧ (∀ n102 : Int64, n102 = vcs p0.toNatClampNeg → (vp_in p1 8) ∧ (∀ n104 : Int64, n104 = vcs p1.toNatClampNeg → (if n102 = 0 then True else (if n104 = 0 then True else (S_X4_lengthOf n102) ∧ (∀ n110 : Int32, n110 = F_X4_lengthOf n102 → (S_X4_lengthOf n104) ∧ (∀ n113 : Int32, n113 = F_X4_lengthOf n104 → (if n110 + (ves p0.toNatClampNeg) = n113 + (ves p1.toNatClampNeg) then (S_X4_times n102 (16 - n110)) ∧ (∀ n117 : Int64, n117 = F_X4_times n102 (16 - n110) → S_X4_times n104 (16 - n113)) else True)))))))
def rm_X4_compareSizes : Room := { frames := 1, cells := 0, slots := 0, locals := 26 }
set_option maxHeartbeats 4000000 in
set_option maxRecDepth 100000 in
theorem c_X4_compareSizes (l : Launch) (D : va_G) (cR cI cJ cZ : ClassId) (t0 : Nat) (am ak an ac ae ag aq : Nat) (vth : Int32) (vmo : Int32) (vfg : Int32) (vtp : Int32) (vkd : Int32) (vng : Bool) (vcc : Int64) (vqq : Int32) (vrs : Int32) (vct : Int32) (vun : Int32) (vre : Bool) (vks : Nat → Int32) (vms : Nat → Bool) (vcs : Nat → Int64) (ves : Nat → Int32) (vdg : Nat → Int32) (vog : Nat → Int32) (p0 : Int32) (p1 : Int32) (u : Int32) (hu : u = F_X4_compareSizes vcs ves p0 p1) (hs : S_X4_compareSizes vcs ves p0 p1) : XM l D (xty cR cI cJ cZ) t0 yX4_compareSizes cX4_compareSizes 13 (some .int) rm_X4_compareSizes [.ref am, .int p0, .int p1] (some (.int u)) (mw cI cJ cZ am ak an ac ae ag aq vth vmo vfg vtp vkd vng vcc vqq vrs vct vun vre vks vms vcs ves vdg vog) (mw cI cJ cZ am ak an ac ae ag aq vth vmo vfg vtp vkd vng vcc vqq vrs vct vun vre vks vms vcs ves vdg vog) := by
  refine XM.of (by decide) (Nat.le_of_ble_eq_true rfl) ?_
  intro p e s m args below meth c A Q F hK hP hD hA hSt hS hQ ls hl
  obtain ⟨hx, hb, hr, hts, hown, hlocks, hml⟩ := F
  have hCF : CallFix p m c cX4_compareSizes 13 s args gW RX4 := ⟨hx, hb, hml, hown, hts⟩
  unfold S_X4_compareSizes at hs
  have hu := rF_X4_compareSizes vcs ves p0 p1 hu
  unfold RF_X4_compareSizes at hu
  obtain ⟨H, eH⟩ : ∃ y9 : Heap, y9 = s.heap := ⟨_, rfl⟩
  obtain ⟨locs, eL⟩ : ∃ y9 : List Loc, y9 = [] := ⟨_, rfl⟩
  rw [← eL] at hS ⊢
  have hP : va_P D vwCl (mw cI cJ cZ am ak an ac ae ag aq vth vmo vfg vtp vkd vng vcc vqq vrs vct vun vre vks vms vcs ves vdg vog) H := by rw [eH]; exact hP
  have hS : va_S A s.heap H locs := by rw [eH]; exact hS
  suffices goal9 : W p l e rm_X4_compareSizes s m args below meth c H locs 0 0 Q (F0 m 0 ls []) from by rw [← eH]; exact goal9
  have hl : lv_has ls 13 [(0, .ref am), (1, .int p0), (2, .int p1)] := hl
  have hi4 : ∀ w ∈ wsX40, w ∈ gW := inW_X4
  refine lv_aload_n hx hb dX4_compareSizes_0 rfl (lv_at hl 0 rfl) ?_
  refine va_get (D := D) (ci := 5) (v := .ref ac) (C := RX4) (T := TX4) (N := 18) hx hb hts hi4 hown hK hP 0 rfl rfl 3 (by decide) (hts (.fieldLink RX4 17 "DecimalWordsModel" "coefficients" "[J") (inW_8 _ (List.mem_of_getElem? (i := 33) rfl))) (fun _ h9 => h9) rfl dX4_compareSizes_1 ?_
  refine lv_iload_n hx hb dX4_compareSizes_4 rfl (lv_at hl 1 rfl) ?_
  obtain ⟨h_101, hs⟩ := hs
  refine va_lald hx hb hK hP 3 2 rfl rfl h_101 dX4_compareSizes_5 ?_
  refine lv_topl (fun n102 en102 => ?_)
  have hs := hs _ en102
  have hu := hu _ en102
  refine lv_lstore_n (lv' := [(3, .long n102), (0, .ref am), (1, .int p0), (2, .int p1)]) hx hb dX4_compareSizes_6 rfl hl (by decide) rfl (fun ls hl => ?_)
  refine lv_aload_n hx hb dX4_compareSizes_7 rfl (lv_at hl 1 rfl) ?_
  refine va_get (D := D) (ci := 5) (v := .ref ac) (C := RX4) (T := TX4) (N := 18) hx hb hts hi4 hown hK hP 0 rfl rfl 3 (by decide) (hts (.fieldLink RX4 17 "DecimalWordsModel" "coefficients" "[J") (inW_8 _ (List.mem_of_getElem? (i := 33) rfl))) (fun _ h9 => h9) rfl dX4_compareSizes_8 ?_
  refine lv_iload_n hx hb dX4_compareSizes_11 rfl (lv_at hl 3 rfl) ?_
  obtain ⟨h_103, hs⟩ := hs
  refine va_lald hx hb hK hP 3 2 rfl rfl h_103 dX4_compareSizes_12 ?_
  refine lv_topl (fun n104 en104 => ?_)
  have hs := hs _ en104
  have hu := hu _ en104
  refine lv_lstore (lv' := [(5, .long n104), (3, .long n102), (0, .ref am), (1, .int p0), (2, .int p1)]) hx hb dX4_compareSizes_13 hl (by decide) rfl (fun ls hl => ?_)
  refine lv_lload_n hx hb dX4_compareSizes_15 rfl (lv_at hl 1 rfl) ?_
  refine lv_lconst (v := 0) hx hb dX4_compareSizes_16 (by decide) ?_
  refine xl_eq (tgt := 28) hx hb dX4_compareSizes_17 dX4_compareSizes_18 (by decide) (fun c_105 => ?_) (fun c_105 => ?_)
  · rw [if_pos c_105] at hu
    refine lv_lload_n hx hb dX4_compareSizes_28 rfl (lv_at hl 1 rfl) ?_
    refine lv_lload hx hb dX4_compareSizes_29 (lv_at hl 0 rfl) ?_
    refine xl_ne (tgt := 39) hx hb dX4_compareSizes_31 dX4_compareSizes_32 (by decide) (fun c_106 => ?_) (fun c_106 => ?_)
    · rw [if_neg c_106] at hu
      refine lv_lload_n hx hb dX4_compareSizes_39 rfl (lv_at hl 1 rfl) ?_
      refine lv_lconst (v := 0) hx hb dX4_compareSizes_40 (by decide) ?_
      refine xl_ne (tgt := 49) hx hb dX4_compareSizes_41 dX4_compareSizes_42 (by decide) (fun c9 => absurd c_105 c9) (fun _ => ?_)
      refine lv_iconst (v := (-1)) hx hb dX4_compareSizes_45 (by decide) ?_
      refine lv_goto (tgt := 50) hx hb dX4_compareSizes_46 (by decide) ?_
      have e9 := Eq.symm hu; subst e9
      exact x_iret hx hb hr hlocks hQ hK hP hD hS rfl rfl dX4_compareSizes_50
    · rw [if_pos c_106] at hu
      refine lv_iconst (v := 0) hx hb dX4_compareSizes_35 (by decide) ?_
      refine lv_goto (tgt := 50) hx hb dX4_compareSizes_36 (by decide) ?_
      have e9 := Eq.symm hu; subst e9
      exact x_iret hx hb hr hlocks hQ hK hP hD hS rfl rfl dX4_compareSizes_50
  · rw [if_neg c_105] at hs
    rw [if_neg c_105] at hu
    refine lv_lload hx hb dX4_compareSizes_21 (lv_at hl 0 rfl) ?_
    refine lv_lconst (v := 0) hx hb dX4_compareSizes_23 (by decide) ?_
    refine xl_ne (tgt := 51) hx hb dX4_compareSizes_24 dX4_compareSizes_25 (by decide) (fun c_107 => ?_) (fun c_107 => ?_)
    · rw [if_neg c_107] at hs
      rw [if_neg c_107] at hu
      refine lv_aload_n hx hb dX4_compareSizes_51 rfl (lv_at hl 2 rfl) ?_
      refine lv_lload_n hx hb dX4_compareSizes_52 rfl (lv_at hl 1 rfl) ?_
      obtain ⟨h_108, hs⟩ := hs
      refine x_V (As := [.long n102]) (rest := []) hCF (c_X4_lengthOf l D cR cI cJ cZ t0 am ak an ac ae ag aq vth vmo vfg vtp vkd vng vcc vqq vrs vct vun vre vks vms vcs ves vdg vog n102 _ rfl h_108) (x_cwV 1 hts (inW_11 _ (List.mem_of_getElem? (i := 4) rfl)) (inW_11 _ (List.mem_of_getElem? (i := 5) rfl)) (inW_11 _ (List.mem_of_getElem? (i := 6) rfl)) (inW_9 _ (List.mem_of_getElem? (i := 5) rfl)) (inW_11 _ (List.mem_of_getElem? (i := 2) rfl)) rfl rfl (by decide +kernel) ⟨Nat.le_of_ble_eq_true rfl, Nat.le_of_ble_eq_true rfl⟩) hK hP hD hS hA hSt 0 rfl rfl rfl hl.1 rfl (Nat.le_of_ble_eq_true rfl) dX4_compareSizes_53 ⟨Nat.le_of_ble_eq_true rfl, Nat.le_of_ble_eq_true rfl⟩ (fun H locs hP hD hS => ?_)
      show W p l e _ s m args below meth c H locs 0 0 Q (F0 m 56 ls (.int (F_X4_lengthOf n102) :: []))
      refine lv_topi (fun n110 en110 => ?_)
      have hs := hs _ en110
      have hu := hu _ en110
      refine lv_istore (lv' := [(7, .int n110), (5, .long n104), (3, .long n102), (0, .ref am), (1, .int p0), (2, .int p1)]) hx hb dX4_compareSizes_56 hl (by decide) rfl (fun ls hl => ?_)
      refine lv_aload_n hx hb dX4_compareSizes_58 rfl (lv_at hl 3 rfl) ?_
      refine lv_lload hx hb dX4_compareSizes_59 (lv_at hl 1 rfl) ?_
      obtain ⟨h_111, hs⟩ := hs
      refine x_V (As := [.long n104]) (rest := []) hCF (c_X4_lengthOf l D cR cI cJ cZ t0 am ak an ac ae ag aq vth vmo vfg vtp vkd vng vcc vqq vrs vct vun vre vks vms vcs ves vdg vog n104 _ rfl h_111) (x_cwV 1 hts (inW_11 _ (List.mem_of_getElem? (i := 4) rfl)) (inW_11 _ (List.mem_of_getElem? (i := 5) rfl)) (inW_11 _ (List.mem_of_getElem? (i := 6) rfl)) (inW_9 _ (List.mem_of_getElem? (i := 5) rfl)) (inW_11 _ (List.mem_of_getElem? (i := 2) rfl)) rfl rfl (by decide +kernel) ⟨Nat.le_of_ble_eq_true rfl, Nat.le_of_ble_eq_true rfl⟩) hK hP hD hS hA hSt 0 rfl rfl rfl hl.1 rfl (Nat.le_of_ble_eq_true rfl) dX4_compareSizes_61 ⟨Nat.le_of_ble_eq_true rfl, Nat.le_of_ble_eq_true rfl⟩ (fun H locs hP hD hS => ?_)
      show W p l e _ s m args below meth c H locs 0 0 Q (F0 m 64 ls (.int (F_X4_lengthOf n104) :: []))
      refine lv_topi (fun n113 en113 => ?_)
      have hs := hs _ en113
      have hu := hu _ en113
      refine lv_istore (lv' := [(8, .int n113), (7, .int n110), (5, .long n104), (3, .long n102), (0, .ref am), (1, .int p0), (2, .int p1)]) hx hb dX4_compareSizes_64 hl (by decide) rfl (fun ls hl => ?_)
      refine lv_iload hx hb dX4_compareSizes_66 (lv_at hl 1 rfl) ?_
      refine lv_aload_n hx hb dX4_compareSizes_68 rfl (lv_at hl 4 rfl) ?_
      refine va_get (D := D) (ci := 5) (v := .ref ae) (C := RX4) (T := TX4) (N := 18) hx hb hts hi4 hown hK hP 0 rfl rfl 4 (by decide) (hts (.fieldLink RX4 21 "DecimalWordsModel" "exponents" "[I") (inW_8 _ (List.mem_of_getElem? (i := 34) rfl))) (fun _ h9 => h9) rfl dX4_compareSizes_69 ?_
      refine lv_iload_n hx hb dX4_compareSizes_72 rfl (lv_at hl 5 rfl) ?_
      refine va_iald hx hb hK hP 4 1 rfl rfl h_101 dX4_compareSizes_73 ?_
      refine lv_iadd hx hb dX4_compareSizes_74 ?_
      refine lv_iload hx hb dX4_compareSizes_75 (lv_at hl 0 rfl) ?_
      refine lv_aload_n hx hb dX4_compareSizes_77 rfl (lv_at hl 4 rfl) ?_
      refine va_get (D := D) (ci := 5) (v := .ref ae) (C := RX4) (T := TX4) (N := 18) hx hb hts hi4 hown hK hP 0 rfl rfl 4 (by decide) (hts (.fieldLink RX4 21 "DecimalWordsModel" "exponents" "[I") (inW_8 _ (List.mem_of_getElem? (i := 34) rfl))) (fun _ h9 => h9) rfl dX4_compareSizes_78 ?_
      refine lv_iload_n hx hb dX4_compareSizes_81 rfl (lv_at hl 6 rfl) ?_
      refine va_iald hx hb hK hP 4 1 rfl rfl h_103 dX4_compareSizes_82 ?_
      refine lv_iadd hx hb dX4_compareSizes_83 ?_
      refine lv_icmp_eq (tgt := 114) hx hb dX4_compareSizes_84 (by decide) (fun c_114 => ?_) (fun c_114 => ?_)
      · rw [if_pos c_114] at hs
        rw [if_pos c_114] at hu
        refine lv_aload_n hx hb dX4_compareSizes_114 rfl (lv_at hl 4 rfl) ?_
        refine lv_lload_n hx hb dX4_compareSizes_115 rfl (lv_at hl 3 rfl) ?_
        refine lv_bipush (v := 16) hx hb dX4_compareSizes_116 (by decide) ?_
        refine lv_iload hx hb dX4_compareSizes_118 (lv_at hl 1 rfl) ?_
        refine lv_isub hx hb dX4_compareSizes_120 ?_
        obtain ⟨h_115, hs⟩ := hs
        refine x_V (As := [.long n102, .int (16 - n110)]) (rest := []) hCF (c_X4_times l D cR cI cJ cZ t0 am ak an ac ae ag aq vth vmo vfg vtp vkd vng vcc vqq vrs vct vun vre vks vms vcs ves vdg vog n102 (16 - n110) _ rfl h_115) (x_cwV 2 hts (inW_9 _ (List.mem_of_getElem? (i := 29) rfl)) (inW_9 _ (List.mem_of_getElem? (i := 30) rfl)) (inW_9 _ (List.mem_of_getElem? (i := 31) rfl)) (inW_9 _ (List.mem_of_getElem? (i := 5) rfl)) (inW_9 _ (List.mem_of_getElem? (i := 10) rfl)) rfl rfl (by decide +kernel) ⟨Nat.le_of_ble_eq_true rfl, Nat.le_of_ble_eq_true rfl⟩) hK hP hD hS hA hSt 0 rfl rfl rfl hl.1 rfl (Nat.le_of_ble_eq_true rfl) dX4_compareSizes_121 ⟨Nat.le_of_ble_eq_true rfl, Nat.le_of_ble_eq_true rfl⟩ (fun H locs hP hD hS => ?_)
        show W p l e _ s m args below meth c H locs 0 0 Q (F0 m 124 ls (.long (F_X4_times n102 (16 - n110)) :: []))
        refine lv_topl (fun n117 en117 => ?_)
        have hs := hs _ en117
        have hu := hu _ en117
        refine lv_lstore (lv' := [(9, .long n117), (8, .int n113), (7, .int n110), (5, .long n104), (3, .long n102), (0, .ref am), (1, .int p0), (2, .int p1)]) hx hb dX4_compareSizes_124 hl (by decide) rfl (fun ls hl => ?_)
        refine lv_aload_n hx hb dX4_compareSizes_126 rfl (lv_at hl 5 rfl) ?_
        refine lv_lload hx hb dX4_compareSizes_127 (lv_at hl 3 rfl) ?_
        refine lv_bipush (v := 16) hx hb dX4_compareSizes_129 (by decide) ?_
        refine lv_iload hx hb dX4_compareSizes_131 (lv_at hl 1 rfl) ?_
        refine lv_isub hx hb dX4_compareSizes_133 ?_
        have h_118 := hs
        refine x_V (As := [.long n104, .int (16 - n113)]) (rest := []) hCF (c_X4_times l D cR cI cJ cZ t0 am ak an ac ae ag aq vth vmo vfg vtp vkd vng vcc vqq vrs vct vun vre vks vms vcs ves vdg vog n104 (16 - n113) _ rfl h_118) (x_cwV 2 hts (inW_9 _ (List.mem_of_getElem? (i := 29) rfl)) (inW_9 _ (List.mem_of_getElem? (i := 30) rfl)) (inW_9 _ (List.mem_of_getElem? (i := 31) rfl)) (inW_9 _ (List.mem_of_getElem? (i := 5) rfl)) (inW_9 _ (List.mem_of_getElem? (i := 10) rfl)) rfl rfl (by decide +kernel) ⟨Nat.le_of_ble_eq_true rfl, Nat.le_of_ble_eq_true rfl⟩) hK hP hD hS hA hSt 0 rfl rfl rfl hl.1 rfl (Nat.le_of_ble_eq_true rfl) dX4_compareSizes_134 ⟨Nat.le_of_ble_eq_true rfl, Nat.le_of_ble_eq_true rfl⟩ (fun H locs hP hD hS => ?_)
        show W p l e _ s m args below meth c H locs 0 0 Q (F0 m 137 ls (.long (F_X4_times n104 (16 - n113)) :: []))
        refine lv_topl (fun n120 en120 => ?_)
        have hu := hu _ en120
        refine lv_lstore (lv' := [(11, .long n120), (9, .long n117), (8, .int n113), (7, .int n110), (5, .long n104), (3, .long n102), (0, .ref am), (1, .int p0), (2, .int p1)]) hx hb dX4_compareSizes_137 hl (by decide) rfl (fun ls hl => ?_)
        refine lv_lload hx hb dX4_compareSizes_139 (lv_at hl 1 rfl) ?_
        refine lv_lload hx hb dX4_compareSizes_141 (lv_at hl 0 rfl) ?_
        refine xl_ge (tgt := 151) hx hb dX4_compareSizes_143 dX4_compareSizes_144 (by decide) (fun c_121 => ?_) (fun c_121 => ?_)
        · rw [if_pos c_121] at hu
          refine lv_lload hx hb dX4_compareSizes_151 (lv_at hl 1 rfl) ?_
          refine lv_lload hx hb dX4_compareSizes_153 (lv_at hl 0 rfl) ?_
          refine xl_le (tgt := 163) hx hb dX4_compareSizes_155 dX4_compareSizes_156 (by decide) (fun c_122 => ?_) (fun c_122 => ?_)
          · rw [if_pos c_122] at hu
            refine lv_iconst (v := 0) hx hb dX4_compareSizes_163 (by decide) ?_
            have e9 := Eq.symm hu; subst e9
            exact x_iret hx hb hr hlocks hQ hK hP hD hS rfl rfl dX4_compareSizes_164
          · rw [if_neg c_122] at hu
            refine lv_iconst (v := 1) hx hb dX4_compareSizes_159 (by decide) ?_
            refine lv_goto (tgt := 164) hx hb dX4_compareSizes_160 (by decide) ?_
            have e9 := Eq.symm hu; subst e9
            exact x_iret hx hb hr hlocks hQ hK hP hD hS rfl rfl dX4_compareSizes_164
        · rw [if_neg c_121] at hu
          refine lv_iconst (v := (-1)) hx hb dX4_compareSizes_147 (by decide) ?_
          refine lv_goto (tgt := 164) hx hb dX4_compareSizes_148 (by decide) ?_
          have e9 := Eq.symm hu; subst e9
          exact x_iret hx hb hr hlocks hQ hK hP hD hS rfl rfl dX4_compareSizes_164
      · rw [if_neg c_114] at hu
        refine lv_iload hx hb dX4_compareSizes_87 (lv_at hl 1 rfl) ?_
        refine lv_aload_n hx hb dX4_compareSizes_89 rfl (lv_at hl 4 rfl) ?_
        refine va_get (D := D) (ci := 5) (v := .ref ae) (C := RX4) (T := TX4) (N := 18) hx hb hts hi4 hown hK hP 0 rfl rfl 4 (by decide) (hts (.fieldLink RX4 21 "DecimalWordsModel" "exponents" "[I") (inW_8 _ (List.mem_of_getElem? (i := 34) rfl))) (fun _ h9 => h9) rfl dX4_compareSizes_90 ?_
        refine lv_iload_n hx hb dX4_compareSizes_93 rfl (lv_at hl 5 rfl) ?_
        refine va_iald hx hb hK hP 4 1 rfl rfl h_101 dX4_compareSizes_94 ?_
        refine lv_iadd hx hb dX4_compareSizes_95 ?_
        refine lv_iload hx hb dX4_compareSizes_96 (lv_at hl 0 rfl) ?_
        refine lv_aload_n hx hb dX4_compareSizes_98 rfl (lv_at hl 4 rfl) ?_
        refine va_get (D := D) (ci := 5) (v := .ref ae) (C := RX4) (T := TX4) (N := 18) hx hb hts hi4 hown hK hP 0 rfl rfl 4 (by decide) (hts (.fieldLink RX4 21 "DecimalWordsModel" "exponents" "[I") (inW_8 _ (List.mem_of_getElem? (i := 34) rfl))) (fun _ h9 => h9) rfl dX4_compareSizes_99 ?_
        refine lv_iload_n hx hb dX4_compareSizes_102 rfl (lv_at hl 6 rfl) ?_
        refine va_iald hx hb hK hP 4 1 rfl rfl h_103 dX4_compareSizes_103 ?_
        refine lv_iadd hx hb dX4_compareSizes_104 ?_
        refine lv_icmp_ge (tgt := 112) hx hb dX4_compareSizes_105 (by decide) (fun c_123 => ?_) (fun c_123 => ?_)
        · rw [if_pos c_123] at hu
          refine lv_iconst (v := 1) hx hb dX4_compareSizes_112 (by decide) ?_
          have e9 := Eq.symm hu; subst e9
          exact x_iret hx hb hr hlocks hQ hK hP hD hS rfl rfl dX4_compareSizes_113
        · rw [if_neg c_123] at hu
          refine lv_iconst (v := (-1)) hx hb dX4_compareSizes_108 (by decide) ?_
          refine lv_goto (tgt := 113) hx hb dX4_compareSizes_109 (by decide) ?_
          have e9 := Eq.symm hu; subst e9
          exact x_iret hx hb hr hlocks hQ hK hP hD hS rfl rfl dX4_compareSizes_113
    · rw [if_pos c_107] at hu
      refine lv_lload_n hx hb dX4_compareSizes_28 rfl (lv_at hl 1 rfl) ?_
      refine lv_lload hx hb dX4_compareSizes_29 (lv_at hl 0 rfl) ?_
      refine xl_ne (tgt := 39) hx hb dX4_compareSizes_31 dX4_compareSizes_32 (by decide) (fun c_124 => ?_) (fun c_124 => ?_)
      · rw [if_neg c_124] at hu
        refine lv_lload_n hx hb dX4_compareSizes_39 rfl (lv_at hl 1 rfl) ?_
        refine lv_lconst (v := 0) hx hb dX4_compareSizes_40 (by decide) ?_
        refine xl_ne (tgt := 49) hx hb dX4_compareSizes_41 dX4_compareSizes_42 (by decide) (fun _ => ?_) (fun c9 => absurd c9 c_105)
        refine lv_iconst (v := 1) hx hb dX4_compareSizes_49 (by decide) ?_
        have e9 := Eq.symm hu; subst e9
        exact x_iret hx hb hr hlocks hQ hK hP hD hS rfl rfl dX4_compareSizes_50
      · rw [if_pos c_124] at hu
        refine lv_iconst (v := 0) hx hb dX4_compareSizes_35 (by decide) ?_
        refine lv_goto (tgt := 50) hx hb dX4_compareSizes_36 (by decide) ?_
        have e9 := Eq.symm hu; subst e9
        exact x_iret hx hb hr hlocks hQ hK hP hD hS rfl rfl dX4_compareSizes_50

def Z_X4_order_J_115 (vks : Nat → Int32) (p1 : Int32) : Bool := (if F_X4_is vks p1 (1 : Int32) = true then true else false)
def RZ_X4_order_J_115 (vks : Nat → Int32) (p1 : Int32) (u9 : Bool) : Prop := (if F_X4_is vks p1 (1 : Int32) = true then u9 = true else u9 = false)
theorem rZ_X4_order_J_115 (vks : Nat → Int32) (p1 : Int32) {u9 : Bool} (hu : u9 = Z_X4_order_J_115 vks p1) : RZ_X4_order_J_115 vks p1 u9 := by
  unfold RZ_X4_order_J_115
  refine ite_P (fun c_112 => ?_) (fun c_112 => ?_)
  · have hu := hu.trans (if_pos c_112)
    exact hu
  · have hu := hu.trans (if_neg c_112)
    exact hu
def Z_X4_order_J_125 (vks : Nat → Int32) (vcs : Nat → Int64) (ves : Nat → Int32) (p0 : Int32) (p1 : Int32) : Int32 := (if F_X4_is vks p0 (1 : Int32) = true then (bnd (Z_X4_order_J_115 vks p1) (fun z114 : Bool => 1 - (bI z114))) else (if F_X4_is vks p1 (1 : Int32) = true then (0 : Int32) - 1 else F_X4_compareSizes vcs ves p0 p1))
def RZ_X4_order_J_125 (vks : Nat → Int32) (vcs : Nat → Int64) (ves : Nat → Int32) (p0 : Int32) (p1 : Int32) (u9 : Int32) : Prop := (if F_X4_is vks p0 (1 : Int32) = true then (∀ z114 : Bool, z114 = Z_X4_order_J_115 vks p1 → u9 = 1 - (bI z114)) else (if F_X4_is vks p1 (1 : Int32) = true then u9 = (0 : Int32) - 1 else u9 = F_X4_compareSizes vcs ves p0 p1))
theorem rZ_X4_order_J_125 (vks : Nat → Int32) (vcs : Nat → Int64) (ves : Nat → Int32) (p0 : Int32) (p1 : Int32) {u9 : Int32} (hu : u9 = Z_X4_order_J_125 vks vcs ves p0 p1) : RZ_X4_order_J_125 vks vcs ves p0 p1 u9 := by
  unfold RZ_X4_order_J_125
  refine ite_P (fun c_108 => ?_) (fun c_108 => ?_)
  · have hu := hu.trans (if_pos c_108)
    intro z114 ez114
    have hu := bnd_n hu ez114
    exact hu
  · have hu := hu.trans (if_neg c_108)
    refine ite_P (fun c_118 => ?_) (fun c_118 => ?_)
    · have hu := hu.trans (if_pos c_118)
      exact hu
    · have hu := hu.trans (if_neg c_118)
      exact hu
def F_X4_order (vks : Nat → Int32) (vms : Nat → Bool) (vcs : Nat → Int64) (ves : Nat → Int32) (p0 : Int32) (p1 : Int32) : Int32 := (if F_X4_signOf vks vms vcs p0 = F_X4_signOf vks vms vcs p1 then (bnd (Z_X4_order_J_125 vks vcs ves p0 p1) (fun z124 : Int32 => (if 0 ≤ F_X4_signOf vks vms vcs p0 then z124 else -z124))) else (if F_X4_signOf vks vms vcs p1 ≤ F_X4_signOf vks vms vcs p0 then 1 else (-1)))
def RF_X4_order (vks : Nat → Int32) (vms : Nat → Bool) (vcs : Nat → Int64) (ves : Nat → Int32) (p0 : Int32) (p1 : Int32) (u9 : Int32) : Prop := (if F_X4_signOf vks vms vcs p0 = F_X4_signOf vks vms vcs p1 then (∀ z124 : Int32, z124 = Z_X4_order_J_125 vks vcs ves p0 p1 → (if 0 ≤ F_X4_signOf vks vms vcs p0 then u9 = z124 else u9 = -z124)) else (if F_X4_signOf vks vms vcs p1 ≤ F_X4_signOf vks vms vcs p0 then u9 = 1 else u9 = (-1)))
theorem rF_X4_order (vks : Nat → Int32) (vms : Nat → Bool) (vcs : Nat → Int64) (ves : Nat → Int32) (p0 : Int32) (p1 : Int32) {u9 : Int32} (hu : u9 = F_X4_order vks vms vcs ves p0 p1) : RF_X4_order vks vms vcs ves p0 p1 u9 := by
  unfold RF_X4_order
  refine ite_P (fun c_105 => ?_) (fun c_105 => ?_)
  · have hu := hu.trans (if_pos c_105)
    intro z124 ez124
    have hu := bnd_n hu ez124
    refine ite_P (fun c_127 => ?_) (fun c_127 => ?_)
    · have hu := hu.trans (if_pos c_127)
      exact hu
    · have hu := hu.trans (if_neg c_127)
      exact hu
  · have hu := hu.trans (if_neg c_105)
    refine ite_P (fun c_130 => ?_) (fun c_130 => ?_)
    · have hu := hu.trans (if_pos c_130)
      exact hu
    · have hu := hu.trans (if_neg c_130)
      exact hu
def S_X4_order (vks : Nat → Int32) (vms : Nat → Bool) (vcs : Nat → Int64) (ves : Nat → Int32) (p0 : Int32) (p1 : Int32) : Prop := (S_X4_signOf vks vms vcs p0) ∧ (S_X4_signOf vks vms vcs p1) ∧ (if F_X4_signOf vks vms vcs p0 = F_X4_signOf vks vms vcs p1 then (S_X4_is vks p0 (1 : Int32)) ∧ (if F_X4_is vks p0 (1 : Int32) = true then S_X4_is vks p1 (1 : Int32) else (S_X4_is vks p1 (1 : Int32)) ∧ (if F_X4_is vks p1 (1 : Int32) = true then True else S_X4_compareSizes vcs ves p0 p1)) else True)
def rm_X4_order : Room := { frames := 2, cells := 0, slots := 0, locals := 58 }
set_option maxHeartbeats 4000000 in
set_option maxRecDepth 100000 in
theorem c_X4_order (l : Launch) (D : va_G) (cR cI cJ cZ : ClassId) (t0 : Nat) (am ak an ac ae ag aq : Nat) (vth : Int32) (vmo : Int32) (vfg : Int32) (vtp : Int32) (vkd : Int32) (vng : Bool) (vcc : Int64) (vqq : Int32) (vrs : Int32) (vct : Int32) (vun : Int32) (vre : Bool) (vks : Nat → Int32) (vms : Nat → Bool) (vcs : Nat → Int64) (ves : Nat → Int32) (vdg : Nat → Int32) (vog : Nat → Int32) (p0 : Int32) (p1 : Int32) (u : Int32) (hu : u = F_X4_order vks vms vcs ves p0 p1) (hs : S_X4_order vks vms vcs ves p0 p1) : XM l D (xty cR cI cJ cZ) t0 yX4_order cX4_order 4 (some .int) rm_X4_order [.ref am, .int p0, .int p1] (some (.int u)) (mw cI cJ cZ am ak an ac ae ag aq vth vmo vfg vtp vkd vng vcc vqq vrs vct vun vre vks vms vcs ves vdg vog) (mw cI cJ cZ am ak an ac ae ag aq vth vmo vfg vtp vkd vng vcc vqq vrs vct vun vre vks vms vcs ves vdg vog) := by
  refine XM.of (by decide) (Nat.le_of_ble_eq_true rfl) ?_
  intro p e s m args below meth c A Q F hK hP hD hA hSt hS hQ ls hl
  obtain ⟨hx, hb, hr, hts, hown, hlocks, hml⟩ := F
  have hCF : CallFix p m c cX4_order 4 s args gW RX4 := ⟨hx, hb, hml, hown, hts⟩
  unfold S_X4_order at hs
  have hu := rF_X4_order vks vms vcs ves p0 p1 hu
  unfold RF_X4_order at hu
  obtain ⟨H, eH⟩ : ∃ y9 : Heap, y9 = s.heap := ⟨_, rfl⟩
  obtain ⟨locs, eL⟩ : ∃ y9 : List Loc, y9 = [] := ⟨_, rfl⟩
  rw [← eL] at hS ⊢
  have hP : va_P D vwCl (mw cI cJ cZ am ak an ac ae ag aq vth vmo vfg vtp vkd vng vcc vqq vrs vct vun vre vks vms vcs ves vdg vog) H := by rw [eH]; exact hP
  have hS : va_S A s.heap H locs := by rw [eH]; exact hS
  suffices goal9 : W p l e rm_X4_order s m args below meth c H locs 0 0 Q (F0 m 0 ls []) from by rw [← eH]; exact goal9
  have hl : lv_has ls 4 [(0, .ref am), (1, .int p0), (2, .int p1)] := hl
  refine lv_aload_n hx hb dX4_order_0 rfl (lv_at hl 0 rfl) ?_
  refine lv_iload_n hx hb dX4_order_1 rfl (lv_at hl 1 rfl) ?_
  obtain ⟨h_101, hs⟩ := hs
  refine x_V (As := [.int p0]) (rest := []) hCF (c_X4_signOf l D cR cI cJ cZ t0 am ak an ac ae ag aq vth vmo vfg vtp vkd vng vcc vqq vrs vct vun vre vks vms vcs ves vdg vog p0 _ rfl h_101) (x_cwV 1 hts (inW_11 _ (List.mem_of_getElem? (i := 9) rfl)) (inW_11 _ (List.mem_of_getElem? (i := 10) rfl)) (inW_11 _ (List.mem_of_getElem? (i := 11) rfl)) (inW_9 _ (List.mem_of_getElem? (i := 5) rfl)) (inW_11 _ (List.mem_of_getElem? (i := 7) rfl)) rfl rfl (by decide +kernel) ⟨Nat.le_of_ble_eq_true rfl, Nat.le_of_ble_eq_true rfl⟩) hK hP hD hS hA hSt 0 rfl rfl rfl hl.1 rfl (Nat.le_of_ble_eq_true rfl) dX4_order_2 ⟨Nat.le_of_ble_eq_true rfl, Nat.le_of_ble_eq_true rfl⟩ (fun H locs hP hD hS => ?_)
  show W p l e _ s m args below meth c H locs 0 0 Q (F0 m 5 ls (.int (F_X4_signOf vks vms vcs p0) :: []))
  refine lv_aload_n hx hb dX4_order_5 rfl (lv_at hl 0 rfl) ?_
  refine lv_iload_n hx hb dX4_order_6 rfl (lv_at hl 2 rfl) ?_
  obtain ⟨h_103, hs⟩ := hs
  refine x_V (As := [.int p1]) (rest := [.int (F_X4_signOf vks vms vcs p0)]) hCF (c_X4_signOf l D cR cI cJ cZ t0 am ak an ac ae ag aq vth vmo vfg vtp vkd vng vcc vqq vrs vct vun vre vks vms vcs ves vdg vog p1 _ rfl h_103) (x_cwV 1 hts (inW_11 _ (List.mem_of_getElem? (i := 9) rfl)) (inW_11 _ (List.mem_of_getElem? (i := 10) rfl)) (inW_11 _ (List.mem_of_getElem? (i := 11) rfl)) (inW_9 _ (List.mem_of_getElem? (i := 5) rfl)) (inW_11 _ (List.mem_of_getElem? (i := 7) rfl)) rfl rfl (by decide +kernel) ⟨Nat.le_of_ble_eq_true rfl, Nat.le_of_ble_eq_true rfl⟩) hK hP hD hS hA hSt 0 rfl rfl rfl hl.1 rfl (Nat.le_of_ble_eq_true rfl) dX4_order_7 ⟨Nat.le_of_ble_eq_true rfl, Nat.le_of_ble_eq_true rfl⟩ (fun H locs hP hD hS => ?_)
  show W p l e _ s m args below meth c H locs 0 0 Q (F0 m 10 ls (.int (F_X4_signOf vks vms vcs p1) :: [.int (F_X4_signOf vks vms vcs p0)]))
  refine lv_icmp_eq (tgt := 32) hx hb dX4_order_10 (by decide) (fun c_105 => ?_) (fun c_105 => ?_)
  · rw [if_pos c_105] at hs
    rw [if_pos c_105] at hu
    refine lv_aload_n hx hb dX4_order_32 rfl (lv_at hl 0 rfl) ?_
    refine lv_iload_n hx hb dX4_order_33 rfl (lv_at hl 1 rfl) ?_
    refine lv_iconst (v := 1) hx hb dX4_order_34 (by decide) ?_
    obtain ⟨h_106, hs⟩ := hs
    refine x_V (As := [.int p0, .int 1]) (rest := []) hCF (c_X4_is l D cR cI cJ cZ t0 am ak an ac ae ag aq vth vmo vfg vtp vkd vng vcc vqq vrs vct vun vre vks vms vcs ves vdg vog p0 (1 : Int32) _ rfl h_106) (x_cwV 2 hts (inW_10 _ (List.mem_of_getElem? (i := 18) rfl)) (inW_10 _ (List.mem_of_getElem? (i := 19) rfl)) (inW_10 _ (List.mem_of_getElem? (i := 20) rfl)) (inW_9 _ (List.mem_of_getElem? (i := 5) rfl)) (inW_10 _ (List.mem_of_getElem? (i := 10) rfl)) rfl rfl (by decide +kernel) ⟨Nat.le_of_ble_eq_true rfl, Nat.le_of_ble_eq_true rfl⟩) hK hP hD hS hA hSt 0 rfl rfl rfl hl.1 rfl (Nat.le_of_ble_eq_true rfl) dX4_order_35 ⟨Nat.le_of_ble_eq_true rfl, Nat.le_of_ble_eq_true rfl⟩ (fun H locs hP hD hS => ?_)
    show W p l e _ s m args below meth c H locs 0 0 Q (F0 m 38 ls (.int (bI (F_X4_is vks p0 (1 : Int32))) :: []))
    have J_125 : (∀ z124 : Int32, z124 = Z_X4_order_J_125 vks vcs ves p0 p1 → ∀ (H : Heap) (locs : List Loc), va_P D vwCl (mw cI cJ cZ am ak an ac ae ag aq vth vmo vfg vtp vkd vng vcc vqq vrs vct vun vre vks vms vcs ves vdg vog) H → va_D A (mw cI cJ cZ am ak an ac ae ag aq vth vmo vfg vtp vkd vng vcc vqq vrs vct vun vre vks vms vcs ves vdg vog) → va_S A s.heap H locs → ∀ ls : Array Slot, lv_has ls 4 [(0, .ref am), (1, .int p0)] → W p l e rm_X4_order s m args below meth c H locs 0 0 Q (F0 m 88 ls [.int z124])) := by
      intro z124 ez124 H locs hP hD hS ls hl
      have hu := hu _ ez124
      refine lv_istore_n (lv' := [(3, .int z124), (0, .ref am), (1, .int p0)]) hx hb dX4_order_88 rfl hl (by decide) rfl (fun ls hl => ?_)
      refine lv_aload_n hx hb dX4_order_89 rfl (lv_at hl 1 rfl) ?_
      refine lv_iload_n hx hb dX4_order_90 rfl (lv_at hl 2 rfl) ?_
      refine x_V (As := [.int p0]) (rest := []) hCF (c_X4_signOf l D cR cI cJ cZ t0 am ak an ac ae ag aq vth vmo vfg vtp vkd vng vcc vqq vrs vct vun vre vks vms vcs ves vdg vog p0 _ rfl h_101) (x_cwV 1 hts (inW_11 _ (List.mem_of_getElem? (i := 9) rfl)) (inW_11 _ (List.mem_of_getElem? (i := 10) rfl)) (inW_11 _ (List.mem_of_getElem? (i := 11) rfl)) (inW_9 _ (List.mem_of_getElem? (i := 5) rfl)) (inW_11 _ (List.mem_of_getElem? (i := 7) rfl)) rfl rfl (by decide +kernel) ⟨Nat.le_of_ble_eq_true rfl, Nat.le_of_ble_eq_true rfl⟩) hK hP hD hS hA hSt 0 rfl rfl rfl hl.1 rfl (Nat.le_of_ble_eq_true rfl) dX4_order_91 ⟨Nat.le_of_ble_eq_true rfl, Nat.le_of_ble_eq_true rfl⟩ (fun H locs hP hD hS => ?_)
      show W p l e _ s m args below meth c H locs 0 0 Q (F0 m 94 ls (.int (F_X4_signOf vks vms vcs p0) :: []))
      refine lv_if_ge (tgt := 102) hx hb dX4_order_94 (by decide) (fun c_127 => ?_) (fun c_127 => ?_)
      · rw [if_pos c_127] at hu
        refine lv_iload_n hx hb dX4_order_102 rfl (lv_at hl 0 rfl) ?_
        have e9 := Eq.symm hu; subst e9
        exact x_iret hx hb hr hlocks hQ hK hP hD hS rfl rfl dX4_order_103
      · rw [if_neg c_127] at hu
        refine lv_iload_n hx hb dX4_order_97 rfl (lv_at hl 0 rfl) ?_
        refine lv_ineg hx hb dX4_order_98 ?_
        refine lv_goto (tgt := 103) hx hb dX4_order_99 (by decide) ?_
        have e9 := Eq.symm hu; subst e9
        exact x_iret hx hb hr hlocks hQ hK hP hD hS rfl rfl dX4_order_103
    obtain ⟨z9, ez9⟩ : ∃ y9 : Int32, y9 = Z_X4_order_J_125 vks vcs ves p0 p1 := ⟨_, rfl⟩
    have hz := rZ_X4_order_J_125 vks vcs ves p0 p1 ez9
    unfold RZ_X4_order_J_125 at hz
    refine xb_ne (tgt := 50) hx hb dX4_order_38 (by decide) (fun c_108 => ?_) (fun c_108 => ?_)
    · rw [if_pos c_108] at hs
      rw [if_pos c_108] at hz
      refine lv_aload_n hx hb dX4_order_50 rfl (lv_at hl 0 rfl) ?_
      refine lv_iload_n hx hb dX4_order_51 rfl (lv_at hl 1 rfl) ?_
      refine lv_iconst (v := 1) hx hb dX4_order_52 (by decide) ?_
      refine x_V (As := [.int p0, .int 1]) (rest := []) hCF (c_X4_is l D cR cI cJ cZ t0 am ak an ac ae ag aq vth vmo vfg vtp vkd vng vcc vqq vrs vct vun vre vks vms vcs ves vdg vog p0 (1 : Int32) _ rfl h_106) (x_cwV 2 hts (inW_10 _ (List.mem_of_getElem? (i := 18) rfl)) (inW_10 _ (List.mem_of_getElem? (i := 19) rfl)) (inW_10 _ (List.mem_of_getElem? (i := 20) rfl)) (inW_9 _ (List.mem_of_getElem? (i := 5) rfl)) (inW_10 _ (List.mem_of_getElem? (i := 10) rfl)) rfl rfl (by decide +kernel) ⟨Nat.le_of_ble_eq_true rfl, Nat.le_of_ble_eq_true rfl⟩) hK hP hD hS hA hSt 0 rfl rfl rfl hl.1 rfl (Nat.le_of_ble_eq_true rfl) dX4_order_53 ⟨Nat.le_of_ble_eq_true rfl, Nat.le_of_ble_eq_true rfl⟩ (fun H locs hP hD hS => ?_)
      show W p l e _ s m args below meth c H locs 0 0 Q (F0 m 56 ls (.int (bI (F_X4_is vks p0 (1 : Int32))) :: []))
      refine xb_eq (tgt := 63) hx hb dX4_order_56 (by decide) (fun c9 => absurd c_108 c9) (fun _ => ?_)
      refine lv_iconst (v := 1) hx hb dX4_order_59 (by decide) ?_
      refine lv_goto (tgt := 64) hx hb dX4_order_60 (by decide) ?_
      refine lv_aload_n hx hb dX4_order_64 rfl (lv_at hl 0 rfl) ?_
      refine lv_iload_n hx hb dX4_order_65 rfl (lv_at hl 2 rfl) ?_
      refine lv_iconst (v := 1) hx hb dX4_order_66 (by decide) ?_
      have h_110 := hs
      refine x_V (As := [.int p1, .int 1]) (rest := [.int 1]) hCF (c_X4_is l D cR cI cJ cZ t0 am ak an ac ae ag aq vth vmo vfg vtp vkd vng vcc vqq vrs vct vun vre vks vms vcs ves vdg vog p1 (1 : Int32) _ rfl h_110) (x_cwV 2 hts (inW_10 _ (List.mem_of_getElem? (i := 18) rfl)) (inW_10 _ (List.mem_of_getElem? (i := 19) rfl)) (inW_10 _ (List.mem_of_getElem? (i := 20) rfl)) (inW_9 _ (List.mem_of_getElem? (i := 5) rfl)) (inW_10 _ (List.mem_of_getElem? (i := 10) rfl)) rfl rfl (by decide +kernel) ⟨Nat.le_of_ble_eq_true rfl, Nat.le_of_ble_eq_true rfl⟩) hK hP hD hS hA hSt 0 rfl rfl rfl hl.1 rfl (Nat.le_of_ble_eq_true rfl) dX4_order_67 ⟨Nat.le_of_ble_eq_true rfl, Nat.le_of_ble_eq_true rfl⟩ (fun H locs hP hD hS => ?_)
      show W p l e _ s m args below meth c H locs 0 0 Q (F0 m 70 ls (.int (bI (F_X4_is vks p1 (1 : Int32))) :: [.int 1]))
      have J_115 : (∀ z114 : Bool, z114 = Z_X4_order_J_115 vks p1 → ∀ (H : Heap) (locs : List Loc), va_P D vwCl (mw cI cJ cZ am ak an ac ae ag aq vth vmo vfg vtp vkd vng vcc vqq vrs vct vun vre vks vms vcs ves vdg vog) H → va_D A (mw cI cJ cZ am ak an ac ae ag aq vth vmo vfg vtp vkd vng vcc vqq vrs vct vun vre vks vms vcs ves vdg vog) → va_S A s.heap H locs → ∀ ls : Array Slot, lv_has ls 4 [(0, .ref am), (1, .int p0)] → W p l e rm_X4_order s m args below meth c H locs 0 0 Q (F0 m 78 ls [.int (bI z114), .int 1])) := by
        intro z114 ez114 H locs hP hD hS ls hl
        have hz := hz _ ez114
        refine lv_isub hx hb dX4_order_78 ?_
        refine lv_goto (tgt := 88) hx hb dX4_order_79 (by decide) ?_
        have e9 := Eq.symm hz; subst e9
        exact J_125 _ ez9 H locs hP hD hS ls (lv_sub hl [0, 1] rfl)
      obtain ⟨z9, ez9⟩ : ∃ y9 : Bool, y9 = Z_X4_order_J_115 vks p1 := ⟨_, rfl⟩
      have hz := rZ_X4_order_J_115 vks p1 ez9
      unfold RZ_X4_order_J_115 at hz
      refine xb_eq (tgt := 77) hx hb dX4_order_70 (by decide) (fun c_112 => ?_) (fun c_112 => ?_)
      · rw [if_neg c_112] at hz
        refine lv_iconst (v := 0) hx hb dX4_order_77 (by decide) ?_
        have e9 := Eq.symm hz; subst e9
        exact J_115 _ ez9 H locs hP hD hS ls (lv_sub hl [0, 1] rfl)
      · rw [if_pos c_112] at hz
        refine lv_iconst (v := 1) hx hb dX4_order_73 (by decide) ?_
        refine lv_goto (tgt := 78) hx hb dX4_order_74 (by decide) ?_
        have e9 := Eq.symm hz; subst e9
        exact J_115 _ ez9 H locs hP hD hS ls (lv_sub hl [0, 1] rfl)
    · rw [if_neg c_108] at hs
      rw [if_neg c_108] at hz
      refine lv_aload_n hx hb dX4_order_41 rfl (lv_at hl 0 rfl) ?_
      refine lv_iload_n hx hb dX4_order_42 rfl (lv_at hl 2 rfl) ?_
      refine lv_iconst (v := 1) hx hb dX4_order_43 (by decide) ?_
      obtain ⟨h_116, hs⟩ := hs
      refine x_V (As := [.int p1, .int 1]) (rest := []) hCF (c_X4_is l D cR cI cJ cZ t0 am ak an ac ae ag aq vth vmo vfg vtp vkd vng vcc vqq vrs vct vun vre vks vms vcs ves vdg vog p1 (1 : Int32) _ rfl h_116) (x_cwV 2 hts (inW_10 _ (List.mem_of_getElem? (i := 18) rfl)) (inW_10 _ (List.mem_of_getElem? (i := 19) rfl)) (inW_10 _ (List.mem_of_getElem? (i := 20) rfl)) (inW_9 _ (List.mem_of_getElem? (i := 5) rfl)) (inW_10 _ (List.mem_of_getElem? (i := 10) rfl)) rfl rfl (by decide +kernel) ⟨Nat.le_of_ble_eq_true rfl, Nat.le_of_ble_eq_true rfl⟩) hK hP hD hS hA hSt 0 rfl rfl rfl hl.1 rfl (Nat.le_of_ble_eq_true rfl) dX4_order_44 ⟨Nat.le_of_ble_eq_true rfl, Nat.le_of_ble_eq_true rfl⟩ (fun H locs hP hD hS => ?_)
      show W p l e _ s m args below meth c H locs 0 0 Q (F0 m 47 ls (.int (bI (F_X4_is vks p1 (1 : Int32))) :: []))
      refine xb_eq (tgt := 82) hx hb dX4_order_47 (by decide) (fun c_118 => ?_) (fun c_118 => ?_)
      · rw [if_neg c_118] at hs
        rw [if_neg c_118] at hz
        refine lv_aload_n hx hb dX4_order_82 rfl (lv_at hl 0 rfl) ?_
        refine lv_iload_n hx hb dX4_order_83 rfl (lv_at hl 1 rfl) ?_
        refine lv_iload_n hx hb dX4_order_84 rfl (lv_at hl 2 rfl) ?_
        have h_119 := hs
        refine x_V (As := [.int p0, .int p1]) (rest := []) hCF (c_X4_compareSizes l D cR cI cJ cZ t0 am ak an ac ae ag aq vth vmo vfg vtp vkd vng vcc vqq vrs vct vun vre vks vms vcs ves vdg vog p0 p1 _ rfl h_119) (x_cwV 2 hts (inW_11 _ (List.mem_of_getElem? (i := 12) rfl)) (inW_11 _ (List.mem_of_getElem? (i := 13) rfl)) (inW_11 _ (List.mem_of_getElem? (i := 14) rfl)) (inW_9 _ (List.mem_of_getElem? (i := 5) rfl)) (inW_11 _ (List.mem_of_getElem? (i := 3) rfl)) rfl rfl (by decide +kernel) ⟨Nat.le_of_ble_eq_true rfl, Nat.le_of_ble_eq_true rfl⟩) hK hP hD hS hA hSt 0 rfl rfl rfl hl.1 rfl (Nat.le_of_ble_eq_true rfl) dX4_order_85 ⟨Nat.le_of_ble_eq_true rfl, Nat.le_of_ble_eq_true rfl⟩ (fun H locs hP hD hS => ?_)
        show W p l e _ s m args below meth c H locs 0 0 Q (F0 m 88 ls (.int (F_X4_compareSizes vcs ves p0 p1) :: []))
        have e9 := Eq.symm hz; subst e9
        exact J_125 _ ez9 H locs hP hD hS ls (lv_sub hl [0, 1] rfl)
      · rw [if_pos c_118] at hz
        refine lv_aload_n hx hb dX4_order_50 rfl (lv_at hl 0 rfl) ?_
        refine lv_iload_n hx hb dX4_order_51 rfl (lv_at hl 1 rfl) ?_
        refine lv_iconst (v := 1) hx hb dX4_order_52 (by decide) ?_
        refine x_V (As := [.int p0, .int 1]) (rest := []) hCF (c_X4_is l D cR cI cJ cZ t0 am ak an ac ae ag aq vth vmo vfg vtp vkd vng vcc vqq vrs vct vun vre vks vms vcs ves vdg vog p0 (1 : Int32) _ rfl h_106) (x_cwV 2 hts (inW_10 _ (List.mem_of_getElem? (i := 18) rfl)) (inW_10 _ (List.mem_of_getElem? (i := 19) rfl)) (inW_10 _ (List.mem_of_getElem? (i := 20) rfl)) (inW_9 _ (List.mem_of_getElem? (i := 5) rfl)) (inW_10 _ (List.mem_of_getElem? (i := 10) rfl)) rfl rfl (by decide +kernel) ⟨Nat.le_of_ble_eq_true rfl, Nat.le_of_ble_eq_true rfl⟩) hK hP hD hS hA hSt 0 rfl rfl rfl hl.1 rfl (Nat.le_of_ble_eq_true rfl) dX4_order_53 ⟨Nat.le_of_ble_eq_true rfl, Nat.le_of_ble_eq_true rfl⟩ (fun H locs hP hD hS => ?_)
        show W p l e _ s m args below meth c H locs 0 0 Q (F0 m 56 ls (.int (bI (F_X4_is vks p0 (1 : Int32))) :: []))
        refine xb_eq (tgt := 63) hx hb dX4_order_56 (by decide) (fun _ => ?_) (fun c9 => absurd c9 c_108)
        refine lv_iconst (v := 0) hx hb dX4_order_63 (by decide) ?_
        refine lv_aload_n hx hb dX4_order_64 rfl (lv_at hl 0 rfl) ?_
        refine lv_iload_n hx hb dX4_order_65 rfl (lv_at hl 2 rfl) ?_
        refine lv_iconst (v := 1) hx hb dX4_order_66 (by decide) ?_
        refine x_V (As := [.int p1, .int 1]) (rest := [.int 0]) hCF (c_X4_is l D cR cI cJ cZ t0 am ak an ac ae ag aq vth vmo vfg vtp vkd vng vcc vqq vrs vct vun vre vks vms vcs ves vdg vog p1 (1 : Int32) _ rfl h_116) (x_cwV 2 hts (inW_10 _ (List.mem_of_getElem? (i := 18) rfl)) (inW_10 _ (List.mem_of_getElem? (i := 19) rfl)) (inW_10 _ (List.mem_of_getElem? (i := 20) rfl)) (inW_9 _ (List.mem_of_getElem? (i := 5) rfl)) (inW_10 _ (List.mem_of_getElem? (i := 10) rfl)) rfl rfl (by decide +kernel) ⟨Nat.le_of_ble_eq_true rfl, Nat.le_of_ble_eq_true rfl⟩) hK hP hD hS hA hSt 0 rfl rfl rfl hl.1 rfl (Nat.le_of_ble_eq_true rfl) dX4_order_67 ⟨Nat.le_of_ble_eq_true rfl, Nat.le_of_ble_eq_true rfl⟩ (fun H locs hP hD hS => ?_)
        show W p l e _ s m args below meth c H locs 0 0 Q (F0 m 70 ls (.int (bI (F_X4_is vks p1 (1 : Int32))) :: [.int 0]))
        refine xb_eq (tgt := 77) hx hb dX4_order_70 (by decide) (fun c9 => absurd c_118 c9) (fun _ => ?_)
        refine lv_iconst (v := 1) hx hb dX4_order_73 (by decide) ?_
        refine lv_goto (tgt := 78) hx hb dX4_order_74 (by decide) ?_
        refine lv_isub hx hb dX4_order_78 ?_
        refine lv_goto (tgt := 88) hx hb dX4_order_79 (by decide) ?_
        have e9 := Eq.symm hz; subst e9
        exact J_125 _ ez9 H locs hP hD hS ls (lv_sub hl [0, 1] rfl)
  · rw [if_neg c_105] at hu
    refine lv_aload_n hx hb dX4_order_13 rfl (lv_at hl 0 rfl) ?_
    refine lv_iload_n hx hb dX4_order_14 rfl (lv_at hl 1 rfl) ?_
    refine x_V (As := [.int p0]) (rest := []) hCF (c_X4_signOf l D cR cI cJ cZ t0 am ak an ac ae ag aq vth vmo vfg vtp vkd vng vcc vqq vrs vct vun vre vks vms vcs ves vdg vog p0 _ rfl h_101) (x_cwV 1 hts (inW_11 _ (List.mem_of_getElem? (i := 9) rfl)) (inW_11 _ (List.mem_of_getElem? (i := 10) rfl)) (inW_11 _ (List.mem_of_getElem? (i := 11) rfl)) (inW_9 _ (List.mem_of_getElem? (i := 5) rfl)) (inW_11 _ (List.mem_of_getElem? (i := 7) rfl)) rfl rfl (by decide +kernel) ⟨Nat.le_of_ble_eq_true rfl, Nat.le_of_ble_eq_true rfl⟩) hK hP hD hS hA hSt 0 rfl rfl rfl hl.1 rfl (Nat.le_of_ble_eq_true rfl) dX4_order_15 ⟨Nat.le_of_ble_eq_true rfl, Nat.le_of_ble_eq_true rfl⟩ (fun H locs hP hD hS => ?_)
    show W p l e _ s m args below meth c H locs 0 0 Q (F0 m 18 ls (.int (F_X4_signOf vks vms vcs p0) :: []))
    refine lv_aload_n hx hb dX4_order_18 rfl (lv_at hl 0 rfl) ?_
    refine lv_iload_n hx hb dX4_order_19 rfl (lv_at hl 2 rfl) ?_
    refine x_V (As := [.int p1]) (rest := [.int (F_X4_signOf vks vms vcs p0)]) hCF (c_X4_signOf l D cR cI cJ cZ t0 am ak an ac ae ag aq vth vmo vfg vtp vkd vng vcc vqq vrs vct vun vre vks vms vcs ves vdg vog p1 _ rfl h_103) (x_cwV 1 hts (inW_11 _ (List.mem_of_getElem? (i := 9) rfl)) (inW_11 _ (List.mem_of_getElem? (i := 10) rfl)) (inW_11 _ (List.mem_of_getElem? (i := 11) rfl)) (inW_9 _ (List.mem_of_getElem? (i := 5) rfl)) (inW_11 _ (List.mem_of_getElem? (i := 7) rfl)) rfl rfl (by decide +kernel) ⟨Nat.le_of_ble_eq_true rfl, Nat.le_of_ble_eq_true rfl⟩) hK hP hD hS hA hSt 0 rfl rfl rfl hl.1 rfl (Nat.le_of_ble_eq_true rfl) dX4_order_20 ⟨Nat.le_of_ble_eq_true rfl, Nat.le_of_ble_eq_true rfl⟩ (fun H locs hP hD hS => ?_)
    show W p l e _ s m args below meth c H locs 0 0 Q (F0 m 23 ls (.int (F_X4_signOf vks vms vcs p1) :: [.int (F_X4_signOf vks vms vcs p0)]))
    refine lv_icmp_ge (tgt := 30) hx hb dX4_order_23 (by decide) (fun c_130 => ?_) (fun c_130 => ?_)
    · rw [if_pos c_130] at hu
      refine lv_iconst (v := 1) hx hb dX4_order_30 (by decide) ?_
      have e9 := Eq.symm hu; subst e9
      exact x_iret hx hb hr hlocks hQ hK hP hD hS rfl rfl dX4_order_31
    · rw [if_neg c_130] at hu
      refine lv_iconst (v := (-1)) hx hb dX4_order_26 (by decide) ?_
      refine lv_goto (tgt := 31) hx hb dX4_order_27 (by decide) ?_
      have e9 := Eq.symm hu; subst e9
      exact x_iret hx hb hr hlocks hQ hK hP hD hS rfl rfl dX4_order_31

def B_X4_next_98  (t_98 : Int64 × Int32) : Int64 × Int32 := (if t_98.2 ≤ (-398) then t_98 else (if 1000000000000000 ≤ t_98.1 then t_98 else (bnd (10 * t_98.1) (fun n110 : Int64 => (bnd (t_98.2 + (-1)) (fun n111 : Int32 => (n110, n111)))))))
def G_X4_next_98  (t_98 : Int64 × Int32) : Bool := (if t_98.2 ≤ (-398) then false else (if 1000000000000000 ≤ t_98.1 then false else (bnd (10 * t_98.1) (fun n110 : Int64 => (bnd (t_98.2 + (-1)) (fun n111 : Int32 => true))))))
def RB_X4_next_98  (t_98 : Int64 × Int32) (u9 : Int64 × Int32) : Prop := (if t_98.2 ≤ (-398) then True else (if 1000000000000000 ≤ t_98.1 then True else (∀ n110 : Int64, n110 = 10 * t_98.1 → (∀ n111 : Int32, n111 = t_98.2 + (-1) → u9 = (n110, n111)))))
def RG_X4_next_98  (t_98 : Int64 × Int32) (u9 : Bool) : Prop := (if t_98.2 ≤ (-398) then u9 = false else (if 1000000000000000 ≤ t_98.1 then u9 = false else u9 = true))
theorem rB_X4_next_98  (t_98 : Int64 × Int32) {u9 : Int64 × Int32} (hu : u9 = B_X4_next_98  t_98) : RB_X4_next_98  t_98 u9 := by
  unfold RB_X4_next_98
  refine ite_P (fun c_108 => ?_) (fun c_108 => ?_)
  · have hu := hu.trans (if_pos c_108)
    trivial
  · have hu := hu.trans (if_neg c_108)
    refine ite_P (fun c_109 => ?_) (fun c_109 => ?_)
    · have hu := hu.trans (if_pos c_109)
      trivial
    · have hu := hu.trans (if_neg c_109)
      intro n110 en110
      have hu := bnd_n hu en110
      intro n111 en111
      have hu := bnd_n hu en111
      exact hu
theorem rG_X4_next_98  (t_98 : Int64 × Int32) {u9 : Bool} (hu : u9 = G_X4_next_98  t_98) : RG_X4_next_98  t_98 u9 := by
  unfold RG_X4_next_98
  refine ite_P (fun c_108 => ?_) (fun c_108 => ?_)
  · have hu := hu.trans (if_pos c_108)
    exact hu
  · have hu := hu.trans (if_neg c_108)
    refine ite_P (fun c_109 => ?_) (fun c_109 => ?_)
    · have hu := hu.trans (if_pos c_109)
      exact hu
    · have hu := hu.trans (if_neg c_109)
      exact hu
def Z_X4_next_J_165 (vms : Nat → Bool) (p0 : Int32) : Int32 := (if vms p0.toNatClampNeg = true then 369 else 0)
def RZ_X4_next_J_165 (vms : Nat → Bool) (p0 : Int32) (u9 : Int32) : Prop := (if vms p0.toNatClampNeg = true then u9 = 369 else u9 = 0)
theorem rZ_X4_next_J_165 (vms : Nat → Bool) (p0 : Int32) {u9 : Int32} (hu : u9 = Z_X4_next_J_165 vms p0) : RZ_X4_next_J_165 vms p0 u9 := by
  unfold RZ_X4_next_J_165
  refine ite_P (fun c_162 => ?_) (fun c_162 => ?_)
  · have hu := hu.trans (if_pos c_162)
    exact hu
  · have hu := hu.trans (if_neg c_162)
    exact hu
def Z_X4_next_J_161 (vms : Nat → Bool) (p0 : Int32) : Int64 := (if vms p0.toNatClampNeg = true then 9999999999999999 else 0)
def RZ_X4_next_J_161 (vms : Nat → Bool) (p0 : Int32) (u9 : Int64) : Prop := (if vms p0.toNatClampNeg = true then u9 = 9999999999999999 else u9 = 0)
theorem rZ_X4_next_J_161 (vms : Nat → Bool) (p0 : Int32) {u9 : Int64} (hu : u9 = Z_X4_next_J_161 vms p0) : RZ_X4_next_J_161 vms p0 u9 := by
  unfold RZ_X4_next_J_161
  refine ite_P (fun c_158 => ?_) (fun c_158 => ?_)
  · have hu := hu.trans (if_pos c_158)
    exact hu
  · have hu := hu.trans (if_neg c_158)
    exact hu
def Z_X4_next_J_157 (vms : Nat → Bool) (p0 : Int32) : Bool := (if vms p0.toNatClampNeg = true then false else true)
def RZ_X4_next_J_157 (vms : Nat → Bool) (p0 : Int32) (u9 : Bool) : Prop := (if vms p0.toNatClampNeg = true then u9 = false else u9 = true)
theorem rZ_X4_next_J_157 (vms : Nat → Bool) (p0 : Int32) {u9 : Bool} (hu : u9 = Z_X4_next_J_157 vms p0) : RZ_X4_next_J_157 vms p0 u9 := by
  unfold RZ_X4_next_J_157
  refine ite_P (fun c_154 => ?_) (fun c_154 => ?_)
  · have hu := hu.trans (if_pos c_154)
    exact hu
  · have hu := hu.trans (if_neg c_154)
    exact hu
def Z_X4_next_J_148 (z131 : Int32) : Int32 := (if z131 ≤ 369 then z131 else 0)
def RZ_X4_next_J_148 (z131 : Int32) (u9 : Int32) : Prop := (if z131 ≤ 369 then u9 = z131 else u9 = 0)
theorem rZ_X4_next_J_148 (z131 : Int32) {u9 : Int32} (hu : u9 = Z_X4_next_J_148 z131) : RZ_X4_next_J_148 z131 u9 := by
  unfold RZ_X4_next_J_148
  refine ite_P (fun c_145 => ?_) (fun c_145 => ?_)
  · have hu := hu.trans (if_pos c_145)
    exact hu
  · have hu := hu.trans (if_neg c_145)
    exact hu
def Z_X4_next_J_144 (z131 : Int32) (z135 : Int64) : Int64 := (if z131 ≤ 369 then z135 else 0)
def RZ_X4_next_J_144 (z131 : Int32) (z135 : Int64) (u9 : Int64) : Prop := (if z131 ≤ 369 then u9 = z135 else u9 = 0)
theorem rZ_X4_next_J_144 (z131 : Int32) (z135 : Int64) {u9 : Int64} (hu : u9 = Z_X4_next_J_144 z131 z135) : RZ_X4_next_J_144 z131 z135 u9 := by
  unfold RZ_X4_next_J_144
  refine ite_P (fun c_141 => ?_) (fun c_141 => ?_)
  · have hu := hu.trans (if_pos c_141)
    exact hu
  · have hu := hu.trans (if_neg c_141)
    exact hu
def Z_X4_next_J_140 (z131 : Int32) : Bool := (if z131 ≤ 369 then false else true)
def RZ_X4_next_J_140 (z131 : Int32) (u9 : Bool) : Prop := (if z131 ≤ 369 then u9 = false else u9 = true)
theorem rZ_X4_next_J_140 (z131 : Int32) {u9 : Bool} (hu : u9 = Z_X4_next_J_140 z131) : RZ_X4_next_J_140 z131 u9 := by
  unfold RZ_X4_next_J_140
  refine ite_P (fun c_137 => ?_) (fun c_137 => ?_)
  · have hu := hu.trans (if_pos c_137)
    exact hu
  · have hu := hu.trans (if_neg c_137)
    exact hu
def Z_X4_next_J_136 (n128 : Int64) : Int64 := (if n128 = 10000000000000000 then 1000000000000000 else n128)
def RZ_X4_next_J_136 (n128 : Int64) (u9 : Int64) : Prop := (if n128 = 10000000000000000 then u9 = 1000000000000000 else u9 = n128)
theorem rZ_X4_next_J_136 (n128 : Int64) {u9 : Int64} (hu : u9 = Z_X4_next_J_136 n128) : RZ_X4_next_J_136 n128 u9 := by
  unfold RZ_X4_next_J_136
  refine ite_P (fun c_133 => ?_) (fun c_133 => ?_)
  · have hu := hu.trans (if_pos c_133)
    exact hu
  · have hu := hu.trans (if_neg c_133)
    exact hu
def Z_X4_next_J_132 (z112 : Int64 × Int32) (n128 : Int64) : Int32 := (if n128 = 10000000000000000 then z112.2 + 1 else z112.2)
def RZ_X4_next_J_132 (z112 : Int64 × Int32) (n128 : Int64) (u9 : Int32) : Prop := (if n128 = 10000000000000000 then u9 = z112.2 + 1 else u9 = z112.2)
theorem rZ_X4_next_J_132 (z112 : Int64 × Int32) (n128 : Int64) {u9 : Int32} (hu : u9 = Z_X4_next_J_132 z112 n128) : RZ_X4_next_J_132 z112 n128 u9 := by
  unfold RZ_X4_next_J_132
  refine ite_P (fun c_129 => ?_) (fun c_129 => ?_)
  · have hu := hu.trans (if_pos c_129)
    exact hu
  · have hu := hu.trans (if_neg c_129)
    exact hu
def F_X4_next (vks : Nat → Int32) (vms : Nat → Bool) (vcs : Nat → Int64) (ves : Nat → Int32) (p0 : Int32) : Int32 × Bool × Int64 × Int32 := (if F_X4_is vks p0 (1 : Int32) = true then (bnd (Z_X4_next_J_157 vms p0) (fun z156 : Bool => (bnd (Z_X4_next_J_161 vms p0) (fun z160 : Int64 => (bnd (Z_X4_next_J_165 vms p0) (fun z164 : Int32 => (bnd (F_X4_be (bI z156) (vms p0.toNatClampNeg) z160 z164) (fun u166 : Int32 × Bool × Int64 × Int32 => (u166.1, u166.2.1, u166.2.2.1, u166.2.2.2))))))))) else (bnd (vcs p0.toNatClampNeg) (fun n105 : Int64 => (bnd (ves p0.toNatClampNeg) (fun n106 : Int32 => (if n105 = 0 then (bnd (F_X4_be (0 : Int32) false (1 : Int64) (-398 : Int32)) (fun u151 : Int32 × Bool × Int64 × Int32 => (u151.1, u151.2.1, u151.2.2.1, u151.2.2.2))) else (bnd (wl (G_X4_next_98) (B_X4_next_98) 901 (n105, n106)) (fun z112 : Int64 × Int32 => (if vms p0.toNatClampNeg = true then (if z112.1 = 1000000000000000 then (if z112.2 ≤ (-398) then (bnd (F_X4_be (0 : Int32) true (z112.1 - 1) z112.2) (fun u124 : Int32 × Bool × Int64 × Int32 => (u124.1, u124.2.1, u124.2.2.1, u124.2.2.2))) else (bnd (F_X4_be (0 : Int32) true (9999999999999999 : Int64) (z112.2 - 1)) (fun u126 : Int32 × Bool × Int64 × Int32 => (u126.1, u126.2.1, u126.2.2.1, u126.2.2.2)))) else (bnd (F_X4_be (0 : Int32) true (z112.1 - 1) z112.2) (fun u121 : Int32 × Bool × Int64 × Int32 => (u121.1, u121.2.1, u121.2.2.1, u121.2.2.2)))) else (bnd (z112.1 + 1) (fun n128 : Int64 => (bnd (Z_X4_next_J_132 z112 n128) (fun z131 : Int32 => (bnd (Z_X4_next_J_136 n128) (fun z135 : Int64 => (bnd (Z_X4_next_J_140 z131) (fun z139 : Bool => (bnd (Z_X4_next_J_144 z131 z135) (fun z143 : Int64 => (bnd (Z_X4_next_J_148 z131) (fun z147 : Int32 => (bnd (F_X4_be (bI z139) false z143 z147) (fun u149 : Int32 × Bool × Int64 × Int32 => (u149.1, u149.2.1, u149.2.2.1, u149.2.2.2))))))))))))))))))))))))
def RF_X4_next (vks : Nat → Int32) (vms : Nat → Bool) (vcs : Nat → Int64) (ves : Nat → Int32) (p0 : Int32) (u9 : Int32 × Bool × Int64 × Int32) : Prop := (if F_X4_is vks p0 (1 : Int32) = true then (∀ z156 : Bool, z156 = Z_X4_next_J_157 vms p0 → (∀ z160 : Int64, z160 = Z_X4_next_J_161 vms p0 → (∀ z164 : Int32, z164 = Z_X4_next_J_165 vms p0 → (∀ u166 : Int32 × Bool × Int64 × Int32, u166 = F_X4_be (bI z156) (vms p0.toNatClampNeg) z160 z164 → u9 = (u166.1, u166.2.1, u166.2.2.1, u166.2.2.2))))) else (∀ n105 : Int64, n105 = vcs p0.toNatClampNeg → (∀ n106 : Int32, n106 = ves p0.toNatClampNeg → (if n105 = 0 then (∀ u151 : Int32 × Bool × Int64 × Int32, u151 = F_X4_be (0 : Int32) false (1 : Int64) (-398 : Int32) → u9 = (u151.1, u151.2.1, u151.2.2.1, u151.2.2.2)) else (∀ z112 : Int64 × Int32, z112 = wl (G_X4_next_98) (B_X4_next_98) 901 (n105, n106) → (if vms p0.toNatClampNeg = true then (if z112.1 = 1000000000000000 then (if z112.2 ≤ (-398) then (∀ u124 : Int32 × Bool × Int64 × Int32, u124 = F_X4_be (0 : Int32) true (z112.1 - 1) z112.2 → u9 = (u124.1, u124.2.1, u124.2.2.1, u124.2.2.2)) else (∀ u126 : Int32 × Bool × Int64 × Int32, u126 = F_X4_be (0 : Int32) true (9999999999999999 : Int64) (z112.2 - 1) → u9 = (u126.1, u126.2.1, u126.2.2.1, u126.2.2.2))) else (∀ u121 : Int32 × Bool × Int64 × Int32, u121 = F_X4_be (0 : Int32) true (z112.1 - 1) z112.2 → u9 = (u121.1, u121.2.1, u121.2.2.1, u121.2.2.2))) else (∀ n128 : Int64, n128 = z112.1 + 1 → (∀ z131 : Int32, z131 = Z_X4_next_J_132 z112 n128 → (∀ z135 : Int64, z135 = Z_X4_next_J_136 n128 → (∀ z139 : Bool, z139 = Z_X4_next_J_140 z131 → (∀ z143 : Int64, z143 = Z_X4_next_J_144 z131 z135 → (∀ z147 : Int32, z147 = Z_X4_next_J_148 z131 → (∀ u149 : Int32 × Bool × Int64 × Int32, u149 = F_X4_be (bI z139) false z143 z147 → u9 = (u149.1, u149.2.1, u149.2.2.1, u149.2.2.2))))))))))))))
theorem rF_X4_next (vks : Nat → Int32) (vms : Nat → Bool) (vcs : Nat → Int64) (ves : Nat → Int32) (p0 : Int32) {u9 : Int32 × Bool × Int64 × Int32} (hu : u9 = F_X4_next vks vms vcs ves p0) : RF_X4_next vks vms vcs ves p0 u9 := by
  unfold RF_X4_next
  refine ite_P (fun c_103 => ?_) (fun c_103 => ?_)
  · have hu := hu.trans (if_pos c_103)
    intro z156 ez156
    have hu := bnd_n hu ez156
    intro z160 ez160
    have hu := bnd_n hu ez160
    intro z164 ez164
    have hu := bnd_n hu ez164
    intro u166 eu166
    have hu := bnd_n hu eu166
    exact hu
  · have hu := hu.trans (if_neg c_103)
    intro n105 en105
    have hu := bnd_n hu en105
    intro n106 en106
    have hu := bnd_n hu en106
    refine ite_P (fun c_107 => ?_) (fun c_107 => ?_)
    · have hu := hu.trans (if_pos c_107)
      intro u151 eu151
      have hu := bnd_n hu eu151
      exact hu
    · have hu := hu.trans (if_neg c_107)
      intro z112 ez112
      have hu := bnd_n hu ez112
      refine ite_P (fun c_119 => ?_) (fun c_119 => ?_)
      · have hu := hu.trans (if_pos c_119)
        refine ite_P (fun c_120 => ?_) (fun c_120 => ?_)
        · have hu := hu.trans (if_pos c_120)
          refine ite_P (fun c_123 => ?_) (fun c_123 => ?_)
          · have hu := hu.trans (if_pos c_123)
            intro u124 eu124
            have hu := bnd_n hu eu124
            exact hu
          · have hu := hu.trans (if_neg c_123)
            intro u126 eu126
            have hu := bnd_n hu eu126
            exact hu
        · have hu := hu.trans (if_neg c_120)
          intro u121 eu121
          have hu := bnd_n hu eu121
          exact hu
      · have hu := hu.trans (if_neg c_119)
        intro n128 en128
        have hu := bnd_n hu en128
        intro z131 ez131
        have hu := bnd_n hu ez131
        intro z135 ez135
        have hu := bnd_n hu ez135
        intro z139 ez139
        have hu := bnd_n hu ez139
        intro z143 ez143
        have hu := bnd_n hu ez143
        intro z147 ez147
        have hu := bnd_n hu ez147
        intro u149 eu149
        have hu := bnd_n hu eu149
        exact hu
def S_X4_next (vks : Nat → Int32) (vms : Nat → Bool) (vcs : Nat → Int64) (ves : Nat → Int32) (p0 : Int32) : Prop := (S_X4_is vks p0 (1 : Int32)) ∧ (if F_X4_is vks p0 (1 : Int32) = true then vp_in p0 8 else (vp_in p0 8) ∧ (∀ n105 : Int64, n105 = vcs p0.toNatClampNeg → (∀ n106 : Int32, n106 = ves p0.toNatClampNeg → (if n105 = 0 then True else G_X4_next_98  (wl (G_X4_next_98) (B_X4_next_98) 901 (n105, n106)) = false ∧ (∀ z112 : Int64 × Int32, z112 = wl (G_X4_next_98) (B_X4_next_98) 901 (n105, n106) → vp_in p0 8)))))
def rm_X4_next : Room := { frames := 1, cells := 0, slots := 0, locals := 25 }
set_option maxHeartbeats 4000000 in
set_option maxRecDepth 100000 in
theorem c_X4_next (l : Launch) (D : va_G) (cR cI cJ cZ : ClassId) (t0 : Nat) (am ak an ac ae ag aq : Nat) (vth : Int32) (vmo : Int32) (vfg : Int32) (vtp : Int32) (vkd : Int32) (vng : Bool) (vcc : Int64) (vqq : Int32) (vrs : Int32) (vct : Int32) (vun : Int32) (vre : Bool) (vks : Nat → Int32) (vms : Nat → Bool) (vcs : Nat → Int64) (ves : Nat → Int32) (vdg : Nat → Int32) (vog : Nat → Int32) (p0 : Int32) (u : Int32 × Bool × Int64 × Int32) (hu : u = F_X4_next vks vms vcs ves p0) (hs : S_X4_next vks vms vcs ves p0) : XM l D (xty cR cI cJ cZ) t0 yX4_next cX4_next 5 none rm_X4_next [.ref am, .int p0] none (mw cI cJ cZ am ak an ac ae ag aq vth vmo vfg vtp vkd vng vcc vqq vrs vct vun vre vks vms vcs ves vdg vog) (mw cI cJ cZ am ak an ac ae ag aq vth vmo vfg vtp u.1 u.2.1 u.2.2.1 u.2.2.2 vrs vct vun vre vks vms vcs ves vdg vog) := by
  refine XM.of (by decide) (Nat.le_of_ble_eq_true rfl) ?_
  intro p e s m args below meth c A Q F hK hP hD hA hSt hS hQ ls hl
  obtain ⟨hx, hb, hr, hts, hown, hlocks, hml⟩ := F
  have hCF : CallFix p m c cX4_next 5 s args gW RX4 := ⟨hx, hb, hml, hown, hts⟩
  unfold S_X4_next at hs
  have hu := rF_X4_next vks vms vcs ves p0 hu
  unfold RF_X4_next at hu
  obtain ⟨H, eH⟩ : ∃ y9 : Heap, y9 = s.heap := ⟨_, rfl⟩
  obtain ⟨locs, eL⟩ : ∃ y9 : List Loc, y9 = [] := ⟨_, rfl⟩
  rw [← eL] at hS ⊢
  have hP : va_P D vwCl (mw cI cJ cZ am ak an ac ae ag aq vth vmo vfg vtp vkd vng vcc vqq vrs vct vun vre vks vms vcs ves vdg vog) H := by rw [eH]; exact hP
  have hS : va_S A s.heap H locs := by rw [eH]; exact hS
  suffices goal9 : W p l e rm_X4_next s m args below meth c H locs 0 0 Q (F0 m 0 ls []) from by rw [← eH]; exact goal9
  have hl : lv_has ls 5 [(0, .ref am), (1, .int p0)] := hl
  have hi4 : ∀ w ∈ wsX40, w ∈ gW := inW_X4
  refine lv_aload_n hx hb dX4_next_0 rfl (lv_at hl 0 rfl) ?_
  refine lv_iload_n hx hb dX4_next_1 rfl (lv_at hl 1 rfl) ?_
  refine lv_iconst (v := 1) hx hb dX4_next_2 (by decide) ?_
  obtain ⟨h_101, hs⟩ := hs
  refine x_V (As := [.int p0, .int 1]) (rest := []) hCF (c_X4_is l D cR cI cJ cZ t0 am ak an ac ae ag aq vth vmo vfg vtp vkd vng vcc vqq vrs vct vun vre vks vms vcs ves vdg vog p0 (1 : Int32) _ rfl h_101) (x_cwV 2 hts (inW_10 _ (List.mem_of_getElem? (i := 18) rfl)) (inW_10 _ (List.mem_of_getElem? (i := 19) rfl)) (inW_10 _ (List.mem_of_getElem? (i := 20) rfl)) (inW_9 _ (List.mem_of_getElem? (i := 5) rfl)) (inW_10 _ (List.mem_of_getElem? (i := 10) rfl)) rfl rfl (by decide +kernel) ⟨Nat.le_of_ble_eq_true rfl, Nat.le_of_ble_eq_true rfl⟩) hK hP hD hS hA hSt 0 rfl rfl rfl hl.1 rfl (Nat.le_of_ble_eq_true rfl) dX4_next_3 ⟨Nat.le_of_ble_eq_true rfl, Nat.le_of_ble_eq_true rfl⟩ (fun H locs hP hD hS => ?_)
  show W p l e _ s m args below meth c H locs 0 0 Q (F0 m 6 ls (.int (bI (F_X4_is vks p0 (1 : Int32))) :: []))
  refine xb_eq (tgt := 66) hx hb dX4_next_6 (by decide) (fun c_103 => ?_) (fun c_103 => ?_)
  · rw [if_neg c_103] at hs
    rw [if_neg c_103] at hu
    refine lv_aload_n hx hb dX4_next_66 rfl (lv_at hl 0 rfl) ?_
    refine va_get (D := D) (ci := 5) (v := .ref ac) (C := RX4) (T := TX4) (N := 18) hx hb hts hi4 hown hK hP 0 rfl rfl 3 (by decide) (hts (.fieldLink RX4 17 "DecimalWordsModel" "coefficients" "[J") (inW_8 _ (List.mem_of_getElem? (i := 33) rfl))) (fun _ h9 => h9) rfl dX4_next_67 ?_
    refine lv_iload_n hx hb dX4_next_70 rfl (lv_at hl 1 rfl) ?_
    obtain ⟨h_104, hs⟩ := hs
    refine va_lald hx hb hK hP 3 2 rfl rfl h_104 dX4_next_71 ?_
    refine lv_topl (fun n105 en105 => ?_)
    have hs := hs _ en105
    have hu := hu _ en105
    refine lv_lstore_n (lv' := [(2, .long n105), (0, .ref am), (1, .int p0)]) hx hb dX4_next_72 rfl hl (by decide) rfl (fun ls hl => ?_)
    refine lv_aload_n hx hb dX4_next_73 rfl (lv_at hl 1 rfl) ?_
    refine va_get (D := D) (ci := 5) (v := .ref ae) (C := RX4) (T := TX4) (N := 18) hx hb hts hi4 hown hK hP 0 rfl rfl 4 (by decide) (hts (.fieldLink RX4 21 "DecimalWordsModel" "exponents" "[I") (inW_8 _ (List.mem_of_getElem? (i := 34) rfl))) (fun _ h9 => h9) rfl dX4_next_74 ?_
    refine lv_iload_n hx hb dX4_next_77 rfl (lv_at hl 2 rfl) ?_
    refine va_iald hx hb hK hP 4 1 rfl rfl h_104 dX4_next_78 ?_
    refine lv_topi (fun n106 en106 => ?_)
    have hs := hs _ en106
    have hu := hu _ en106
    refine lv_istore (lv' := [(4, .int n106), (2, .long n105), (0, .ref am), (1, .int p0)]) hx hb dX4_next_79 hl (by decide) rfl (fun ls hl => ?_)
    refine lv_lload_n hx hb dX4_next_81 rfl (lv_at hl 1 rfl) ?_
    refine lv_lconst (v := 0) hx hb dX4_next_82 (by decide) ?_
    refine xl_ne (tgt := 98) hx hb dX4_next_83 dX4_next_84 (by decide) (fun c_107 => ?_) (fun c_107 => ?_)
    · rw [if_neg c_107] at hs
      rw [if_neg c_107] at hu
      have L_168 : ∀ (n9 : Nat) (t_98 : Int64 × Int32), (∀ j : Nat, j < n9 → G_X4_next_98  (itn (B_X4_next_98) j t_98) = true) → (∀ (H : Heap) (locs : List Loc), va_P D vwCl (mw cI cJ cZ am ak an ac ae ag aq vth vmo vfg vtp vkd vng vcc vqq vrs vct vun vre vks vms vcs ves vdg vog) H → va_D A (mw cI cJ cZ am ak an ac ae ag aq vth vmo vfg vtp vkd vng vcc vqq vrs vct vun vre vks vms vcs ves vdg vog) → va_S A s.heap H locs → ∀ ls : Array Slot, lv_has ls 5 [(0, .ref am), (1, .int p0), (2, .long ((itn (B_X4_next_98) n9 t_98).1)), (4, .int ((itn (B_X4_next_98) n9 t_98).2))] → W p l e rm_X4_next s m args below meth c H locs 0 0 Q (F0 m 98 ls [])) → ∀ (H : Heap) (locs : List Loc), va_P D vwCl (mw cI cJ cZ am ak an ac ae ag aq vth vmo vfg vtp vkd vng vcc vqq vrs vct vun vre vks vms vcs ves vdg vog) H → va_D A (mw cI cJ cZ am ak an ac ae ag aq vth vmo vfg vtp vkd vng vcc vqq vrs vct vun vre vks vms vcs ves vdg vog) → va_S A s.heap H locs → ∀ ls : Array Slot, lv_has ls 5 [(0, .ref am), (1, .int p0), (2, .long t_98.1), (4, .int t_98.2)] → W p l e rm_X4_next s m args below meth c H locs 0 0 Q (F0 m 98 ls []) := by
        intro n9
        induction n9 with
        | zero => exact fun _ _ k9 => k9
        | succ n9 ih9 =>
          intro t_98 hG9 k9 H locs hP hD hS ls hl
          have hG0 : G_X4_next_98  t_98 = true := hG9 0 (Nat.succ_pos n9)
          have hg := rG_X4_next_98  t_98 (Eq.symm hG0)
          unfold RG_X4_next_98 at hg
          obtain ⟨t9, et9⟩ : ∃ y9 : Int64 × Int32, y9 = (B_X4_next_98) t_98 := ⟨_, rfl⟩
          have hb9 := rB_X4_next_98  t_98 et9
          unfold RB_X4_next_98 at hb9
          refine lv_iload hx hb dX4_next_98 (lv_at hl 3 rfl) ?_
          refine lv_sipush (v := (-398)) hx hb dX4_next_100 (by decide) ?_
          refine lv_icmp_le (tgt := 126) hx hb dX4_next_103 (by decide) (fun c_108 => ?_) (fun c_108 => ?_)
          · rw [if_pos c_108] at hg
            exact absurd hg (by decide)
          · rw [if_neg c_108] at hg
            rw [if_neg c_108] at hb9
            refine lv_lload_n hx hb dX4_next_106 rfl (lv_at hl 2 rfl) ?_
            refine lv_ldc2 (v := 1000000000000000) hx hb hown (hts (.constantLong RX4 99 (1000000000000000)) (inW_9 _ (List.mem_of_getElem? (i := 35) rfl))) dX4_next_107 ?_
            refine xl_ge (tgt := 126) hx hb dX4_next_110 dX4_next_111 (by decide) (fun c_109 => ?_) (fun c_109 => ?_)
            · rw [if_pos c_109] at hg
              exact absurd hg (by decide)
            · rw [if_neg c_109] at hg
              rw [if_neg c_109] at hb9
              refine lv_ldc2 (v := 10) hx hb hown (hts (.constantLong RX4 37 (10)) (inW_9 _ (List.mem_of_getElem? (i := 1) rfl))) dX4_next_114 ?_
              refine lv_lload_n hx hb dX4_next_117 rfl (lv_at hl 2 rfl) ?_
              refine lv_lmul hx hb dX4_next_118 ?_
              refine lv_topl (fun n110 en110 => ?_)
              have hb9 := hb9 _ en110
              refine lv_lstore_n (lv' := [(2, .long n110), (0, .ref am), (1, .int p0), (4, .int t_98.2)]) hx hb dX4_next_119 rfl hl (by decide) rfl (fun ls hl => ?_)
              obtain ⟨n111, en111⟩ : ∃ y9 : Int32, y9 = t_98.2 + (-1) := ⟨_, rfl⟩
              have hb9 := hb9 _ en111
              refine lv_iinc (v := n111) (lv' := [(4, .int n111), (2, .long n110), (0, .ref am), (1, .int p0)]) hx hb dX4_next_120 hl (k := 3) rfl (by rw [en111]; rfl) (by decide) rfl (fun ls hl => ?_)
              refine lv_goto (tgt := 98) hx hb dX4_next_123 (by decide) ?_
              have e9 := Eq.symm hb9; subst e9
              have key9 := ih9 ((B_X4_next_98) t_98) (fun j hj => hG9 (j + 1) (Nat.succ_lt_succ hj)) k9
              rw [← et9] at key9
              exact key9 H locs hP hD hS ls (lv_sub hl [2, 3, 1, 0] rfl)
      obtain ⟨hG1, hs⟩ := hs
      refine L_168 (nW (G_X4_next_98) (B_X4_next_98) 901 (n105, n106)) (n105, n106) (nW_lt _ _ _ _) (fun H locs hP hD hS ls hl => ?_) H locs hP hD hS ls (lv_sub hl [2, 3, 1, 0] rfl)
      obtain ⟨z112, ez112⟩ : ∃ y9 : Int64 × Int32, y9 = wl (G_X4_next_98) (B_X4_next_98) 901 (n105, n106) := ⟨_, rfl⟩
      have e9 : z112 = itn (B_X4_next_98) (nW (G_X4_next_98) (B_X4_next_98) 901 (n105, n106)) (n105, n106) := ez112
      try rw [← e9] at hP
      try rw [← e9] at hD
      try rw [← e9] at hl
      rw [← ez112] at hG1
      clear e9
      have hg := rG_X4_next_98  z112 (Eq.symm hG1)
      unfold RG_X4_next_98 at hg
      have hs := hs _ ez112
      have hu := hu _ ez112
      refine lv_iload hx hb dX4_next_98 (lv_at hl 3 rfl) ?_
      refine lv_sipush (v := (-398)) hx hb dX4_next_100 (by decide) ?_
      have J_117 : ∀ (H : Heap) (locs : List Loc), va_P D vwCl (mw cI cJ cZ am ak an ac ae ag aq vth vmo vfg vtp vkd vng vcc vqq vrs vct vun vre vks vms vcs ves vdg vog) H → va_D A (mw cI cJ cZ am ak an ac ae ag aq vth vmo vfg vtp vkd vng vcc vqq vrs vct vun vre vks vms vcs ves vdg vog) → va_S A s.heap H locs → ∀ ls : Array Slot, lv_has ls 5 [(0, .ref am), (1, .int p0), (2, .long z112.1), (4, .int z112.2)] → W p l e rm_X4_next s m args below meth c H locs 0 0 Q (F0 m 126 ls []) := by
        intro H locs hP hD hS ls hl
        refine lv_aload_n hx hb dX4_next_126 rfl (lv_at hl 0 rfl) ?_
        refine va_get (D := D) (ci := 5) (v := .ref an) (C := RX4) (T := TX4) (N := 18) hx hb hts hi4 hown hK hP 0 rfl rfl 2 (by decide) (hts (.fieldLink RX4 13 "DecimalWordsModel" "minus" "[Z") (inW_8 _ (List.mem_of_getElem? (i := 31) rfl))) (fun _ h9 => h9) rfl dX4_next_127 ?_
        refine lv_iload_n hx hb dX4_next_130 rfl (lv_at hl 1 rfl) ?_
        have h_118 := hs
        refine va_zald hx hb hK hP 2 3 rfl rfl h_118 dX4_next_131 ?_
        refine xb_ne (tgt := 222) hx hb dX4_next_132 (by decide) (fun c_119 => ?_) (fun c_119 => ?_)
        · rw [if_pos c_119] at hu
          refine lv_lload_n hx hb dX4_next_222 rfl (lv_at hl 2 rfl) ?_
          refine lv_ldc2 (v := 1000000000000000) hx hb hown (hts (.constantLong RX4 99 (1000000000000000)) (inW_9 _ (List.mem_of_getElem? (i := 35) rfl))) dX4_next_223 ?_
          refine xl_ne (tgt := 254) hx hb dX4_next_226 dX4_next_227 (by decide) (fun c_120 => ?_) (fun c_120 => ?_)
          · rw [if_neg c_120] at hu
            refine lv_aload_n hx hb dX4_next_254 rfl (lv_at hl 0 rfl) ?_
            refine lv_iconst (v := 0) hx hb dX4_next_255 (by decide) ?_
            refine lv_iconst (v := 1) hx hb dX4_next_256 (by decide) ?_
            refine lv_lload_n hx hb dX4_next_257 rfl (lv_at hl 2 rfl) ?_
            refine lv_lconst (v := 1) hx hb dX4_next_258 (by decide) ?_
            refine lv_lsub hx hb dX4_next_259 ?_
            refine lv_iload hx hb dX4_next_260 (lv_at hl 3 rfl) ?_
            obtain ⟨u121, eu121⟩ : ∃ y9 : Int32 × Bool × Int64 × Int32, y9 = F_X4_be (0 : Int32) true (z112.1 - 1) z112.2 := ⟨_, rfl⟩
            have hu := hu _ eu121
            refine x_V (As := [.int 0, .int (bI true), .long (z112.1 - 1), .int z112.2]) (rest := []) hCF (c_X4_be l D cR cI cJ cZ t0 am ak an ac ae ag aq vth vmo vfg vtp vkd vng vcc vqq vrs vct vun vre vks vms vcs ves vdg vog (0 : Int32) true (z112.1 - 1) z112.2 u121 eu121) (x_cwV 4 hts (inW_9 _ (List.mem_of_getElem? (i := 18) rfl)) (inW_9 _ (List.mem_of_getElem? (i := 19) rfl)) (inW_9 _ (List.mem_of_getElem? (i := 20) rfl)) (inW_9 _ (List.mem_of_getElem? (i := 5) rfl)) (inW_9 _ (List.mem_of_getElem? (i := 11) rfl)) rfl rfl (by decide +kernel) ⟨Nat.le_of_ble_eq_true rfl, Nat.le_of_ble_eq_true rfl⟩) hK hP hD hS hA hSt 0 rfl rfl rfl hl.1 rfl (Nat.le_of_ble_eq_true rfl) dX4_next_262 ⟨Nat.le_of_ble_eq_true rfl, Nat.le_of_ble_eq_true rfl⟩ (fun H locs hP hD hS => ?_)
            show W p l e _ s m args below meth c H locs 0 0 Q (F0 m 265 ls [])
            have e9 := Eq.symm hu; subst e9
            exact x_vret hx hb hr hlocks hQ hK hP hD hS rfl dX4_next_265
          · rw [if_pos c_120] at hu
            refine lv_iload hx hb dX4_next_230 (lv_at hl 3 rfl) ?_
            refine lv_sipush (v := (-398)) hx hb dX4_next_232 (by decide) ?_
            refine lv_icmp_le (tgt := 254) hx hb dX4_next_235 (by decide) (fun c_123 => ?_) (fun c_123 => ?_)
            · rw [if_pos c_123] at hu
              refine lv_aload_n hx hb dX4_next_254 rfl (lv_at hl 0 rfl) ?_
              refine lv_iconst (v := 0) hx hb dX4_next_255 (by decide) ?_
              refine lv_iconst (v := 1) hx hb dX4_next_256 (by decide) ?_
              refine lv_lload_n hx hb dX4_next_257 rfl (lv_at hl 2 rfl) ?_
              refine lv_lconst (v := 1) hx hb dX4_next_258 (by decide) ?_
              refine lv_lsub hx hb dX4_next_259 ?_
              refine lv_iload hx hb dX4_next_260 (lv_at hl 3 rfl) ?_
              obtain ⟨u124, eu124⟩ : ∃ y9 : Int32 × Bool × Int64 × Int32, y9 = F_X4_be (0 : Int32) true (z112.1 - 1) z112.2 := ⟨_, rfl⟩
              have hu := hu _ eu124
              refine x_V (As := [.int 0, .int (bI true), .long (z112.1 - 1), .int z112.2]) (rest := []) hCF (c_X4_be l D cR cI cJ cZ t0 am ak an ac ae ag aq vth vmo vfg vtp vkd vng vcc vqq vrs vct vun vre vks vms vcs ves vdg vog (0 : Int32) true (z112.1 - 1) z112.2 u124 eu124) (x_cwV 4 hts (inW_9 _ (List.mem_of_getElem? (i := 18) rfl)) (inW_9 _ (List.mem_of_getElem? (i := 19) rfl)) (inW_9 _ (List.mem_of_getElem? (i := 20) rfl)) (inW_9 _ (List.mem_of_getElem? (i := 5) rfl)) (inW_9 _ (List.mem_of_getElem? (i := 11) rfl)) rfl rfl (by decide +kernel) ⟨Nat.le_of_ble_eq_true rfl, Nat.le_of_ble_eq_true rfl⟩) hK hP hD hS hA hSt 0 rfl rfl rfl hl.1 rfl (Nat.le_of_ble_eq_true rfl) dX4_next_262 ⟨Nat.le_of_ble_eq_true rfl, Nat.le_of_ble_eq_true rfl⟩ (fun H locs hP hD hS => ?_)
              show W p l e _ s m args below meth c H locs 0 0 Q (F0 m 265 ls [])
              have e9 := Eq.symm hu; subst e9
              exact x_vret hx hb hr hlocks hQ hK hP hD hS rfl dX4_next_265
            · rw [if_neg c_123] at hu
              refine lv_aload_n hx hb dX4_next_238 rfl (lv_at hl 0 rfl) ?_
              refine lv_iconst (v := 0) hx hb dX4_next_239 (by decide) ?_
              refine lv_iconst (v := 1) hx hb dX4_next_240 (by decide) ?_
              refine lv_ldc2 (v := 9999999999999999) hx hb hown (hts (.constantLong RX4 101 (9999999999999999)) (inW_10 _ (List.mem_of_getElem? (i := 6) rfl))) dX4_next_241 ?_
              refine lv_iload hx hb dX4_next_244 (lv_at hl 3 rfl) ?_
              refine lv_iconst (v := 1) hx hb dX4_next_246 (by decide) ?_
              refine lv_isub hx hb dX4_next_247 ?_
              obtain ⟨u126, eu126⟩ : ∃ y9 : Int32 × Bool × Int64 × Int32, y9 = F_X4_be (0 : Int32) true (9999999999999999 : Int64) (z112.2 - 1) := ⟨_, rfl⟩
              have hu := hu _ eu126
              refine x_V (As := [.int 0, .int (bI true), .long 9999999999999999, .int (z112.2 - 1)]) (rest := []) hCF (c_X4_be l D cR cI cJ cZ t0 am ak an ac ae ag aq vth vmo vfg vtp vkd vng vcc vqq vrs vct vun vre vks vms vcs ves vdg vog (0 : Int32) true (9999999999999999 : Int64) (z112.2 - 1) u126 eu126) (x_cwV 4 hts (inW_9 _ (List.mem_of_getElem? (i := 18) rfl)) (inW_9 _ (List.mem_of_getElem? (i := 19) rfl)) (inW_9 _ (List.mem_of_getElem? (i := 20) rfl)) (inW_9 _ (List.mem_of_getElem? (i := 5) rfl)) (inW_9 _ (List.mem_of_getElem? (i := 11) rfl)) rfl rfl (by decide +kernel) ⟨Nat.le_of_ble_eq_true rfl, Nat.le_of_ble_eq_true rfl⟩) hK hP hD hS hA hSt 0 rfl rfl rfl hl.1 rfl (Nat.le_of_ble_eq_true rfl) dX4_next_248 ⟨Nat.le_of_ble_eq_true rfl, Nat.le_of_ble_eq_true rfl⟩ (fun H locs hP hD hS => ?_)
              show W p l e _ s m args below meth c H locs 0 0 Q (F0 m 251 ls [])
              refine lv_goto (tgt := 265) hx hb dX4_next_251 (by decide) ?_
              have e9 := Eq.symm hu; subst e9
              exact x_vret hx hb hr hlocks hQ hK hP hD hS rfl dX4_next_265
        · rw [if_neg c_119] at hu
          refine lv_lload_n hx hb dX4_next_135 rfl (lv_at hl 2 rfl) ?_
          refine lv_lconst (v := 1) hx hb dX4_next_136 (by decide) ?_
          refine lv_ladd hx hb dX4_next_137 ?_
          refine lv_topl (fun n128 en128 => ?_)
          have hu := hu _ en128
          refine lv_lstore_n (lv' := [(2, .long n128), (0, .ref am), (1, .int p0), (4, .int z112.2)]) hx hb dX4_next_138 rfl hl (by decide) rfl (fun ls hl => ?_)
          refine lv_lload_n hx hb dX4_next_139 rfl (lv_at hl 0 rfl) ?_
          refine lv_ldc2 (v := 10000000000000000) hx hb hown (hts (.constantLong RX4 97 (10000000000000000)) (inW_9 _ (List.mem_of_getElem? (i := 34) rfl))) dX4_next_140 ?_
          have J_132 : (∀ z131 : Int32, z131 = Z_X4_next_J_132 z112 n128 → ∀ (H : Heap) (locs : List Loc), va_P D vwCl (mw cI cJ cZ am ak an ac ae ag aq vth vmo vfg vtp vkd vng vcc vqq vrs vct vun vre vks vms vcs ves vdg vog) H → va_D A (mw cI cJ cZ am ak an ac ae ag aq vth vmo vfg vtp vkd vng vcc vqq vrs vct vun vre vks vms vcs ves vdg vog) → va_S A s.heap H locs → ∀ ls : Array Slot, lv_has ls 5 [(0, .ref am), (2, .long n128)] → W p l e rm_X4_next s m args below meth c H locs 0 0 Q (F0 m 156 ls [.int z131])) := by
            intro z131 ez131 H locs hP hD hS ls hl
            have hu := hu _ ez131
            refine lv_istore (lv' := [(4, .int z131), (0, .ref am), (2, .long n128)]) hx hb dX4_next_156 hl (by decide) rfl (fun ls hl => ?_)
            refine lv_lload_n hx hb dX4_next_158 rfl (lv_at hl 2 rfl) ?_
            refine lv_ldc2 (v := 10000000000000000) hx hb hown (hts (.constantLong RX4 97 (10000000000000000)) (inW_9 _ (List.mem_of_getElem? (i := 34) rfl))) dX4_next_159 ?_
            have J_136 : (∀ z135 : Int64, z135 = Z_X4_next_J_136 n128 → ∀ (H : Heap) (locs : List Loc), va_P D vwCl (mw cI cJ cZ am ak an ac ae ag aq vth vmo vfg vtp vkd vng vcc vqq vrs vct vun vre vks vms vcs ves vdg vog) H → va_D A (mw cI cJ cZ am ak an ac ae ag aq vth vmo vfg vtp vkd vng vcc vqq vrs vct vun vre vks vms vcs ves vdg vog) → va_S A s.heap H locs → ∀ ls : Array Slot, lv_has ls 5 [(0, .ref am), (4, .int z131)] → W p l e rm_X4_next s m args below meth c H locs 0 0 Q (F0 m 173 ls [.long z135])) := by
              intro z135 ez135 H locs hP hD hS ls hl
              have hu := hu _ ez135
              refine lv_lstore_n (lv' := [(2, .long z135), (0, .ref am), (4, .int z131)]) hx hb dX4_next_173 rfl hl (by decide) rfl (fun ls hl => ?_)
              refine lv_aload_n hx hb dX4_next_174 rfl (lv_at hl 1 rfl) ?_
              refine lv_iload hx hb dX4_next_175 (lv_at hl 2 rfl) ?_
              refine lv_sipush (v := 369) hx hb dX4_next_177 (by decide) ?_
              have J_140 : (∀ z139 : Bool, z139 = Z_X4_next_J_140 z131 → ∀ (H : Heap) (locs : List Loc), va_P D vwCl (mw cI cJ cZ am ak an ac ae ag aq vth vmo vfg vtp vkd vng vcc vqq vrs vct vun vre vks vms vcs ves vdg vog) H → va_D A (mw cI cJ cZ am ak an ac ae ag aq vth vmo vfg vtp vkd vng vcc vqq vrs vct vun vre vks vms vcs ves vdg vog) → va_S A s.heap H locs → ∀ ls : Array Slot, lv_has ls 5 [(2, .long z135), (4, .int z131)] → W p l e rm_X4_next s m args below meth c H locs 0 0 Q (F0 m 188 ls [.int (bI z139), .ref am])) := by
                intro z139 ez139 H locs hP hD hS ls hl
                have hu := hu _ ez139
                refine lv_iconst (v := 0) hx hb dX4_next_188 (by decide) ?_
                refine lv_iload hx hb dX4_next_189 (lv_at hl 1 rfl) ?_
                refine lv_sipush (v := 369) hx hb dX4_next_191 (by decide) ?_
                have J_144 : (∀ z143 : Int64, z143 = Z_X4_next_J_144 z131 z135 → ∀ (H : Heap) (locs : List Loc), va_P D vwCl (mw cI cJ cZ am ak an ac ae ag aq vth vmo vfg vtp vkd vng vcc vqq vrs vct vun vre vks vms vcs ves vdg vog) H → va_D A (mw cI cJ cZ am ak an ac ae ag aq vth vmo vfg vtp vkd vng vcc vqq vrs vct vun vre vks vms vcs ves vdg vog) → va_S A s.heap H locs → ∀ ls : Array Slot, lv_has ls 5 [(4, .int z131)] → W p l e rm_X4_next s m args below meth c H locs 0 0 Q (F0 m 202 ls [.long z143, .int 0, .int (bI z139), .ref am])) := by
                  intro z143 ez143 H locs hP hD hS ls hl
                  have hu := hu _ ez143
                  refine lv_iload hx hb dX4_next_202 (lv_at hl 0 rfl) ?_
                  refine lv_sipush (v := 369) hx hb dX4_next_204 (by decide) ?_
                  have J_148 : (∀ z147 : Int32, z147 = Z_X4_next_J_148 z131 → ∀ (H : Heap) (locs : List Loc), va_P D vwCl (mw cI cJ cZ am ak an ac ae ag aq vth vmo vfg vtp vkd vng vcc vqq vrs vct vun vre vks vms vcs ves vdg vog) H → va_D A (mw cI cJ cZ am ak an ac ae ag aq vth vmo vfg vtp vkd vng vcc vqq vrs vct vun vre vks vms vcs ves vdg vog) → va_S A s.heap H locs → ∀ ls : Array Slot, lv_has ls 5 [] → W p l e rm_X4_next s m args below meth c H locs 0 0 Q (F0 m 216 ls [.int z147, .long z143, .int 0, .int (bI z139), .ref am])) := by
                    intro z147 ez147 H locs hP hD hS ls hl
                    have hu := hu _ ez147
                    obtain ⟨u149, eu149⟩ : ∃ y9 : Int32 × Bool × Int64 × Int32, y9 = F_X4_be (bI z139) false z143 z147 := ⟨_, rfl⟩
                    have hu := hu _ eu149
                    refine x_V (As := [.int (bI z139), .int (bI false), .long z143, .int z147]) (rest := []) hCF (c_X4_be l D cR cI cJ cZ t0 am ak an ac ae ag aq vth vmo vfg vtp vkd vng vcc vqq vrs vct vun vre vks vms vcs ves vdg vog (bI z139) false z143 z147 u149 eu149) (x_cwV 4 hts (inW_9 _ (List.mem_of_getElem? (i := 18) rfl)) (inW_9 _ (List.mem_of_getElem? (i := 19) rfl)) (inW_9 _ (List.mem_of_getElem? (i := 20) rfl)) (inW_9 _ (List.mem_of_getElem? (i := 5) rfl)) (inW_9 _ (List.mem_of_getElem? (i := 11) rfl)) rfl rfl (by decide +kernel) ⟨Nat.le_of_ble_eq_true rfl, Nat.le_of_ble_eq_true rfl⟩) hK hP hD hS hA hSt 0 rfl rfl rfl hl.1 rfl (Nat.le_of_ble_eq_true rfl) dX4_next_216 ⟨Nat.le_of_ble_eq_true rfl, Nat.le_of_ble_eq_true rfl⟩ (fun H locs hP hD hS => ?_)
                    show W p l e _ s m args below meth c H locs 0 0 Q (F0 m 219 ls [])
                    refine lv_goto (tgt := 265) hx hb dX4_next_219 (by decide) ?_
                    have e9 := Eq.symm hu; subst e9
                    exact x_vret hx hb hr hlocks hQ hK hP hD hS rfl dX4_next_265
                  obtain ⟨z9, ez9⟩ : ∃ y9 : Int32, y9 = Z_X4_next_J_148 z131 := ⟨_, rfl⟩
                  have hz := rZ_X4_next_J_148 z131 ez9
                  unfold RZ_X4_next_J_148 at hz
                  refine lv_icmp_le (tgt := 214) hx hb dX4_next_207 (by decide) (fun c_145 => ?_) (fun c_145 => ?_)
                  · rw [if_pos c_145] at hz
                    refine lv_iload hx hb dX4_next_214 (lv_at hl 0 rfl) ?_
                    have e9 := Eq.symm hz; subst e9
                    exact J_148 _ ez9 H locs hP hD hS ls (lv_sub hl [] rfl)
                  · rw [if_neg c_145] at hz
                    refine lv_iconst (v := 0) hx hb dX4_next_210 (by decide) ?_
                    refine lv_goto (tgt := 216) hx hb dX4_next_211 (by decide) ?_
                    have e9 := Eq.symm hz; subst e9
                    exact J_148 _ ez9 H locs hP hD hS ls (lv_sub hl [] rfl)
                obtain ⟨z9, ez9⟩ : ∃ y9 : Int64, y9 = Z_X4_next_J_144 z131 z135 := ⟨_, rfl⟩
                have hz := rZ_X4_next_J_144 z131 z135 ez9
                unfold RZ_X4_next_J_144 at hz
                refine lv_icmp_le (tgt := 201) hx hb dX4_next_194 (by decide) (fun c_141 => ?_) (fun c_141 => ?_)
                · rw [if_pos c_141] at hz
                  refine lv_lload_n hx hb dX4_next_201 rfl (lv_at hl 0 rfl) ?_
                  have e9 := Eq.symm hz; subst e9
                  exact J_144 _ ez9 H locs hP hD hS ls (lv_sub hl [1] rfl)
                · rw [if_neg c_141] at hz
                  refine lv_lconst (v := 0) hx hb dX4_next_197 (by decide) ?_
                  refine lv_goto (tgt := 202) hx hb dX4_next_198 (by decide) ?_
                  have e9 := Eq.symm hz; subst e9
                  exact J_144 _ ez9 H locs hP hD hS ls (lv_sub hl [1] rfl)
              obtain ⟨z9, ez9⟩ : ∃ y9 : Bool, y9 = Z_X4_next_J_140 z131 := ⟨_, rfl⟩
              have hz := rZ_X4_next_J_140 z131 ez9
              unfold RZ_X4_next_J_140 at hz
              refine lv_icmp_le (tgt := 187) hx hb dX4_next_180 (by decide) (fun c_137 => ?_) (fun c_137 => ?_)
              · rw [if_pos c_137] at hz
                refine lv_iconst (v := 0) hx hb dX4_next_187 (by decide) ?_
                have e9 := Eq.symm hz; subst e9
                exact J_140 _ ez9 H locs hP hD hS ls (lv_sub hl [0, 2] rfl)
              · rw [if_neg c_137] at hz
                refine lv_iconst (v := 1) hx hb dX4_next_183 (by decide) ?_
                refine lv_goto (tgt := 188) hx hb dX4_next_184 (by decide) ?_
                have e9 := Eq.symm hz; subst e9
                exact J_140 _ ez9 H locs hP hD hS ls (lv_sub hl [0, 2] rfl)
            obtain ⟨z9, ez9⟩ : ∃ y9 : Int64, y9 = Z_X4_next_J_136 n128 := ⟨_, rfl⟩
            have hz := rZ_X4_next_J_136 n128 ez9
            unfold RZ_X4_next_J_136 at hz
            refine xl_ne (tgt := 172) hx hb dX4_next_162 dX4_next_163 (by decide) (fun c_133 => ?_) (fun c_133 => ?_)
            · rw [if_neg c_133] at hz
              refine lv_lload_n hx hb dX4_next_172 rfl (lv_at hl 2 rfl) ?_
              have e9 := Eq.symm hz; subst e9
              exact J_136 _ ez9 H locs hP hD hS ls (lv_sub hl [1, 0] rfl)
            · rw [if_pos c_133] at hz
              refine lv_ldc2 (v := 1000000000000000) hx hb hown (hts (.constantLong RX4 99 (1000000000000000)) (inW_9 _ (List.mem_of_getElem? (i := 35) rfl))) dX4_next_166 ?_
              refine lv_goto (tgt := 173) hx hb dX4_next_169 (by decide) ?_
              have e9 := Eq.symm hz; subst e9
              exact J_136 _ ez9 H locs hP hD hS ls (lv_sub hl [1, 0] rfl)
          obtain ⟨z9, ez9⟩ : ∃ y9 : Int32, y9 = Z_X4_next_J_132 z112 n128 := ⟨_, rfl⟩
          have hz := rZ_X4_next_J_132 z112 n128 ez9
          unfold RZ_X4_next_J_132 at hz
          refine xl_ne (tgt := 154) hx hb dX4_next_143 dX4_next_144 (by decide) (fun c_129 => ?_) (fun c_129 => ?_)
          · rw [if_neg c_129] at hz
            refine lv_iload hx hb dX4_next_154 (lv_at hl 3 rfl) ?_
            have e9 := Eq.symm hz; subst e9
            exact J_132 _ ez9 H locs hP hD hS ls (lv_sub hl [1, 0] rfl)
          · rw [if_pos c_129] at hz
            refine lv_iload hx hb dX4_next_147 (lv_at hl 3 rfl) ?_
            refine lv_iconst (v := 1) hx hb dX4_next_149 (by decide) ?_
            refine lv_iadd hx hb dX4_next_150 ?_
            refine lv_goto (tgt := 156) hx hb dX4_next_151 (by decide) ?_
            have e9 := Eq.symm hz; subst e9
            exact J_132 _ ez9 H locs hP hD hS ls (lv_sub hl [1, 0] rfl)
      refine lv_icmp_le (tgt := 126) hx hb dX4_next_103 (by decide) (fun c_114 => ?_) (fun c_114 => ?_)
      · rw [if_pos c_114] at hg
        exact J_117 H locs hP hD hS ls (lv_sub hl [0, 1, 2, 3] rfl)
      · rw [if_neg c_114] at hg
        refine lv_lload_n hx hb dX4_next_106 rfl (lv_at hl 2 rfl) ?_
        refine lv_ldc2 (v := 1000000000000000) hx hb hown (hts (.constantLong RX4 99 (1000000000000000)) (inW_9 _ (List.mem_of_getElem? (i := 35) rfl))) dX4_next_107 ?_
        refine xl_ge (tgt := 126) hx hb dX4_next_110 dX4_next_111 (by decide) (fun c_115 => ?_) (fun c_115 => ?_)
        · rw [if_pos c_115] at hg
          exact J_117 H locs hP hD hS ls (lv_sub hl [0, 1, 2, 3] rfl)
        · rw [if_neg c_115] at hg
          exact absurd hg (by decide)
    · rw [if_pos c_107] at hu
      refine lv_aload_n hx hb dX4_next_87 rfl (lv_at hl 2 rfl) ?_
      refine lv_iconst (v := 0) hx hb dX4_next_88 (by decide) ?_
      refine lv_iconst (v := 0) hx hb dX4_next_89 (by decide) ?_
      refine lv_lconst (v := 1) hx hb dX4_next_90 (by decide) ?_
      refine lv_sipush (v := (-398)) hx hb dX4_next_91 (by decide) ?_
      obtain ⟨u151, eu151⟩ : ∃ y9 : Int32 × Bool × Int64 × Int32, y9 = F_X4_be (0 : Int32) false (1 : Int64) (-398 : Int32) := ⟨_, rfl⟩
      have hu := hu _ eu151
      refine x_V (As := [.int 0, .int (bI false), .long 1, .int (-398)]) (rest := []) hCF (c_X4_be l D cR cI cJ cZ t0 am ak an ac ae ag aq vth vmo vfg vtp vkd vng vcc vqq vrs vct vun vre vks vms vcs ves vdg vog (0 : Int32) false (1 : Int64) (-398 : Int32) u151 eu151) (x_cwV 4 hts (inW_9 _ (List.mem_of_getElem? (i := 18) rfl)) (inW_9 _ (List.mem_of_getElem? (i := 19) rfl)) (inW_9 _ (List.mem_of_getElem? (i := 20) rfl)) (inW_9 _ (List.mem_of_getElem? (i := 5) rfl)) (inW_9 _ (List.mem_of_getElem? (i := 11) rfl)) rfl rfl (by decide +kernel) ⟨Nat.le_of_ble_eq_true rfl, Nat.le_of_ble_eq_true rfl⟩) hK hP hD hS hA hSt 0 rfl rfl rfl hl.1 rfl (Nat.le_of_ble_eq_true rfl) dX4_next_94 ⟨Nat.le_of_ble_eq_true rfl, Nat.le_of_ble_eq_true rfl⟩ (fun H locs hP hD hS => ?_)
      show W p l e _ s m args below meth c H locs 0 0 Q (F0 m 97 ls [])
      have e9 := Eq.symm hu; subst e9
      exact x_vret hx hb hr hlocks hQ hK hP hD hS rfl dX4_next_97
  · rw [if_pos c_103] at hs
    rw [if_pos c_103] at hu
    refine lv_aload_n hx hb dX4_next_9 rfl (lv_at hl 0 rfl) ?_
    refine lv_aload_n hx hb dX4_next_10 rfl (lv_at hl 0 rfl) ?_
    refine va_get (D := D) (ci := 5) (v := .ref an) (C := RX4) (T := TX4) (N := 18) hx hb hts hi4 hown hK hP 0 rfl rfl 2 (by decide) (hts (.fieldLink RX4 13 "DecimalWordsModel" "minus" "[Z") (inW_8 _ (List.mem_of_getElem? (i := 31) rfl))) (fun _ h9 => h9) rfl dX4_next_11 ?_
    refine lv_iload_n hx hb dX4_next_14 rfl (lv_at hl 1 rfl) ?_
    have h_153 := hs
    refine va_zald hx hb hK hP 2 3 rfl rfl h_153 dX4_next_15 ?_
    have J_157 : (∀ z156 : Bool, z156 = Z_X4_next_J_157 vms p0 → ∀ (H : Heap) (locs : List Loc), va_P D vwCl (mw cI cJ cZ am ak an ac ae ag aq vth vmo vfg vtp vkd vng vcc vqq vrs vct vun vre vks vms vcs ves vdg vog) H → va_D A (mw cI cJ cZ am ak an ac ae ag aq vth vmo vfg vtp vkd vng vcc vqq vrs vct vun vre vks vms vcs ves vdg vog) → va_S A s.heap H locs → ∀ ls : Array Slot, lv_has ls 5 [(0, .ref am), (1, .int p0)] → W p l e rm_X4_next s m args below meth c H locs 0 0 Q (F0 m 24 ls [.int (bI z156), .ref am])) := by
      intro z156 ez156 H locs hP hD hS ls hl
      have hu := hu _ ez156
      refine lv_aload_n hx hb dX4_next_24 rfl (lv_at hl 0 rfl) ?_
      refine va_get (D := D) (ci := 5) (v := .ref an) (C := RX4) (T := TX4) (N := 18) hx hb hts hi4 hown hK hP 0 rfl rfl 2 (by decide) (hts (.fieldLink RX4 13 "DecimalWordsModel" "minus" "[Z") (inW_8 _ (List.mem_of_getElem? (i := 31) rfl))) (fun _ h9 => h9) rfl dX4_next_25 ?_
      refine lv_iload_n hx hb dX4_next_28 rfl (lv_at hl 1 rfl) ?_
      refine va_zald hx hb hK hP 2 3 rfl rfl h_153 dX4_next_29 ?_
      refine lv_aload_n hx hb dX4_next_30 rfl (lv_at hl 0 rfl) ?_
      refine va_get (D := D) (ci := 5) (v := .ref an) (C := RX4) (T := TX4) (N := 18) hx hb hts hi4 hown hK hP 0 rfl rfl 2 (by decide) (hts (.fieldLink RX4 13 "DecimalWordsModel" "minus" "[Z") (inW_8 _ (List.mem_of_getElem? (i := 31) rfl))) (fun _ h9 => h9) rfl dX4_next_31 ?_
      refine lv_iload_n hx hb dX4_next_34 rfl (lv_at hl 1 rfl) ?_
      refine va_zald hx hb hK hP 2 3 rfl rfl h_153 dX4_next_35 ?_
      have J_161 : (∀ z160 : Int64, z160 = Z_X4_next_J_161 vms p0 → ∀ (H : Heap) (locs : List Loc), va_P D vwCl (mw cI cJ cZ am ak an ac ae ag aq vth vmo vfg vtp vkd vng vcc vqq vrs vct vun vre vks vms vcs ves vdg vog) H → va_D A (mw cI cJ cZ am ak an ac ae ag aq vth vmo vfg vtp vkd vng vcc vqq vrs vct vun vre vks vms vcs ves vdg vog) → va_S A s.heap H locs → ∀ ls : Array Slot, lv_has ls 5 [(0, .ref am), (1, .int p0)] → W p l e rm_X4_next s m args below meth c H locs 0 0 Q (F0 m 46 ls [.long z160, .int (bI (vms p0.toNatClampNeg)), .int (bI z156), .ref am])) := by
        intro z160 ez160 H locs hP hD hS ls hl
        have hu := hu _ ez160
        refine lv_aload_n hx hb dX4_next_46 rfl (lv_at hl 0 rfl) ?_
        refine va_get (D := D) (ci := 5) (v := .ref an) (C := RX4) (T := TX4) (N := 18) hx hb hts hi4 hown hK hP 0 rfl rfl 2 (by decide) (hts (.fieldLink RX4 13 "DecimalWordsModel" "minus" "[Z") (inW_8 _ (List.mem_of_getElem? (i := 31) rfl))) (fun _ h9 => h9) rfl dX4_next_47 ?_
        refine lv_iload_n hx hb dX4_next_50 rfl (lv_at hl 1 rfl) ?_
        refine va_zald hx hb hK hP 2 3 rfl rfl h_153 dX4_next_51 ?_
        have J_165 : (∀ z164 : Int32, z164 = Z_X4_next_J_165 vms p0 → ∀ (H : Heap) (locs : List Loc), va_P D vwCl (mw cI cJ cZ am ak an ac ae ag aq vth vmo vfg vtp vkd vng vcc vqq vrs vct vun vre vks vms vcs ves vdg vog) H → va_D A (mw cI cJ cZ am ak an ac ae ag aq vth vmo vfg vtp vkd vng vcc vqq vrs vct vun vre vks vms vcs ves vdg vog) → va_S A s.heap H locs → ∀ ls : Array Slot, lv_has ls 5 [] → W p l e rm_X4_next s m args below meth c H locs 0 0 Q (F0 m 62 ls [.int z164, .long z160, .int (bI (vms p0.toNatClampNeg)), .int (bI z156), .ref am])) := by
          intro z164 ez164 H locs hP hD hS ls hl
          have hu := hu _ ez164
          obtain ⟨u166, eu166⟩ : ∃ y9 : Int32 × Bool × Int64 × Int32, y9 = F_X4_be (bI z156) (vms p0.toNatClampNeg) z160 z164 := ⟨_, rfl⟩
          have hu := hu _ eu166
          refine x_V (As := [.int (bI z156), .int (bI (vms p0.toNatClampNeg)), .long z160, .int z164]) (rest := []) hCF (c_X4_be l D cR cI cJ cZ t0 am ak an ac ae ag aq vth vmo vfg vtp vkd vng vcc vqq vrs vct vun vre vks vms vcs ves vdg vog (bI z156) (vms p0.toNatClampNeg) z160 z164 u166 eu166) (x_cwV 4 hts (inW_9 _ (List.mem_of_getElem? (i := 18) rfl)) (inW_9 _ (List.mem_of_getElem? (i := 19) rfl)) (inW_9 _ (List.mem_of_getElem? (i := 20) rfl)) (inW_9 _ (List.mem_of_getElem? (i := 5) rfl)) (inW_9 _ (List.mem_of_getElem? (i := 11) rfl)) rfl rfl (by decide +kernel) ⟨Nat.le_of_ble_eq_true rfl, Nat.le_of_ble_eq_true rfl⟩) hK hP hD hS hA hSt 0 rfl rfl rfl hl.1 rfl (Nat.le_of_ble_eq_true rfl) dX4_next_62 ⟨Nat.le_of_ble_eq_true rfl, Nat.le_of_ble_eq_true rfl⟩ (fun H locs hP hD hS => ?_)
          show W p l e _ s m args below meth c H locs 0 0 Q (F0 m 65 ls [])
          have e9 := Eq.symm hu; subst e9
          exact x_vret hx hb hr hlocks hQ hK hP hD hS rfl dX4_next_65
        obtain ⟨z9, ez9⟩ : ∃ y9 : Int32, y9 = Z_X4_next_J_165 vms p0 := ⟨_, rfl⟩
        have hz := rZ_X4_next_J_165 vms p0 ez9
        unfold RZ_X4_next_J_165 at hz
        refine xb_eq (tgt := 61) hx hb dX4_next_52 (by decide) (fun c_162 => ?_) (fun c_162 => ?_)
        · rw [if_neg c_162] at hz
          refine lv_iconst (v := 0) hx hb dX4_next_61 (by decide) ?_
          have e9 := Eq.symm hz; subst e9
          exact J_165 _ ez9 H locs hP hD hS ls (lv_sub hl [] rfl)
        · rw [if_pos c_162] at hz
          refine lv_sipush (v := 369) hx hb dX4_next_55 (by decide) ?_
          refine lv_goto (tgt := 62) hx hb dX4_next_58 (by decide) ?_
          have e9 := Eq.symm hz; subst e9
          exact J_165 _ ez9 H locs hP hD hS ls (lv_sub hl [] rfl)
      obtain ⟨z9, ez9⟩ : ∃ y9 : Int64, y9 = Z_X4_next_J_161 vms p0 := ⟨_, rfl⟩
      have hz := rZ_X4_next_J_161 vms p0 ez9
      unfold RZ_X4_next_J_161 at hz
      refine xb_eq (tgt := 45) hx hb dX4_next_36 (by decide) (fun c_158 => ?_) (fun c_158 => ?_)
      · rw [if_neg c_158] at hz
        refine lv_lconst (v := 0) hx hb dX4_next_45 (by decide) ?_
        have e9 := Eq.symm hz; subst e9
        exact J_161 _ ez9 H locs hP hD hS ls (lv_sub hl [0, 1] rfl)
      · rw [if_pos c_158] at hz
        refine lv_ldc2 (v := 9999999999999999) hx hb hown (hts (.constantLong RX4 101 (9999999999999999)) (inW_10 _ (List.mem_of_getElem? (i := 6) rfl))) dX4_next_39 ?_
        refine lv_goto (tgt := 46) hx hb dX4_next_42 (by decide) ?_
        have e9 := Eq.symm hz; subst e9
        exact J_161 _ ez9 H locs hP hD hS ls (lv_sub hl [0, 1] rfl)
    obtain ⟨z9, ez9⟩ : ∃ y9 : Bool, y9 = Z_X4_next_J_157 vms p0 := ⟨_, rfl⟩
    have hz := rZ_X4_next_J_157 vms p0 ez9
    unfold RZ_X4_next_J_157 at hz
    refine xb_eq (tgt := 23) hx hb dX4_next_16 (by decide) (fun c_154 => ?_) (fun c_154 => ?_)
    · rw [if_neg c_154] at hz
      refine lv_iconst (v := 1) hx hb dX4_next_23 (by decide) ?_
      have e9 := Eq.symm hz; subst e9
      exact J_157 _ ez9 H locs hP hD hS ls (lv_sub hl [0, 1] rfl)
    · rw [if_pos c_154] at hz
      refine lv_iconst (v := 0) hx hb dX4_next_19 (by decide) ?_
      refine lv_goto (tgt := 24) hx hb dX4_next_20 (by decide) ?_
      have e9 := Eq.symm hz; subst e9
      exact J_157 _ ez9 H locs hP hD hS ls (lv_sub hl [0, 1] rfl)

def Z_X4_operate_J_121 (vks : Nat → Int32) (vms : Nat → Bool) (vcs : Nat → Int64) (ves : Nat → Int32) (p1 : Int32) (p2 : Int32) : Int32 := (if F_X4_order vks vms vcs ves p1 p2 ≤ 0 then p1 else p2)
def RZ_X4_operate_J_121 (vks : Nat → Int32) (vms : Nat → Bool) (vcs : Nat → Int64) (ves : Nat → Int32) (p1 : Int32) (p2 : Int32) (u9 : Int32) : Prop := (if F_X4_order vks vms vcs ves p1 p2 ≤ 0 then u9 = p1 else u9 = p2)
theorem rZ_X4_operate_J_121 (vks : Nat → Int32) (vms : Nat → Bool) (vcs : Nat → Int64) (ves : Nat → Int32) (p1 : Int32) (p2 : Int32) {u9 : Int32} (hu : u9 = Z_X4_operate_J_121 vks vms vcs ves p1 p2) : RZ_X4_operate_J_121 vks vms vcs ves p1 p2 u9 := by
  unfold RZ_X4_operate_J_121
  refine ite_P (fun c_118 => ?_) (fun c_118 => ?_)
  · have hu := hu.trans (if_pos c_118)
    exact hu
  · have hu := hu.trans (if_neg c_118)
    exact hu
def Z_X4_operate_J_137 (p0 : Int32) : Bool := (if p0 = 1 then true else false)
def RZ_X4_operate_J_137 (p0 : Int32) (u9 : Bool) : Prop := (if p0 = 1 then u9 = true else u9 = false)
theorem rZ_X4_operate_J_137 (p0 : Int32) {u9 : Bool} (hu : u9 = Z_X4_operate_J_137 p0) : RZ_X4_operate_J_137 p0 u9 := by
  unfold RZ_X4_operate_J_137
  refine ite_P (fun c_134 => ?_) (fun c_134 => ?_)
  · have hu := hu.trans (if_pos c_134)
    exact hu
  · have hu := hu.trans (if_neg c_134)
    exact hu
def F_X4_operate (vmo : Int32) (vct : Int32) (vun : Int32) (vre : Bool) (vks : Nat → Int32) (vms : Nat → Bool) (vcs : Nat → Int64) (ves : Nat → Int32) (vdg : Nat → Int32) (vog : Nat → Int32) (p0 : Int32) (p1 : Int32) (p2 : Int32) : Int32 × Bool × Int64 × Int32 × Int32 × Int32 × Int32 × Bool × (Nat → Int32) × (Nat → Int32) := (if F_X4_is vks p1 (2 : Int32) = true then (bnd (F_X4_be (2 : Int32) false (0 : Int64) (0 : Int32)) (fun u105 : Int32 × Bool × Int64 × Int32 => (u105.1, u105.2.1, u105.2.2.1, u105.2.2.2, 0, vct, vun, vre, vdg, vog))) else (if p0 = 6 then (if 2 ≤ p0 then (if p0 = 2 then (bnd (F_X4_multiply vmo 0 vct vun vre vks vms vcs ves vdg vog p1 p2) (fun u132 : Int32 × Bool × Int64 × Int32 × Int32 × Int32 × Int32 × Bool × (Nat → Int32) × (Nat → Int32) => (u132.1, u132.2.1, u132.2.2.1, u132.2.2.2.1, u132.2.2.2.2.1, u132.2.2.2.2.2.1, u132.2.2.2.2.2.2.1, u132.2.2.2.2.2.2.2.1, u132.2.2.2.2.2.2.2.2.1, u132.2.2.2.2.2.2.2.2.2))) else (if p0 = 3 then (bnd (F_X4_divide vmo 0 vct vun vre vks vms vcs ves vdg vog p1 p2) (fun u129 : Int32 × Bool × Int64 × Int32 × Int32 × Int32 × Int32 × Bool × (Nat → Int32) × (Nat → Int32) => (u129.1, u129.2.1, u129.2.2.1, u129.2.2.2.1, u129.2.2.2.2.1, u129.2.2.2.2.2.1, u129.2.2.2.2.2.2.1, u129.2.2.2.2.2.2.2.1, u129.2.2.2.2.2.2.2.2.1, u129.2.2.2.2.2.2.2.2.2))) else (if p0 = 4 then (bnd (F_X4_quantize vmo 0 vct vre vks vms vcs ves vdg p1 p2) (fun u126 : Int32 × Bool × Int64 × Int32 × Int32 × Int32 × Bool × (Nat → Int32) => (u126.1, u126.2.1, u126.2.2.1, u126.2.2.2.1, u126.2.2.2.2.1, u126.2.2.2.2.2.1, vun, u126.2.2.2.2.2.2.1, u126.2.2.2.2.2.2.2, vog))) else (if p0 = 5 then (bnd (Z_X4_operate_J_121 vks vms vcs ves p1 p2) (fun z120 : Int32 => (bnd (F_X4_copy vks vms vcs ves z120) (fun u123 : Int32 × Bool × Int64 × Int32 => (u123.1, u123.2.1, u123.2.2.1, u123.2.2.2, 0, vct, vun, vre, vdg, vog))))) else (bnd (F_X4_next vks vms vcs ves p1) (fun u114 : Int32 × Bool × Int64 × Int32 => (u114.1, u114.2.1, u114.2.2.1, u114.2.2.2, 0, vct, vun, vre, vdg, vog))))))) else (bnd (Z_X4_operate_J_137 p0) (fun z136 : Bool => (bnd (F_X4_add vmo 0 vct vun vre vks vms vcs ves vdg vog p1 p2 z136) (fun u139 : Int32 × Bool × Int64 × Int32 × Int32 × Int32 × Int32 × Bool × (Nat → Int32) × (Nat → Int32) => (u139.1, u139.2.1, u139.2.2.1, u139.2.2.2.1, u139.2.2.2.2.1, u139.2.2.2.2.2.1, u139.2.2.2.2.2.2.1, u139.2.2.2.2.2.2.2.1, u139.2.2.2.2.2.2.2.2.1, u139.2.2.2.2.2.2.2.2.2)))))) else (if F_X4_is vks p2 (2 : Int32) = true then (bnd (F_X4_be (2 : Int32) false (0 : Int64) (0 : Int32)) (fun u177 : Int32 × Bool × Int64 × Int32 => (u177.1, u177.2.1, u177.2.2.1, u177.2.2.2, 0, vct, vun, vre, vdg, vog))) else (if 2 ≤ p0 then (if p0 = 2 then (bnd (F_X4_multiply vmo 0 vct vun vre vks vms vcs ves vdg vog p1 p2) (fun u168 : Int32 × Bool × Int64 × Int32 × Int32 × Int32 × Int32 × Bool × (Nat → Int32) × (Nat → Int32) => (u168.1, u168.2.1, u168.2.2.1, u168.2.2.2.1, u168.2.2.2.2.1, u168.2.2.2.2.2.1, u168.2.2.2.2.2.2.1, u168.2.2.2.2.2.2.2.1, u168.2.2.2.2.2.2.2.2.1, u168.2.2.2.2.2.2.2.2.2))) else (if p0 = 3 then (bnd (F_X4_divide vmo 0 vct vun vre vks vms vcs ves vdg vog p1 p2) (fun u165 : Int32 × Bool × Int64 × Int32 × Int32 × Int32 × Int32 × Bool × (Nat → Int32) × (Nat → Int32) => (u165.1, u165.2.1, u165.2.2.1, u165.2.2.2.1, u165.2.2.2.2.1, u165.2.2.2.2.2.1, u165.2.2.2.2.2.2.1, u165.2.2.2.2.2.2.2.1, u165.2.2.2.2.2.2.2.2.1, u165.2.2.2.2.2.2.2.2.2))) else (if p0 = 4 then (bnd (F_X4_quantize vmo 0 vct vre vks vms vcs ves vdg p1 p2) (fun u162 : Int32 × Bool × Int64 × Int32 × Int32 × Int32 × Bool × (Nat → Int32) => (u162.1, u162.2.1, u162.2.2.1, u162.2.2.2.1, u162.2.2.2.2.1, u162.2.2.2.2.2.1, vun, u162.2.2.2.2.2.2.1, u162.2.2.2.2.2.2.2, vog))) else (if p0 = 5 then (bnd (Z_X4_operate_J_121 vks vms vcs ves p1 p2) (fun z156 : Int32 => (bnd (F_X4_copy vks vms vcs ves z156) (fun u159 : Int32 × Bool × Int64 × Int32 => (u159.1, u159.2.1, u159.2.2.1, u159.2.2.2, 0, vct, vun, vre, vdg, vog))))) else (bnd (F_X4_next vks vms vcs ves p1) (fun u150 : Int32 × Bool × Int64 × Int32 => (u150.1, u150.2.1, u150.2.2.1, u150.2.2.2, 0, vct, vun, vre, vdg, vog))))))) else (bnd (Z_X4_operate_J_137 p0) (fun z172 : Bool => (bnd (F_X4_add vmo 0 vct vun vre vks vms vcs ves vdg vog p1 p2 z172) (fun u175 : Int32 × Bool × Int64 × Int32 × Int32 × Int32 × Int32 × Bool × (Nat → Int32) × (Nat → Int32) => (u175.1, u175.2.1, u175.2.2.1, u175.2.2.2.1, u175.2.2.2.2.1, u175.2.2.2.2.2.1, u175.2.2.2.2.2.2.1, u175.2.2.2.2.2.2.2.1, u175.2.2.2.2.2.2.2.2.1, u175.2.2.2.2.2.2.2.2.2)))))))))
def RF_X4_operate (vmo : Int32) (vct : Int32) (vun : Int32) (vre : Bool) (vks : Nat → Int32) (vms : Nat → Bool) (vcs : Nat → Int64) (ves : Nat → Int32) (vdg : Nat → Int32) (vog : Nat → Int32) (p0 : Int32) (p1 : Int32) (p2 : Int32) (u9 : Int32 × Bool × Int64 × Int32 × Int32 × Int32 × Int32 × Bool × (Nat → Int32) × (Nat → Int32)) : Prop := (if F_X4_is vks p1 (2 : Int32) = true then (∀ u105 : Int32 × Bool × Int64 × Int32, u105 = F_X4_be (2 : Int32) false (0 : Int64) (0 : Int32) → u9 = (u105.1, u105.2.1, u105.2.2.1, u105.2.2.2, 0, vct, vun, vre, vdg, vog)) else (if p0 = 6 then (if 2 ≤ p0 then (if p0 = 2 then (∀ u132 : Int32 × Bool × Int64 × Int32 × Int32 × Int32 × Int32 × Bool × (Nat → Int32) × (Nat → Int32), u132 = F_X4_multiply vmo 0 vct vun vre vks vms vcs ves vdg vog p1 p2 → u9 = (u132.1, u132.2.1, u132.2.2.1, u132.2.2.2.1, u132.2.2.2.2.1, u132.2.2.2.2.2.1, u132.2.2.2.2.2.2.1, u132.2.2.2.2.2.2.2.1, u132.2.2.2.2.2.2.2.2.1, u132.2.2.2.2.2.2.2.2.2)) else (if p0 = 3 then (∀ u129 : Int32 × Bool × Int64 × Int32 × Int32 × Int32 × Int32 × Bool × (Nat → Int32) × (Nat → Int32), u129 = F_X4_divide vmo 0 vct vun vre vks vms vcs ves vdg vog p1 p2 → u9 = (u129.1, u129.2.1, u129.2.2.1, u129.2.2.2.1, u129.2.2.2.2.1, u129.2.2.2.2.2.1, u129.2.2.2.2.2.2.1, u129.2.2.2.2.2.2.2.1, u129.2.2.2.2.2.2.2.2.1, u129.2.2.2.2.2.2.2.2.2)) else (if p0 = 4 then (∀ u126 : Int32 × Bool × Int64 × Int32 × Int32 × Int32 × Bool × (Nat → Int32), u126 = F_X4_quantize vmo 0 vct vre vks vms vcs ves vdg p1 p2 → u9 = (u126.1, u126.2.1, u126.2.2.1, u126.2.2.2.1, u126.2.2.2.2.1, u126.2.2.2.2.2.1, vun, u126.2.2.2.2.2.2.1, u126.2.2.2.2.2.2.2, vog)) else (if p0 = 5 then (∀ z120 : Int32, z120 = Z_X4_operate_J_121 vks vms vcs ves p1 p2 → (∀ u123 : Int32 × Bool × Int64 × Int32, u123 = F_X4_copy vks vms vcs ves z120 → u9 = (u123.1, u123.2.1, u123.2.2.1, u123.2.2.2, 0, vct, vun, vre, vdg, vog))) else (∀ u114 : Int32 × Bool × Int64 × Int32, u114 = F_X4_next vks vms vcs ves p1 → u9 = (u114.1, u114.2.1, u114.2.2.1, u114.2.2.2, 0, vct, vun, vre, vdg, vog)))))) else (∀ z136 : Bool, z136 = Z_X4_operate_J_137 p0 → (∀ u139 : Int32 × Bool × Int64 × Int32 × Int32 × Int32 × Int32 × Bool × (Nat → Int32) × (Nat → Int32), u139 = F_X4_add vmo 0 vct vun vre vks vms vcs ves vdg vog p1 p2 z136 → u9 = (u139.1, u139.2.1, u139.2.2.1, u139.2.2.2.1, u139.2.2.2.2.1, u139.2.2.2.2.2.1, u139.2.2.2.2.2.2.1, u139.2.2.2.2.2.2.2.1, u139.2.2.2.2.2.2.2.2.1, u139.2.2.2.2.2.2.2.2.2)))) else (if F_X4_is vks p2 (2 : Int32) = true then (∀ u177 : Int32 × Bool × Int64 × Int32, u177 = F_X4_be (2 : Int32) false (0 : Int64) (0 : Int32) → u9 = (u177.1, u177.2.1, u177.2.2.1, u177.2.2.2, 0, vct, vun, vre, vdg, vog)) else (if 2 ≤ p0 then (if p0 = 2 then (∀ u168 : Int32 × Bool × Int64 × Int32 × Int32 × Int32 × Int32 × Bool × (Nat → Int32) × (Nat → Int32), u168 = F_X4_multiply vmo 0 vct vun vre vks vms vcs ves vdg vog p1 p2 → u9 = (u168.1, u168.2.1, u168.2.2.1, u168.2.2.2.1, u168.2.2.2.2.1, u168.2.2.2.2.2.1, u168.2.2.2.2.2.2.1, u168.2.2.2.2.2.2.2.1, u168.2.2.2.2.2.2.2.2.1, u168.2.2.2.2.2.2.2.2.2)) else (if p0 = 3 then (∀ u165 : Int32 × Bool × Int64 × Int32 × Int32 × Int32 × Int32 × Bool × (Nat → Int32) × (Nat → Int32), u165 = F_X4_divide vmo 0 vct vun vre vks vms vcs ves vdg vog p1 p2 → u9 = (u165.1, u165.2.1, u165.2.2.1, u165.2.2.2.1, u165.2.2.2.2.1, u165.2.2.2.2.2.1, u165.2.2.2.2.2.2.1, u165.2.2.2.2.2.2.2.1, u165.2.2.2.2.2.2.2.2.1, u165.2.2.2.2.2.2.2.2.2)) else (if p0 = 4 then (∀ u162 : Int32 × Bool × Int64 × Int32 × Int32 × Int32 × Bool × (Nat → Int32), u162 = F_X4_quantize vmo 0 vct vre vks vms vcs ves vdg p1 p2 → u9 = (u162.1, u162.2.1, u162.2.2.1, u162.2.2.2.1, u162.2.2.2.2.1, u162.2.2.2.2.2.1, vun, u162.2.2.2.2.2.2.1, u162.2.2.2.2.2.2.2, vog)) else (if p0 = 5 then (∀ z156 : Int32, z156 = Z_X4_operate_J_121 vks vms vcs ves p1 p2 → (∀ u159 : Int32 × Bool × Int64 × Int32, u159 = F_X4_copy vks vms vcs ves z156 → u9 = (u159.1, u159.2.1, u159.2.2.1, u159.2.2.2, 0, vct, vun, vre, vdg, vog))) else (∀ u150 : Int32 × Bool × Int64 × Int32, u150 = F_X4_next vks vms vcs ves p1 → u9 = (u150.1, u150.2.1, u150.2.2.1, u150.2.2.2, 0, vct, vun, vre, vdg, vog)))))) else (∀ z172 : Bool, z172 = Z_X4_operate_J_137 p0 → (∀ u175 : Int32 × Bool × Int64 × Int32 × Int32 × Int32 × Int32 × Bool × (Nat → Int32) × (Nat → Int32), u175 = F_X4_add vmo 0 vct vun vre vks vms vcs ves vdg vog p1 p2 z172 → u9 = (u175.1, u175.2.1, u175.2.2.1, u175.2.2.2.1, u175.2.2.2.2.1, u175.2.2.2.2.2.1, u175.2.2.2.2.2.2.1, u175.2.2.2.2.2.2.2.1, u175.2.2.2.2.2.2.2.2.1, u175.2.2.2.2.2.2.2.2.2)))))))
theorem rF_X4_operate (vmo : Int32) (vct : Int32) (vun : Int32) (vre : Bool) (vks : Nat → Int32) (vms : Nat → Bool) (vcs : Nat → Int64) (ves : Nat → Int32) (vdg : Nat → Int32) (vog : Nat → Int32) (p0 : Int32) (p1 : Int32) (p2 : Int32) {u9 : Int32 × Bool × Int64 × Int32 × Int32 × Int32 × Int32 × Bool × (Nat → Int32) × (Nat → Int32)} (hu : u9 = F_X4_operate vmo vct vun vre vks vms vcs ves vdg vog p0 p1 p2) : RF_X4_operate vmo vct vun vre vks vms vcs ves vdg vog p0 p1 p2 u9 := by
  unfold RF_X4_operate
  refine ite_P (fun c_104 => ?_) (fun c_104 => ?_)
  · have hu := hu.trans (if_pos c_104)
    intro u105 eu105
    have hu := bnd_n hu eu105
    exact hu
  · have hu := hu.trans (if_neg c_104)
    refine ite_P (fun c_107 => ?_) (fun c_107 => ?_)
    · have hu := hu.trans (if_pos c_107)
      refine ite_P (fun c_108 => ?_) (fun c_108 => ?_)
      · have hu := hu.trans (if_pos c_108)
        refine ite_P (fun c_109 => ?_) (fun c_109 => ?_)
        · have hu := hu.trans (if_pos c_109)
          intro u132 eu132
          have hu := bnd_n hu eu132
          exact hu
        · have hu := hu.trans (if_neg c_109)
          refine ite_P (fun c_110 => ?_) (fun c_110 => ?_)
          · have hu := hu.trans (if_pos c_110)
            intro u129 eu129
            have hu := bnd_n hu eu129
            exact hu
          · have hu := hu.trans (if_neg c_110)
            refine ite_P (fun c_111 => ?_) (fun c_111 => ?_)
            · have hu := hu.trans (if_pos c_111)
              intro u126 eu126
              have hu := bnd_n hu eu126
              exact hu
            · have hu := hu.trans (if_neg c_111)
              refine ite_P (fun c_112 => ?_) (fun c_112 => ?_)
              · have hu := hu.trans (if_pos c_112)
                intro z120 ez120
                have hu := bnd_n hu ez120
                intro u123 eu123
                have hu := bnd_n hu eu123
                exact hu
              · have hu := hu.trans (if_neg c_112)
                intro u114 eu114
                have hu := bnd_n hu eu114
                exact hu
      · have hu := hu.trans (if_neg c_108)
        intro z136 ez136
        have hu := bnd_n hu ez136
        intro u139 eu139
        have hu := bnd_n hu eu139
        exact hu
    · have hu := hu.trans (if_neg c_107)
      refine ite_P (fun c_143 => ?_) (fun c_143 => ?_)
      · have hu := hu.trans (if_pos c_143)
        intro u177 eu177
        have hu := bnd_n hu eu177
        exact hu
      · have hu := hu.trans (if_neg c_143)
        refine ite_P (fun c_144 => ?_) (fun c_144 => ?_)
        · have hu := hu.trans (if_pos c_144)
          refine ite_P (fun c_145 => ?_) (fun c_145 => ?_)
          · have hu := hu.trans (if_pos c_145)
            intro u168 eu168
            have hu := bnd_n hu eu168
            exact hu
          · have hu := hu.trans (if_neg c_145)
            refine ite_P (fun c_146 => ?_) (fun c_146 => ?_)
            · have hu := hu.trans (if_pos c_146)
              intro u165 eu165
              have hu := bnd_n hu eu165
              exact hu
            · have hu := hu.trans (if_neg c_146)
              refine ite_P (fun c_147 => ?_) (fun c_147 => ?_)
              · have hu := hu.trans (if_pos c_147)
                intro u162 eu162
                have hu := bnd_n hu eu162
                exact hu
              · have hu := hu.trans (if_neg c_147)
                refine ite_P (fun c_148 => ?_) (fun c_148 => ?_)
                · have hu := hu.trans (if_pos c_148)
                  intro z156 ez156
                  have hu := bnd_n hu ez156
                  intro u159 eu159
                  have hu := bnd_n hu eu159
                  exact hu
                · have hu := hu.trans (if_neg c_148)
                  intro u150 eu150
                  have hu := bnd_n hu eu150
                  exact hu
        · have hu := hu.trans (if_neg c_144)
          intro z172 ez172
          have hu := bnd_n hu ez172
          intro u175 eu175
          have hu := bnd_n hu eu175
          exact hu
def S_X4_operate (vmo : Int32) (vct : Int32) (vun : Int32) (vre : Bool) (vks : Nat → Int32) (vms : Nat → Bool) (vcs : Nat → Int64) (ves : Nat → Int32) (vdg : Nat → Int32) (vog : Nat → Int32) (p0 : Int32) (p1 : Int32) (p2 : Int32) : Prop := (S_X4_is vks p1 (2 : Int32)) ∧ (if F_X4_is vks p1 (2 : Int32) = true then True else (if p0 = 6 then (if 2 ≤ p0 then (if p0 = 2 then S_X4_multiply vmo 0 vct vun vre vks vms vcs ves vdg vog p1 p2 else (if p0 = 3 then S_X4_divide vmo 0 vct vun vre vks vms vcs ves vdg vog p1 p2 else (if p0 = 4 then S_X4_quantize vmo 0 vct vre vks vms vcs ves vdg p1 p2 else (if p0 = 5 then (S_X4_order vks vms vcs ves p1 p2) ∧ (∀ z120 : Int32, z120 = Z_X4_operate_J_121 vks vms vcs ves p1 p2 → S_X4_copy vks vms vcs ves z120) else S_X4_next vks vms vcs ves p1)))) else (∀ z136 : Bool, z136 = Z_X4_operate_J_137 p0 → S_X4_add vmo 0 vct vun vre vks vms vcs ves vdg vog p1 p2 z136)) else (S_X4_is vks p2 (2 : Int32)) ∧ (if F_X4_is vks p2 (2 : Int32) = true then True else (if 2 ≤ p0 then (if p0 = 2 then S_X4_multiply vmo 0 vct vun vre vks vms vcs ves vdg vog p1 p2 else (if p0 = 3 then S_X4_divide vmo 0 vct vun vre vks vms vcs ves vdg vog p1 p2 else (if p0 = 4 then S_X4_quantize vmo 0 vct vre vks vms vcs ves vdg p1 p2 else (if p0 = 5 then (S_X4_order vks vms vcs ves p1 p2) ∧ (∀ z156 : Int32, z156 = Z_X4_operate_J_121 vks vms vcs ves p1 p2 → S_X4_copy vks vms vcs ves z156) else S_X4_next vks vms vcs ves p1)))) else (∀ z172 : Bool, z172 = Z_X4_operate_J_137 p0 → S_X4_add vmo 0 vct vun vre vks vms vcs ves vdg vog p1 p2 z172)))))
def rm_X4_operate : Room := { frames := 4, cells := 0, slots := 0, locals := 115 }
set_option maxHeartbeats 4000000 in
set_option maxRecDepth 100000 in
theorem c_X4_operate (l : Launch) (D : va_G) (cR cI cJ cZ : ClassId) (t0 : Nat) (am ak an ac ae ag aq : Nat) (vth : Int32) (vmo : Int32) (vfg : Int32) (vtp : Int32) (vkd : Int32) (vng : Bool) (vcc : Int64) (vqq : Int32) (vrs : Int32) (vct : Int32) (vun : Int32) (vre : Bool) (vks : Nat → Int32) (vms : Nat → Bool) (vcs : Nat → Int64) (ves : Nat → Int32) (vdg : Nat → Int32) (vog : Nat → Int32) (p0 : Int32) (p1 : Int32) (p2 : Int32) (u : Int32 × Bool × Int64 × Int32 × Int32 × Int32 × Int32 × Bool × (Nat → Int32) × (Nat → Int32)) (hu : u = F_X4_operate vmo vct vun vre vks vms vcs ves vdg vog p0 p1 p2) (hs : S_X4_operate vmo vct vun vre vks vms vcs ves vdg vog p0 p1 p2) : XM l D (xty cR cI cJ cZ) t0 yX4_operate cX4_operate 4 none rm_X4_operate [.ref am, .int p0, .int p1, .int p2] none (mw cI cJ cZ am ak an ac ae ag aq vth vmo vfg vtp vkd vng vcc vqq vrs vct vun vre vks vms vcs ves vdg vog) (mw cI cJ cZ am ak an ac ae ag aq vth vmo vfg vtp u.1 u.2.1 u.2.2.1 u.2.2.2.1 u.2.2.2.2.1 u.2.2.2.2.2.1 u.2.2.2.2.2.2.1 u.2.2.2.2.2.2.2.1 vks vms vcs ves u.2.2.2.2.2.2.2.2.1 u.2.2.2.2.2.2.2.2.2) := by
  refine XM.of (by decide) (Nat.le_of_ble_eq_true rfl) ?_
  intro p e s m args below meth c A Q F hK hP hD hA hSt hS hQ ls hl
  obtain ⟨hx, hb, hr, hts, hown, hlocks, hml⟩ := F
  have hCF : CallFix p m c cX4_operate 4 s args gW RX4 := ⟨hx, hb, hml, hown, hts⟩
  unfold S_X4_operate at hs
  have hu := rF_X4_operate vmo vct vun vre vks vms vcs ves vdg vog p0 p1 p2 hu
  unfold RF_X4_operate at hu
  obtain ⟨H, eH⟩ : ∃ y9 : Heap, y9 = s.heap := ⟨_, rfl⟩
  obtain ⟨locs, eL⟩ : ∃ y9 : List Loc, y9 = [] := ⟨_, rfl⟩
  rw [← eL] at hS ⊢
  have hP : va_P D vwCl (mw cI cJ cZ am ak an ac ae ag aq vth vmo vfg vtp vkd vng vcc vqq vrs vct vun vre vks vms vcs ves vdg vog) H := by rw [eH]; exact hP
  have hS : va_S A s.heap H locs := by rw [eH]; exact hS
  suffices goal9 : W p l e rm_X4_operate s m args below meth c H locs 0 0 Q (F0 m 0 ls []) from by rw [← eH]; exact goal9
  have hl : lv_has ls 4 [(0, .ref am), (1, .int p0), (2, .int p1), (3, .int p2)] := hl
  have hi4 : ∀ w ∈ wsX40, w ∈ gW := inW_X4
  refine lv_aload_n hx hb dX4_operate_0 rfl (lv_at hl 0 rfl) ?_
  refine lv_iconst (v := 0) hx hb dX4_operate_1 (by decide) ?_
  refine va_put (D := D) (ci := 5) (v := .int 0) (ty := .int) (C := RX4) (T := TX4) (N := 18) hx hb hts hi4 tyX4 tyX4_ok nmX4 hown hK hP hD hS 0 rfl rfl 12 (by decide) (hts (.fieldLink RX4 56 "DecimalWordsModel" "raised" "I") (inW_9 _ (List.mem_of_getElem? (i := 17) rfl))) (fun _ h9 => h9) rfl (by decide +kernel) rfl rfl (Nat.le_of_ble_eq_true rfl) dX4_operate_2 (fun H locs hP hD hS => ?_)
  have hP : va_P D vwCl (mw cI cJ cZ am ak an ac ae ag aq vth vmo vfg vtp vkd vng vcc vqq 0 vct vun vre vks vms vcs ves vdg vog) H := hP
  have hD : va_D A (mw cI cJ cZ am ak an ac ae ag aq vth vmo vfg vtp vkd vng vcc vqq 0 vct vun vre vks vms vcs ves vdg vog) := hD
  refine lv_aload_n hx hb dX4_operate_5 rfl (lv_at hl 0 rfl) ?_
  refine lv_iload_n hx hb dX4_operate_6 rfl (lv_at hl 2 rfl) ?_
  refine lv_iconst (v := 2) hx hb dX4_operate_7 (by decide) ?_
  obtain ⟨h_102, hs⟩ := hs
  refine x_V (As := [.int p1, .int 2]) (rest := []) hCF (c_X4_is l D cR cI cJ cZ t0 am ak an ac ae ag aq vth vmo vfg vtp vkd vng vcc vqq 0 vct vun vre vks vms vcs ves vdg vog p1 (2 : Int32) _ rfl h_102) (x_cwV 2 hts (inW_10 _ (List.mem_of_getElem? (i := 18) rfl)) (inW_10 _ (List.mem_of_getElem? (i := 19) rfl)) (inW_10 _ (List.mem_of_getElem? (i := 20) rfl)) (inW_9 _ (List.mem_of_getElem? (i := 5) rfl)) (inW_10 _ (List.mem_of_getElem? (i := 10) rfl)) rfl rfl (by decide +kernel) ⟨Nat.le_of_ble_eq_true rfl, Nat.le_of_ble_eq_true rfl⟩) hK hP hD hS hA hSt 0 rfl rfl rfl hl.1 rfl (Nat.le_of_ble_eq_true rfl) dX4_operate_8 ⟨Nat.le_of_ble_eq_true rfl, Nat.le_of_ble_eq_true rfl⟩ (fun H locs hP hD hS => ?_)
  show W p l e _ s m args below meth c H locs 0 0 Q (F0 m 11 ls (.int (bI (F_X4_is vks p1 (2 : Int32))) :: []))
  refine xb_ne (tgt := 29) hx hb dX4_operate_11 (by decide) (fun c_104 => ?_) (fun c_104 => ?_)
  · rw [if_pos c_104] at hu
    refine lv_aload_n hx hb dX4_operate_29 rfl (lv_at hl 0 rfl) ?_
    refine lv_iconst (v := 2) hx hb dX4_operate_30 (by decide) ?_
    refine lv_iconst (v := 0) hx hb dX4_operate_31 (by decide) ?_
    refine lv_lconst (v := 0) hx hb dX4_operate_32 (by decide) ?_
    refine lv_iconst (v := 0) hx hb dX4_operate_33 (by decide) ?_
    obtain ⟨u105, eu105⟩ : ∃ y9 : Int32 × Bool × Int64 × Int32, y9 = F_X4_be (2 : Int32) false (0 : Int64) (0 : Int32) := ⟨_, rfl⟩
    have hu := hu _ eu105
    refine x_V (As := [.int 2, .int (bI false), .long 0, .int 0]) (rest := []) hCF (c_X4_be l D cR cI cJ cZ t0 am ak an ac ae ag aq vth vmo vfg vtp vkd vng vcc vqq 0 vct vun vre vks vms vcs ves vdg vog (2 : Int32) false (0 : Int64) (0 : Int32) u105 eu105) (x_cwV 4 hts (inW_9 _ (List.mem_of_getElem? (i := 18) rfl)) (inW_9 _ (List.mem_of_getElem? (i := 19) rfl)) (inW_9 _ (List.mem_of_getElem? (i := 20) rfl)) (inW_9 _ (List.mem_of_getElem? (i := 5) rfl)) (inW_9 _ (List.mem_of_getElem? (i := 11) rfl)) rfl rfl (by decide +kernel) ⟨Nat.le_of_ble_eq_true rfl, Nat.le_of_ble_eq_true rfl⟩) hK hP hD hS hA hSt 0 rfl rfl rfl hl.1 rfl (Nat.le_of_ble_eq_true rfl) dX4_operate_34 ⟨Nat.le_of_ble_eq_true rfl, Nat.le_of_ble_eq_true rfl⟩ (fun H locs hP hD hS => ?_)
    show W p l e _ s m args below meth c H locs 0 0 Q (F0 m 37 ls [])
    refine lv_goto (tgt := 137) hx hb dX4_operate_37 (by decide) ?_
    have e9 := Eq.symm hu; subst e9
    exact x_vret hx hb hr hlocks hQ hK hP hD hS rfl dX4_operate_137
  · rw [if_neg c_104] at hs
    rw [if_neg c_104] at hu
    refine lv_iload_n hx hb dX4_operate_14 rfl (lv_at hl 1 rfl) ?_
    refine lv_bipush (v := 6) hx hb dX4_operate_15 (by decide) ?_
    refine lv_icmp_eq (tgt := 40) hx hb dX4_operate_17 (by decide) (fun c_107 => ?_) (fun c_107 => ?_)
    · rw [if_pos c_107] at hs
      rw [if_pos c_107] at hu
      refine lv_iload_n hx hb dX4_operate_40 rfl (lv_at hl 1 rfl) ?_
      refine lv_iconst (v := 2) hx hb dX4_operate_41 (by decide) ?_
      refine lv_icmp_ge (tgt := 64) hx hb dX4_operate_42 (by decide) (fun c_108 => ?_) (fun c_108 => ?_)
      · rw [if_pos c_108] at hs
        rw [if_pos c_108] at hu
        refine lv_iload_n hx hb dX4_operate_64 rfl (lv_at hl 1 rfl) ?_
        refine lv_iconst (v := 2) hx hb dX4_operate_65 (by decide) ?_
        refine lv_icmp_ne (tgt := 78) hx hb dX4_operate_66 (by decide) (fun c_109 => ?_) (fun c_109 => ?_)
        · rw [if_neg c_109] at hs
          rw [if_neg c_109] at hu
          refine lv_iload_n hx hb dX4_operate_78 rfl (lv_at hl 1 rfl) ?_
          refine lv_iconst (v := 3) hx hb dX4_operate_79 (by decide) ?_
          refine lv_icmp_ne (tgt := 92) hx hb dX4_operate_80 (by decide) (fun c_110 => ?_) (fun c_110 => ?_)
          · rw [if_neg c_110] at hs
            rw [if_neg c_110] at hu
            refine lv_iload_n hx hb dX4_operate_92 rfl (lv_at hl 1 rfl) ?_
            refine lv_iconst (v := 4) hx hb dX4_operate_93 (by decide) ?_
            refine lv_icmp_ne (tgt := 106) hx hb dX4_operate_94 (by decide) (fun c_111 => ?_) (fun c_111 => ?_)
            · rw [if_neg c_111] at hs
              rw [if_neg c_111] at hu
              refine lv_iload_n hx hb dX4_operate_106 rfl (lv_at hl 1 rfl) ?_
              refine lv_iconst (v := 5) hx hb dX4_operate_107 (by decide) ?_
              refine lv_icmp_ne (tgt := 132) hx hb dX4_operate_108 (by decide) (fun c_112 => ?_) (fun c_112 => ?_)
              · rw [if_neg c_112] at hs
                rw [if_neg c_112] at hu
                refine lv_aload_n hx hb dX4_operate_132 rfl (lv_at hl 0 rfl) ?_
                refine lv_iload_n hx hb dX4_operate_133 rfl (lv_at hl 2 rfl) ?_
                have h_113 := hs
                obtain ⟨u114, eu114⟩ : ∃ y9 : Int32 × Bool × Int64 × Int32, y9 = F_X4_next vks vms vcs ves p1 := ⟨_, rfl⟩
                have hu := hu _ eu114
                refine x_V (As := [.int p1]) (rest := []) hCF (c_X4_next l D cR cI cJ cZ t0 am ak an ac ae ag aq vth vmo vfg vtp vkd vng vcc vqq 0 vct vun vre vks vms vcs ves vdg vog p1 u114 eu114 h_113) (x_cwV 1 hts (inW_11 _ (List.mem_of_getElem? (i := 36) rfl)) (inW_11 _ (List.mem_of_getElem? (i := 37) rfl)) (inW_11 _ (List.mem_of_getElem? (i := 38) rfl)) (inW_9 _ (List.mem_of_getElem? (i := 5) rfl)) (inW_11 _ (List.mem_of_getElem? (i := 15) rfl)) rfl rfl (by decide +kernel) ⟨Nat.le_of_ble_eq_true rfl, Nat.le_of_ble_eq_true rfl⟩) hK hP hD hS hA hSt 0 rfl rfl rfl hl.1 rfl (Nat.le_of_ble_eq_true rfl) dX4_operate_134 ⟨Nat.le_of_ble_eq_true rfl, Nat.le_of_ble_eq_true rfl⟩ (fun H locs hP hD hS => ?_)
                show W p l e _ s m args below meth c H locs 0 0 Q (F0 m 137 ls [])
                have e9 := Eq.symm hu; subst e9
                exact x_vret hx hb hr hlocks hQ hK hP hD hS rfl dX4_operate_137
              · rw [if_pos c_112] at hs
                rw [if_pos c_112] at hu
                refine lv_aload_n hx hb dX4_operate_111 rfl (lv_at hl 0 rfl) ?_
                refine lv_aload_n hx hb dX4_operate_112 rfl (lv_at hl 0 rfl) ?_
                refine lv_iload_n hx hb dX4_operate_113 rfl (lv_at hl 2 rfl) ?_
                refine lv_iload_n hx hb dX4_operate_114 rfl (lv_at hl 3 rfl) ?_
                obtain ⟨h_116, hs⟩ := hs
                refine x_V (As := [.int p1, .int p2]) (rest := [.ref am]) hCF (c_X4_order l D cR cI cJ cZ t0 am ak an ac ae ag aq vth vmo vfg vtp vkd vng vcc vqq 0 vct vun vre vks vms vcs ves vdg vog p1 p2 _ rfl h_116) (x_cwV 2 hts (inW_11 _ (List.mem_of_getElem? (i := 30) rfl)) (inW_11 _ (List.mem_of_getElem? (i := 31) rfl)) (inW_11 _ (List.mem_of_getElem? (i := 32) rfl)) (inW_9 _ (List.mem_of_getElem? (i := 5) rfl)) (inW_11 _ (List.mem_of_getElem? (i := 8) rfl)) rfl rfl (by decide +kernel) ⟨Nat.le_of_ble_eq_true rfl, Nat.le_of_ble_eq_true rfl⟩) hK hP hD hS hA hSt 0 rfl rfl rfl hl.1 rfl (Nat.le_of_ble_eq_true rfl) dX4_operate_115 ⟨Nat.le_of_ble_eq_true rfl, Nat.le_of_ble_eq_true rfl⟩ (fun H locs hP hD hS => ?_)
                show W p l e _ s m args below meth c H locs 0 0 Q (F0 m 118 ls (.int (F_X4_order vks vms vcs ves p1 p2) :: [.ref am]))
                have J_121 : (∀ z120 : Int32, z120 = Z_X4_operate_J_121 vks vms vcs ves p1 p2 → ∀ (H : Heap) (locs : List Loc), va_P D vwCl (mw cI cJ cZ am ak an ac ae ag aq vth vmo vfg vtp vkd vng vcc vqq 0 vct vun vre vks vms vcs ves vdg vog) H → va_D A (mw cI cJ cZ am ak an ac ae ag aq vth vmo vfg vtp vkd vng vcc vqq 0 vct vun vre vks vms vcs ves vdg vog) → va_S A s.heap H locs → ∀ ls : Array Slot, lv_has ls 4 [] → W p l e rm_X4_operate s m args below meth c H locs 0 0 Q (F0 m 126 ls [.int z120, .ref am])) := by
                  intro z120 ez120 H locs hP hD hS ls hl
                  have hs := hs _ ez120
                  have hu := hu _ ez120
                  have h_122 := hs
                  obtain ⟨u123, eu123⟩ : ∃ y9 : Int32 × Bool × Int64 × Int32, y9 = F_X4_copy vks vms vcs ves z120 := ⟨_, rfl⟩
                  have hu := hu _ eu123
                  refine x_V (As := [.int z120]) (rest := []) hCF (c_X4_copy l D cR cI cJ cZ t0 am ak an ac ae ag aq vth vmo vfg vtp vkd vng vcc vqq 0 vct vun vre vks vms vcs ves vdg vog z120 u123 eu123 h_122) (x_cwV 1 hts (inW_11 _ (List.mem_of_getElem? (i := 33) rfl)) (inW_11 _ (List.mem_of_getElem? (i := 34) rfl)) (inW_11 _ (List.mem_of_getElem? (i := 35) rfl)) (inW_9 _ (List.mem_of_getElem? (i := 5) rfl)) (inW_11 _ (List.mem_of_getElem? (i := 16) rfl)) rfl rfl (by decide +kernel) ⟨Nat.le_of_ble_eq_true rfl, Nat.le_of_ble_eq_true rfl⟩) hK hP hD hS hA hSt 0 rfl rfl rfl hl.1 rfl (Nat.le_of_ble_eq_true rfl) dX4_operate_126 ⟨Nat.le_of_ble_eq_true rfl, Nat.le_of_ble_eq_true rfl⟩ (fun H locs hP hD hS => ?_)
                  show W p l e _ s m args below meth c H locs 0 0 Q (F0 m 129 ls [])
                  refine lv_goto (tgt := 137) hx hb dX4_operate_129 (by decide) ?_
                  have e9 := Eq.symm hu; subst e9
                  exact x_vret hx hb hr hlocks hQ hK hP hD hS rfl dX4_operate_137
                obtain ⟨z9, ez9⟩ : ∃ y9 : Int32, y9 = Z_X4_operate_J_121 vks vms vcs ves p1 p2 := ⟨_, rfl⟩
                have hz := rZ_X4_operate_J_121 vks vms vcs ves p1 p2 ez9
                unfold RZ_X4_operate_J_121 at hz
                refine lv_if_le (tgt := 125) hx hb dX4_operate_118 (by decide) (fun c_118 => ?_) (fun c_118 => ?_)
                · rw [if_pos c_118] at hz
                  refine lv_iload_n hx hb dX4_operate_125 rfl (lv_at hl 2 rfl) ?_
                  have e9 := Eq.symm hz; subst e9
                  exact J_121 _ ez9 H locs hP hD hS ls (lv_sub hl [] rfl)
                · rw [if_neg c_118] at hz
                  refine lv_iload_n hx hb dX4_operate_121 rfl (lv_at hl 3 rfl) ?_
                  refine lv_goto (tgt := 126) hx hb dX4_operate_122 (by decide) ?_
                  have e9 := Eq.symm hz; subst e9
                  exact J_121 _ ez9 H locs hP hD hS ls (lv_sub hl [] rfl)
            · rw [if_pos c_111] at hs
              rw [if_pos c_111] at hu
              refine lv_aload_n hx hb dX4_operate_97 rfl (lv_at hl 0 rfl) ?_
              refine lv_iload_n hx hb dX4_operate_98 rfl (lv_at hl 2 rfl) ?_
              refine lv_iload_n hx hb dX4_operate_99 rfl (lv_at hl 3 rfl) ?_
              have h_125 := hs
              obtain ⟨u126, eu126⟩ : ∃ y9 : Int32 × Bool × Int64 × Int32 × Int32 × Int32 × Bool × (Nat → Int32), y9 = F_X4_quantize vmo 0 vct vre vks vms vcs ves vdg p1 p2 := ⟨_, rfl⟩
              have hu := hu _ eu126
              refine x_V (As := [.int p1, .int p2]) (rest := []) hCF (c_X4_quantize l D cR cI cJ cZ t0 am ak an ac ae ag aq vth vmo vfg vtp vkd vng vcc vqq 0 vct vun vre vks vms vcs ves vdg vog p1 p2 u126 eu126 h_125) (x_cwV 2 hts (inW_11 _ (List.mem_of_getElem? (i := 27) rfl)) (inW_11 _ (List.mem_of_getElem? (i := 28) rfl)) (inW_11 _ (List.mem_of_getElem? (i := 29) rfl)) (inW_9 _ (List.mem_of_getElem? (i := 5) rfl)) (inW_11 _ (List.mem_of_getElem? (i := 1) rfl)) rfl rfl (by decide +kernel) ⟨Nat.le_of_ble_eq_true rfl, Nat.le_of_ble_eq_true rfl⟩) hK hP hD hS hA hSt 0 rfl rfl rfl hl.1 rfl (Nat.le_of_ble_eq_true rfl) dX4_operate_100 ⟨Nat.le_of_ble_eq_true rfl, Nat.le_of_ble_eq_true rfl⟩ (fun H locs hP hD hS => ?_)
              show W p l e _ s m args below meth c H locs 0 0 Q (F0 m 103 ls [])
              refine lv_goto (tgt := 137) hx hb dX4_operate_103 (by decide) ?_
              have e9 := Eq.symm hu; subst e9
              exact x_vret hx hb hr hlocks hQ hK hP hD hS rfl dX4_operate_137
          · rw [if_pos c_110] at hs
            rw [if_pos c_110] at hu
            refine lv_aload_n hx hb dX4_operate_83 rfl (lv_at hl 0 rfl) ?_
            refine lv_iload_n hx hb dX4_operate_84 rfl (lv_at hl 2 rfl) ?_
            refine lv_iload_n hx hb dX4_operate_85 rfl (lv_at hl 3 rfl) ?_
            have h_128 := hs
            obtain ⟨u129, eu129⟩ : ∃ y9 : Int32 × Bool × Int64 × Int32 × Int32 × Int32 × Int32 × Bool × (Nat → Int32) × (Nat → Int32), y9 = F_X4_divide vmo 0 vct vun vre vks vms vcs ves vdg vog p1 p2 := ⟨_, rfl⟩
            have hu := hu _ eu129
            refine x_V (As := [.int p1, .int p2]) (rest := []) hCF (c_X4_divide l D cR cI cJ cZ t0 am ak an ac ae ag aq vth vmo vfg vtp vkd vng vcc vqq 0 vct vun vre vks vms vcs ves vdg vog p1 p2 u129 eu129 h_128) (x_cwV 2 hts (inW_11 _ (List.mem_of_getElem? (i := 24) rfl)) (inW_11 _ (List.mem_of_getElem? (i := 25) rfl)) (inW_11 _ (List.mem_of_getElem? (i := 26) rfl)) (inW_9 _ (List.mem_of_getElem? (i := 5) rfl)) (inW_11 _ (List.mem_of_getElem? (i := 0) rfl)) rfl rfl (by decide +kernel) ⟨Nat.le_of_ble_eq_true rfl, Nat.le_of_ble_eq_true rfl⟩) hK hP hD hS hA hSt 0 rfl rfl rfl hl.1 rfl (Nat.le_of_ble_eq_true rfl) dX4_operate_86 ⟨Nat.le_of_ble_eq_true rfl, Nat.le_of_ble_eq_true rfl⟩ (fun H locs hP hD hS => ?_)
            show W p l e _ s m args below meth c H locs 0 0 Q (F0 m 89 ls [])
            refine lv_goto (tgt := 137) hx hb dX4_operate_89 (by decide) ?_
            have e9 := Eq.symm hu; subst e9
            exact x_vret hx hb hr hlocks hQ hK hP hD hS rfl dX4_operate_137
        · rw [if_pos c_109] at hs
          rw [if_pos c_109] at hu
          refine lv_aload_n hx hb dX4_operate_69 rfl (lv_at hl 0 rfl) ?_
          refine lv_iload_n hx hb dX4_operate_70 rfl (lv_at hl 2 rfl) ?_
          refine lv_iload_n hx hb dX4_operate_71 rfl (lv_at hl 3 rfl) ?_
          have h_131 := hs
          obtain ⟨u132, eu132⟩ : ∃ y9 : Int32 × Bool × Int64 × Int32 × Int32 × Int32 × Int32 × Bool × (Nat → Int32) × (Nat → Int32), y9 = F_X4_multiply vmo 0 vct vun vre vks vms vcs ves vdg vog p1 p2 := ⟨_, rfl⟩
          have hu := hu _ eu132
          refine x_V (As := [.int p1, .int p2]) (rest := []) hCF (c_X4_multiply l D cR cI cJ cZ t0 am ak an ac ae ag aq vth vmo vfg vtp vkd vng vcc vqq 0 vct vun vre vks vms vcs ves vdg vog p1 p2 u132 eu132 h_131) (x_cwV 2 hts (inW_11 _ (List.mem_of_getElem? (i := 21) rfl)) (inW_11 _ (List.mem_of_getElem? (i := 22) rfl)) (inW_11 _ (List.mem_of_getElem? (i := 23) rfl)) (inW_9 _ (List.mem_of_getElem? (i := 5) rfl)) (inW_10 _ (List.mem_of_getElem? (i := 39) rfl)) rfl rfl (by decide +kernel) ⟨Nat.le_of_ble_eq_true rfl, Nat.le_of_ble_eq_true rfl⟩) hK hP hD hS hA hSt 0 rfl rfl rfl hl.1 rfl (Nat.le_of_ble_eq_true rfl) dX4_operate_72 ⟨Nat.le_of_ble_eq_true rfl, Nat.le_of_ble_eq_true rfl⟩ (fun H locs hP hD hS => ?_)
          show W p l e _ s m args below meth c H locs 0 0 Q (F0 m 75 ls [])
          refine lv_goto (tgt := 137) hx hb dX4_operate_75 (by decide) ?_
          have e9 := Eq.symm hu; subst e9
          exact x_vret hx hb hr hlocks hQ hK hP hD hS rfl dX4_operate_137
      · rw [if_neg c_108] at hs
        rw [if_neg c_108] at hu
        refine lv_aload_n hx hb dX4_operate_45 rfl (lv_at hl 0 rfl) ?_
        refine lv_iload_n hx hb dX4_operate_46 rfl (lv_at hl 2 rfl) ?_
        refine lv_iload_n hx hb dX4_operate_47 rfl (lv_at hl 3 rfl) ?_
        refine lv_iload_n hx hb dX4_operate_48 rfl (lv_at hl 1 rfl) ?_
        refine lv_iconst (v := 1) hx hb dX4_operate_49 (by decide) ?_
        have J_137 : (∀ z136 : Bool, z136 = Z_X4_operate_J_137 p0 → ∀ (H : Heap) (locs : List Loc), va_P D vwCl (mw cI cJ cZ am ak an ac ae ag aq vth vmo vfg vtp vkd vng vcc vqq 0 vct vun vre vks vms vcs ves vdg vog) H → va_D A (mw cI cJ cZ am ak an ac ae ag aq vth vmo vfg vtp vkd vng vcc vqq 0 vct vun vre vks vms vcs ves vdg vog) → va_S A s.heap H locs → ∀ ls : Array Slot, lv_has ls 4 [] → W p l e rm_X4_operate s m args below meth c H locs 0 0 Q (F0 m 58 ls [.int (bI z136), .int p2, .int p1, .ref am])) := by
          intro z136 ez136 H locs hP hD hS ls hl
          have hs := hs _ ez136
          have hu := hu _ ez136
          have h_138 := hs
          obtain ⟨u139, eu139⟩ : ∃ y9 : Int32 × Bool × Int64 × Int32 × Int32 × Int32 × Int32 × Bool × (Nat → Int32) × (Nat → Int32), y9 = F_X4_add vmo 0 vct vun vre vks vms vcs ves vdg vog p1 p2 z136 := ⟨_, rfl⟩
          have hu := hu _ eu139
          refine x_V (As := [.int p1, .int p2, .int (bI z136)]) (rest := []) hCF (c_X4_add l D cR cI cJ cZ t0 am ak an ac ae ag aq vth vmo vfg vtp vkd vng vcc vqq 0 vct vun vre vks vms vcs ves vdg vog p1 p2 z136 u139 eu139 h_138) (x_cwV 3 hts (inW_11 _ (List.mem_of_getElem? (i := 18) rfl)) (inW_11 _ (List.mem_of_getElem? (i := 19) rfl)) (inW_11 _ (List.mem_of_getElem? (i := 20) rfl)) (inW_9 _ (List.mem_of_getElem? (i := 5) rfl)) (inW_10 _ (List.mem_of_getElem? (i := 17) rfl)) rfl rfl (by decide +kernel) ⟨Nat.le_of_ble_eq_true rfl, Nat.le_of_ble_eq_true rfl⟩) hK hP hD hS hA hSt 0 rfl rfl rfl hl.1 rfl (Nat.le_of_ble_eq_true rfl) dX4_operate_58 ⟨Nat.le_of_ble_eq_true rfl, Nat.le_of_ble_eq_true rfl⟩ (fun H locs hP hD hS => ?_)
          show W p l e _ s m args below meth c H locs 0 0 Q (F0 m 61 ls [])
          refine lv_goto (tgt := 137) hx hb dX4_operate_61 (by decide) ?_
          have e9 := Eq.symm hu; subst e9
          exact x_vret hx hb hr hlocks hQ hK hP hD hS rfl dX4_operate_137
        obtain ⟨z9, ez9⟩ : ∃ y9 : Bool, y9 = Z_X4_operate_J_137 p0 := ⟨_, rfl⟩
        have hz := rZ_X4_operate_J_137 p0 ez9
        unfold RZ_X4_operate_J_137 at hz
        refine lv_icmp_ne (tgt := 57) hx hb dX4_operate_50 (by decide) (fun c_134 => ?_) (fun c_134 => ?_)
        · rw [if_neg c_134] at hz
          refine lv_iconst (v := 0) hx hb dX4_operate_57 (by decide) ?_
          have e9 := Eq.symm hz; subst e9
          exact J_137 _ ez9 H locs hP hD hS ls (lv_sub hl [] rfl)
        · rw [if_pos c_134] at hz
          refine lv_iconst (v := 1) hx hb dX4_operate_53 (by decide) ?_
          refine lv_goto (tgt := 58) hx hb dX4_operate_54 (by decide) ?_
          have e9 := Eq.symm hz; subst e9
          exact J_137 _ ez9 H locs hP hD hS ls (lv_sub hl [] rfl)
    · rw [if_neg c_107] at hs
      rw [if_neg c_107] at hu
      refine lv_aload_n hx hb dX4_operate_20 rfl (lv_at hl 0 rfl) ?_
      refine lv_iload_n hx hb dX4_operate_21 rfl (lv_at hl 3 rfl) ?_
      refine lv_iconst (v := 2) hx hb dX4_operate_22 (by decide) ?_
      obtain ⟨h_141, hs⟩ := hs
      refine x_V (As := [.int p2, .int 2]) (rest := []) hCF (c_X4_is l D cR cI cJ cZ t0 am ak an ac ae ag aq vth vmo vfg vtp vkd vng vcc vqq 0 vct vun vre vks vms vcs ves vdg vog p2 (2 : Int32) _ rfl h_141) (x_cwV 2 hts (inW_10 _ (List.mem_of_getElem? (i := 18) rfl)) (inW_10 _ (List.mem_of_getElem? (i := 19) rfl)) (inW_10 _ (List.mem_of_getElem? (i := 20) rfl)) (inW_9 _ (List.mem_of_getElem? (i := 5) rfl)) (inW_10 _ (List.mem_of_getElem? (i := 10) rfl)) rfl rfl (by decide +kernel) ⟨Nat.le_of_ble_eq_true rfl, Nat.le_of_ble_eq_true rfl⟩) hK hP hD hS hA hSt 0 rfl rfl rfl hl.1 rfl (Nat.le_of_ble_eq_true rfl) dX4_operate_23 ⟨Nat.le_of_ble_eq_true rfl, Nat.le_of_ble_eq_true rfl⟩ (fun H locs hP hD hS => ?_)
      show W p l e _ s m args below meth c H locs 0 0 Q (F0 m 26 ls (.int (bI (F_X4_is vks p2 (2 : Int32))) :: []))
      refine xb_eq (tgt := 40) hx hb dX4_operate_26 (by decide) (fun c_143 => ?_) (fun c_143 => ?_)
      · rw [if_neg c_143] at hs
        rw [if_neg c_143] at hu
        refine lv_iload_n hx hb dX4_operate_40 rfl (lv_at hl 1 rfl) ?_
        refine lv_iconst (v := 2) hx hb dX4_operate_41 (by decide) ?_
        refine lv_icmp_ge (tgt := 64) hx hb dX4_operate_42 (by decide) (fun c_144 => ?_) (fun c_144 => ?_)
        · rw [if_pos c_144] at hs
          rw [if_pos c_144] at hu
          refine lv_iload_n hx hb dX4_operate_64 rfl (lv_at hl 1 rfl) ?_
          refine lv_iconst (v := 2) hx hb dX4_operate_65 (by decide) ?_
          refine lv_icmp_ne (tgt := 78) hx hb dX4_operate_66 (by decide) (fun c_145 => ?_) (fun c_145 => ?_)
          · rw [if_neg c_145] at hs
            rw [if_neg c_145] at hu
            refine lv_iload_n hx hb dX4_operate_78 rfl (lv_at hl 1 rfl) ?_
            refine lv_iconst (v := 3) hx hb dX4_operate_79 (by decide) ?_
            refine lv_icmp_ne (tgt := 92) hx hb dX4_operate_80 (by decide) (fun c_146 => ?_) (fun c_146 => ?_)
            · rw [if_neg c_146] at hs
              rw [if_neg c_146] at hu
              refine lv_iload_n hx hb dX4_operate_92 rfl (lv_at hl 1 rfl) ?_
              refine lv_iconst (v := 4) hx hb dX4_operate_93 (by decide) ?_
              refine lv_icmp_ne (tgt := 106) hx hb dX4_operate_94 (by decide) (fun c_147 => ?_) (fun c_147 => ?_)
              · rw [if_neg c_147] at hs
                rw [if_neg c_147] at hu
                refine lv_iload_n hx hb dX4_operate_106 rfl (lv_at hl 1 rfl) ?_
                refine lv_iconst (v := 5) hx hb dX4_operate_107 (by decide) ?_
                refine lv_icmp_ne (tgt := 132) hx hb dX4_operate_108 (by decide) (fun c_148 => ?_) (fun c_148 => ?_)
                · rw [if_neg c_148] at hs
                  rw [if_neg c_148] at hu
                  refine lv_aload_n hx hb dX4_operate_132 rfl (lv_at hl 0 rfl) ?_
                  refine lv_iload_n hx hb dX4_operate_133 rfl (lv_at hl 2 rfl) ?_
                  have h_149 := hs
                  obtain ⟨u150, eu150⟩ : ∃ y9 : Int32 × Bool × Int64 × Int32, y9 = F_X4_next vks vms vcs ves p1 := ⟨_, rfl⟩
                  have hu := hu _ eu150
                  refine x_V (As := [.int p1]) (rest := []) hCF (c_X4_next l D cR cI cJ cZ t0 am ak an ac ae ag aq vth vmo vfg vtp vkd vng vcc vqq 0 vct vun vre vks vms vcs ves vdg vog p1 u150 eu150 h_149) (x_cwV 1 hts (inW_11 _ (List.mem_of_getElem? (i := 36) rfl)) (inW_11 _ (List.mem_of_getElem? (i := 37) rfl)) (inW_11 _ (List.mem_of_getElem? (i := 38) rfl)) (inW_9 _ (List.mem_of_getElem? (i := 5) rfl)) (inW_11 _ (List.mem_of_getElem? (i := 15) rfl)) rfl rfl (by decide +kernel) ⟨Nat.le_of_ble_eq_true rfl, Nat.le_of_ble_eq_true rfl⟩) hK hP hD hS hA hSt 0 rfl rfl rfl hl.1 rfl (Nat.le_of_ble_eq_true rfl) dX4_operate_134 ⟨Nat.le_of_ble_eq_true rfl, Nat.le_of_ble_eq_true rfl⟩ (fun H locs hP hD hS => ?_)
                  show W p l e _ s m args below meth c H locs 0 0 Q (F0 m 137 ls [])
                  have e9 := Eq.symm hu; subst e9
                  exact x_vret hx hb hr hlocks hQ hK hP hD hS rfl dX4_operate_137
                · rw [if_pos c_148] at hs
                  rw [if_pos c_148] at hu
                  refine lv_aload_n hx hb dX4_operate_111 rfl (lv_at hl 0 rfl) ?_
                  refine lv_aload_n hx hb dX4_operate_112 rfl (lv_at hl 0 rfl) ?_
                  refine lv_iload_n hx hb dX4_operate_113 rfl (lv_at hl 2 rfl) ?_
                  refine lv_iload_n hx hb dX4_operate_114 rfl (lv_at hl 3 rfl) ?_
                  obtain ⟨h_152, hs⟩ := hs
                  refine x_V (As := [.int p1, .int p2]) (rest := [.ref am]) hCF (c_X4_order l D cR cI cJ cZ t0 am ak an ac ae ag aq vth vmo vfg vtp vkd vng vcc vqq 0 vct vun vre vks vms vcs ves vdg vog p1 p2 _ rfl h_152) (x_cwV 2 hts (inW_11 _ (List.mem_of_getElem? (i := 30) rfl)) (inW_11 _ (List.mem_of_getElem? (i := 31) rfl)) (inW_11 _ (List.mem_of_getElem? (i := 32) rfl)) (inW_9 _ (List.mem_of_getElem? (i := 5) rfl)) (inW_11 _ (List.mem_of_getElem? (i := 8) rfl)) rfl rfl (by decide +kernel) ⟨Nat.le_of_ble_eq_true rfl, Nat.le_of_ble_eq_true rfl⟩) hK hP hD hS hA hSt 0 rfl rfl rfl hl.1 rfl (Nat.le_of_ble_eq_true rfl) dX4_operate_115 ⟨Nat.le_of_ble_eq_true rfl, Nat.le_of_ble_eq_true rfl⟩ (fun H locs hP hD hS => ?_)
                  show W p l e _ s m args below meth c H locs 0 0 Q (F0 m 118 ls (.int (F_X4_order vks vms vcs ves p1 p2) :: [.ref am]))
                  have J_157 : (∀ z156 : Int32, z156 = Z_X4_operate_J_121 vks vms vcs ves p1 p2 → ∀ (H : Heap) (locs : List Loc), va_P D vwCl (mw cI cJ cZ am ak an ac ae ag aq vth vmo vfg vtp vkd vng vcc vqq 0 vct vun vre vks vms vcs ves vdg vog) H → va_D A (mw cI cJ cZ am ak an ac ae ag aq vth vmo vfg vtp vkd vng vcc vqq 0 vct vun vre vks vms vcs ves vdg vog) → va_S A s.heap H locs → ∀ ls : Array Slot, lv_has ls 4 [] → W p l e rm_X4_operate s m args below meth c H locs 0 0 Q (F0 m 126 ls [.int z156, .ref am])) := by
                    intro z156 ez156 H locs hP hD hS ls hl
                    have hs := hs _ ez156
                    have hu := hu _ ez156
                    have h_158 := hs
                    obtain ⟨u159, eu159⟩ : ∃ y9 : Int32 × Bool × Int64 × Int32, y9 = F_X4_copy vks vms vcs ves z156 := ⟨_, rfl⟩
                    have hu := hu _ eu159
                    refine x_V (As := [.int z156]) (rest := []) hCF (c_X4_copy l D cR cI cJ cZ t0 am ak an ac ae ag aq vth vmo vfg vtp vkd vng vcc vqq 0 vct vun vre vks vms vcs ves vdg vog z156 u159 eu159 h_158) (x_cwV 1 hts (inW_11 _ (List.mem_of_getElem? (i := 33) rfl)) (inW_11 _ (List.mem_of_getElem? (i := 34) rfl)) (inW_11 _ (List.mem_of_getElem? (i := 35) rfl)) (inW_9 _ (List.mem_of_getElem? (i := 5) rfl)) (inW_11 _ (List.mem_of_getElem? (i := 16) rfl)) rfl rfl (by decide +kernel) ⟨Nat.le_of_ble_eq_true rfl, Nat.le_of_ble_eq_true rfl⟩) hK hP hD hS hA hSt 0 rfl rfl rfl hl.1 rfl (Nat.le_of_ble_eq_true rfl) dX4_operate_126 ⟨Nat.le_of_ble_eq_true rfl, Nat.le_of_ble_eq_true rfl⟩ (fun H locs hP hD hS => ?_)
                    show W p l e _ s m args below meth c H locs 0 0 Q (F0 m 129 ls [])
                    refine lv_goto (tgt := 137) hx hb dX4_operate_129 (by decide) ?_
                    have e9 := Eq.symm hu; subst e9
                    exact x_vret hx hb hr hlocks hQ hK hP hD hS rfl dX4_operate_137
                  obtain ⟨z9, ez9⟩ : ∃ y9 : Int32, y9 = Z_X4_operate_J_121 vks vms vcs ves p1 p2 := ⟨_, rfl⟩
                  have hz := rZ_X4_operate_J_121 vks vms vcs ves p1 p2 ez9
                  unfold RZ_X4_operate_J_121 at hz
                  refine lv_if_le (tgt := 125) hx hb dX4_operate_118 (by decide) (fun c_154 => ?_) (fun c_154 => ?_)
                  · rw [if_pos c_154] at hz
                    refine lv_iload_n hx hb dX4_operate_125 rfl (lv_at hl 2 rfl) ?_
                    have e9 := Eq.symm hz; subst e9
                    exact J_157 _ ez9 H locs hP hD hS ls (lv_sub hl [] rfl)
                  · rw [if_neg c_154] at hz
                    refine lv_iload_n hx hb dX4_operate_121 rfl (lv_at hl 3 rfl) ?_
                    refine lv_goto (tgt := 126) hx hb dX4_operate_122 (by decide) ?_
                    have e9 := Eq.symm hz; subst e9
                    exact J_157 _ ez9 H locs hP hD hS ls (lv_sub hl [] rfl)
              · rw [if_pos c_147] at hs
                rw [if_pos c_147] at hu
                refine lv_aload_n hx hb dX4_operate_97 rfl (lv_at hl 0 rfl) ?_
                refine lv_iload_n hx hb dX4_operate_98 rfl (lv_at hl 2 rfl) ?_
                refine lv_iload_n hx hb dX4_operate_99 rfl (lv_at hl 3 rfl) ?_
                have h_161 := hs
                obtain ⟨u162, eu162⟩ : ∃ y9 : Int32 × Bool × Int64 × Int32 × Int32 × Int32 × Bool × (Nat → Int32), y9 = F_X4_quantize vmo 0 vct vre vks vms vcs ves vdg p1 p2 := ⟨_, rfl⟩
                have hu := hu _ eu162
                refine x_V (As := [.int p1, .int p2]) (rest := []) hCF (c_X4_quantize l D cR cI cJ cZ t0 am ak an ac ae ag aq vth vmo vfg vtp vkd vng vcc vqq 0 vct vun vre vks vms vcs ves vdg vog p1 p2 u162 eu162 h_161) (x_cwV 2 hts (inW_11 _ (List.mem_of_getElem? (i := 27) rfl)) (inW_11 _ (List.mem_of_getElem? (i := 28) rfl)) (inW_11 _ (List.mem_of_getElem? (i := 29) rfl)) (inW_9 _ (List.mem_of_getElem? (i := 5) rfl)) (inW_11 _ (List.mem_of_getElem? (i := 1) rfl)) rfl rfl (by decide +kernel) ⟨Nat.le_of_ble_eq_true rfl, Nat.le_of_ble_eq_true rfl⟩) hK hP hD hS hA hSt 0 rfl rfl rfl hl.1 rfl (Nat.le_of_ble_eq_true rfl) dX4_operate_100 ⟨Nat.le_of_ble_eq_true rfl, Nat.le_of_ble_eq_true rfl⟩ (fun H locs hP hD hS => ?_)
                show W p l e _ s m args below meth c H locs 0 0 Q (F0 m 103 ls [])
                refine lv_goto (tgt := 137) hx hb dX4_operate_103 (by decide) ?_
                have e9 := Eq.symm hu; subst e9
                exact x_vret hx hb hr hlocks hQ hK hP hD hS rfl dX4_operate_137
            · rw [if_pos c_146] at hs
              rw [if_pos c_146] at hu
              refine lv_aload_n hx hb dX4_operate_83 rfl (lv_at hl 0 rfl) ?_
              refine lv_iload_n hx hb dX4_operate_84 rfl (lv_at hl 2 rfl) ?_
              refine lv_iload_n hx hb dX4_operate_85 rfl (lv_at hl 3 rfl) ?_
              have h_164 := hs
              obtain ⟨u165, eu165⟩ : ∃ y9 : Int32 × Bool × Int64 × Int32 × Int32 × Int32 × Int32 × Bool × (Nat → Int32) × (Nat → Int32), y9 = F_X4_divide vmo 0 vct vun vre vks vms vcs ves vdg vog p1 p2 := ⟨_, rfl⟩
              have hu := hu _ eu165
              refine x_V (As := [.int p1, .int p2]) (rest := []) hCF (c_X4_divide l D cR cI cJ cZ t0 am ak an ac ae ag aq vth vmo vfg vtp vkd vng vcc vqq 0 vct vun vre vks vms vcs ves vdg vog p1 p2 u165 eu165 h_164) (x_cwV 2 hts (inW_11 _ (List.mem_of_getElem? (i := 24) rfl)) (inW_11 _ (List.mem_of_getElem? (i := 25) rfl)) (inW_11 _ (List.mem_of_getElem? (i := 26) rfl)) (inW_9 _ (List.mem_of_getElem? (i := 5) rfl)) (inW_11 _ (List.mem_of_getElem? (i := 0) rfl)) rfl rfl (by decide +kernel) ⟨Nat.le_of_ble_eq_true rfl, Nat.le_of_ble_eq_true rfl⟩) hK hP hD hS hA hSt 0 rfl rfl rfl hl.1 rfl (Nat.le_of_ble_eq_true rfl) dX4_operate_86 ⟨Nat.le_of_ble_eq_true rfl, Nat.le_of_ble_eq_true rfl⟩ (fun H locs hP hD hS => ?_)
              show W p l e _ s m args below meth c H locs 0 0 Q (F0 m 89 ls [])
              refine lv_goto (tgt := 137) hx hb dX4_operate_89 (by decide) ?_
              have e9 := Eq.symm hu; subst e9
              exact x_vret hx hb hr hlocks hQ hK hP hD hS rfl dX4_operate_137
          · rw [if_pos c_145] at hs
            rw [if_pos c_145] at hu
            refine lv_aload_n hx hb dX4_operate_69 rfl (lv_at hl 0 rfl) ?_
            refine lv_iload_n hx hb dX4_operate_70 rfl (lv_at hl 2 rfl) ?_
            refine lv_iload_n hx hb dX4_operate_71 rfl (lv_at hl 3 rfl) ?_
            have h_167 := hs
            obtain ⟨u168, eu168⟩ : ∃ y9 : Int32 × Bool × Int64 × Int32 × Int32 × Int32 × Int32 × Bool × (Nat → Int32) × (Nat → Int32), y9 = F_X4_multiply vmo 0 vct vun vre vks vms vcs ves vdg vog p1 p2 := ⟨_, rfl⟩
            have hu := hu _ eu168
            refine x_V (As := [.int p1, .int p2]) (rest := []) hCF (c_X4_multiply l D cR cI cJ cZ t0 am ak an ac ae ag aq vth vmo vfg vtp vkd vng vcc vqq 0 vct vun vre vks vms vcs ves vdg vog p1 p2 u168 eu168 h_167) (x_cwV 2 hts (inW_11 _ (List.mem_of_getElem? (i := 21) rfl)) (inW_11 _ (List.mem_of_getElem? (i := 22) rfl)) (inW_11 _ (List.mem_of_getElem? (i := 23) rfl)) (inW_9 _ (List.mem_of_getElem? (i := 5) rfl)) (inW_10 _ (List.mem_of_getElem? (i := 39) rfl)) rfl rfl (by decide +kernel) ⟨Nat.le_of_ble_eq_true rfl, Nat.le_of_ble_eq_true rfl⟩) hK hP hD hS hA hSt 0 rfl rfl rfl hl.1 rfl (Nat.le_of_ble_eq_true rfl) dX4_operate_72 ⟨Nat.le_of_ble_eq_true rfl, Nat.le_of_ble_eq_true rfl⟩ (fun H locs hP hD hS => ?_)
            show W p l e _ s m args below meth c H locs 0 0 Q (F0 m 75 ls [])
            refine lv_goto (tgt := 137) hx hb dX4_operate_75 (by decide) ?_
            have e9 := Eq.symm hu; subst e9
            exact x_vret hx hb hr hlocks hQ hK hP hD hS rfl dX4_operate_137
        · rw [if_neg c_144] at hs
          rw [if_neg c_144] at hu
          refine lv_aload_n hx hb dX4_operate_45 rfl (lv_at hl 0 rfl) ?_
          refine lv_iload_n hx hb dX4_operate_46 rfl (lv_at hl 2 rfl) ?_
          refine lv_iload_n hx hb dX4_operate_47 rfl (lv_at hl 3 rfl) ?_
          refine lv_iload_n hx hb dX4_operate_48 rfl (lv_at hl 1 rfl) ?_
          refine lv_iconst (v := 1) hx hb dX4_operate_49 (by decide) ?_
          have J_173 : (∀ z172 : Bool, z172 = Z_X4_operate_J_137 p0 → ∀ (H : Heap) (locs : List Loc), va_P D vwCl (mw cI cJ cZ am ak an ac ae ag aq vth vmo vfg vtp vkd vng vcc vqq 0 vct vun vre vks vms vcs ves vdg vog) H → va_D A (mw cI cJ cZ am ak an ac ae ag aq vth vmo vfg vtp vkd vng vcc vqq 0 vct vun vre vks vms vcs ves vdg vog) → va_S A s.heap H locs → ∀ ls : Array Slot, lv_has ls 4 [] → W p l e rm_X4_operate s m args below meth c H locs 0 0 Q (F0 m 58 ls [.int (bI z172), .int p2, .int p1, .ref am])) := by
            intro z172 ez172 H locs hP hD hS ls hl
            have hs := hs _ ez172
            have hu := hu _ ez172
            have h_174 := hs
            obtain ⟨u175, eu175⟩ : ∃ y9 : Int32 × Bool × Int64 × Int32 × Int32 × Int32 × Int32 × Bool × (Nat → Int32) × (Nat → Int32), y9 = F_X4_add vmo 0 vct vun vre vks vms vcs ves vdg vog p1 p2 z172 := ⟨_, rfl⟩
            have hu := hu _ eu175
            refine x_V (As := [.int p1, .int p2, .int (bI z172)]) (rest := []) hCF (c_X4_add l D cR cI cJ cZ t0 am ak an ac ae ag aq vth vmo vfg vtp vkd vng vcc vqq 0 vct vun vre vks vms vcs ves vdg vog p1 p2 z172 u175 eu175 h_174) (x_cwV 3 hts (inW_11 _ (List.mem_of_getElem? (i := 18) rfl)) (inW_11 _ (List.mem_of_getElem? (i := 19) rfl)) (inW_11 _ (List.mem_of_getElem? (i := 20) rfl)) (inW_9 _ (List.mem_of_getElem? (i := 5) rfl)) (inW_10 _ (List.mem_of_getElem? (i := 17) rfl)) rfl rfl (by decide +kernel) ⟨Nat.le_of_ble_eq_true rfl, Nat.le_of_ble_eq_true rfl⟩) hK hP hD hS hA hSt 0 rfl rfl rfl hl.1 rfl (Nat.le_of_ble_eq_true rfl) dX4_operate_58 ⟨Nat.le_of_ble_eq_true rfl, Nat.le_of_ble_eq_true rfl⟩ (fun H locs hP hD hS => ?_)
            show W p l e _ s m args below meth c H locs 0 0 Q (F0 m 61 ls [])
            refine lv_goto (tgt := 137) hx hb dX4_operate_61 (by decide) ?_
            have e9 := Eq.symm hu; subst e9
            exact x_vret hx hb hr hlocks hQ hK hP hD hS rfl dX4_operate_137
          obtain ⟨z9, ez9⟩ : ∃ y9 : Bool, y9 = Z_X4_operate_J_137 p0 := ⟨_, rfl⟩
          have hz := rZ_X4_operate_J_137 p0 ez9
          unfold RZ_X4_operate_J_137 at hz
          refine lv_icmp_ne (tgt := 57) hx hb dX4_operate_50 (by decide) (fun c_170 => ?_) (fun c_170 => ?_)
          · rw [if_neg c_170] at hz
            refine lv_iconst (v := 0) hx hb dX4_operate_57 (by decide) ?_
            have e9 := Eq.symm hz; subst e9
            exact J_173 _ ez9 H locs hP hD hS ls (lv_sub hl [] rfl)
          · rw [if_pos c_170] at hz
            refine lv_iconst (v := 1) hx hb dX4_operate_53 (by decide) ?_
            refine lv_goto (tgt := 58) hx hb dX4_operate_54 (by decide) ?_
            have e9 := Eq.symm hz; subst e9
            exact J_173 _ ez9 H locs hP hD hS ls (lv_sub hl [] rfl)
      · rw [if_pos c_143] at hu
        refine lv_aload_n hx hb dX4_operate_29 rfl (lv_at hl 0 rfl) ?_
        refine lv_iconst (v := 2) hx hb dX4_operate_30 (by decide) ?_
        refine lv_iconst (v := 0) hx hb dX4_operate_31 (by decide) ?_
        refine lv_lconst (v := 0) hx hb dX4_operate_32 (by decide) ?_
        refine lv_iconst (v := 0) hx hb dX4_operate_33 (by decide) ?_
        obtain ⟨u177, eu177⟩ : ∃ y9 : Int32 × Bool × Int64 × Int32, y9 = F_X4_be (2 : Int32) false (0 : Int64) (0 : Int32) := ⟨_, rfl⟩
        have hu := hu _ eu177
        refine x_V (As := [.int 2, .int (bI false), .long 0, .int 0]) (rest := []) hCF (c_X4_be l D cR cI cJ cZ t0 am ak an ac ae ag aq vth vmo vfg vtp vkd vng vcc vqq 0 vct vun vre vks vms vcs ves vdg vog (2 : Int32) false (0 : Int64) (0 : Int32) u177 eu177) (x_cwV 4 hts (inW_9 _ (List.mem_of_getElem? (i := 18) rfl)) (inW_9 _ (List.mem_of_getElem? (i := 19) rfl)) (inW_9 _ (List.mem_of_getElem? (i := 20) rfl)) (inW_9 _ (List.mem_of_getElem? (i := 5) rfl)) (inW_9 _ (List.mem_of_getElem? (i := 11) rfl)) rfl rfl (by decide +kernel) ⟨Nat.le_of_ble_eq_true rfl, Nat.le_of_ble_eq_true rfl⟩) hK hP hD hS hA hSt 0 rfl rfl rfl hl.1 rfl (Nat.le_of_ble_eq_true rfl) dX4_operate_34 ⟨Nat.le_of_ble_eq_true rfl, Nat.le_of_ble_eq_true rfl⟩ (fun H locs hP hD hS => ?_)
        show W p l e _ s m args below meth c H locs 0 0 Q (F0 m 37 ls [])
        refine lv_goto (tgt := 137) hx hb dX4_operate_37 (by decide) ?_
        have e9 := Eq.symm hu; subst e9
        exact x_vret hx hb hr hlocks hQ hK hP hD hS rfl dX4_operate_137

def Z_X4_apply_J_111 (p0 : Int32) (p1 : Int32) (p2 : Int32) (p3 : Int32) : Int32 := (if F_X4_noRegister p1 = true then 1 else (if F_X4_noRegister p2 = true then 1 else (if F_X4_noRegister p3 = true then 1 else (if p0 < 0 then 2 else (if p0 ≤ 6 then 0 else 2)))))
def RZ_X4_apply_J_111 (p0 : Int32) (p1 : Int32) (p2 : Int32) (p3 : Int32) (u9 : Int32) : Prop := (if F_X4_noRegister p1 = true then u9 = 1 else (if F_X4_noRegister p2 = true then u9 = 1 else (if F_X4_noRegister p3 = true then u9 = 1 else (if p0 < 0 then u9 = 2 else (if p0 ≤ 6 then u9 = 0 else u9 = 2)))))
theorem rZ_X4_apply_J_111 (p0 : Int32) (p1 : Int32) (p2 : Int32) (p3 : Int32) {u9 : Int32} (hu : u9 = Z_X4_apply_J_111 p0 p1 p2 p3) : RZ_X4_apply_J_111 p0 p1 p2 p3 u9 := by
  unfold RZ_X4_apply_J_111
  refine ite_P (fun c_102 => ?_) (fun c_102 => ?_)
  · have hu := hu.trans (if_pos c_102)
    exact hu
  · have hu := hu.trans (if_neg c_102)
    refine ite_P (fun c_104 => ?_) (fun c_104 => ?_)
    · have hu := hu.trans (if_pos c_104)
      exact hu
    · have hu := hu.trans (if_neg c_104)
      refine ite_P (fun c_106 => ?_) (fun c_106 => ?_)
      · have hu := hu.trans (if_pos c_106)
        exact hu
      · have hu := hu.trans (if_neg c_106)
        refine ite_P (fun c_107 => ?_) (fun c_107 => ?_)
        · have hu := hu.trans (if_pos c_107)
          exact hu
        · have hu := hu.trans (if_neg c_107)
          refine ite_P (fun c_108 => ?_) (fun c_108 => ?_)
          · have hu := hu.trans (if_pos c_108)
            exact hu
          · have hu := hu.trans (if_neg c_108)
            exact hu
def F_X4_apply (vmo : Int32) (vfg : Int32) (vtp : Int32) (vkd : Int32) (vng : Bool) (vcc : Int64) (vqq : Int32) (vrs : Int32) (vct : Int32) (vun : Int32) (vre : Bool) (vks : Nat → Int32) (vms : Nat → Bool) (vcs : Nat → Int64) (ves : Nat → Int32) (vdg : Nat → Int32) (vog : Nat → Int32) (p0 : Int32) (p1 : Int32) (p2 : Int32) (p3 : Int32) : Int32 × Int32 × Int32 × Bool × Int64 × Int32 × Int32 × Int32 × Int32 × Bool × (Nat → Int32) × (Nat → Bool) × (Nat → Int64) × (Nat → Int32) × (Nat → Int32) × (Nat → Int32) := (bnd (Z_X4_apply_J_111 p0 p1 p2 p3) (fun z110 : Int32 => (if z110 = 0 then (bnd (F_X4_operate vmo vct vun vre vks vms vcs ves vdg vog p0 p2 p3) (fun u115 : Int32 × Bool × Int64 × Int32 × Int32 × Int32 × Int32 × Bool × (Nat → Int32) × (Nat → Int32) => (bnd (vfg ||| u115.2.2.2.2.1) (fun f117 : Int32 => (if u115.2.2.2.2.1 &&& vtp = 0 then (bnd (F_X4_store u115.1 u115.2.1 u115.2.2.1 u115.2.2.2.1 vks vms vcs ves p1) (fun u121 : (Nat → Int32) × (Nat → Bool) × (Nat → Int64) × (Nat → Int32) => (z110, f117, u115.1, u115.2.1, u115.2.2.1, u115.2.2.2.1, u115.2.2.2.2.1, u115.2.2.2.2.2.1, u115.2.2.2.2.2.2.1, u115.2.2.2.2.2.2.2.1, u121.1, u121.2.1, u121.2.2.1, u121.2.2.2, u115.2.2.2.2.2.2.2.2.1, u115.2.2.2.2.2.2.2.2.2))) else (3, f117, u115.1, u115.2.1, u115.2.2.1, u115.2.2.2.1, u115.2.2.2.2.1, u115.2.2.2.2.2.1, u115.2.2.2.2.2.2.1, u115.2.2.2.2.2.2.2.1, vks, vms, vcs, ves, u115.2.2.2.2.2.2.2.2.1, u115.2.2.2.2.2.2.2.2.2)))))) else (z110, vfg, vkd, vng, vcc, vqq, vrs, vct, vun, vre, vks, vms, vcs, ves, vdg, vog))))
def RF_X4_apply (vmo : Int32) (vfg : Int32) (vtp : Int32) (vkd : Int32) (vng : Bool) (vcc : Int64) (vqq : Int32) (vrs : Int32) (vct : Int32) (vun : Int32) (vre : Bool) (vks : Nat → Int32) (vms : Nat → Bool) (vcs : Nat → Int64) (ves : Nat → Int32) (vdg : Nat → Int32) (vog : Nat → Int32) (p0 : Int32) (p1 : Int32) (p2 : Int32) (p3 : Int32) (u9 : Int32 × Int32 × Int32 × Bool × Int64 × Int32 × Int32 × Int32 × Int32 × Bool × (Nat → Int32) × (Nat → Bool) × (Nat → Int64) × (Nat → Int32) × (Nat → Int32) × (Nat → Int32)) : Prop := (∀ z110 : Int32, z110 = Z_X4_apply_J_111 p0 p1 p2 p3 → (if z110 = 0 then (∀ u115 : Int32 × Bool × Int64 × Int32 × Int32 × Int32 × Int32 × Bool × (Nat → Int32) × (Nat → Int32), u115 = F_X4_operate vmo vct vun vre vks vms vcs ves vdg vog p0 p2 p3 → (∀ f117 : Int32, f117 = vfg ||| u115.2.2.2.2.1 → (if u115.2.2.2.2.1 &&& vtp = 0 then (∀ u121 : (Nat → Int32) × (Nat → Bool) × (Nat → Int64) × (Nat → Int32), u121 = F_X4_store u115.1 u115.2.1 u115.2.2.1 u115.2.2.2.1 vks vms vcs ves p1 → u9 = (z110, f117, u115.1, u115.2.1, u115.2.2.1, u115.2.2.2.1, u115.2.2.2.2.1, u115.2.2.2.2.2.1, u115.2.2.2.2.2.2.1, u115.2.2.2.2.2.2.2.1, u121.1, u121.2.1, u121.2.2.1, u121.2.2.2, u115.2.2.2.2.2.2.2.2.1, u115.2.2.2.2.2.2.2.2.2)) else u9 = (3, f117, u115.1, u115.2.1, u115.2.2.1, u115.2.2.2.1, u115.2.2.2.2.1, u115.2.2.2.2.2.1, u115.2.2.2.2.2.2.1, u115.2.2.2.2.2.2.2.1, vks, vms, vcs, ves, u115.2.2.2.2.2.2.2.2.1, u115.2.2.2.2.2.2.2.2.2)))) else u9 = (z110, vfg, vkd, vng, vcc, vqq, vrs, vct, vun, vre, vks, vms, vcs, ves, vdg, vog)))
theorem rF_X4_apply (vmo : Int32) (vfg : Int32) (vtp : Int32) (vkd : Int32) (vng : Bool) (vcc : Int64) (vqq : Int32) (vrs : Int32) (vct : Int32) (vun : Int32) (vre : Bool) (vks : Nat → Int32) (vms : Nat → Bool) (vcs : Nat → Int64) (ves : Nat → Int32) (vdg : Nat → Int32) (vog : Nat → Int32) (p0 : Int32) (p1 : Int32) (p2 : Int32) (p3 : Int32) {u9 : Int32 × Int32 × Int32 × Bool × Int64 × Int32 × Int32 × Int32 × Int32 × Bool × (Nat → Int32) × (Nat → Bool) × (Nat → Int64) × (Nat → Int32) × (Nat → Int32) × (Nat → Int32)} (hu : u9 = F_X4_apply vmo vfg vtp vkd vng vcc vqq vrs vct vun vre vks vms vcs ves vdg vog p0 p1 p2 p3) : RF_X4_apply vmo vfg vtp vkd vng vcc vqq vrs vct vun vre vks vms vcs ves vdg vog p0 p1 p2 p3 u9 := by
  unfold RF_X4_apply
  intro z110 ez110
  have hu := bnd_n hu ez110
  refine ite_P (fun c_113 => ?_) (fun c_113 => ?_)
  · have hu := hu.trans (if_pos c_113)
    intro u115 eu115
    have hu := bnd_n hu eu115
    intro f117 ef117
    have hu := bnd_n hu ef117
    refine ite_P (fun c_119 => ?_) (fun c_119 => ?_)
    · have hu := hu.trans (if_pos c_119)
      intro u121 eu121
      have hu := bnd_n hu eu121
      exact hu
    · have hu := hu.trans (if_neg c_119)
      exact hu
  · have hu := hu.trans (if_neg c_113)
    exact hu
def S_X4_apply (vmo : Int32) (vfg : Int32) (vtp : Int32) (vkd : Int32) (vng : Bool) (vcc : Int64) (vqq : Int32) (vrs : Int32) (vct : Int32) (vun : Int32) (vre : Bool) (vks : Nat → Int32) (vms : Nat → Bool) (vcs : Nat → Int64) (ves : Nat → Int32) (vdg : Nat → Int32) (vog : Nat → Int32) (p0 : Int32) (p1 : Int32) (p2 : Int32) (p3 : Int32) : Prop := (∀ z110 : Int32, z110 = Z_X4_apply_J_111 p0 p1 p2 p3 → (if z110 = 0 then (S_X4_operate vmo vct vun vre vks vms vcs ves vdg vog p0 p2 p3) ∧ (∀ u115 : Int32 × Bool × Int64 × Int32 × Int32 × Int32 × Int32 × Bool × (Nat → Int32) × (Nat → Int32), u115 = F_X4_operate vmo vct vun vre vks vms vcs ves vdg vog p0 p2 p3 → (∀ f117 : Int32, f117 = vfg ||| u115.2.2.2.2.1 → (if u115.2.2.2.2.1 &&& vtp = 0 then S_X4_store u115.1 u115.2.1 u115.2.2.1 u115.2.2.2.1 vks vms vcs ves p1 else True))) else True))
def rm_X4_apply : Room := { frames := 5, cells := 0, slots := 0, locals := 138 }
set_option maxHeartbeats 4000000 in
set_option maxRecDepth 100000 in
theorem c_X4_apply (l : Launch) (D : va_G) (cR cI cJ cZ : ClassId) (t0 : Nat) (am ak an ac ae ag aq : Nat) (vth : Int32) (vmo : Int32) (vfg : Int32) (vtp : Int32) (vkd : Int32) (vng : Bool) (vcc : Int64) (vqq : Int32) (vrs : Int32) (vct : Int32) (vun : Int32) (vre : Bool) (vks : Nat → Int32) (vms : Nat → Bool) (vcs : Nat → Int64) (ves : Nat → Int32) (vdg : Nat → Int32) (vog : Nat → Int32) (p0 : Int32) (p1 : Int32) (p2 : Int32) (p3 : Int32) (u : Int32 × Int32 × Int32 × Bool × Int64 × Int32 × Int32 × Int32 × Int32 × Bool × (Nat → Int32) × (Nat → Bool) × (Nat → Int64) × (Nat → Int32) × (Nat → Int32) × (Nat → Int32)) (hu : u = F_X4_apply vmo vfg vtp vkd vng vcc vqq vrs vct vun vre vks vms vcs ves vdg vog p0 p1 p2 p3) (hs : S_X4_apply vmo vfg vtp vkd vng vcc vqq vrs vct vun vre vks vms vcs ves vdg vog p0 p1 p2 p3) : XM l D (xty cR cI cJ cZ) t0 yX4_apply cX4_apply 5 none rm_X4_apply [.ref am, .int p0, .int p1, .int p2, .int p3] none (mw cI cJ cZ am ak an ac ae ag aq vth vmo vfg vtp vkd vng vcc vqq vrs vct vun vre vks vms vcs ves vdg vog) (mw cI cJ cZ am ak an ac ae ag aq u.1 vmo u.2.1 vtp u.2.2.1 u.2.2.2.1 u.2.2.2.2.1 u.2.2.2.2.2.1 u.2.2.2.2.2.2.1 u.2.2.2.2.2.2.2.1 u.2.2.2.2.2.2.2.2.1 u.2.2.2.2.2.2.2.2.2.1 u.2.2.2.2.2.2.2.2.2.2.1 u.2.2.2.2.2.2.2.2.2.2.2.1 u.2.2.2.2.2.2.2.2.2.2.2.2.1 u.2.2.2.2.2.2.2.2.2.2.2.2.2.1 u.2.2.2.2.2.2.2.2.2.2.2.2.2.2.1 u.2.2.2.2.2.2.2.2.2.2.2.2.2.2.2) := by
  refine XM.of (by decide) (Nat.le_of_ble_eq_true rfl) ?_
  intro p e s m args below meth c A Q F hK hP hD hA hSt hS hQ ls hl
  obtain ⟨hx, hb, hr, hts, hown, hlocks, hml⟩ := F
  have hCF : CallFix p m c cX4_apply 5 s args gW RX4 := ⟨hx, hb, hml, hown, hts⟩
  unfold S_X4_apply at hs
  have hu := rF_X4_apply vmo vfg vtp vkd vng vcc vqq vrs vct vun vre vks vms vcs ves vdg vog p0 p1 p2 p3 hu
  unfold RF_X4_apply at hu
  obtain ⟨H, eH⟩ : ∃ y9 : Heap, y9 = s.heap := ⟨_, rfl⟩
  obtain ⟨locs, eL⟩ : ∃ y9 : List Loc, y9 = [] := ⟨_, rfl⟩
  rw [← eL] at hS ⊢
  have hP : va_P D vwCl (mw cI cJ cZ am ak an ac ae ag aq vth vmo vfg vtp vkd vng vcc vqq vrs vct vun vre vks vms vcs ves vdg vog) H := by rw [eH]; exact hP
  have hS : va_S A s.heap H locs := by rw [eH]; exact hS
  suffices goal9 : W p l e rm_X4_apply s m args below meth c H locs 0 0 Q (F0 m 0 ls []) from by rw [← eH]; exact goal9
  have hl : lv_has ls 5 [(0, .ref am), (1, .int p0), (2, .int p1), (3, .int p2), (4, .int p3)] := hl
  have hi4 : ∀ w ∈ wsX40, w ∈ gW := inW_X4
  refine lv_aload_n hx hb dX4_apply_0 rfl (lv_at hl 0 rfl) ?_
  refine lv_aload_n hx hb dX4_apply_1 rfl (lv_at hl 0 rfl) ?_
  refine lv_iload_n hx hb dX4_apply_2 rfl (lv_at hl 2 rfl) ?_
  refine x_V (As := [.int p1]) (rest := [.ref am]) hCF (c_X4_noRegister l D cR cI cJ cZ t0 am ak an ac ae ag aq vth vmo vfg vtp vkd vng vcc vqq vrs vct vun vre vks vms vcs ves vdg vog p1 _ rfl) (x_cwV 1 hts (inW_12 _ (List.mem_of_getElem? (i := 4) rfl)) (inW_12 _ (List.mem_of_getElem? (i := 5) rfl)) (inW_12 _ (List.mem_of_getElem? (i := 6) rfl)) (inW_9 _ (List.mem_of_getElem? (i := 5) rfl)) (inW_11 _ (List.mem_of_getElem? (i := 39) rfl)) rfl rfl (by decide +kernel) ⟨Nat.le_of_ble_eq_true rfl, Nat.le_of_ble_eq_true rfl⟩) hK hP hD hS hA hSt 0 rfl rfl rfl hl.1 rfl (Nat.le_of_ble_eq_true rfl) dX4_apply_3 ⟨Nat.le_of_ble_eq_true rfl, Nat.le_of_ble_eq_true rfl⟩ (fun H locs hP hD hS => ?_)
  show W p l e _ s m args below meth c H locs 0 0 Q (F0 m 6 ls (.int (bI (F_X4_noRegister p1)) :: [.ref am]))
  have J_111 : (∀ z110 : Int32, z110 = Z_X4_apply_J_111 p0 p1 p2 p3 → ∀ (H : Heap) (locs : List Loc), va_P D vwCl (mw cI cJ cZ am ak an ac ae ag aq vth vmo vfg vtp vkd vng vcc vqq vrs vct vun vre vks vms vcs ves vdg vog) H → va_D A (mw cI cJ cZ am ak an ac ae ag aq vth vmo vfg vtp vkd vng vcc vqq vrs vct vun vre vks vms vcs ves vdg vog) → va_S A s.heap H locs → ∀ ls : Array Slot, lv_has ls 5 [(0, .ref am), (1, .int p0), (2, .int p1), (3, .int p2), (4, .int p3)] → W p l e rm_X4_apply s m args below meth c H locs 0 0 Q (F0 m 45 ls [.int z110, .ref am])) := by
    intro z110 ez110 H locs hP hD hS ls hl
    have hs := hs _ ez110
    have hu := hu _ ez110
    refine va_put (D := D) (ci := 5) (v := .int z110) (ty := .int) (C := RX4) (T := TX4) (N := 18) hx hb hts hi4 tyX4 tyX4_ok nmX4 hown hK hP hD hS 0 rfl rfl 0 (by decide) (hts (.fieldLink RX4 30 "DecimalWordsModel" "thrown" "I") (inW_8 _ (List.mem_of_getElem? (i := 38) rfl))) (fun _ h9 => h9) rfl (by decide +kernel) rfl rfl (Nat.le_of_ble_eq_true rfl) dX4_apply_45 (fun H locs hP hD hS => ?_)
    have hP : va_P D vwCl (mw cI cJ cZ am ak an ac ae ag aq z110 vmo vfg vtp vkd vng vcc vqq vrs vct vun vre vks vms vcs ves vdg vog) H := hP
    have hD : va_D A (mw cI cJ cZ am ak an ac ae ag aq z110 vmo vfg vtp vkd vng vcc vqq vrs vct vun vre vks vms vcs ves vdg vog) := hD
    refine lv_aload_n hx hb dX4_apply_48 rfl (lv_at hl 0 rfl) ?_
    refine va_get (D := D) (ci := 5) (v := .int z110) (C := RX4) (T := TX4) (N := 18) hx hb hts hi4 hown hK hP 0 rfl rfl 0 (by decide) (hts (.fieldLink RX4 30 "DecimalWordsModel" "thrown" "I") (inW_8 _ (List.mem_of_getElem? (i := 38) rfl))) (fun _ h9 => h9) rfl dX4_apply_49 ?_
    refine lv_if_eq (tgt := 56) hx hb dX4_apply_52 (by decide) (fun c_113 => ?_) (fun c_113 => ?_)
    · rw [if_pos c_113] at hs
      rw [if_pos c_113] at hu
      refine lv_aload_n hx hb dX4_apply_56 rfl (lv_at hl 0 rfl) ?_
      refine lv_iload_n hx hb dX4_apply_57 rfl (lv_at hl 1 rfl) ?_
      refine lv_iload_n hx hb dX4_apply_58 rfl (lv_at hl 3 rfl) ?_
      refine lv_iload hx hb dX4_apply_59 (lv_at hl 4 rfl) ?_
      obtain ⟨h_114, hs⟩ := hs
      obtain ⟨u115, eu115⟩ : ∃ y9 : Int32 × Bool × Int64 × Int32 × Int32 × Int32 × Int32 × Bool × (Nat → Int32) × (Nat → Int32), y9 = F_X4_operate vmo vct vun vre vks vms vcs ves vdg vog p0 p2 p3 := ⟨_, rfl⟩
      have hs := hs _ eu115
      have hu := hu _ eu115
      refine x_V (As := [.int p0, .int p2, .int p3]) (rest := []) hCF (c_X4_operate l D cR cI cJ cZ t0 am ak an ac ae ag aq z110 vmo vfg vtp vkd vng vcc vqq vrs vct vun vre vks vms vcs ves vdg vog p0 p2 p3 u115 eu115 h_114) (x_cwV 3 hts (inW_12 _ (List.mem_of_getElem? (i := 7) rfl)) (inW_12 _ (List.mem_of_getElem? (i := 8) rfl)) (inW_12 _ (List.mem_of_getElem? (i := 9) rfl)) (inW_9 _ (List.mem_of_getElem? (i := 5) rfl)) (inW_11 _ (List.mem_of_getElem? (i := 17) rfl)) rfl rfl (by decide +kernel) ⟨Nat.le_of_ble_eq_true rfl, Nat.le_of_ble_eq_true rfl⟩) hK hP hD hS hA hSt 0 rfl rfl rfl hl.1 rfl (Nat.le_of_ble_eq_true rfl) dX4_apply_61 ⟨Nat.le_of_ble_eq_true rfl, Nat.le_of_ble_eq_true rfl⟩ (fun H locs hP hD hS => ?_)
      show W p l e _ s m args below meth c H locs 0 0 Q (F0 m 64 ls [])
      refine lv_aload_n hx hb dX4_apply_64 rfl (lv_at hl 0 rfl) ?_
      refine lv_aload_n hx hb dX4_apply_65 rfl (lv_at hl 0 rfl) ?_
      refine va_get (D := D) (ci := 5) (v := .int vfg) (C := RX4) (T := TX4) (N := 18) hx hb hts hi4 hown hK hP 0 rfl rfl 6 (by decide) (hts (.fieldLink RX4 175 "DecimalWordsModel" "flags" "I") (inW_12 _ (List.mem_of_getElem? (i := 2) rfl))) (fun _ h9 => h9) rfl dX4_apply_66 ?_
      refine lv_aload_n hx hb dX4_apply_69 rfl (lv_at hl 0 rfl) ?_
      refine va_get (D := D) (ci := 5) (v := .int u115.2.2.2.2.1) (C := RX4) (T := TX4) (N := 18) hx hb hts hi4 hown hK hP 0 rfl rfl 12 (by decide) (hts (.fieldLink RX4 56 "DecimalWordsModel" "raised" "I") (inW_9 _ (List.mem_of_getElem? (i := 17) rfl))) (fun _ h9 => h9) rfl dX4_apply_70 ?_
      refine lv_ior hx hb dX4_apply_73 ?_
      refine lv_topi (fun f117 ef117 => ?_)
      have hs := hs _ ef117
      have hu := hu _ ef117
      refine va_put (D := D) (ci := 5) (v := .int f117) (ty := .int) (C := RX4) (T := TX4) (N := 18) hx hb hts hi4 tyX4 tyX4_ok nmX4 hown hK hP hD hS 0 rfl rfl 6 (by decide) (hts (.fieldLink RX4 175 "DecimalWordsModel" "flags" "I") (inW_12 _ (List.mem_of_getElem? (i := 2) rfl))) (fun _ h9 => h9) rfl (by decide +kernel) rfl rfl (Nat.le_of_ble_eq_true rfl) dX4_apply_74 (fun H locs hP hD hS => ?_)
      have hP : va_P D vwCl (mw cI cJ cZ am ak an ac ae ag aq z110 vmo f117 vtp u115.1 u115.2.1 u115.2.2.1 u115.2.2.2.1 u115.2.2.2.2.1 u115.2.2.2.2.2.1 u115.2.2.2.2.2.2.1 u115.2.2.2.2.2.2.2.1 vks vms vcs ves u115.2.2.2.2.2.2.2.2.1 u115.2.2.2.2.2.2.2.2.2) H := hP
      have hD : va_D A (mw cI cJ cZ am ak an ac ae ag aq z110 vmo f117 vtp u115.1 u115.2.1 u115.2.2.1 u115.2.2.2.1 u115.2.2.2.2.1 u115.2.2.2.2.2.1 u115.2.2.2.2.2.2.1 u115.2.2.2.2.2.2.2.1 vks vms vcs ves u115.2.2.2.2.2.2.2.2.1 u115.2.2.2.2.2.2.2.2.2) := hD
      refine lv_aload_n hx hb dX4_apply_77 rfl (lv_at hl 0 rfl) ?_
      refine va_get (D := D) (ci := 5) (v := .int u115.2.2.2.2.1) (C := RX4) (T := TX4) (N := 18) hx hb hts hi4 hown hK hP 0 rfl rfl 12 (by decide) (hts (.fieldLink RX4 56 "DecimalWordsModel" "raised" "I") (inW_9 _ (List.mem_of_getElem? (i := 17) rfl))) (fun _ h9 => h9) rfl dX4_apply_78 ?_
      refine lv_aload_n hx hb dX4_apply_81 rfl (lv_at hl 0 rfl) ?_
      refine va_get (D := D) (ci := 5) (v := .int vtp) (C := RX4) (T := TX4) (N := 18) hx hb hts hi4 hown hK hP 0 rfl rfl 7 (by decide) (hts (.fieldLink RX4 178 "DecimalWordsModel" "traps" "I") (inW_12 _ (List.mem_of_getElem? (i := 3) rfl))) (fun _ h9 => h9) rfl dX4_apply_82 ?_
      refine lv_iand hx hb dX4_apply_85 ?_
      refine lv_if_eq (tgt := 97) hx hb dX4_apply_86 (by decide) (fun c_119 => ?_) (fun c_119 => ?_)
      · rw [if_pos c_119] at hs
        rw [if_pos c_119] at hu
        refine lv_aload_n hx hb dX4_apply_97 rfl (lv_at hl 0 rfl) ?_
        refine lv_iload_n hx hb dX4_apply_98 rfl (lv_at hl 2 rfl) ?_
        have h_120 := hs
        obtain ⟨u121, eu121⟩ : ∃ y9 : (Nat → Int32) × (Nat → Bool) × (Nat → Int64) × (Nat → Int32), y9 = F_X4_store u115.1 u115.2.1 u115.2.2.1 u115.2.2.2.1 vks vms vcs ves p1 := ⟨_, rfl⟩
        have hu := hu _ eu121
        refine x_V (As := [.int p1]) (rest := []) hCF (c_X4_store l D cR cI cJ cZ t0 am ak an ac ae ag aq z110 vmo f117 vtp u115.1 u115.2.1 u115.2.2.1 u115.2.2.2.1 u115.2.2.2.2.1 u115.2.2.2.2.2.1 u115.2.2.2.2.2.2.1 u115.2.2.2.2.2.2.2.1 vks vms vcs ves u115.2.2.2.2.2.2.2.2.1 u115.2.2.2.2.2.2.2.2.2 p1 u121 eu121 h_120) (x_cwV 1 hts (inW_12 _ (List.mem_of_getElem? (i := 10) rfl)) (inW_12 _ (List.mem_of_getElem? (i := 11) rfl)) (inW_12 _ (List.mem_of_getElem? (i := 12) rfl)) (inW_9 _ (List.mem_of_getElem? (i := 5) rfl)) (inW_12 _ (List.mem_of_getElem? (i := 0) rfl)) rfl rfl (by decide +kernel) ⟨Nat.le_of_ble_eq_true rfl, Nat.le_of_ble_eq_true rfl⟩) hK hP hD hS hA hSt 0 rfl rfl rfl hl.1 rfl (Nat.le_of_ble_eq_true rfl) dX4_apply_99 ⟨Nat.le_of_ble_eq_true rfl, Nat.le_of_ble_eq_true rfl⟩ (fun H locs hP hD hS => ?_)
        show W p l e _ s m args below meth c H locs 0 0 Q (F0 m 102 ls [])
        have e9 := Eq.symm hu; subst e9
        exact x_vret hx hb hr hlocks hQ hK hP hD hS rfl dX4_apply_102
      · rw [if_neg c_119] at hu
        refine lv_aload_n hx hb dX4_apply_89 rfl (lv_at hl 0 rfl) ?_
        refine lv_iconst (v := 3) hx hb dX4_apply_90 (by decide) ?_
        refine va_put (D := D) (ci := 5) (v := .int 3) (ty := .int) (C := RX4) (T := TX4) (N := 18) hx hb hts hi4 tyX4 tyX4_ok nmX4 hown hK hP hD hS 0 rfl rfl 0 (by decide) (hts (.fieldLink RX4 30 "DecimalWordsModel" "thrown" "I") (inW_8 _ (List.mem_of_getElem? (i := 38) rfl))) (fun _ h9 => h9) rfl (by decide +kernel) rfl rfl (Nat.le_of_ble_eq_true rfl) dX4_apply_91 (fun H locs hP hD hS => ?_)
        have hP : va_P D vwCl (mw cI cJ cZ am ak an ac ae ag aq 3 vmo f117 vtp u115.1 u115.2.1 u115.2.2.1 u115.2.2.2.1 u115.2.2.2.2.1 u115.2.2.2.2.2.1 u115.2.2.2.2.2.2.1 u115.2.2.2.2.2.2.2.1 vks vms vcs ves u115.2.2.2.2.2.2.2.2.1 u115.2.2.2.2.2.2.2.2.2) H := hP
        have hD : va_D A (mw cI cJ cZ am ak an ac ae ag aq 3 vmo f117 vtp u115.1 u115.2.1 u115.2.2.1 u115.2.2.2.1 u115.2.2.2.2.1 u115.2.2.2.2.2.1 u115.2.2.2.2.2.2.1 u115.2.2.2.2.2.2.2.1 vks vms vcs ves u115.2.2.2.2.2.2.2.2.1 u115.2.2.2.2.2.2.2.2.2) := hD
        refine lv_goto (tgt := 102) hx hb dX4_apply_94 (by decide) ?_
        have e9 := Eq.symm hu; subst e9
        exact x_vret hx hb hr hlocks hQ hK hP hD hS rfl dX4_apply_102
    · rw [if_neg c_113] at hu
      have e9 := Eq.symm hu; subst e9
      exact x_vret hx hb hr hlocks hQ hK hP hD hS rfl dX4_apply_55
  obtain ⟨z9, ez9⟩ : ∃ y9 : Int32, y9 = Z_X4_apply_J_111 p0 p1 p2 p3 := ⟨_, rfl⟩
  have hz := rZ_X4_apply_J_111 p0 p1 p2 p3 ez9
  unfold RZ_X4_apply_J_111 at hz
  refine xb_ne (tgt := 26) hx hb dX4_apply_6 (by decide) (fun c_102 => ?_) (fun c_102 => ?_)
  · rw [if_pos c_102] at hz
    refine lv_iconst (v := 1) hx hb dX4_apply_26 (by decide) ?_
    refine lv_goto (tgt := 45) hx hb dX4_apply_27 (by decide) ?_
    have e9 := Eq.symm hz; subst e9
    exact J_111 _ ez9 H locs hP hD hS ls (lv_sub hl [0, 1, 2, 3, 4] rfl)
  · rw [if_neg c_102] at hz
    refine lv_aload_n hx hb dX4_apply_9 rfl (lv_at hl 0 rfl) ?_
    refine lv_iload_n hx hb dX4_apply_10 rfl (lv_at hl 3 rfl) ?_
    refine x_V (As := [.int p2]) (rest := [.ref am]) hCF (c_X4_noRegister l D cR cI cJ cZ t0 am ak an ac ae ag aq vth vmo vfg vtp vkd vng vcc vqq vrs vct vun vre vks vms vcs ves vdg vog p2 _ rfl) (x_cwV 1 hts (inW_12 _ (List.mem_of_getElem? (i := 4) rfl)) (inW_12 _ (List.mem_of_getElem? (i := 5) rfl)) (inW_12 _ (List.mem_of_getElem? (i := 6) rfl)) (inW_9 _ (List.mem_of_getElem? (i := 5) rfl)) (inW_11 _ (List.mem_of_getElem? (i := 39) rfl)) rfl rfl (by decide +kernel) ⟨Nat.le_of_ble_eq_true rfl, Nat.le_of_ble_eq_true rfl⟩) hK hP hD hS hA hSt 0 rfl rfl rfl hl.1 rfl (Nat.le_of_ble_eq_true rfl) dX4_apply_11 ⟨Nat.le_of_ble_eq_true rfl, Nat.le_of_ble_eq_true rfl⟩ (fun H locs hP hD hS => ?_)
    show W p l e _ s m args below meth c H locs 0 0 Q (F0 m 14 ls (.int (bI (F_X4_noRegister p2)) :: [.ref am]))
    refine xb_ne (tgt := 26) hx hb dX4_apply_14 (by decide) (fun c_104 => ?_) (fun c_104 => ?_)
    · rw [if_pos c_104] at hz
      refine lv_iconst (v := 1) hx hb dX4_apply_26 (by decide) ?_
      refine lv_goto (tgt := 45) hx hb dX4_apply_27 (by decide) ?_
      have e9 := Eq.symm hz; subst e9
      exact J_111 _ ez9 H locs hP hD hS ls (lv_sub hl [0, 1, 2, 3, 4] rfl)
    · rw [if_neg c_104] at hz
      refine lv_aload_n hx hb dX4_apply_17 rfl (lv_at hl 0 rfl) ?_
      refine lv_iload hx hb dX4_apply_18 (lv_at hl 4 rfl) ?_
      refine x_V (As := [.int p3]) (rest := [.ref am]) hCF (c_X4_noRegister l D cR cI cJ cZ t0 am ak an ac ae ag aq vth vmo vfg vtp vkd vng vcc vqq vrs vct vun vre vks vms vcs ves vdg vog p3 _ rfl) (x_cwV 1 hts (inW_12 _ (List.mem_of_getElem? (i := 4) rfl)) (inW_12 _ (List.mem_of_getElem? (i := 5) rfl)) (inW_12 _ (List.mem_of_getElem? (i := 6) rfl)) (inW_9 _ (List.mem_of_getElem? (i := 5) rfl)) (inW_11 _ (List.mem_of_getElem? (i := 39) rfl)) rfl rfl (by decide +kernel) ⟨Nat.le_of_ble_eq_true rfl, Nat.le_of_ble_eq_true rfl⟩) hK hP hD hS hA hSt 0 rfl rfl rfl hl.1 rfl (Nat.le_of_ble_eq_true rfl) dX4_apply_20 ⟨Nat.le_of_ble_eq_true rfl, Nat.le_of_ble_eq_true rfl⟩ (fun H locs hP hD hS => ?_)
      show W p l e _ s m args below meth c H locs 0 0 Q (F0 m 23 ls (.int (bI (F_X4_noRegister p3)) :: [.ref am]))
      refine xb_eq (tgt := 30) hx hb dX4_apply_23 (by decide) (fun c_106 => ?_) (fun c_106 => ?_)
      · rw [if_neg c_106] at hz
        refine lv_iload_n hx hb dX4_apply_30 rfl (lv_at hl 1 rfl) ?_
        refine lv_if_lt (tgt := 40) hx hb dX4_apply_31 (by decide) (fun c_107 => ?_) (fun c_107 => ?_)
        · rw [if_pos c_107] at hz
          refine lv_iconst (v := 2) hx hb dX4_apply_40 (by decide) ?_
          refine lv_goto (tgt := 45) hx hb dX4_apply_41 (by decide) ?_
          have e9 := Eq.symm hz; subst e9
          exact J_111 _ ez9 H locs hP hD hS ls (lv_sub hl [0, 1, 2, 3, 4] rfl)
        · rw [if_neg c_107] at hz
          refine lv_iload_n hx hb dX4_apply_34 rfl (lv_at hl 1 rfl) ?_
          refine lv_bipush (v := 6) hx hb dX4_apply_35 (by decide) ?_
          refine lv_icmp_le (tgt := 44) hx hb dX4_apply_37 (by decide) (fun c_108 => ?_) (fun c_108 => ?_)
          · rw [if_pos c_108] at hz
            refine lv_iconst (v := 0) hx hb dX4_apply_44 (by decide) ?_
            have e9 := Eq.symm hz; subst e9
            exact J_111 _ ez9 H locs hP hD hS ls (lv_sub hl [0, 1, 2, 3, 4] rfl)
          · rw [if_neg c_108] at hz
            refine lv_iconst (v := 2) hx hb dX4_apply_40 (by decide) ?_
            refine lv_goto (tgt := 45) hx hb dX4_apply_41 (by decide) ?_
            have e9 := Eq.symm hz; subst e9
            exact J_111 _ ez9 H locs hP hD hS ls (lv_sub hl [0, 1, 2, 3, 4] rfl)
      · rw [if_pos c_106] at hz
        refine lv_iconst (v := 1) hx hb dX4_apply_26 (by decide) ?_
        refine lv_goto (tgt := 45) hx hb dX4_apply_27 (by decide) ?_
        have e9 := Eq.symm hz; subst e9
        exact J_111 _ ez9 H locs hP hD hS ls (lv_sub hl [0, 1, 2, 3, 4] rfl)

def Z_X4_sum_J_125 (vtp : Int32) (p0 : Int32) (t_39 : Int32 × Int32 × Int32 × Int32 × Bool × Int64 × Int32 × Int32 × Int32 × Int32 × Bool × (Nat → Int32) × (Nat → Bool) × (Nat → Int64) × (Nat → Int32) × (Nat → Int32) × (Nat → Int32)) (u114 : Int32 × Bool × Int64 × Int32 × Int32 × Int32 × Int32 × Bool × (Nat → Int32) × (Nat → Int32)) : Int32 × (Nat → Int32) × (Nat → Bool) × (Nat → Int64) × (Nat → Int32) := (if u114.2.2.2.2.1 &&& vtp = 0 then (bnd (F_X4_store u114.1 u114.2.1 u114.2.2.1 u114.2.2.2.1 t_39.2.2.2.2.2.2.2.2.2.2.2.1 t_39.2.2.2.2.2.2.2.2.2.2.2.2.1 t_39.2.2.2.2.2.2.2.2.2.2.2.2.2.1 t_39.2.2.2.2.2.2.2.2.2.2.2.2.2.2.1 p0) (fun u120 : (Nat → Int32) × (Nat → Bool) × (Nat → Int64) × (Nat → Int32) => (t_39.1, u120.1, u120.2.1, u120.2.2.1, u120.2.2.2))) else (bnd (t_39.1 + 1) (fun n122 : Int32 => (n122, t_39.2.2.2.2.2.2.2.2.2.2.2.1, t_39.2.2.2.2.2.2.2.2.2.2.2.2.1, t_39.2.2.2.2.2.2.2.2.2.2.2.2.2.1, t_39.2.2.2.2.2.2.2.2.2.2.2.2.2.2.1))))
def RZ_X4_sum_J_125 (vtp : Int32) (p0 : Int32) (t_39 : Int32 × Int32 × Int32 × Int32 × Bool × Int64 × Int32 × Int32 × Int32 × Int32 × Bool × (Nat → Int32) × (Nat → Bool) × (Nat → Int64) × (Nat → Int32) × (Nat → Int32) × (Nat → Int32)) (u114 : Int32 × Bool × Int64 × Int32 × Int32 × Int32 × Int32 × Bool × (Nat → Int32) × (Nat → Int32)) (u9 : Int32 × (Nat → Int32) × (Nat → Bool) × (Nat → Int64) × (Nat → Int32)) : Prop := (if u114.2.2.2.2.1 &&& vtp = 0 then (∀ u120 : (Nat → Int32) × (Nat → Bool) × (Nat → Int64) × (Nat → Int32), u120 = F_X4_store u114.1 u114.2.1 u114.2.2.1 u114.2.2.2.1 t_39.2.2.2.2.2.2.2.2.2.2.2.1 t_39.2.2.2.2.2.2.2.2.2.2.2.2.1 t_39.2.2.2.2.2.2.2.2.2.2.2.2.2.1 t_39.2.2.2.2.2.2.2.2.2.2.2.2.2.2.1 p0 → u9 = (t_39.1, u120.1, u120.2.1, u120.2.2.1, u120.2.2.2)) else (∀ n122 : Int32, n122 = t_39.1 + 1 → u9 = (n122, t_39.2.2.2.2.2.2.2.2.2.2.2.1, t_39.2.2.2.2.2.2.2.2.2.2.2.2.1, t_39.2.2.2.2.2.2.2.2.2.2.2.2.2.1, t_39.2.2.2.2.2.2.2.2.2.2.2.2.2.2.1)))
theorem rZ_X4_sum_J_125 (vtp : Int32) (p0 : Int32) (t_39 : Int32 × Int32 × Int32 × Int32 × Bool × Int64 × Int32 × Int32 × Int32 × Int32 × Bool × (Nat → Int32) × (Nat → Bool) × (Nat → Int64) × (Nat → Int32) × (Nat → Int32) × (Nat → Int32)) (u114 : Int32 × Bool × Int64 × Int32 × Int32 × Int32 × Int32 × Bool × (Nat → Int32) × (Nat → Int32)) {u9 : Int32 × (Nat → Int32) × (Nat → Bool) × (Nat → Int64) × (Nat → Int32)} (hu : u9 = Z_X4_sum_J_125 vtp p0 t_39 u114) : RZ_X4_sum_J_125 vtp p0 t_39 u114 u9 := by
  unfold RZ_X4_sum_J_125
  refine ite_P (fun c_118 => ?_) (fun c_118 => ?_)
  · have hu := hu.trans (if_pos c_118)
    intro u120 eu120
    have hu := bnd_n hu eu120
    exact hu
  · have hu := hu.trans (if_neg c_118)
    intro n122 en122
    have hu := bnd_n hu en122
    exact hu
def B_X4_sum_39 (vmo : Int32) (vtp : Int32) (p0 : Int32) (p2 : Int32) (z108 : Bool) (t_39 : Int32 × Int32 × Int32 × Int32 × Bool × Int64 × Int32 × Int32 × Int32 × Int32 × Bool × (Nat → Int32) × (Nat → Bool) × (Nat → Int64) × (Nat → Int32) × (Nat → Int32) × (Nat → Int32)) : Int32 × Int32 × Int32 × Int32 × Bool × Int64 × Int32 × Int32 × Int32 × Int32 × Bool × (Nat → Int32) × (Nat → Bool) × (Nat → Int64) × (Nat → Int32) × (Nat → Int32) × (Nat → Int32) := (if p2 < t_39.2.1 then t_39 else (if (bI z108) = 0 then (bnd (F_X4_operate vmo t_39.2.2.2.2.2.2.2.2.1 t_39.2.2.2.2.2.2.2.2.2.1 t_39.2.2.2.2.2.2.2.2.2.2.1 t_39.2.2.2.2.2.2.2.2.2.2.2.1 t_39.2.2.2.2.2.2.2.2.2.2.2.2.1 t_39.2.2.2.2.2.2.2.2.2.2.2.2.2.1 t_39.2.2.2.2.2.2.2.2.2.2.2.2.2.2.1 t_39.2.2.2.2.2.2.2.2.2.2.2.2.2.2.2.1 t_39.2.2.2.2.2.2.2.2.2.2.2.2.2.2.2.2 (0 : Int32) p0 t_39.2.1) (fun u114 : Int32 × Bool × Int64 × Int32 × Int32 × Int32 × Int32 × Bool × (Nat → Int32) × (Nat → Int32) => (bnd (t_39.2.2.1 ||| u114.2.2.2.2.1) (fun f116 : Int32 => (bnd (Z_X4_sum_J_125 vtp p0 t_39 u114) (fun z124 : Int32 × (Nat → Int32) × (Nat → Bool) × (Nat → Int64) × (Nat → Int32) => (bnd (t_39.2.1 + 1) (fun n126 : Int32 => (z124.1, n126, f116, u114.1, u114.2.1, u114.2.2.1, u114.2.2.2.1, u114.2.2.2.2.1, u114.2.2.2.2.2.1, u114.2.2.2.2.2.2.1, u114.2.2.2.2.2.2.2.1, z124.2.1, z124.2.2.1, z124.2.2.2.1, z124.2.2.2.2, u114.2.2.2.2.2.2.2.2.1, u114.2.2.2.2.2.2.2.2.2))))))))) else t_39))
def G_X4_sum_39 (vmo : Int32) (vtp : Int32) (p0 : Int32) (p2 : Int32) (z108 : Bool) (t_39 : Int32 × Int32 × Int32 × Int32 × Bool × Int64 × Int32 × Int32 × Int32 × Int32 × Bool × (Nat → Int32) × (Nat → Bool) × (Nat → Int64) × (Nat → Int32) × (Nat → Int32) × (Nat → Int32)) : Bool := (if p2 < t_39.2.1 then false else (if (bI z108) = 0 then (bnd (F_X4_operate vmo t_39.2.2.2.2.2.2.2.2.1 t_39.2.2.2.2.2.2.2.2.2.1 t_39.2.2.2.2.2.2.2.2.2.2.1 t_39.2.2.2.2.2.2.2.2.2.2.2.1 t_39.2.2.2.2.2.2.2.2.2.2.2.2.1 t_39.2.2.2.2.2.2.2.2.2.2.2.2.2.1 t_39.2.2.2.2.2.2.2.2.2.2.2.2.2.2.1 t_39.2.2.2.2.2.2.2.2.2.2.2.2.2.2.2.1 t_39.2.2.2.2.2.2.2.2.2.2.2.2.2.2.2.2 (0 : Int32) p0 t_39.2.1) (fun u114 : Int32 × Bool × Int64 × Int32 × Int32 × Int32 × Int32 × Bool × (Nat → Int32) × (Nat → Int32) => (bnd (t_39.2.2.1 ||| u114.2.2.2.2.1) (fun f116 : Int32 => (bnd (Z_X4_sum_J_125 vtp p0 t_39 u114) (fun z124 : Int32 × (Nat → Int32) × (Nat → Bool) × (Nat → Int64) × (Nat → Int32) => (bnd (t_39.2.1 + 1) (fun n126 : Int32 => true)))))))) else false))
def RB_X4_sum_39 (vmo : Int32) (vtp : Int32) (p0 : Int32) (p2 : Int32) (z108 : Bool) (t_39 : Int32 × Int32 × Int32 × Int32 × Bool × Int64 × Int32 × Int32 × Int32 × Int32 × Bool × (Nat → Int32) × (Nat → Bool) × (Nat → Int64) × (Nat → Int32) × (Nat → Int32) × (Nat → Int32)) (u9 : Int32 × Int32 × Int32 × Int32 × Bool × Int64 × Int32 × Int32 × Int32 × Int32 × Bool × (Nat → Int32) × (Nat → Bool) × (Nat → Int64) × (Nat → Int32) × (Nat → Int32) × (Nat → Int32)) : Prop := (if p2 < t_39.2.1 then True else (if (bI z108) = 0 then (∀ u114 : Int32 × Bool × Int64 × Int32 × Int32 × Int32 × Int32 × Bool × (Nat → Int32) × (Nat → Int32), u114 = F_X4_operate vmo t_39.2.2.2.2.2.2.2.2.1 t_39.2.2.2.2.2.2.2.2.2.1 t_39.2.2.2.2.2.2.2.2.2.2.1 t_39.2.2.2.2.2.2.2.2.2.2.2.1 t_39.2.2.2.2.2.2.2.2.2.2.2.2.1 t_39.2.2.2.2.2.2.2.2.2.2.2.2.2.1 t_39.2.2.2.2.2.2.2.2.2.2.2.2.2.2.1 t_39.2.2.2.2.2.2.2.2.2.2.2.2.2.2.2.1 t_39.2.2.2.2.2.2.2.2.2.2.2.2.2.2.2.2 (0 : Int32) p0 t_39.2.1 → (∀ f116 : Int32, f116 = t_39.2.2.1 ||| u114.2.2.2.2.1 → (∀ z124 : Int32 × (Nat → Int32) × (Nat → Bool) × (Nat → Int64) × (Nat → Int32), z124 = Z_X4_sum_J_125 vtp p0 t_39 u114 → (∀ n126 : Int32, n126 = t_39.2.1 + 1 → u9 = (z124.1, n126, f116, u114.1, u114.2.1, u114.2.2.1, u114.2.2.2.1, u114.2.2.2.2.1, u114.2.2.2.2.2.1, u114.2.2.2.2.2.2.1, u114.2.2.2.2.2.2.2.1, z124.2.1, z124.2.2.1, z124.2.2.2.1, z124.2.2.2.2, u114.2.2.2.2.2.2.2.2.1, u114.2.2.2.2.2.2.2.2.2))))) else True))
def RG_X4_sum_39 (vmo : Int32) (vtp : Int32) (p0 : Int32) (p2 : Int32) (z108 : Bool) (t_39 : Int32 × Int32 × Int32 × Int32 × Bool × Int64 × Int32 × Int32 × Int32 × Int32 × Bool × (Nat → Int32) × (Nat → Bool) × (Nat → Int64) × (Nat → Int32) × (Nat → Int32) × (Nat → Int32)) (u9 : Bool) : Prop := (if p2 < t_39.2.1 then u9 = false else (if (bI z108) = 0 then u9 = true else u9 = false))
theorem rB_X4_sum_39 (vmo : Int32) (vtp : Int32) (p0 : Int32) (p2 : Int32) (z108 : Bool) (t_39 : Int32 × Int32 × Int32 × Int32 × Bool × Int64 × Int32 × Int32 × Int32 × Int32 × Bool × (Nat → Int32) × (Nat → Bool) × (Nat → Int64) × (Nat → Int32) × (Nat → Int32) × (Nat → Int32)) {u9 : Int32 × Int32 × Int32 × Int32 × Bool × Int64 × Int32 × Int32 × Int32 × Int32 × Bool × (Nat → Int32) × (Nat → Bool) × (Nat → Int64) × (Nat → Int32) × (Nat → Int32) × (Nat → Int32)} (hu : u9 = B_X4_sum_39 vmo vtp p0 p2 z108 t_39) : RB_X4_sum_39 vmo vtp p0 p2 z108 t_39 u9 := by
  unfold RB_X4_sum_39
  refine ite_P (fun c_111 => ?_) (fun c_111 => ?_)
  · have hu := hu.trans (if_pos c_111)
    trivial
  · have hu := hu.trans (if_neg c_111)
    refine ite_P (fun c_112 => ?_) (fun c_112 => ?_)
    · have hu := hu.trans (if_pos c_112)
      intro u114 eu114
      have hu := bnd_n hu eu114
      intro f116 ef116
      have hu := bnd_n hu ef116
      intro z124 ez124
      have hu := bnd_n hu ez124
      intro n126 en126
      have hu := bnd_n hu en126
      exact hu
    · have hu := hu.trans (if_neg c_112)
      trivial
theorem rG_X4_sum_39 (vmo : Int32) (vtp : Int32) (p0 : Int32) (p2 : Int32) (z108 : Bool) (t_39 : Int32 × Int32 × Int32 × Int32 × Bool × Int64 × Int32 × Int32 × Int32 × Int32 × Bool × (Nat → Int32) × (Nat → Bool) × (Nat → Int64) × (Nat → Int32) × (Nat → Int32) × (Nat → Int32)) {u9 : Bool} (hu : u9 = G_X4_sum_39 vmo vtp p0 p2 z108 t_39) : RG_X4_sum_39 vmo vtp p0 p2 z108 t_39 u9 := by
  unfold RG_X4_sum_39
  refine ite_P (fun c_111 => ?_) (fun c_111 => ?_)
  · have hu := hu.trans (if_pos c_111)
    exact hu
  · have hu := hu.trans (if_neg c_111)
    refine ite_P (fun c_112 => ?_) (fun c_112 => ?_)
    · have hu := hu.trans (if_pos c_112)
      exact hu
    · have hu := hu.trans (if_neg c_112)
      exact hu
def SB_X4_sum_39 (vmo : Int32) (vtp : Int32) (p0 : Int32) (p2 : Int32) (z108 : Bool) (t_39 : Int32 × Int32 × Int32 × Int32 × Bool × Int64 × Int32 × Int32 × Int32 × Int32 × Bool × (Nat → Int32) × (Nat → Bool) × (Nat → Int64) × (Nat → Int32) × (Nat → Int32) × (Nat → Int32)) : Prop := (if p2 < t_39.2.1 then True else (if (bI z108) = 0 then (S_X4_operate vmo t_39.2.2.2.2.2.2.2.2.1 t_39.2.2.2.2.2.2.2.2.2.1 t_39.2.2.2.2.2.2.2.2.2.2.1 t_39.2.2.2.2.2.2.2.2.2.2.2.1 t_39.2.2.2.2.2.2.2.2.2.2.2.2.1 t_39.2.2.2.2.2.2.2.2.2.2.2.2.2.1 t_39.2.2.2.2.2.2.2.2.2.2.2.2.2.2.1 t_39.2.2.2.2.2.2.2.2.2.2.2.2.2.2.2.1 t_39.2.2.2.2.2.2.2.2.2.2.2.2.2.2.2.2 (0 : Int32) p0 t_39.2.1) ∧ (∀ u114 : Int32 × Bool × Int64 × Int32 × Int32 × Int32 × Int32 × Bool × (Nat → Int32) × (Nat → Int32), u114 = F_X4_operate vmo t_39.2.2.2.2.2.2.2.2.1 t_39.2.2.2.2.2.2.2.2.2.1 t_39.2.2.2.2.2.2.2.2.2.2.1 t_39.2.2.2.2.2.2.2.2.2.2.2.1 t_39.2.2.2.2.2.2.2.2.2.2.2.2.1 t_39.2.2.2.2.2.2.2.2.2.2.2.2.2.1 t_39.2.2.2.2.2.2.2.2.2.2.2.2.2.2.1 t_39.2.2.2.2.2.2.2.2.2.2.2.2.2.2.2.1 t_39.2.2.2.2.2.2.2.2.2.2.2.2.2.2.2.2 (0 : Int32) p0 t_39.2.1 → (∀ f116 : Int32, f116 = t_39.2.2.1 ||| u114.2.2.2.2.1 → (if u114.2.2.2.2.1 &&& vtp = 0 then S_X4_store u114.1 u114.2.1 u114.2.2.1 u114.2.2.2.1 t_39.2.2.2.2.2.2.2.2.2.2.2.1 t_39.2.2.2.2.2.2.2.2.2.2.2.2.1 t_39.2.2.2.2.2.2.2.2.2.2.2.2.2.1 t_39.2.2.2.2.2.2.2.2.2.2.2.2.2.2.1 p0 else True))) else True))
def Z_X4_sum_J_109 (p0 : Int32) (p1 : Int32) (p2 : Int32) : Bool := (if F_X4_noRegister p0 = true then true else (if F_X4_noRegister p1 = true then true else (if F_X4_noRegister p2 = true then true else false)))
def RZ_X4_sum_J_109 (p0 : Int32) (p1 : Int32) (p2 : Int32) (u9 : Bool) : Prop := (if F_X4_noRegister p0 = true then u9 = true else (if F_X4_noRegister p1 = true then u9 = true else (if F_X4_noRegister p2 = true then u9 = true else u9 = false)))
theorem rZ_X4_sum_J_109 (p0 : Int32) (p1 : Int32) (p2 : Int32) {u9 : Bool} (hu : u9 = Z_X4_sum_J_109 p0 p1 p2) : RZ_X4_sum_J_109 p0 p1 p2 u9 := by
  unfold RZ_X4_sum_J_109
  refine ite_P (fun c_102 => ?_) (fun c_102 => ?_)
  · have hu := hu.trans (if_pos c_102)
    exact hu
  · have hu := hu.trans (if_neg c_102)
    refine ite_P (fun c_104 => ?_) (fun c_104 => ?_)
    · have hu := hu.trans (if_pos c_104)
      exact hu
    · have hu := hu.trans (if_neg c_104)
      refine ite_P (fun c_106 => ?_) (fun c_106 => ?_)
      · have hu := hu.trans (if_pos c_106)
        exact hu
      · have hu := hu.trans (if_neg c_106)
        exact hu
def F_X4_sum (vmo : Int32) (vfg : Int32) (vtp : Int32) (vkd : Int32) (vng : Bool) (vcc : Int64) (vqq : Int32) (vrs : Int32) (vct : Int32) (vun : Int32) (vre : Bool) (vks : Nat → Int32) (vms : Nat → Bool) (vcs : Nat → Int64) (ves : Nat → Int32) (vdg : Nat → Int32) (vog : Nat → Int32) (p0 : Int32) (p1 : Int32) (p2 : Int32) : Int32 × Int32 × Int32 × Int32 × Bool × Int64 × Int32 × Int32 × Int32 × Int32 × Bool × (Nat → Int32) × (Nat → Bool) × (Nat → Int64) × (Nat → Int32) × (Nat → Int32) × (Nat → Int32) := (bnd (Z_X4_sum_J_109 p0 p1 p2) (fun z108 : Bool => (bnd (wl (G_X4_sum_39 vmo vtp p0 p2 z108) (B_X4_sum_39 vmo vtp p0 p2 z108) 901 (0, p1, vfg, vkd, vng, vcc, vqq, vrs, vct, vun, vre, vks, vms, vcs, ves, vdg, vog)) (fun z127 : Int32 × Int32 × Int32 × Int32 × Bool × Int64 × Int32 × Int32 × Int32 × Int32 × Bool × (Nat → Int32) × (Nat → Bool) × (Nat → Int64) × (Nat → Int32) × (Nat → Int32) × (Nat → Int32) => (z127.1, (bI z108), z127.2.2.1, z127.2.2.2.1, z127.2.2.2.2.1, z127.2.2.2.2.2.1, z127.2.2.2.2.2.2.1, z127.2.2.2.2.2.2.2.1, z127.2.2.2.2.2.2.2.2.1, z127.2.2.2.2.2.2.2.2.2.1, z127.2.2.2.2.2.2.2.2.2.2.1, z127.2.2.2.2.2.2.2.2.2.2.2.1, z127.2.2.2.2.2.2.2.2.2.2.2.2.1, z127.2.2.2.2.2.2.2.2.2.2.2.2.2.1, z127.2.2.2.2.2.2.2.2.2.2.2.2.2.2.1, z127.2.2.2.2.2.2.2.2.2.2.2.2.2.2.2.1, z127.2.2.2.2.2.2.2.2.2.2.2.2.2.2.2.2)))))
def RF_X4_sum (vmo : Int32) (vfg : Int32) (vtp : Int32) (vkd : Int32) (vng : Bool) (vcc : Int64) (vqq : Int32) (vrs : Int32) (vct : Int32) (vun : Int32) (vre : Bool) (vks : Nat → Int32) (vms : Nat → Bool) (vcs : Nat → Int64) (ves : Nat → Int32) (vdg : Nat → Int32) (vog : Nat → Int32) (p0 : Int32) (p1 : Int32) (p2 : Int32) (u9 : Int32 × Int32 × Int32 × Int32 × Bool × Int64 × Int32 × Int32 × Int32 × Int32 × Bool × (Nat → Int32) × (Nat → Bool) × (Nat → Int64) × (Nat → Int32) × (Nat → Int32) × (Nat → Int32)) : Prop := (∀ z108 : Bool, z108 = Z_X4_sum_J_109 p0 p1 p2 → (∀ z127 : Int32 × Int32 × Int32 × Int32 × Bool × Int64 × Int32 × Int32 × Int32 × Int32 × Bool × (Nat → Int32) × (Nat → Bool) × (Nat → Int64) × (Nat → Int32) × (Nat → Int32) × (Nat → Int32), z127 = wl (G_X4_sum_39 vmo vtp p0 p2 z108) (B_X4_sum_39 vmo vtp p0 p2 z108) 901 (0, p1, vfg, vkd, vng, vcc, vqq, vrs, vct, vun, vre, vks, vms, vcs, ves, vdg, vog) → u9 = (z127.1, (bI z108), z127.2.2.1, z127.2.2.2.1, z127.2.2.2.2.1, z127.2.2.2.2.2.1, z127.2.2.2.2.2.2.1, z127.2.2.2.2.2.2.2.1, z127.2.2.2.2.2.2.2.2.1, z127.2.2.2.2.2.2.2.2.2.1, z127.2.2.2.2.2.2.2.2.2.2.1, z127.2.2.2.2.2.2.2.2.2.2.2.1, z127.2.2.2.2.2.2.2.2.2.2.2.2.1, z127.2.2.2.2.2.2.2.2.2.2.2.2.2.1, z127.2.2.2.2.2.2.2.2.2.2.2.2.2.2.1, z127.2.2.2.2.2.2.2.2.2.2.2.2.2.2.2.1, z127.2.2.2.2.2.2.2.2.2.2.2.2.2.2.2.2)))
theorem rF_X4_sum (vmo : Int32) (vfg : Int32) (vtp : Int32) (vkd : Int32) (vng : Bool) (vcc : Int64) (vqq : Int32) (vrs : Int32) (vct : Int32) (vun : Int32) (vre : Bool) (vks : Nat → Int32) (vms : Nat → Bool) (vcs : Nat → Int64) (ves : Nat → Int32) (vdg : Nat → Int32) (vog : Nat → Int32) (p0 : Int32) (p1 : Int32) (p2 : Int32) {u9 : Int32 × Int32 × Int32 × Int32 × Bool × Int64 × Int32 × Int32 × Int32 × Int32 × Bool × (Nat → Int32) × (Nat → Bool) × (Nat → Int64) × (Nat → Int32) × (Nat → Int32) × (Nat → Int32)} (hu : u9 = F_X4_sum vmo vfg vtp vkd vng vcc vqq vrs vct vun vre vks vms vcs ves vdg vog p0 p1 p2) : RF_X4_sum vmo vfg vtp vkd vng vcc vqq vrs vct vun vre vks vms vcs ves vdg vog p0 p1 p2 u9 := by
  unfold RF_X4_sum
  intro z108 ez108
  have hu := bnd_n hu ez108
  intro z127 ez127
  have hu := bnd_n hu ez127
  exact hu
def S_X4_sum (vmo : Int32) (vfg : Int32) (vtp : Int32) (vkd : Int32) (vng : Bool) (vcc : Int64) (vqq : Int32) (vrs : Int32) (vct : Int32) (vun : Int32) (vre : Bool) (vks : Nat → Int32) (vms : Nat → Bool) (vcs : Nat → Int64) (ves : Nat → Int32) (vdg : Nat → Int32) (vog : Nat → Int32) (p0 : Int32) (p1 : Int32) (p2 : Int32) : Prop := (∀ z108 : Bool, z108 = Z_X4_sum_J_109 p0 p1 p2 → (∀ j : Nat, j < nW (G_X4_sum_39 vmo vtp p0 p2 z108) (B_X4_sum_39 vmo vtp p0 p2 z108) 901 (0, p1, vfg, vkd, vng, vcc, vqq, vrs, vct, vun, vre, vks, vms, vcs, ves, vdg, vog) → SB_X4_sum_39 vmo vtp p0 p2 z108 (itn (B_X4_sum_39 vmo vtp p0 p2 z108) j (0, p1, vfg, vkd, vng, vcc, vqq, vrs, vct, vun, vre, vks, vms, vcs, ves, vdg, vog))) ∧ G_X4_sum_39 vmo vtp p0 p2 z108 (wl (G_X4_sum_39 vmo vtp p0 p2 z108) (B_X4_sum_39 vmo vtp p0 p2 z108) 901 (0, p1, vfg, vkd, vng, vcc, vqq, vrs, vct, vun, vre, vks, vms, vcs, ves, vdg, vog)) = false)
def rm_X4_sum : Room := { frames := 5, cells := 0, slots := 0, locals := 138 }
set_option maxHeartbeats 4000000 in
set_option maxRecDepth 100000 in
theorem c_X4_sum (l : Launch) (D : va_G) (cR cI cJ cZ : ClassId) (t0 : Nat) (am ak an ac ae ag aq : Nat) (vth : Int32) (vmo : Int32) (vfg : Int32) (vtp : Int32) (vkd : Int32) (vng : Bool) (vcc : Int64) (vqq : Int32) (vrs : Int32) (vct : Int32) (vun : Int32) (vre : Bool) (vks : Nat → Int32) (vms : Nat → Bool) (vcs : Nat → Int64) (ves : Nat → Int32) (vdg : Nat → Int32) (vog : Nat → Int32) (p0 : Int32) (p1 : Int32) (p2 : Int32) (u : Int32 × Int32 × Int32 × Int32 × Bool × Int64 × Int32 × Int32 × Int32 × Int32 × Bool × (Nat → Int32) × (Nat → Bool) × (Nat → Int64) × (Nat → Int32) × (Nat → Int32) × (Nat → Int32)) (hu : u = F_X4_sum vmo vfg vtp vkd vng vcc vqq vrs vct vun vre vks vms vcs ves vdg vog p0 p1 p2) (hs : S_X4_sum vmo vfg vtp vkd vng vcc vqq vrs vct vun vre vks vms vcs ves vdg vog p0 p1 p2) : XM l D (xty cR cI cJ cZ) t0 yX4_sum cX4_sum 6 (some .int) rm_X4_sum [.ref am, .int p0, .int p1, .int p2] (some (.int u.1)) (mw cI cJ cZ am ak an ac ae ag aq vth vmo vfg vtp vkd vng vcc vqq vrs vct vun vre vks vms vcs ves vdg vog) (mw cI cJ cZ am ak an ac ae ag aq u.2.1 vmo u.2.2.1 vtp u.2.2.2.1 u.2.2.2.2.1 u.2.2.2.2.2.1 u.2.2.2.2.2.2.1 u.2.2.2.2.2.2.2.1 u.2.2.2.2.2.2.2.2.1 u.2.2.2.2.2.2.2.2.2.1 u.2.2.2.2.2.2.2.2.2.2.1 u.2.2.2.2.2.2.2.2.2.2.2.1 u.2.2.2.2.2.2.2.2.2.2.2.2.1 u.2.2.2.2.2.2.2.2.2.2.2.2.2.1 u.2.2.2.2.2.2.2.2.2.2.2.2.2.2.1 u.2.2.2.2.2.2.2.2.2.2.2.2.2.2.2.1 u.2.2.2.2.2.2.2.2.2.2.2.2.2.2.2.2) := by
  refine XM.of (by decide) (Nat.le_of_ble_eq_true rfl) ?_
  intro p e s m args below meth c A Q F hK hP hD hA hSt hS hQ ls hl
  obtain ⟨hx, hb, hr, hts, hown, hlocks, hml⟩ := F
  have hCF : CallFix p m c cX4_sum 6 s args gW RX4 := ⟨hx, hb, hml, hown, hts⟩
  unfold S_X4_sum at hs
  have hu := rF_X4_sum vmo vfg vtp vkd vng vcc vqq vrs vct vun vre vks vms vcs ves vdg vog p0 p1 p2 hu
  unfold RF_X4_sum at hu
  obtain ⟨H, eH⟩ : ∃ y9 : Heap, y9 = s.heap := ⟨_, rfl⟩
  obtain ⟨locs, eL⟩ : ∃ y9 : List Loc, y9 = [] := ⟨_, rfl⟩
  rw [← eL] at hS ⊢
  have hP : va_P D vwCl (mw cI cJ cZ am ak an ac ae ag aq vth vmo vfg vtp vkd vng vcc vqq vrs vct vun vre vks vms vcs ves vdg vog) H := by rw [eH]; exact hP
  have hS : va_S A s.heap H locs := by rw [eH]; exact hS
  suffices goal9 : W p l e rm_X4_sum s m args below meth c H locs 0 0 Q (F0 m 0 ls []) from by rw [← eH]; exact goal9
  have hl : lv_has ls 6 [(0, .ref am), (1, .int p0), (2, .int p1), (3, .int p2)] := hl
  have hi4 : ∀ w ∈ wsX40, w ∈ gW := inW_X4
  refine lv_aload_n hx hb dX4_sum_0 rfl (lv_at hl 0 rfl) ?_
  refine lv_aload_n hx hb dX4_sum_1 rfl (lv_at hl 0 rfl) ?_
  refine lv_iload_n hx hb dX4_sum_2 rfl (lv_at hl 1 rfl) ?_
  refine x_V (As := [.int p0]) (rest := [.ref am]) hCF (c_X4_noRegister l D cR cI cJ cZ t0 am ak an ac ae ag aq vth vmo vfg vtp vkd vng vcc vqq vrs vct vun vre vks vms vcs ves vdg vog p0 _ rfl) (x_cwV 1 hts (inW_12 _ (List.mem_of_getElem? (i := 4) rfl)) (inW_12 _ (List.mem_of_getElem? (i := 5) rfl)) (inW_12 _ (List.mem_of_getElem? (i := 6) rfl)) (inW_9 _ (List.mem_of_getElem? (i := 5) rfl)) (inW_11 _ (List.mem_of_getElem? (i := 39) rfl)) rfl rfl (by decide +kernel) ⟨Nat.le_of_ble_eq_true rfl, Nat.le_of_ble_eq_true rfl⟩) hK hP hD hS hA hSt 0 rfl rfl rfl hl.1 rfl (Nat.le_of_ble_eq_true rfl) dX4_sum_3 ⟨Nat.le_of_ble_eq_true rfl, Nat.le_of_ble_eq_true rfl⟩ (fun H locs hP hD hS => ?_)
  show W p l e _ s m args below meth c H locs 0 0 Q (F0 m 6 ls (.int (bI (F_X4_noRegister p0)) :: [.ref am]))
  have J_109 : (∀ z108 : Bool, z108 = Z_X4_sum_J_109 p0 p1 p2 → ∀ (H : Heap) (locs : List Loc), va_P D vwCl (mw cI cJ cZ am ak an ac ae ag aq vth vmo vfg vtp vkd vng vcc vqq vrs vct vun vre vks vms vcs ves vdg vog) H → va_D A (mw cI cJ cZ am ak an ac ae ag aq vth vmo vfg vtp vkd vng vcc vqq vrs vct vun vre vks vms vcs ves vdg vog) → va_S A s.heap H locs → ∀ ls : Array Slot, lv_has ls 6 [(0, .ref am), (1, .int p0), (2, .int p1), (3, .int p2)] → W p l e rm_X4_sum s m args below meth c H locs 0 0 Q (F0 m 30 ls [.int (bI z108), .ref am])) := by
    intro z108 ez108 H locs hP hD hS ls hl
    have hs := hs _ ez108
    have hu := hu _ ez108
    refine va_put (D := D) (ci := 5) (v := .int (bI z108)) (ty := .int) (C := RX4) (T := TX4) (N := 18) hx hb hts hi4 tyX4 tyX4_ok nmX4 hown hK hP hD hS 0 rfl rfl 0 (by decide) (hts (.fieldLink RX4 30 "DecimalWordsModel" "thrown" "I") (inW_8 _ (List.mem_of_getElem? (i := 38) rfl))) (fun _ h9 => h9) rfl (by decide +kernel) rfl rfl (Nat.le_of_ble_eq_true rfl) dX4_sum_30 (fun H locs hP hD hS => ?_)
    have hP : va_P D vwCl (mw cI cJ cZ am ak an ac ae ag aq (bI z108) vmo vfg vtp vkd vng vcc vqq vrs vct vun vre vks vms vcs ves vdg vog) H := hP
    have hD : va_D A (mw cI cJ cZ am ak an ac ae ag aq (bI z108) vmo vfg vtp vkd vng vcc vqq vrs vct vun vre vks vms vcs ves vdg vog) := hD
    refine lv_iconst (v := 0) hx hb dX4_sum_33 (by decide) ?_
    refine lv_istore (lv' := [(4, .int 0), (0, .ref am), (1, .int p0), (2, .int p1), (3, .int p2)]) hx hb dX4_sum_34 hl (by decide) rfl (fun ls hl => ?_)
    refine lv_iload_n hx hb dX4_sum_36 rfl (lv_at hl 3 rfl) ?_
    refine lv_istore (lv' := [(5, .int p1), (4, .int 0), (0, .ref am), (1, .int p0), (2, .int p1), (3, .int p2)]) hx hb dX4_sum_37 hl (by decide) rfl (fun ls hl => ?_)
    have L_133 : ∀ (n9 : Nat) (t_39 : Int32 × Int32 × Int32 × Int32 × Bool × Int64 × Int32 × Int32 × Int32 × Int32 × Bool × (Nat → Int32) × (Nat → Bool) × (Nat → Int64) × (Nat → Int32) × (Nat → Int32) × (Nat → Int32)), (∀ j : Nat, j < n9 → G_X4_sum_39 vmo vtp p0 p2 z108 (itn (B_X4_sum_39 vmo vtp p0 p2 z108) j t_39) = true) → (∀ j : Nat, j < n9 → SB_X4_sum_39 vmo vtp p0 p2 z108 (itn (B_X4_sum_39 vmo vtp p0 p2 z108) j t_39)) → (∀ (H : Heap) (locs : List Loc), va_P D vwCl (mw cI cJ cZ am ak an ac ae ag aq (bI z108) vmo ((itn (B_X4_sum_39 vmo vtp p0 p2 z108) n9 t_39).2.2.1) vtp ((itn (B_X4_sum_39 vmo vtp p0 p2 z108) n9 t_39).2.2.2.1) ((itn (B_X4_sum_39 vmo vtp p0 p2 z108) n9 t_39).2.2.2.2.1) ((itn (B_X4_sum_39 vmo vtp p0 p2 z108) n9 t_39).2.2.2.2.2.1) ((itn (B_X4_sum_39 vmo vtp p0 p2 z108) n9 t_39).2.2.2.2.2.2.1) ((itn (B_X4_sum_39 vmo vtp p0 p2 z108) n9 t_39).2.2.2.2.2.2.2.1) ((itn (B_X4_sum_39 vmo vtp p0 p2 z108) n9 t_39).2.2.2.2.2.2.2.2.1) ((itn (B_X4_sum_39 vmo vtp p0 p2 z108) n9 t_39).2.2.2.2.2.2.2.2.2.1) ((itn (B_X4_sum_39 vmo vtp p0 p2 z108) n9 t_39).2.2.2.2.2.2.2.2.2.2.1) ((itn (B_X4_sum_39 vmo vtp p0 p2 z108) n9 t_39).2.2.2.2.2.2.2.2.2.2.2.1) ((itn (B_X4_sum_39 vmo vtp p0 p2 z108) n9 t_39).2.2.2.2.2.2.2.2.2.2.2.2.1) ((itn (B_X4_sum_39 vmo vtp p0 p2 z108) n9 t_39).2.2.2.2.2.2.2.2.2.2.2.2.2.1) ((itn (B_X4_sum_39 vmo vtp p0 p2 z108) n9 t_39).2.2.2.2.2.2.2.2.2.2.2.2.2.2.1) ((itn (B_X4_sum_39 vmo vtp p0 p2 z108) n9 t_39).2.2.2.2.2.2.2.2.2.2.2.2.2.2.2.1) ((itn (B_X4_sum_39 vmo vtp p0 p2 z108) n9 t_39).2.2.2.2.2.2.2.2.2.2.2.2.2.2.2.2)) H → va_D A (mw cI cJ cZ am ak an ac ae ag aq (bI z108) vmo ((itn (B_X4_sum_39 vmo vtp p0 p2 z108) n9 t_39).2.2.1) vtp ((itn (B_X4_sum_39 vmo vtp p0 p2 z108) n9 t_39).2.2.2.1) ((itn (B_X4_sum_39 vmo vtp p0 p2 z108) n9 t_39).2.2.2.2.1) ((itn (B_X4_sum_39 vmo vtp p0 p2 z108) n9 t_39).2.2.2.2.2.1) ((itn (B_X4_sum_39 vmo vtp p0 p2 z108) n9 t_39).2.2.2.2.2.2.1) ((itn (B_X4_sum_39 vmo vtp p0 p2 z108) n9 t_39).2.2.2.2.2.2.2.1) ((itn (B_X4_sum_39 vmo vtp p0 p2 z108) n9 t_39).2.2.2.2.2.2.2.2.1) ((itn (B_X4_sum_39 vmo vtp p0 p2 z108) n9 t_39).2.2.2.2.2.2.2.2.2.1) ((itn (B_X4_sum_39 vmo vtp p0 p2 z108) n9 t_39).2.2.2.2.2.2.2.2.2.2.1) ((itn (B_X4_sum_39 vmo vtp p0 p2 z108) n9 t_39).2.2.2.2.2.2.2.2.2.2.2.1) ((itn (B_X4_sum_39 vmo vtp p0 p2 z108) n9 t_39).2.2.2.2.2.2.2.2.2.2.2.2.1) ((itn (B_X4_sum_39 vmo vtp p0 p2 z108) n9 t_39).2.2.2.2.2.2.2.2.2.2.2.2.2.1) ((itn (B_X4_sum_39 vmo vtp p0 p2 z108) n9 t_39).2.2.2.2.2.2.2.2.2.2.2.2.2.2.1) ((itn (B_X4_sum_39 vmo vtp p0 p2 z108) n9 t_39).2.2.2.2.2.2.2.2.2.2.2.2.2.2.2.1) ((itn (B_X4_sum_39 vmo vtp p0 p2 z108) n9 t_39).2.2.2.2.2.2.2.2.2.2.2.2.2.2.2.2)) → va_S A s.heap H locs → ∀ ls : Array Slot, lv_has ls 6 [(0, .ref am), (1, .int p0), (3, .int p2), (4, .int ((itn (B_X4_sum_39 vmo vtp p0 p2 z108) n9 t_39).1)), (5, .int ((itn (B_X4_sum_39 vmo vtp p0 p2 z108) n9 t_39).2.1))] → W p l e rm_X4_sum s m args below meth c H locs 0 0 Q (F0 m 39 ls [])) → ∀ (H : Heap) (locs : List Loc), va_P D vwCl (mw cI cJ cZ am ak an ac ae ag aq (bI z108) vmo t_39.2.2.1 vtp t_39.2.2.2.1 t_39.2.2.2.2.1 t_39.2.2.2.2.2.1 t_39.2.2.2.2.2.2.1 t_39.2.2.2.2.2.2.2.1 t_39.2.2.2.2.2.2.2.2.1 t_39.2.2.2.2.2.2.2.2.2.1 t_39.2.2.2.2.2.2.2.2.2.2.1 t_39.2.2.2.2.2.2.2.2.2.2.2.1 t_39.2.2.2.2.2.2.2.2.2.2.2.2.1 t_39.2.2.2.2.2.2.2.2.2.2.2.2.2.1 t_39.2.2.2.2.2.2.2.2.2.2.2.2.2.2.1 t_39.2.2.2.2.2.2.2.2.2.2.2.2.2.2.2.1 t_39.2.2.2.2.2.2.2.2.2.2.2.2.2.2.2.2) H → va_D A (mw cI cJ cZ am ak an ac ae ag aq (bI z108) vmo t_39.2.2.1 vtp t_39.2.2.2.1 t_39.2.2.2.2.1 t_39.2.2.2.2.2.1 t_39.2.2.2.2.2.2.1 t_39.2.2.2.2.2.2.2.1 t_39.2.2.2.2.2.2.2.2.1 t_39.2.2.2.2.2.2.2.2.2.1 t_39.2.2.2.2.2.2.2.2.2.2.1 t_39.2.2.2.2.2.2.2.2.2.2.2.1 t_39.2.2.2.2.2.2.2.2.2.2.2.2.1 t_39.2.2.2.2.2.2.2.2.2.2.2.2.2.1 t_39.2.2.2.2.2.2.2.2.2.2.2.2.2.2.1 t_39.2.2.2.2.2.2.2.2.2.2.2.2.2.2.2.1 t_39.2.2.2.2.2.2.2.2.2.2.2.2.2.2.2.2) → va_S A s.heap H locs → ∀ ls : Array Slot, lv_has ls 6 [(0, .ref am), (1, .int p0), (3, .int p2), (4, .int t_39.1), (5, .int t_39.2.1)] → W p l e rm_X4_sum s m args below meth c H locs 0 0 Q (F0 m 39 ls []) := by
      intro n9
      induction n9 with
      | zero => exact fun _ _ _ k9 => k9
      | succ n9 ih9 =>
        intro t_39 hG9 hs9 k9 H locs hP hD hS ls hl
        have hG0 : G_X4_sum_39 vmo vtp p0 p2 z108 t_39 = true := hG9 0 (Nat.succ_pos n9)
        have hg := rG_X4_sum_39 vmo vtp p0 p2 z108 t_39 (Eq.symm hG0)
        unfold RG_X4_sum_39 at hg
        obtain ⟨t9, et9⟩ : ∃ y9 : Int32 × Int32 × Int32 × Int32 × Bool × Int64 × Int32 × Int32 × Int32 × Int32 × Bool × (Nat → Int32) × (Nat → Bool) × (Nat → Int64) × (Nat → Int32) × (Nat → Int32) × (Nat → Int32), y9 = (B_X4_sum_39 vmo vtp p0 p2 z108) t_39 := ⟨_, rfl⟩
        have hb9 := rB_X4_sum_39 vmo vtp p0 p2 z108 t_39 et9
        unfold RB_X4_sum_39 at hb9
        have hs : SB_X4_sum_39 vmo vtp p0 p2 z108 t_39 := hs9 0 (Nat.succ_pos n9)
        unfold SB_X4_sum_39 at hs
        refine lv_iload hx hb dX4_sum_39 (lv_at hl 4 rfl) ?_
        refine lv_iload_n hx hb dX4_sum_41 rfl (lv_at hl 2 rfl) ?_
        refine lv_icmp_gt (tgt := 102) hx hb dX4_sum_42 (by decide) (fun c_111 => ?_) (fun c_111 => ?_)
        · rw [if_pos c_111] at hg
          exact absurd hg (by decide)
        · rw [if_neg c_111] at hs
          rw [if_neg c_111] at hg
          rw [if_neg c_111] at hb9
          refine lv_aload_n hx hb dX4_sum_45 rfl (lv_at hl 0 rfl) ?_
          refine va_get (D := D) (ci := 5) (v := .int (bI z108)) (C := RX4) (T := TX4) (N := 18) hx hb hts hi4 hown hK hP 0 rfl rfl 0 (by decide) (hts (.fieldLink RX4 30 "DecimalWordsModel" "thrown" "I") (inW_8 _ (List.mem_of_getElem? (i := 38) rfl))) (fun _ h9 => h9) rfl dX4_sum_46 ?_
          refine lv_if_ne (tgt := 102) hx hb dX4_sum_49 (by decide) (fun c_112 => ?_) (fun c_112 => ?_)
          · rw [if_neg c_112] at hg
            exact absurd hg (by decide)
          · rw [if_pos c_112] at hs
            rw [if_pos c_112] at hg
            rw [if_pos c_112] at hb9
            refine lv_aload_n hx hb dX4_sum_52 rfl (lv_at hl 0 rfl) ?_
            refine lv_iconst (v := 0) hx hb dX4_sum_53 (by decide) ?_
            refine lv_iload_n hx hb dX4_sum_54 rfl (lv_at hl 1 rfl) ?_
            refine lv_iload hx hb dX4_sum_55 (lv_at hl 4 rfl) ?_
            obtain ⟨h_113, hs⟩ := hs
            obtain ⟨u114, eu114⟩ : ∃ y9 : Int32 × Bool × Int64 × Int32 × Int32 × Int32 × Int32 × Bool × (Nat → Int32) × (Nat → Int32), y9 = F_X4_operate vmo t_39.2.2.2.2.2.2.2.2.1 t_39.2.2.2.2.2.2.2.2.2.1 t_39.2.2.2.2.2.2.2.2.2.2.1 t_39.2.2.2.2.2.2.2.2.2.2.2.1 t_39.2.2.2.2.2.2.2.2.2.2.2.2.1 t_39.2.2.2.2.2.2.2.2.2.2.2.2.2.1 t_39.2.2.2.2.2.2.2.2.2.2.2.2.2.2.1 t_39.2.2.2.2.2.2.2.2.2.2.2.2.2.2.2.1 t_39.2.2.2.2.2.2.2.2.2.2.2.2.2.2.2.2 (0 : Int32) p0 t_39.2.1 := ⟨_, rfl⟩
            have hs := hs _ eu114
            have hb9 := hb9 _ eu114
            refine x_V (As := [.int 0, .int p0, .int t_39.2.1]) (rest := []) hCF (c_X4_operate l D cR cI cJ cZ t0 am ak an ac ae ag aq (bI z108) vmo t_39.2.2.1 vtp t_39.2.2.2.1 t_39.2.2.2.2.1 t_39.2.2.2.2.2.1 t_39.2.2.2.2.2.2.1 t_39.2.2.2.2.2.2.2.1 t_39.2.2.2.2.2.2.2.2.1 t_39.2.2.2.2.2.2.2.2.2.1 t_39.2.2.2.2.2.2.2.2.2.2.1 t_39.2.2.2.2.2.2.2.2.2.2.2.1 t_39.2.2.2.2.2.2.2.2.2.2.2.2.1 t_39.2.2.2.2.2.2.2.2.2.2.2.2.2.1 t_39.2.2.2.2.2.2.2.2.2.2.2.2.2.2.1 t_39.2.2.2.2.2.2.2.2.2.2.2.2.2.2.2.1 t_39.2.2.2.2.2.2.2.2.2.2.2.2.2.2.2.2 (0 : Int32) p0 t_39.2.1 u114 eu114 h_113) (x_cwV 3 hts (inW_12 _ (List.mem_of_getElem? (i := 7) rfl)) (inW_12 _ (List.mem_of_getElem? (i := 8) rfl)) (inW_12 _ (List.mem_of_getElem? (i := 9) rfl)) (inW_9 _ (List.mem_of_getElem? (i := 5) rfl)) (inW_11 _ (List.mem_of_getElem? (i := 17) rfl)) rfl rfl (by decide +kernel) ⟨Nat.le_of_ble_eq_true rfl, Nat.le_of_ble_eq_true rfl⟩) hK hP hD hS hA hSt 0 rfl rfl rfl hl.1 rfl (Nat.le_of_ble_eq_true rfl) dX4_sum_57 ⟨Nat.le_of_ble_eq_true rfl, Nat.le_of_ble_eq_true rfl⟩ (fun H locs hP hD hS => ?_)
            show W p l e _ s m args below meth c H locs 0 0 Q (F0 m 60 ls [])
            refine lv_aload_n hx hb dX4_sum_60 rfl (lv_at hl 0 rfl) ?_
            refine lv_aload_n hx hb dX4_sum_61 rfl (lv_at hl 0 rfl) ?_
            refine va_get (D := D) (ci := 5) (v := .int t_39.2.2.1) (C := RX4) (T := TX4) (N := 18) hx hb hts hi4 hown hK hP 0 rfl rfl 6 (by decide) (hts (.fieldLink RX4 175 "DecimalWordsModel" "flags" "I") (inW_12 _ (List.mem_of_getElem? (i := 2) rfl))) (fun _ h9 => h9) rfl dX4_sum_62 ?_
            refine lv_aload_n hx hb dX4_sum_65 rfl (lv_at hl 0 rfl) ?_
            refine va_get (D := D) (ci := 5) (v := .int u114.2.2.2.2.1) (C := RX4) (T := TX4) (N := 18) hx hb hts hi4 hown hK hP 0 rfl rfl 12 (by decide) (hts (.fieldLink RX4 56 "DecimalWordsModel" "raised" "I") (inW_9 _ (List.mem_of_getElem? (i := 17) rfl))) (fun _ h9 => h9) rfl dX4_sum_66 ?_
            refine lv_ior hx hb dX4_sum_69 ?_
            refine lv_topi (fun f116 ef116 => ?_)
            have hs := hs _ ef116
            have hb9 := hb9 _ ef116
            refine va_put (D := D) (ci := 5) (v := .int f116) (ty := .int) (C := RX4) (T := TX4) (N := 18) hx hb hts hi4 tyX4 tyX4_ok nmX4 hown hK hP hD hS 0 rfl rfl 6 (by decide) (hts (.fieldLink RX4 175 "DecimalWordsModel" "flags" "I") (inW_12 _ (List.mem_of_getElem? (i := 2) rfl))) (fun _ h9 => h9) rfl (by decide +kernel) rfl rfl (Nat.le_of_ble_eq_true rfl) dX4_sum_70 (fun H locs hP hD hS => ?_)
            have hP : va_P D vwCl (mw cI cJ cZ am ak an ac ae ag aq (bI z108) vmo f116 vtp u114.1 u114.2.1 u114.2.2.1 u114.2.2.2.1 u114.2.2.2.2.1 u114.2.2.2.2.2.1 u114.2.2.2.2.2.2.1 u114.2.2.2.2.2.2.2.1 t_39.2.2.2.2.2.2.2.2.2.2.2.1 t_39.2.2.2.2.2.2.2.2.2.2.2.2.1 t_39.2.2.2.2.2.2.2.2.2.2.2.2.2.1 t_39.2.2.2.2.2.2.2.2.2.2.2.2.2.2.1 u114.2.2.2.2.2.2.2.2.1 u114.2.2.2.2.2.2.2.2.2) H := hP
            have hD : va_D A (mw cI cJ cZ am ak an ac ae ag aq (bI z108) vmo f116 vtp u114.1 u114.2.1 u114.2.2.1 u114.2.2.2.1 u114.2.2.2.2.1 u114.2.2.2.2.2.1 u114.2.2.2.2.2.2.1 u114.2.2.2.2.2.2.2.1 t_39.2.2.2.2.2.2.2.2.2.2.2.1 t_39.2.2.2.2.2.2.2.2.2.2.2.2.1 t_39.2.2.2.2.2.2.2.2.2.2.2.2.2.1 t_39.2.2.2.2.2.2.2.2.2.2.2.2.2.2.1 u114.2.2.2.2.2.2.2.2.1 u114.2.2.2.2.2.2.2.2.2) := hD
            refine lv_aload_n hx hb dX4_sum_73 rfl (lv_at hl 0 rfl) ?_
            refine va_get (D := D) (ci := 5) (v := .int u114.2.2.2.2.1) (C := RX4) (T := TX4) (N := 18) hx hb hts hi4 hown hK hP 0 rfl rfl 12 (by decide) (hts (.fieldLink RX4 56 "DecimalWordsModel" "raised" "I") (inW_9 _ (List.mem_of_getElem? (i := 17) rfl))) (fun _ h9 => h9) rfl dX4_sum_74 ?_
            refine lv_aload_n hx hb dX4_sum_77 rfl (lv_at hl 0 rfl) ?_
            refine va_get (D := D) (ci := 5) (v := .int vtp) (C := RX4) (T := TX4) (N := 18) hx hb hts hi4 hown hK hP 0 rfl rfl 7 (by decide) (hts (.fieldLink RX4 178 "DecimalWordsModel" "traps" "I") (inW_12 _ (List.mem_of_getElem? (i := 3) rfl))) (fun _ h9 => h9) rfl dX4_sum_78 ?_
            refine lv_iand hx hb dX4_sum_81 ?_
            have J_125 : (∀ z124 : Int32 × (Nat → Int32) × (Nat → Bool) × (Nat → Int64) × (Nat → Int32), z124 = Z_X4_sum_J_125 vtp p0 t_39 u114 → ∀ (H : Heap) (locs : List Loc), va_P D vwCl (mw cI cJ cZ am ak an ac ae ag aq (bI z108) vmo f116 vtp u114.1 u114.2.1 u114.2.2.1 u114.2.2.2.1 u114.2.2.2.2.1 u114.2.2.2.2.2.1 u114.2.2.2.2.2.2.1 u114.2.2.2.2.2.2.2.1 z124.2.1 z124.2.2.1 z124.2.2.2.1 z124.2.2.2.2 u114.2.2.2.2.2.2.2.2.1 u114.2.2.2.2.2.2.2.2.2) H → va_D A (mw cI cJ cZ am ak an ac ae ag aq (bI z108) vmo f116 vtp u114.1 u114.2.1 u114.2.2.1 u114.2.2.2.1 u114.2.2.2.2.1 u114.2.2.2.2.2.1 u114.2.2.2.2.2.2.1 u114.2.2.2.2.2.2.2.1 z124.2.1 z124.2.2.1 z124.2.2.2.1 z124.2.2.2.2 u114.2.2.2.2.2.2.2.2.1 u114.2.2.2.2.2.2.2.2.2) → va_S A s.heap H locs → ∀ ls : Array Slot, lv_has ls 6 [(0, .ref am), (1, .int p0), (3, .int p2), (4, .int z124.1), (5, .int t_39.2.1)] → W p l e rm_X4_sum s m args below meth c H locs 0 0 Q (F0 m 96 ls [])) := by
              intro z124 ez124 H locs hP hD hS ls hl
              have hb9 := hb9 _ ez124
              obtain ⟨n126, en126⟩ : ∃ y9 : Int32, y9 = t_39.2.1 + 1 := ⟨_, rfl⟩
              have hb9 := hb9 _ en126
              refine lv_iinc (v := n126) (lv' := [(5, .int n126), (0, .ref am), (1, .int p0), (3, .int p2), (4, .int z124.1)]) hx hb dX4_sum_96 hl (k := 4) rfl (by rw [en126]; rfl) (by decide) rfl (fun ls hl => ?_)
              refine lv_goto (tgt := 39) hx hb dX4_sum_99 (by decide) ?_
              have e9 := Eq.symm hb9; subst e9
              have key9 := ih9 ((B_X4_sum_39 vmo vtp p0 p2 z108) t_39) (fun j hj => hG9 (j + 1) (Nat.succ_lt_succ hj)) (fun j hj => hs9 (j + 1) (Nat.succ_lt_succ hj)) k9
              rw [← et9] at key9
              exact key9 H locs hP hD hS ls (lv_sub hl [1, 2, 3, 4, 0] rfl)
            obtain ⟨z9, ez9⟩ : ∃ y9 : Int32 × (Nat → Int32) × (Nat → Bool) × (Nat → Int64) × (Nat → Int32), y9 = Z_X4_sum_J_125 vtp p0 t_39 u114 := ⟨_, rfl⟩
            have hz := rZ_X4_sum_J_125 vtp p0 t_39 u114 ez9
            unfold RZ_X4_sum_J_125 at hz
            refine lv_if_eq (tgt := 91) hx hb dX4_sum_82 (by decide) (fun c_118 => ?_) (fun c_118 => ?_)
            · rw [if_pos c_118] at hs
              rw [if_pos c_118] at hz
              refine lv_aload_n hx hb dX4_sum_91 rfl (lv_at hl 0 rfl) ?_
              refine lv_iload_n hx hb dX4_sum_92 rfl (lv_at hl 1 rfl) ?_
              have h_119 := hs
              obtain ⟨u120, eu120⟩ : ∃ y9 : (Nat → Int32) × (Nat → Bool) × (Nat → Int64) × (Nat → Int32), y9 = F_X4_store u114.1 u114.2.1 u114.2.2.1 u114.2.2.2.1 t_39.2.2.2.2.2.2.2.2.2.2.2.1 t_39.2.2.2.2.2.2.2.2.2.2.2.2.1 t_39.2.2.2.2.2.2.2.2.2.2.2.2.2.1 t_39.2.2.2.2.2.2.2.2.2.2.2.2.2.2.1 p0 := ⟨_, rfl⟩
              have hz := hz _ eu120
              refine x_V (As := [.int p0]) (rest := []) hCF (c_X4_store l D cR cI cJ cZ t0 am ak an ac ae ag aq (bI z108) vmo f116 vtp u114.1 u114.2.1 u114.2.2.1 u114.2.2.2.1 u114.2.2.2.2.1 u114.2.2.2.2.2.1 u114.2.2.2.2.2.2.1 u114.2.2.2.2.2.2.2.1 t_39.2.2.2.2.2.2.2.2.2.2.2.1 t_39.2.2.2.2.2.2.2.2.2.2.2.2.1 t_39.2.2.2.2.2.2.2.2.2.2.2.2.2.1 t_39.2.2.2.2.2.2.2.2.2.2.2.2.2.2.1 u114.2.2.2.2.2.2.2.2.1 u114.2.2.2.2.2.2.2.2.2 p0 u120 eu120 h_119) (x_cwV 1 hts (inW_12 _ (List.mem_of_getElem? (i := 10) rfl)) (inW_12 _ (List.mem_of_getElem? (i := 11) rfl)) (inW_12 _ (List.mem_of_getElem? (i := 12) rfl)) (inW_9 _ (List.mem_of_getElem? (i := 5) rfl)) (inW_12 _ (List.mem_of_getElem? (i := 0) rfl)) rfl rfl (by decide +kernel) ⟨Nat.le_of_ble_eq_true rfl, Nat.le_of_ble_eq_true rfl⟩) hK hP hD hS hA hSt 0 rfl rfl rfl hl.1 rfl (Nat.le_of_ble_eq_true rfl) dX4_sum_93 ⟨Nat.le_of_ble_eq_true rfl, Nat.le_of_ble_eq_true rfl⟩ (fun H locs hP hD hS => ?_)
              show W p l e _ s m args below meth c H locs 0 0 Q (F0 m 96 ls [])
              have e9 := Eq.symm hz; subst e9
              exact J_125 _ ez9 H locs hP hD hS ls (lv_sub hl [0, 1, 2, 3, 4] rfl)
            · rw [if_neg c_118] at hz
              obtain ⟨n122, en122⟩ : ∃ y9 : Int32, y9 = t_39.1 + 1 := ⟨_, rfl⟩
              have hz := hz _ en122
              refine lv_iinc (v := n122) (lv' := [(4, .int n122), (0, .ref am), (1, .int p0), (3, .int p2), (5, .int t_39.2.1)]) hx hb dX4_sum_85 hl (k := 3) rfl (by rw [en122]; rfl) (by decide) rfl (fun ls hl => ?_)
              refine lv_goto (tgt := 96) hx hb dX4_sum_88 (by decide) ?_
              have e9 := Eq.symm hz; subst e9
              exact J_125 _ ez9 H locs hP hD hS ls (lv_sub hl [1, 2, 3, 0, 4] rfl)
    obtain ⟨hsL, hG1⟩ := hs
    refine L_133 (nW (G_X4_sum_39 vmo vtp p0 p2 z108) (B_X4_sum_39 vmo vtp p0 p2 z108) 901 (0, p1, vfg, vkd, vng, vcc, vqq, vrs, vct, vun, vre, vks, vms, vcs, ves, vdg, vog)) (0, p1, vfg, vkd, vng, vcc, vqq, vrs, vct, vun, vre, vks, vms, vcs, ves, vdg, vog) (nW_lt _ _ _ _) hsL (fun H locs hP hD hS ls hl => ?_) H locs hP hD hS ls (lv_sub hl [2, 3, 5, 1, 0] rfl)
    obtain ⟨z127, ez127⟩ : ∃ y9 : Int32 × Int32 × Int32 × Int32 × Bool × Int64 × Int32 × Int32 × Int32 × Int32 × Bool × (Nat → Int32) × (Nat → Bool) × (Nat → Int64) × (Nat → Int32) × (Nat → Int32) × (Nat → Int32), y9 = wl (G_X4_sum_39 vmo vtp p0 p2 z108) (B_X4_sum_39 vmo vtp p0 p2 z108) 901 (0, p1, vfg, vkd, vng, vcc, vqq, vrs, vct, vun, vre, vks, vms, vcs, ves, vdg, vog) := ⟨_, rfl⟩
    have e9 : z127 = itn (B_X4_sum_39 vmo vtp p0 p2 z108) (nW (G_X4_sum_39 vmo vtp p0 p2 z108) (B_X4_sum_39 vmo vtp p0 p2 z108) 901 (0, p1, vfg, vkd, vng, vcc, vqq, vrs, vct, vun, vre, vks, vms, vcs, ves, vdg, vog)) (0, p1, vfg, vkd, vng, vcc, vqq, vrs, vct, vun, vre, vks, vms, vcs, ves, vdg, vog) := ez127
    try rw [← e9] at hP
    try rw [← e9] at hD
    try rw [← e9] at hl
    rw [← ez127] at hG1
    clear e9
    have hg := rG_X4_sum_39 vmo vtp p0 p2 z108 z127 (Eq.symm hG1)
    unfold RG_X4_sum_39 at hg
    have hu := hu _ ez127
    refine lv_iload hx hb dX4_sum_39 (lv_at hl 4 rfl) ?_
    refine lv_iload_n hx hb dX4_sum_41 rfl (lv_at hl 2 rfl) ?_
    have J_132 : ∀ (H : Heap) (locs : List Loc), va_P D vwCl (mw cI cJ cZ am ak an ac ae ag aq (bI z108) vmo z127.2.2.1 vtp z127.2.2.2.1 z127.2.2.2.2.1 z127.2.2.2.2.2.1 z127.2.2.2.2.2.2.1 z127.2.2.2.2.2.2.2.1 z127.2.2.2.2.2.2.2.2.1 z127.2.2.2.2.2.2.2.2.2.1 z127.2.2.2.2.2.2.2.2.2.2.1 z127.2.2.2.2.2.2.2.2.2.2.2.1 z127.2.2.2.2.2.2.2.2.2.2.2.2.1 z127.2.2.2.2.2.2.2.2.2.2.2.2.2.1 z127.2.2.2.2.2.2.2.2.2.2.2.2.2.2.1 z127.2.2.2.2.2.2.2.2.2.2.2.2.2.2.2.1 z127.2.2.2.2.2.2.2.2.2.2.2.2.2.2.2.2) H → va_D A (mw cI cJ cZ am ak an ac ae ag aq (bI z108) vmo z127.2.2.1 vtp z127.2.2.2.1 z127.2.2.2.2.1 z127.2.2.2.2.2.1 z127.2.2.2.2.2.2.1 z127.2.2.2.2.2.2.2.1 z127.2.2.2.2.2.2.2.2.1 z127.2.2.2.2.2.2.2.2.2.1 z127.2.2.2.2.2.2.2.2.2.2.1 z127.2.2.2.2.2.2.2.2.2.2.2.1 z127.2.2.2.2.2.2.2.2.2.2.2.2.1 z127.2.2.2.2.2.2.2.2.2.2.2.2.2.1 z127.2.2.2.2.2.2.2.2.2.2.2.2.2.2.1 z127.2.2.2.2.2.2.2.2.2.2.2.2.2.2.2.1 z127.2.2.2.2.2.2.2.2.2.2.2.2.2.2.2.2) → va_S A s.heap H locs → ∀ ls : Array Slot, lv_has ls 6 [(4, .int z127.1)] → W p l e rm_X4_sum s m args below meth c H locs 0 0 Q (F0 m 102 ls []) := by
      intro H locs hP hD hS ls hl
      refine lv_iload hx hb dX4_sum_102 (lv_at hl 0 rfl) ?_
      have e9 := Eq.symm hu; subst e9
      exact x_iret hx hb hr hlocks hQ hK hP hD hS rfl rfl dX4_sum_104
    refine lv_icmp_gt (tgt := 102) hx hb dX4_sum_42 (by decide) (fun c_129 => ?_) (fun c_129 => ?_)
    · rw [if_pos c_129] at hg
      exact J_132 H locs hP hD hS ls (lv_sub hl [3] rfl)
    · rw [if_neg c_129] at hg
      refine lv_aload_n hx hb dX4_sum_45 rfl (lv_at hl 0 rfl) ?_
      refine va_get (D := D) (ci := 5) (v := .int (bI z108)) (C := RX4) (T := TX4) (N := 18) hx hb hts hi4 hown hK hP 0 rfl rfl 0 (by decide) (hts (.fieldLink RX4 30 "DecimalWordsModel" "thrown" "I") (inW_8 _ (List.mem_of_getElem? (i := 38) rfl))) (fun _ h9 => h9) rfl dX4_sum_46 ?_
      refine lv_if_ne (tgt := 102) hx hb dX4_sum_49 (by decide) (fun c_130 => ?_) (fun c_130 => ?_)
      · rw [if_neg c_130] at hg
        exact J_132 H locs hP hD hS ls (lv_sub hl [3] rfl)
      · rw [if_pos c_130] at hg
        exact absurd hg (by decide)
  obtain ⟨z9, ez9⟩ : ∃ y9 : Bool, y9 = Z_X4_sum_J_109 p0 p1 p2 := ⟨_, rfl⟩
  have hz := rZ_X4_sum_J_109 p0 p1 p2 ez9
  unfold RZ_X4_sum_J_109 at hz
  refine xb_ne (tgt := 25) hx hb dX4_sum_6 (by decide) (fun c_102 => ?_) (fun c_102 => ?_)
  · rw [if_pos c_102] at hz
    refine lv_iconst (v := 1) hx hb dX4_sum_25 (by decide) ?_
    refine lv_goto (tgt := 30) hx hb dX4_sum_26 (by decide) ?_
    have e9 := Eq.symm hz; subst e9
    exact J_109 _ ez9 H locs hP hD hS ls (lv_sub hl [0, 1, 2, 3] rfl)
  · rw [if_neg c_102] at hz
    refine lv_aload_n hx hb dX4_sum_9 rfl (lv_at hl 0 rfl) ?_
    refine lv_iload_n hx hb dX4_sum_10 rfl (lv_at hl 2 rfl) ?_
    refine x_V (As := [.int p1]) (rest := [.ref am]) hCF (c_X4_noRegister l D cR cI cJ cZ t0 am ak an ac ae ag aq vth vmo vfg vtp vkd vng vcc vqq vrs vct vun vre vks vms vcs ves vdg vog p1 _ rfl) (x_cwV 1 hts (inW_12 _ (List.mem_of_getElem? (i := 4) rfl)) (inW_12 _ (List.mem_of_getElem? (i := 5) rfl)) (inW_12 _ (List.mem_of_getElem? (i := 6) rfl)) (inW_9 _ (List.mem_of_getElem? (i := 5) rfl)) (inW_11 _ (List.mem_of_getElem? (i := 39) rfl)) rfl rfl (by decide +kernel) ⟨Nat.le_of_ble_eq_true rfl, Nat.le_of_ble_eq_true rfl⟩) hK hP hD hS hA hSt 0 rfl rfl rfl hl.1 rfl (Nat.le_of_ble_eq_true rfl) dX4_sum_11 ⟨Nat.le_of_ble_eq_true rfl, Nat.le_of_ble_eq_true rfl⟩ (fun H locs hP hD hS => ?_)
    show W p l e _ s m args below meth c H locs 0 0 Q (F0 m 14 ls (.int (bI (F_X4_noRegister p1)) :: [.ref am]))
    refine xb_ne (tgt := 25) hx hb dX4_sum_14 (by decide) (fun c_104 => ?_) (fun c_104 => ?_)
    · rw [if_pos c_104] at hz
      refine lv_iconst (v := 1) hx hb dX4_sum_25 (by decide) ?_
      refine lv_goto (tgt := 30) hx hb dX4_sum_26 (by decide) ?_
      have e9 := Eq.symm hz; subst e9
      exact J_109 _ ez9 H locs hP hD hS ls (lv_sub hl [0, 1, 2, 3] rfl)
    · rw [if_neg c_104] at hz
      refine lv_aload_n hx hb dX4_sum_17 rfl (lv_at hl 0 rfl) ?_
      refine lv_iload_n hx hb dX4_sum_18 rfl (lv_at hl 3 rfl) ?_
      refine x_V (As := [.int p2]) (rest := [.ref am]) hCF (c_X4_noRegister l D cR cI cJ cZ t0 am ak an ac ae ag aq vth vmo vfg vtp vkd vng vcc vqq vrs vct vun vre vks vms vcs ves vdg vog p2 _ rfl) (x_cwV 1 hts (inW_12 _ (List.mem_of_getElem? (i := 4) rfl)) (inW_12 _ (List.mem_of_getElem? (i := 5) rfl)) (inW_12 _ (List.mem_of_getElem? (i := 6) rfl)) (inW_9 _ (List.mem_of_getElem? (i := 5) rfl)) (inW_11 _ (List.mem_of_getElem? (i := 39) rfl)) rfl rfl (by decide +kernel) ⟨Nat.le_of_ble_eq_true rfl, Nat.le_of_ble_eq_true rfl⟩) hK hP hD hS hA hSt 0 rfl rfl rfl hl.1 rfl (Nat.le_of_ble_eq_true rfl) dX4_sum_19 ⟨Nat.le_of_ble_eq_true rfl, Nat.le_of_ble_eq_true rfl⟩ (fun H locs hP hD hS => ?_)
      show W p l e _ s m args below meth c H locs 0 0 Q (F0 m 22 ls (.int (bI (F_X4_noRegister p2)) :: [.ref am]))
      refine xb_eq (tgt := 29) hx hb dX4_sum_22 (by decide) (fun c_106 => ?_) (fun c_106 => ?_)
      · rw [if_neg c_106] at hz
        refine lv_iconst (v := 0) hx hb dX4_sum_29 (by decide) ?_
        have e9 := Eq.symm hz; subst e9
        exact J_109 _ ez9 H locs hP hD hS ls (lv_sub hl [0, 1, 2, 3] rfl)
      · rw [if_pos c_106] at hz
        refine lv_iconst (v := 1) hx hb dX4_sum_25 (by decide) ?_
        refine lv_goto (tgt := 30) hx hb dX4_sum_26 (by decide) ?_
        have e9 := Eq.symm hz; subst e9
        exact J_109 _ ez9 H locs hP hD hS ls (lv_sub hl [0, 1, 2, 3] rfl)

def Z_X4_put_J_109 (p0 : Int32) (p2 : Int64) (p3 : Int32) : Int32 := (if F_X4_noRegister p0 = true then 1 else (if p2 < 0 then 2 else (if 10000000000000000 ≤ p2 then 2 else (if p3 < (-398) then 2 else (if p3 ≤ 369 then 0 else 2)))))
def RZ_X4_put_J_109 (p0 : Int32) (p2 : Int64) (p3 : Int32) (u9 : Int32) : Prop := (if F_X4_noRegister p0 = true then u9 = 1 else (if p2 < 0 then u9 = 2 else (if 10000000000000000 ≤ p2 then u9 = 2 else (if p3 < (-398) then u9 = 2 else (if p3 ≤ 369 then u9 = 0 else u9 = 2)))))
theorem rZ_X4_put_J_109 (p0 : Int32) (p2 : Int64) (p3 : Int32) {u9 : Int32} (hu : u9 = Z_X4_put_J_109 p0 p2 p3) : RZ_X4_put_J_109 p0 p2 p3 u9 := by
  unfold RZ_X4_put_J_109
  refine ite_P (fun c_102 => ?_) (fun c_102 => ?_)
  · have hu := hu.trans (if_pos c_102)
    exact hu
  · have hu := hu.trans (if_neg c_102)
    refine ite_P (fun c_103 => ?_) (fun c_103 => ?_)
    · have hu := hu.trans (if_pos c_103)
      exact hu
    · have hu := hu.trans (if_neg c_103)
      refine ite_P (fun c_104 => ?_) (fun c_104 => ?_)
      · have hu := hu.trans (if_pos c_104)
        exact hu
      · have hu := hu.trans (if_neg c_104)
        refine ite_P (fun c_105 => ?_) (fun c_105 => ?_)
        · have hu := hu.trans (if_pos c_105)
          exact hu
        · have hu := hu.trans (if_neg c_105)
          refine ite_P (fun c_106 => ?_) (fun c_106 => ?_)
          · have hu := hu.trans (if_pos c_106)
            exact hu
          · have hu := hu.trans (if_neg c_106)
            exact hu
def F_X4_put (vkd : Int32) (vng : Bool) (vcc : Int64) (vqq : Int32) (vks : Nat → Int32) (vms : Nat → Bool) (vcs : Nat → Int64) (ves : Nat → Int32) (p0 : Int32) (p1 : Bool) (p2 : Int64) (p3 : Int32) : Int32 × Int32 × Bool × Int64 × Int32 × (Nat → Int32) × (Nat → Bool) × (Nat → Int64) × (Nat → Int32) := (bnd (Z_X4_put_J_109 p0 p2 p3) (fun z108 : Int32 => (if z108 = 0 then (bnd (F_X4_be (0 : Int32) p1 p2 p3) (fun u112 : Int32 × Bool × Int64 × Int32 => (bnd (F_X4_store u112.1 u112.2.1 u112.2.2.1 u112.2.2.2 vks vms vcs ves p0) (fun u115 : (Nat → Int32) × (Nat → Bool) × (Nat → Int64) × (Nat → Int32) => (z108, u112.1, u112.2.1, u112.2.2.1, u112.2.2.2, u115.1, u115.2.1, u115.2.2.1, u115.2.2.2))))) else (z108, vkd, vng, vcc, vqq, vks, vms, vcs, ves))))
def RF_X4_put (vkd : Int32) (vng : Bool) (vcc : Int64) (vqq : Int32) (vks : Nat → Int32) (vms : Nat → Bool) (vcs : Nat → Int64) (ves : Nat → Int32) (p0 : Int32) (p1 : Bool) (p2 : Int64) (p3 : Int32) (u9 : Int32 × Int32 × Bool × Int64 × Int32 × (Nat → Int32) × (Nat → Bool) × (Nat → Int64) × (Nat → Int32)) : Prop := (∀ z108 : Int32, z108 = Z_X4_put_J_109 p0 p2 p3 → (if z108 = 0 then (∀ u112 : Int32 × Bool × Int64 × Int32, u112 = F_X4_be (0 : Int32) p1 p2 p3 → (∀ u115 : (Nat → Int32) × (Nat → Bool) × (Nat → Int64) × (Nat → Int32), u115 = F_X4_store u112.1 u112.2.1 u112.2.2.1 u112.2.2.2 vks vms vcs ves p0 → u9 = (z108, u112.1, u112.2.1, u112.2.2.1, u112.2.2.2, u115.1, u115.2.1, u115.2.2.1, u115.2.2.2))) else u9 = (z108, vkd, vng, vcc, vqq, vks, vms, vcs, ves)))
theorem rF_X4_put (vkd : Int32) (vng : Bool) (vcc : Int64) (vqq : Int32) (vks : Nat → Int32) (vms : Nat → Bool) (vcs : Nat → Int64) (ves : Nat → Int32) (p0 : Int32) (p1 : Bool) (p2 : Int64) (p3 : Int32) {u9 : Int32 × Int32 × Bool × Int64 × Int32 × (Nat → Int32) × (Nat → Bool) × (Nat → Int64) × (Nat → Int32)} (hu : u9 = F_X4_put vkd vng vcc vqq vks vms vcs ves p0 p1 p2 p3) : RF_X4_put vkd vng vcc vqq vks vms vcs ves p0 p1 p2 p3 u9 := by
  unfold RF_X4_put
  intro z108 ez108
  have hu := bnd_n hu ez108
  refine ite_P (fun c_111 => ?_) (fun c_111 => ?_)
  · have hu := hu.trans (if_pos c_111)
    intro u112 eu112
    have hu := bnd_n hu eu112
    intro u115 eu115
    have hu := bnd_n hu eu115
    exact hu
  · have hu := hu.trans (if_neg c_111)
    exact hu
def S_X4_put (vkd : Int32) (vng : Bool) (vcc : Int64) (vqq : Int32) (vks : Nat → Int32) (vms : Nat → Bool) (vcs : Nat → Int64) (ves : Nat → Int32) (p0 : Int32) (p1 : Bool) (p2 : Int64) (p3 : Int32) : Prop := (∀ z108 : Int32, z108 = Z_X4_put_J_109 p0 p2 p3 → (if z108 = 0 then (∀ u112 : Int32 × Bool × Int64 × Int32, u112 = F_X4_be (0 : Int32) p1 p2 p3 → S_X4_store u112.1 u112.2.1 u112.2.2.1 u112.2.2.2 vks vms vcs ves p0) else True))
def rm_X4_put : Room := { frames := 1, cells := 0, slots := 0, locals := 25 }
set_option maxHeartbeats 4000000 in
set_option maxRecDepth 100000 in
theorem c_X4_put (l : Launch) (D : va_G) (cR cI cJ cZ : ClassId) (t0 : Nat) (am ak an ac ae ag aq : Nat) (vth : Int32) (vmo : Int32) (vfg : Int32) (vtp : Int32) (vkd : Int32) (vng : Bool) (vcc : Int64) (vqq : Int32) (vrs : Int32) (vct : Int32) (vun : Int32) (vre : Bool) (vks : Nat → Int32) (vms : Nat → Bool) (vcs : Nat → Int64) (ves : Nat → Int32) (vdg : Nat → Int32) (vog : Nat → Int32) (p0 : Int32) (p1 : Bool) (p2 : Int64) (p3 : Int32) (u : Int32 × Int32 × Bool × Int64 × Int32 × (Nat → Int32) × (Nat → Bool) × (Nat → Int64) × (Nat → Int32)) (hu : u = F_X4_put vkd vng vcc vqq vks vms vcs ves p0 p1 p2 p3) (hs : S_X4_put vkd vng vcc vqq vks vms vcs ves p0 p1 p2 p3) : XM l D (xty cR cI cJ cZ) t0 yX4_put cX4_put 6 none rm_X4_put [.ref am, .int p0, .int (bI p1), .long p2, .int p3] none (mw cI cJ cZ am ak an ac ae ag aq vth vmo vfg vtp vkd vng vcc vqq vrs vct vun vre vks vms vcs ves vdg vog) (mw cI cJ cZ am ak an ac ae ag aq u.1 vmo vfg vtp u.2.1 u.2.2.1 u.2.2.2.1 u.2.2.2.2.1 vrs vct vun vre u.2.2.2.2.2.1 u.2.2.2.2.2.2.1 u.2.2.2.2.2.2.2.1 u.2.2.2.2.2.2.2.2 vdg vog) := by
  refine XM.of (by decide) (Nat.le_of_ble_eq_true rfl) ?_
  intro p e s m args below meth c A Q F hK hP hD hA hSt hS hQ ls hl
  obtain ⟨hx, hb, hr, hts, hown, hlocks, hml⟩ := F
  have hCF : CallFix p m c cX4_put 6 s args gW RX4 := ⟨hx, hb, hml, hown, hts⟩
  unfold S_X4_put at hs
  have hu := rF_X4_put vkd vng vcc vqq vks vms vcs ves p0 p1 p2 p3 hu
  unfold RF_X4_put at hu
  obtain ⟨H, eH⟩ : ∃ y9 : Heap, y9 = s.heap := ⟨_, rfl⟩
  obtain ⟨locs, eL⟩ : ∃ y9 : List Loc, y9 = [] := ⟨_, rfl⟩
  rw [← eL] at hS ⊢
  have hP : va_P D vwCl (mw cI cJ cZ am ak an ac ae ag aq vth vmo vfg vtp vkd vng vcc vqq vrs vct vun vre vks vms vcs ves vdg vog) H := by rw [eH]; exact hP
  have hS : va_S A s.heap H locs := by rw [eH]; exact hS
  suffices goal9 : W p l e rm_X4_put s m args below meth c H locs 0 0 Q (F0 m 0 ls []) from by rw [← eH]; exact goal9
  have hl : lv_has ls 6 [(0, .ref am), (1, .int p0), (2, .int (bI p1)), (3, .long p2), (5, .int p3)] := hl
  have hi4 : ∀ w ∈ wsX40, w ∈ gW := inW_X4
  refine lv_aload_n hx hb dX4_put_0 rfl (lv_at hl 0 rfl) ?_
  refine lv_aload_n hx hb dX4_put_1 rfl (lv_at hl 0 rfl) ?_
  refine lv_iload_n hx hb dX4_put_2 rfl (lv_at hl 1 rfl) ?_
  refine x_V (As := [.int p0]) (rest := [.ref am]) hCF (c_X4_noRegister l D cR cI cJ cZ t0 am ak an ac ae ag aq vth vmo vfg vtp vkd vng vcc vqq vrs vct vun vre vks vms vcs ves vdg vog p0 _ rfl) (x_cwV 1 hts (inW_12 _ (List.mem_of_getElem? (i := 4) rfl)) (inW_12 _ (List.mem_of_getElem? (i := 5) rfl)) (inW_12 _ (List.mem_of_getElem? (i := 6) rfl)) (inW_9 _ (List.mem_of_getElem? (i := 5) rfl)) (inW_11 _ (List.mem_of_getElem? (i := 39) rfl)) rfl rfl (by decide +kernel) ⟨Nat.le_of_ble_eq_true rfl, Nat.le_of_ble_eq_true rfl⟩) hK hP hD hS hA hSt 0 rfl rfl rfl hl.1 rfl (Nat.le_of_ble_eq_true rfl) dX4_put_3 ⟨Nat.le_of_ble_eq_true rfl, Nat.le_of_ble_eq_true rfl⟩ (fun H locs hP hD hS => ?_)
  show W p l e _ s m args below meth c H locs 0 0 Q (F0 m 6 ls (.int (bI (F_X4_noRegister p0)) :: [.ref am]))
  have J_109 : (∀ z108 : Int32, z108 = Z_X4_put_J_109 p0 p2 p3 → ∀ (H : Heap) (locs : List Loc), va_P D vwCl (mw cI cJ cZ am ak an ac ae ag aq vth vmo vfg vtp vkd vng vcc vqq vrs vct vun vre vks vms vcs ves vdg vog) H → va_D A (mw cI cJ cZ am ak an ac ae ag aq vth vmo vfg vtp vkd vng vcc vqq vrs vct vun vre vks vms vcs ves vdg vog) → va_S A s.heap H locs → ∀ ls : Array Slot, lv_has ls 6 [(0, .ref am), (1, .int p0), (2, .int (bI p1)), (3, .long p2), (5, .int p3)] → W p l e rm_X4_put s m args below meth c H locs 0 0 Q (F0 m 48 ls [.int z108, .ref am])) := by
    intro z108 ez108 H locs hP hD hS ls hl
    have hs := hs _ ez108
    have hu := hu _ ez108
    refine va_put (D := D) (ci := 5) (v := .int z108) (ty := .int) (C := RX4) (T := TX4) (N := 18) hx hb hts hi4 tyX4 tyX4_ok nmX4 hown hK hP hD hS 0 rfl rfl 0 (by decide) (hts (.fieldLink RX4 30 "DecimalWordsModel" "thrown" "I") (inW_8 _ (List.mem_of_getElem? (i := 38) rfl))) (fun _ h9 => h9) rfl (by decide +kernel) rfl rfl (Nat.le_of_ble_eq_true rfl) dX4_put_48 (fun H locs hP hD hS => ?_)
    have hP : va_P D vwCl (mw cI cJ cZ am ak an ac ae ag aq z108 vmo vfg vtp vkd vng vcc vqq vrs vct vun vre vks vms vcs ves vdg vog) H := hP
    have hD : va_D A (mw cI cJ cZ am ak an ac ae ag aq z108 vmo vfg vtp vkd vng vcc vqq vrs vct vun vre vks vms vcs ves vdg vog) := hD
    refine lv_aload_n hx hb dX4_put_51 rfl (lv_at hl 0 rfl) ?_
    refine va_get (D := D) (ci := 5) (v := .int z108) (C := RX4) (T := TX4) (N := 18) hx hb hts hi4 hown hK hP 0 rfl rfl 0 (by decide) (hts (.fieldLink RX4 30 "DecimalWordsModel" "thrown" "I") (inW_8 _ (List.mem_of_getElem? (i := 38) rfl))) (fun _ h9 => h9) rfl dX4_put_52 ?_
    refine lv_if_ne (tgt := 72) hx hb dX4_put_55 (by decide) (fun c_111 => ?_) (fun c_111 => ?_)
    · rw [if_neg c_111] at hu
      have e9 := Eq.symm hu; subst e9
      exact x_vret hx hb hr hlocks hQ hK hP hD hS rfl dX4_put_72
    · rw [if_pos c_111] at hs
      rw [if_pos c_111] at hu
      refine lv_aload_n hx hb dX4_put_58 rfl (lv_at hl 0 rfl) ?_
      refine lv_iconst (v := 0) hx hb dX4_put_59 (by decide) ?_
      refine lv_iload_n hx hb dX4_put_60 rfl (lv_at hl 2 rfl) ?_
      refine lv_lload_n hx hb dX4_put_61 rfl (lv_at hl 3 rfl) ?_
      refine lv_iload hx hb dX4_put_62 (lv_at hl 4 rfl) ?_
      obtain ⟨u112, eu112⟩ : ∃ y9 : Int32 × Bool × Int64 × Int32, y9 = F_X4_be (0 : Int32) p1 p2 p3 := ⟨_, rfl⟩
      have hs := hs _ eu112
      have hu := hu _ eu112
      refine x_V (As := [.int 0, .int (bI p1), .long p2, .int p3]) (rest := []) hCF (c_X4_be l D cR cI cJ cZ t0 am ak an ac ae ag aq z108 vmo vfg vtp vkd vng vcc vqq vrs vct vun vre vks vms vcs ves vdg vog (0 : Int32) p1 p2 p3 u112 eu112) (x_cwV 4 hts (inW_9 _ (List.mem_of_getElem? (i := 18) rfl)) (inW_9 _ (List.mem_of_getElem? (i := 19) rfl)) (inW_9 _ (List.mem_of_getElem? (i := 20) rfl)) (inW_9 _ (List.mem_of_getElem? (i := 5) rfl)) (inW_9 _ (List.mem_of_getElem? (i := 11) rfl)) rfl rfl (by decide +kernel) ⟨Nat.le_of_ble_eq_true rfl, Nat.le_of_ble_eq_true rfl⟩) hK hP hD hS hA hSt 0 rfl rfl rfl hl.1 rfl (Nat.le_of_ble_eq_true rfl) dX4_put_64 ⟨Nat.le_of_ble_eq_true rfl, Nat.le_of_ble_eq_true rfl⟩ (fun H locs hP hD hS => ?_)
      show W p l e _ s m args below meth c H locs 0 0 Q (F0 m 67 ls [])
      refine lv_aload_n hx hb dX4_put_67 rfl (lv_at hl 0 rfl) ?_
      refine lv_iload_n hx hb dX4_put_68 rfl (lv_at hl 1 rfl) ?_
      have h_114 := hs
      obtain ⟨u115, eu115⟩ : ∃ y9 : (Nat → Int32) × (Nat → Bool) × (Nat → Int64) × (Nat → Int32), y9 = F_X4_store u112.1 u112.2.1 u112.2.2.1 u112.2.2.2 vks vms vcs ves p0 := ⟨_, rfl⟩
      have hu := hu _ eu115
      refine x_V (As := [.int p0]) (rest := []) hCF (c_X4_store l D cR cI cJ cZ t0 am ak an ac ae ag aq z108 vmo vfg vtp u112.1 u112.2.1 u112.2.2.1 u112.2.2.2 vrs vct vun vre vks vms vcs ves vdg vog p0 u115 eu115 h_114) (x_cwV 1 hts (inW_12 _ (List.mem_of_getElem? (i := 10) rfl)) (inW_12 _ (List.mem_of_getElem? (i := 11) rfl)) (inW_12 _ (List.mem_of_getElem? (i := 12) rfl)) (inW_9 _ (List.mem_of_getElem? (i := 5) rfl)) (inW_12 _ (List.mem_of_getElem? (i := 0) rfl)) rfl rfl (by decide +kernel) ⟨Nat.le_of_ble_eq_true rfl, Nat.le_of_ble_eq_true rfl⟩) hK hP hD hS hA hSt 0 rfl rfl rfl hl.1 rfl (Nat.le_of_ble_eq_true rfl) dX4_put_69 ⟨Nat.le_of_ble_eq_true rfl, Nat.le_of_ble_eq_true rfl⟩ (fun H locs hP hD hS => ?_)
      show W p l e _ s m args below meth c H locs 0 0 Q (F0 m 72 ls [])
      have e9 := Eq.symm hu; subst e9
      exact x_vret hx hb hr hlocks hQ hK hP hD hS rfl dX4_put_72
  obtain ⟨z9, ez9⟩ : ∃ y9 : Int32, y9 = Z_X4_put_J_109 p0 p2 p3 := ⟨_, rfl⟩
  have hz := rZ_X4_put_J_109 p0 p2 p3 ez9
  unfold RZ_X4_put_J_109 at hz
  refine xb_eq (tgt := 13) hx hb dX4_put_6 (by decide) (fun c_102 => ?_) (fun c_102 => ?_)
  · rw [if_neg c_102] at hz
    refine lv_lload_n hx hb dX4_put_13 rfl (lv_at hl 3 rfl) ?_
    refine lv_lconst (v := 0) hx hb dX4_put_14 (by decide) ?_
    refine xl_lt (tgt := 43) hx hb dX4_put_15 dX4_put_16 (by decide) (fun c_103 => ?_) (fun c_103 => ?_)
    · rw [if_pos c_103] at hz
      refine lv_iconst (v := 2) hx hb dX4_put_43 (by decide) ?_
      refine lv_goto (tgt := 48) hx hb dX4_put_44 (by decide) ?_
      have e9 := Eq.symm hz; subst e9
      exact J_109 _ ez9 H locs hP hD hS ls (lv_sub hl [0, 1, 2, 3, 4] rfl)
    · rw [if_neg c_103] at hz
      refine lv_lload_n hx hb dX4_put_19 rfl (lv_at hl 3 rfl) ?_
      refine lv_ldc2 (v := 10000000000000000) hx hb hown (hts (.constantLong RX4 97 (10000000000000000)) (inW_9 _ (List.mem_of_getElem? (i := 34) rfl))) dX4_put_20 ?_
      refine xl_ge (tgt := 43) hx hb dX4_put_23 dX4_put_24 (by decide) (fun c_104 => ?_) (fun c_104 => ?_)
      · rw [if_pos c_104] at hz
        refine lv_iconst (v := 2) hx hb dX4_put_43 (by decide) ?_
        refine lv_goto (tgt := 48) hx hb dX4_put_44 (by decide) ?_
        have e9 := Eq.symm hz; subst e9
        exact J_109 _ ez9 H locs hP hD hS ls (lv_sub hl [0, 1, 2, 3, 4] rfl)
      · rw [if_neg c_104] at hz
        refine lv_iload hx hb dX4_put_27 (lv_at hl 4 rfl) ?_
        refine lv_sipush (v := (-398)) hx hb dX4_put_29 (by decide) ?_
        refine lv_icmp_lt (tgt := 43) hx hb dX4_put_32 (by decide) (fun c_105 => ?_) (fun c_105 => ?_)
        · rw [if_pos c_105] at hz
          refine lv_iconst (v := 2) hx hb dX4_put_43 (by decide) ?_
          refine lv_goto (tgt := 48) hx hb dX4_put_44 (by decide) ?_
          have e9 := Eq.symm hz; subst e9
          exact J_109 _ ez9 H locs hP hD hS ls (lv_sub hl [0, 1, 2, 3, 4] rfl)
        · rw [if_neg c_105] at hz
          refine lv_iload hx hb dX4_put_35 (lv_at hl 4 rfl) ?_
          refine lv_sipush (v := 369) hx hb dX4_put_37 (by decide) ?_
          refine lv_icmp_le (tgt := 47) hx hb dX4_put_40 (by decide) (fun c_106 => ?_) (fun c_106 => ?_)
          · rw [if_pos c_106] at hz
            refine lv_iconst (v := 0) hx hb dX4_put_47 (by decide) ?_
            have e9 := Eq.symm hz; subst e9
            exact J_109 _ ez9 H locs hP hD hS ls (lv_sub hl [0, 1, 2, 3, 4] rfl)
          · rw [if_neg c_106] at hz
            refine lv_iconst (v := 2) hx hb dX4_put_43 (by decide) ?_
            refine lv_goto (tgt := 48) hx hb dX4_put_44 (by decide) ?_
            have e9 := Eq.symm hz; subst e9
            exact J_109 _ ez9 H locs hP hD hS ls (lv_sub hl [0, 1, 2, 3, 4] rfl)
  · rw [if_pos c_102] at hz
    refine lv_iconst (v := 1) hx hb dX4_put_9 (by decide) ?_
    refine lv_goto (tgt := 48) hx hb dX4_put_10 (by decide) ?_
    have e9 := Eq.symm hz; subst e9
    exact J_109 _ ez9 H locs hP hD hS ls (lv_sub hl [0, 1, 2, 3, 4] rfl)

def Z_X4_compare_J_107 (p0 : Int32) (p1 : Int32) : Bool := (if F_X4_noRegister p0 = true then true else (if F_X4_noRegister p1 = true then true else false))
def RZ_X4_compare_J_107 (p0 : Int32) (p1 : Int32) (u9 : Bool) : Prop := (if F_X4_noRegister p0 = true then u9 = true else (if F_X4_noRegister p1 = true then u9 = true else u9 = false))
theorem rZ_X4_compare_J_107 (p0 : Int32) (p1 : Int32) {u9 : Bool} (hu : u9 = Z_X4_compare_J_107 p0 p1) : RZ_X4_compare_J_107 p0 p1 u9 := by
  unfold RZ_X4_compare_J_107
  refine ite_P (fun c_102 => ?_) (fun c_102 => ?_)
  · have hu := hu.trans (if_pos c_102)
    exact hu
  · have hu := hu.trans (if_neg c_102)
    refine ite_P (fun c_104 => ?_) (fun c_104 => ?_)
    · have hu := hu.trans (if_pos c_104)
      exact hu
    · have hu := hu.trans (if_neg c_104)
      exact hu
def F_X4_compare (vks : Nat → Int32) (vms : Nat → Bool) (vcs : Nat → Int64) (ves : Nat → Int32) (p0 : Int32) (p1 : Int32) : Int32 × Int32 := (bnd (Z_X4_compare_J_107 p0 p1) (fun z106 : Bool => (if (bI z106) = 0 then (if F_X4_is vks p0 (2 : Int32) = true then (2, (bI z106)) else (if F_X4_is vks p1 (2 : Int32) = true then (2, (bI z106)) else (F_X4_order vks vms vcs ves p0 p1, (bI z106)))) else (0, (bI z106)))))
def RF_X4_compare (vks : Nat → Int32) (vms : Nat → Bool) (vcs : Nat → Int64) (ves : Nat → Int32) (p0 : Int32) (p1 : Int32) (u9 : Int32 × Int32) : Prop := (∀ z106 : Bool, z106 = Z_X4_compare_J_107 p0 p1 → (if (bI z106) = 0 then (if F_X4_is vks p0 (2 : Int32) = true then u9 = (2, (bI z106)) else (if F_X4_is vks p1 (2 : Int32) = true then u9 = (2, (bI z106)) else u9 = (F_X4_order vks vms vcs ves p0 p1, (bI z106)))) else u9 = (0, (bI z106))))
theorem rF_X4_compare (vks : Nat → Int32) (vms : Nat → Bool) (vcs : Nat → Int64) (ves : Nat → Int32) (p0 : Int32) (p1 : Int32) {u9 : Int32 × Int32} (hu : u9 = F_X4_compare vks vms vcs ves p0 p1) : RF_X4_compare vks vms vcs ves p0 p1 u9 := by
  unfold RF_X4_compare
  intro z106 ez106
  have hu := bnd_n hu ez106
  refine ite_P (fun c_109 => ?_) (fun c_109 => ?_)
  · have hu := hu.trans (if_pos c_109)
    refine ite_P (fun c_112 => ?_) (fun c_112 => ?_)
    · have hu := hu.trans (if_pos c_112)
      exact hu
    · have hu := hu.trans (if_neg c_112)
      refine ite_P (fun c_115 => ?_) (fun c_115 => ?_)
      · have hu := hu.trans (if_pos c_115)
        exact hu
      · have hu := hu.trans (if_neg c_115)
        exact hu
  · have hu := hu.trans (if_neg c_109)
    exact hu
def S_X4_compare (vks : Nat → Int32) (vms : Nat → Bool) (vcs : Nat → Int64) (ves : Nat → Int32) (p0 : Int32) (p1 : Int32) : Prop := (∀ z106 : Bool, z106 = Z_X4_compare_J_107 p0 p1 → (if (bI z106) = 0 then (S_X4_is vks p0 (2 : Int32)) ∧ (if F_X4_is vks p0 (2 : Int32) = true then True else (S_X4_is vks p1 (2 : Int32)) ∧ (if F_X4_is vks p1 (2 : Int32) = true then True else S_X4_order vks vms vcs ves p0 p1)) else True))
def rm_X4_compare : Room := { frames := 3, cells := 0, slots := 0, locals := 81 }
set_option maxHeartbeats 4000000 in
set_option maxRecDepth 100000 in
theorem c_X4_compare (l : Launch) (D : va_G) (cR cI cJ cZ : ClassId) (t0 : Nat) (am ak an ac ae ag aq : Nat) (vth : Int32) (vmo : Int32) (vfg : Int32) (vtp : Int32) (vkd : Int32) (vng : Bool) (vcc : Int64) (vqq : Int32) (vrs : Int32) (vct : Int32) (vun : Int32) (vre : Bool) (vks : Nat → Int32) (vms : Nat → Bool) (vcs : Nat → Int64) (ves : Nat → Int32) (vdg : Nat → Int32) (vog : Nat → Int32) (p0 : Int32) (p1 : Int32) (u : Int32 × Int32) (hu : u = F_X4_compare vks vms vcs ves p0 p1) (hs : S_X4_compare vks vms vcs ves p0 p1) : XM l D (xty cR cI cJ cZ) t0 yX4_compare cX4_compare 3 (some .int) rm_X4_compare [.ref am, .int p0, .int p1] (some (.int u.1)) (mw cI cJ cZ am ak an ac ae ag aq vth vmo vfg vtp vkd vng vcc vqq vrs vct vun vre vks vms vcs ves vdg vog) (mw cI cJ cZ am ak an ac ae ag aq u.2 vmo vfg vtp vkd vng vcc vqq vrs vct vun vre vks vms vcs ves vdg vog) := by
  refine XM.of (by decide) (Nat.le_of_ble_eq_true rfl) ?_
  intro p e s m args below meth c A Q F hK hP hD hA hSt hS hQ ls hl
  obtain ⟨hx, hb, hr, hts, hown, hlocks, hml⟩ := F
  have hCF : CallFix p m c cX4_compare 3 s args gW RX4 := ⟨hx, hb, hml, hown, hts⟩
  unfold S_X4_compare at hs
  have hu := rF_X4_compare vks vms vcs ves p0 p1 hu
  unfold RF_X4_compare at hu
  obtain ⟨H, eH⟩ : ∃ y9 : Heap, y9 = s.heap := ⟨_, rfl⟩
  obtain ⟨locs, eL⟩ : ∃ y9 : List Loc, y9 = [] := ⟨_, rfl⟩
  rw [← eL] at hS ⊢
  have hP : va_P D vwCl (mw cI cJ cZ am ak an ac ae ag aq vth vmo vfg vtp vkd vng vcc vqq vrs vct vun vre vks vms vcs ves vdg vog) H := by rw [eH]; exact hP
  have hS : va_S A s.heap H locs := by rw [eH]; exact hS
  suffices goal9 : W p l e rm_X4_compare s m args below meth c H locs 0 0 Q (F0 m 0 ls []) from by rw [← eH]; exact goal9
  have hl : lv_has ls 3 [(0, .ref am), (1, .int p0), (2, .int p1)] := hl
  have hi4 : ∀ w ∈ wsX40, w ∈ gW := inW_X4
  refine lv_aload_n hx hb dX4_compare_0 rfl (lv_at hl 0 rfl) ?_
  refine lv_aload_n hx hb dX4_compare_1 rfl (lv_at hl 0 rfl) ?_
  refine lv_iload_n hx hb dX4_compare_2 rfl (lv_at hl 1 rfl) ?_
  refine x_V (As := [.int p0]) (rest := [.ref am]) hCF (c_X4_noRegister l D cR cI cJ cZ t0 am ak an ac ae ag aq vth vmo vfg vtp vkd vng vcc vqq vrs vct vun vre vks vms vcs ves vdg vog p0 _ rfl) (x_cwV 1 hts (inW_12 _ (List.mem_of_getElem? (i := 4) rfl)) (inW_12 _ (List.mem_of_getElem? (i := 5) rfl)) (inW_12 _ (List.mem_of_getElem? (i := 6) rfl)) (inW_9 _ (List.mem_of_getElem? (i := 5) rfl)) (inW_11 _ (List.mem_of_getElem? (i := 39) rfl)) rfl rfl (by decide +kernel) ⟨Nat.le_of_ble_eq_true rfl, Nat.le_of_ble_eq_true rfl⟩) hK hP hD hS hA hSt 0 rfl rfl rfl hl.1 rfl (Nat.le_of_ble_eq_true rfl) dX4_compare_3 ⟨Nat.le_of_ble_eq_true rfl, Nat.le_of_ble_eq_true rfl⟩ (fun H locs hP hD hS => ?_)
  show W p l e _ s m args below meth c H locs 0 0 Q (F0 m 6 ls (.int (bI (F_X4_noRegister p0)) :: [.ref am]))
  have J_107 : (∀ z106 : Bool, z106 = Z_X4_compare_J_107 p0 p1 → ∀ (H : Heap) (locs : List Loc), va_P D vwCl (mw cI cJ cZ am ak an ac ae ag aq vth vmo vfg vtp vkd vng vcc vqq vrs vct vun vre vks vms vcs ves vdg vog) H → va_D A (mw cI cJ cZ am ak an ac ae ag aq vth vmo vfg vtp vkd vng vcc vqq vrs vct vun vre vks vms vcs ves vdg vog) → va_S A s.heap H locs → ∀ ls : Array Slot, lv_has ls 3 [(0, .ref am), (1, .int p0), (2, .int p1)] → W p l e rm_X4_compare s m args below meth c H locs 0 0 Q (F0 m 22 ls [.int (bI z106), .ref am])) := by
    intro z106 ez106 H locs hP hD hS ls hl
    have hs := hs _ ez106
    have hu := hu _ ez106
    refine va_put (D := D) (ci := 5) (v := .int (bI z106)) (ty := .int) (C := RX4) (T := TX4) (N := 18) hx hb hts hi4 tyX4 tyX4_ok nmX4 hown hK hP hD hS 0 rfl rfl 0 (by decide) (hts (.fieldLink RX4 30 "DecimalWordsModel" "thrown" "I") (inW_8 _ (List.mem_of_getElem? (i := 38) rfl))) (fun _ h9 => h9) rfl (by decide +kernel) rfl rfl (Nat.le_of_ble_eq_true rfl) dX4_compare_22 (fun H locs hP hD hS => ?_)
    have hP : va_P D vwCl (mw cI cJ cZ am ak an ac ae ag aq (bI z106) vmo vfg vtp vkd vng vcc vqq vrs vct vun vre vks vms vcs ves vdg vog) H := hP
    have hD : va_D A (mw cI cJ cZ am ak an ac ae ag aq (bI z106) vmo vfg vtp vkd vng vcc vqq vrs vct vun vre vks vms vcs ves vdg vog) := hD
    refine lv_aload_n hx hb dX4_compare_25 rfl (lv_at hl 0 rfl) ?_
    refine va_get (D := D) (ci := 5) (v := .int (bI z106)) (C := RX4) (T := TX4) (N := 18) hx hb hts hi4 hown hK hP 0 rfl rfl 0 (by decide) (hts (.fieldLink RX4 30 "DecimalWordsModel" "thrown" "I") (inW_8 _ (List.mem_of_getElem? (i := 38) rfl))) (fun _ h9 => h9) rfl dX4_compare_26 ?_
    refine lv_if_eq (tgt := 34) hx hb dX4_compare_29 (by decide) (fun c_109 => ?_) (fun c_109 => ?_)
    · rw [if_pos c_109] at hs
      rw [if_pos c_109] at hu
      refine lv_aload_n hx hb dX4_compare_34 rfl (lv_at hl 0 rfl) ?_
      refine lv_iload_n hx hb dX4_compare_35 rfl (lv_at hl 1 rfl) ?_
      refine lv_iconst (v := 2) hx hb dX4_compare_36 (by decide) ?_
      obtain ⟨h_110, hs⟩ := hs
      refine x_V (As := [.int p0, .int 2]) (rest := []) hCF (c_X4_is l D cR cI cJ cZ t0 am ak an ac ae ag aq (bI z106) vmo vfg vtp vkd vng vcc vqq vrs vct vun vre vks vms vcs ves vdg vog p0 (2 : Int32) _ rfl h_110) (x_cwV 2 hts (inW_10 _ (List.mem_of_getElem? (i := 18) rfl)) (inW_10 _ (List.mem_of_getElem? (i := 19) rfl)) (inW_10 _ (List.mem_of_getElem? (i := 20) rfl)) (inW_9 _ (List.mem_of_getElem? (i := 5) rfl)) (inW_10 _ (List.mem_of_getElem? (i := 10) rfl)) rfl rfl (by decide +kernel) ⟨Nat.le_of_ble_eq_true rfl, Nat.le_of_ble_eq_true rfl⟩) hK hP hD hS hA hSt 0 rfl rfl rfl hl.1 rfl (Nat.le_of_ble_eq_true rfl) dX4_compare_37 ⟨Nat.le_of_ble_eq_true rfl, Nat.le_of_ble_eq_true rfl⟩ (fun H locs hP hD hS => ?_)
      show W p l e _ s m args below meth c H locs 0 0 Q (F0 m 40 ls (.int (bI (F_X4_is vks p0 (2 : Int32))) :: []))
      refine xb_ne (tgt := 52) hx hb dX4_compare_40 (by decide) (fun c_112 => ?_) (fun c_112 => ?_)
      · rw [if_pos c_112] at hu
        refine lv_iconst (v := 2) hx hb dX4_compare_52 (by decide) ?_
        refine lv_goto (tgt := 62) hx hb dX4_compare_53 (by decide) ?_
        have e9 := Eq.symm hu; subst e9
        exact x_iret hx hb hr hlocks hQ hK hP hD hS rfl rfl dX4_compare_62
      · rw [if_neg c_112] at hs
        rw [if_neg c_112] at hu
        refine lv_aload_n hx hb dX4_compare_43 rfl (lv_at hl 0 rfl) ?_
        refine lv_iload_n hx hb dX4_compare_44 rfl (lv_at hl 2 rfl) ?_
        refine lv_iconst (v := 2) hx hb dX4_compare_45 (by decide) ?_
        obtain ⟨h_113, hs⟩ := hs
        refine x_V (As := [.int p1, .int 2]) (rest := []) hCF (c_X4_is l D cR cI cJ cZ t0 am ak an ac ae ag aq (bI z106) vmo vfg vtp vkd vng vcc vqq vrs vct vun vre vks vms vcs ves vdg vog p1 (2 : Int32) _ rfl h_113) (x_cwV 2 hts (inW_10 _ (List.mem_of_getElem? (i := 18) rfl)) (inW_10 _ (List.mem_of_getElem? (i := 19) rfl)) (inW_10 _ (List.mem_of_getElem? (i := 20) rfl)) (inW_9 _ (List.mem_of_getElem? (i := 5) rfl)) (inW_10 _ (List.mem_of_getElem? (i := 10) rfl)) rfl rfl (by decide +kernel) ⟨Nat.le_of_ble_eq_true rfl, Nat.le_of_ble_eq_true rfl⟩) hK hP hD hS hA hSt 0 rfl rfl rfl hl.1 rfl (Nat.le_of_ble_eq_true rfl) dX4_compare_46 ⟨Nat.le_of_ble_eq_true rfl, Nat.le_of_ble_eq_true rfl⟩ (fun H locs hP hD hS => ?_)
        show W p l e _ s m args below meth c H locs 0 0 Q (F0 m 49 ls (.int (bI (F_X4_is vks p1 (2 : Int32))) :: []))
        refine xb_eq (tgt := 56) hx hb dX4_compare_49 (by decide) (fun c_115 => ?_) (fun c_115 => ?_)
        · rw [if_neg c_115] at hs
          rw [if_neg c_115] at hu
          refine lv_aload_n hx hb dX4_compare_56 rfl (lv_at hl 0 rfl) ?_
          refine lv_iload_n hx hb dX4_compare_57 rfl (lv_at hl 1 rfl) ?_
          refine lv_iload_n hx hb dX4_compare_58 rfl (lv_at hl 2 rfl) ?_
          have h_116 := hs
          refine x_V (As := [.int p0, .int p1]) (rest := []) hCF (c_X4_order l D cR cI cJ cZ t0 am ak an ac ae ag aq (bI z106) vmo vfg vtp vkd vng vcc vqq vrs vct vun vre vks vms vcs ves vdg vog p0 p1 _ rfl h_116) (x_cwV 2 hts (inW_11 _ (List.mem_of_getElem? (i := 30) rfl)) (inW_11 _ (List.mem_of_getElem? (i := 31) rfl)) (inW_11 _ (List.mem_of_getElem? (i := 32) rfl)) (inW_9 _ (List.mem_of_getElem? (i := 5) rfl)) (inW_11 _ (List.mem_of_getElem? (i := 8) rfl)) rfl rfl (by decide +kernel) ⟨Nat.le_of_ble_eq_true rfl, Nat.le_of_ble_eq_true rfl⟩) hK hP hD hS hA hSt 0 rfl rfl rfl hl.1 rfl (Nat.le_of_ble_eq_true rfl) dX4_compare_59 ⟨Nat.le_of_ble_eq_true rfl, Nat.le_of_ble_eq_true rfl⟩ (fun H locs hP hD hS => ?_)
          show W p l e _ s m args below meth c H locs 0 0 Q (F0 m 62 ls (.int (F_X4_order vks vms vcs ves p0 p1) :: []))
          have e9 := Eq.symm hu; subst e9
          exact x_iret hx hb hr hlocks hQ hK hP hD hS rfl rfl dX4_compare_62
        · rw [if_pos c_115] at hu
          refine lv_iconst (v := 2) hx hb dX4_compare_52 (by decide) ?_
          refine lv_goto (tgt := 62) hx hb dX4_compare_53 (by decide) ?_
          have e9 := Eq.symm hu; subst e9
          exact x_iret hx hb hr hlocks hQ hK hP hD hS rfl rfl dX4_compare_62
    · rw [if_neg c_109] at hu
      refine lv_iconst (v := 0) hx hb dX4_compare_32 (by decide) ?_
      have e9 := Eq.symm hu; subst e9
      exact x_iret hx hb hr hlocks hQ hK hP hD hS rfl rfl dX4_compare_33
  obtain ⟨z9, ez9⟩ : ∃ y9 : Bool, y9 = Z_X4_compare_J_107 p0 p1 := ⟨_, rfl⟩
  have hz := rZ_X4_compare_J_107 p0 p1 ez9
  unfold RZ_X4_compare_J_107 at hz
  refine xb_ne (tgt := 17) hx hb dX4_compare_6 (by decide) (fun c_102 => ?_) (fun c_102 => ?_)
  · rw [if_pos c_102] at hz
    refine lv_iconst (v := 1) hx hb dX4_compare_17 (by decide) ?_
    refine lv_goto (tgt := 22) hx hb dX4_compare_18 (by decide) ?_
    have e9 := Eq.symm hz; subst e9
    exact J_107 _ ez9 H locs hP hD hS ls (lv_sub hl [0, 1, 2] rfl)
  · rw [if_neg c_102] at hz
    refine lv_aload_n hx hb dX4_compare_9 rfl (lv_at hl 0 rfl) ?_
    refine lv_iload_n hx hb dX4_compare_10 rfl (lv_at hl 2 rfl) ?_
    refine x_V (As := [.int p1]) (rest := [.ref am]) hCF (c_X4_noRegister l D cR cI cJ cZ t0 am ak an ac ae ag aq vth vmo vfg vtp vkd vng vcc vqq vrs vct vun vre vks vms vcs ves vdg vog p1 _ rfl) (x_cwV 1 hts (inW_12 _ (List.mem_of_getElem? (i := 4) rfl)) (inW_12 _ (List.mem_of_getElem? (i := 5) rfl)) (inW_12 _ (List.mem_of_getElem? (i := 6) rfl)) (inW_9 _ (List.mem_of_getElem? (i := 5) rfl)) (inW_11 _ (List.mem_of_getElem? (i := 39) rfl)) rfl rfl (by decide +kernel) ⟨Nat.le_of_ble_eq_true rfl, Nat.le_of_ble_eq_true rfl⟩) hK hP hD hS hA hSt 0 rfl rfl rfl hl.1 rfl (Nat.le_of_ble_eq_true rfl) dX4_compare_11 ⟨Nat.le_of_ble_eq_true rfl, Nat.le_of_ble_eq_true rfl⟩ (fun H locs hP hD hS => ?_)
    show W p l e _ s m args below meth c H locs 0 0 Q (F0 m 14 ls (.int (bI (F_X4_noRegister p1)) :: [.ref am]))
    refine xb_eq (tgt := 21) hx hb dX4_compare_14 (by decide) (fun c_104 => ?_) (fun c_104 => ?_)
    · rw [if_neg c_104] at hz
      refine lv_iconst (v := 0) hx hb dX4_compare_21 (by decide) ?_
      have e9 := Eq.symm hz; subst e9
      exact J_107 _ ez9 H locs hP hD hS ls (lv_sub hl [0, 1, 2] rfl)
    · rw [if_pos c_104] at hz
      refine lv_iconst (v := 1) hx hb dX4_compare_17 (by decide) ?_
      refine lv_goto (tgt := 22) hx hb dX4_compare_18 (by decide) ?_
      have e9 := Eq.symm hz; subst e9
      exact J_107 _ ez9 H locs hP hD hS ls (lv_sub hl [0, 1, 2] rfl)

def Z_X4_kind_J_112 (vms : Nat → Bool) (p0 : Int32) : Int32 := (if vms p0.toNatClampNeg = true then 4 else 0)
def RZ_X4_kind_J_112 (vms : Nat → Bool) (p0 : Int32) (u9 : Int32) : Prop := (if vms p0.toNatClampNeg = true then u9 = 4 else u9 = 0)
theorem rZ_X4_kind_J_112 (vms : Nat → Bool) (p0 : Int32) {u9 : Int32} (hu : u9 = Z_X4_kind_J_112 vms p0) : RZ_X4_kind_J_112 vms p0 u9 := by
  unfold RZ_X4_kind_J_112
  refine ite_P (fun c_109 => ?_) (fun c_109 => ?_)
  · have hu := hu.trans (if_pos c_109)
    exact hu
  · have hu := hu.trans (if_neg c_109)
    exact hu
def Z_X4_kind_J_105 (p0 : Int32) : Bool := (if F_X4_noRegister p0 = true then true else false)
def RZ_X4_kind_J_105 (p0 : Int32) (u9 : Bool) : Prop := (if F_X4_noRegister p0 = true then u9 = true else u9 = false)
theorem rZ_X4_kind_J_105 (p0 : Int32) {u9 : Bool} (hu : u9 = Z_X4_kind_J_105 p0) : RZ_X4_kind_J_105 p0 u9 := by
  unfold RZ_X4_kind_J_105
  refine ite_P (fun c_102 => ?_) (fun c_102 => ?_)
  · have hu := hu.trans (if_pos c_102)
    exact hu
  · have hu := hu.trans (if_neg c_102)
    exact hu
def F_X4_kind (vks : Nat → Int32) (vms : Nat → Bool) (p0 : Int32) : Int32 × Int32 := (bnd (Z_X4_kind_J_105 p0) (fun z104 : Bool => (if (bI z104) = 0 then (bnd (Z_X4_kind_J_112 vms p0) (fun z111 : Int32 => ((vks p0.toNatClampNeg) + z111, (bI z104)))) else (0, (bI z104)))))
def RF_X4_kind (vks : Nat → Int32) (vms : Nat → Bool) (p0 : Int32) (u9 : Int32 × Int32) : Prop := (∀ z104 : Bool, z104 = Z_X4_kind_J_105 p0 → (if (bI z104) = 0 then (∀ z111 : Int32, z111 = Z_X4_kind_J_112 vms p0 → u9 = ((vks p0.toNatClampNeg) + z111, (bI z104))) else u9 = (0, (bI z104))))
theorem rF_X4_kind (vks : Nat → Int32) (vms : Nat → Bool) (p0 : Int32) {u9 : Int32 × Int32} (hu : u9 = F_X4_kind vks vms p0) : RF_X4_kind vks vms p0 u9 := by
  unfold RF_X4_kind
  intro z104 ez104
  have hu := bnd_n hu ez104
  refine ite_P (fun c_107 => ?_) (fun c_107 => ?_)
  · have hu := hu.trans (if_pos c_107)
    intro z111 ez111
    have hu := bnd_n hu ez111
    exact hu
  · have hu := hu.trans (if_neg c_107)
    exact hu
def S_X4_kind (vks : Nat → Int32) (vms : Nat → Bool) (p0 : Int32) : Prop := (∀ z104 : Bool, z104 = Z_X4_kind_J_105 p0 → (if (bI z104) = 0 then vp_in p0 8 else True))
def rm_X4_kind : Room := { frames := 1, cells := 0, slots := 0, locals := 21 }
set_option maxHeartbeats 4000000 in
set_option maxRecDepth 100000 in
theorem c_X4_kind (l : Launch) (D : va_G) (cR cI cJ cZ : ClassId) (t0 : Nat) (am ak an ac ae ag aq : Nat) (vth : Int32) (vmo : Int32) (vfg : Int32) (vtp : Int32) (vkd : Int32) (vng : Bool) (vcc : Int64) (vqq : Int32) (vrs : Int32) (vct : Int32) (vun : Int32) (vre : Bool) (vks : Nat → Int32) (vms : Nat → Bool) (vcs : Nat → Int64) (ves : Nat → Int32) (vdg : Nat → Int32) (vog : Nat → Int32) (p0 : Int32) (u : Int32 × Int32) (hu : u = F_X4_kind vks vms p0) (hs : S_X4_kind vks vms p0) : XM l D (xty cR cI cJ cZ) t0 yX4_kind cX4_kind 2 (some .int) rm_X4_kind [.ref am, .int p0] (some (.int u.1)) (mw cI cJ cZ am ak an ac ae ag aq vth vmo vfg vtp vkd vng vcc vqq vrs vct vun vre vks vms vcs ves vdg vog) (mw cI cJ cZ am ak an ac ae ag aq u.2 vmo vfg vtp vkd vng vcc vqq vrs vct vun vre vks vms vcs ves vdg vog) := by
  refine XM.of (by decide) (Nat.le_of_ble_eq_true rfl) ?_
  intro p e s m args below meth c A Q F hK hP hD hA hSt hS hQ ls hl
  obtain ⟨hx, hb, hr, hts, hown, hlocks, hml⟩ := F
  have hCF : CallFix p m c cX4_kind 2 s args gW RX4 := ⟨hx, hb, hml, hown, hts⟩
  unfold S_X4_kind at hs
  have hu := rF_X4_kind vks vms p0 hu
  unfold RF_X4_kind at hu
  obtain ⟨H, eH⟩ : ∃ y9 : Heap, y9 = s.heap := ⟨_, rfl⟩
  obtain ⟨locs, eL⟩ : ∃ y9 : List Loc, y9 = [] := ⟨_, rfl⟩
  rw [← eL] at hS ⊢
  have hP : va_P D vwCl (mw cI cJ cZ am ak an ac ae ag aq vth vmo vfg vtp vkd vng vcc vqq vrs vct vun vre vks vms vcs ves vdg vog) H := by rw [eH]; exact hP
  have hS : va_S A s.heap H locs := by rw [eH]; exact hS
  suffices goal9 : W p l e rm_X4_kind s m args below meth c H locs 0 0 Q (F0 m 0 ls []) from by rw [← eH]; exact goal9
  have hl : lv_has ls 2 [(0, .ref am), (1, .int p0)] := hl
  have hi4 : ∀ w ∈ wsX40, w ∈ gW := inW_X4
  refine lv_aload_n hx hb dX4_kind_0 rfl (lv_at hl 0 rfl) ?_
  refine lv_aload_n hx hb dX4_kind_1 rfl (lv_at hl 0 rfl) ?_
  refine lv_iload_n hx hb dX4_kind_2 rfl (lv_at hl 1 rfl) ?_
  refine x_V (As := [.int p0]) (rest := [.ref am]) hCF (c_X4_noRegister l D cR cI cJ cZ t0 am ak an ac ae ag aq vth vmo vfg vtp vkd vng vcc vqq vrs vct vun vre vks vms vcs ves vdg vog p0 _ rfl) (x_cwV 1 hts (inW_12 _ (List.mem_of_getElem? (i := 4) rfl)) (inW_12 _ (List.mem_of_getElem? (i := 5) rfl)) (inW_12 _ (List.mem_of_getElem? (i := 6) rfl)) (inW_9 _ (List.mem_of_getElem? (i := 5) rfl)) (inW_11 _ (List.mem_of_getElem? (i := 39) rfl)) rfl rfl (by decide +kernel) ⟨Nat.le_of_ble_eq_true rfl, Nat.le_of_ble_eq_true rfl⟩) hK hP hD hS hA hSt 0 rfl rfl rfl hl.1 rfl (Nat.le_of_ble_eq_true rfl) dX4_kind_3 ⟨Nat.le_of_ble_eq_true rfl, Nat.le_of_ble_eq_true rfl⟩ (fun H locs hP hD hS => ?_)
  show W p l e _ s m args below meth c H locs 0 0 Q (F0 m 6 ls (.int (bI (F_X4_noRegister p0)) :: [.ref am]))
  have J_105 : (∀ z104 : Bool, z104 = Z_X4_kind_J_105 p0 → ∀ (H : Heap) (locs : List Loc), va_P D vwCl (mw cI cJ cZ am ak an ac ae ag aq vth vmo vfg vtp vkd vng vcc vqq vrs vct vun vre vks vms vcs ves vdg vog) H → va_D A (mw cI cJ cZ am ak an ac ae ag aq vth vmo vfg vtp vkd vng vcc vqq vrs vct vun vre vks vms vcs ves vdg vog) → va_S A s.heap H locs → ∀ ls : Array Slot, lv_has ls 2 [(0, .ref am), (1, .int p0)] → W p l e rm_X4_kind s m args below meth c H locs 0 0 Q (F0 m 14 ls [.int (bI z104), .ref am])) := by
    intro z104 ez104 H locs hP hD hS ls hl
    have hs := hs _ ez104
    have hu := hu _ ez104
    refine va_put (D := D) (ci := 5) (v := .int (bI z104)) (ty := .int) (C := RX4) (T := TX4) (N := 18) hx hb hts hi4 tyX4 tyX4_ok nmX4 hown hK hP hD hS 0 rfl rfl 0 (by decide) (hts (.fieldLink RX4 30 "DecimalWordsModel" "thrown" "I") (inW_8 _ (List.mem_of_getElem? (i := 38) rfl))) (fun _ h9 => h9) rfl (by decide +kernel) rfl rfl (Nat.le_of_ble_eq_true rfl) dX4_kind_14 (fun H locs hP hD hS => ?_)
    have hP : va_P D vwCl (mw cI cJ cZ am ak an ac ae ag aq (bI z104) vmo vfg vtp vkd vng vcc vqq vrs vct vun vre vks vms vcs ves vdg vog) H := hP
    have hD : va_D A (mw cI cJ cZ am ak an ac ae ag aq (bI z104) vmo vfg vtp vkd vng vcc vqq vrs vct vun vre vks vms vcs ves vdg vog) := hD
    refine lv_aload_n hx hb dX4_kind_17 rfl (lv_at hl 0 rfl) ?_
    refine va_get (D := D) (ci := 5) (v := .int (bI z104)) (C := RX4) (T := TX4) (N := 18) hx hb hts hi4 hown hK hP 0 rfl rfl 0 (by decide) (hts (.fieldLink RX4 30 "DecimalWordsModel" "thrown" "I") (inW_8 _ (List.mem_of_getElem? (i := 38) rfl))) (fun _ h9 => h9) rfl dX4_kind_18 ?_
    refine lv_if_eq (tgt := 28) hx hb dX4_kind_21 (by decide) (fun c_107 => ?_) (fun c_107 => ?_)
    · rw [if_pos c_107] at hs
      rw [if_pos c_107] at hu
      refine lv_aload_n hx hb dX4_kind_28 rfl (lv_at hl 0 rfl) ?_
      refine va_get (D := D) (ci := 5) (v := .ref ak) (C := RX4) (T := TX4) (N := 18) hx hb hts hi4 hown hK hP 0 rfl rfl 1 (by decide) (hts (.fieldLink RX4 7 "DecimalWordsModel" "kinds" "[I") (inW_8 _ (List.mem_of_getElem? (i := 29) rfl))) (fun _ h9 => h9) rfl dX4_kind_29 ?_
      refine lv_iload_n hx hb dX4_kind_32 rfl (lv_at hl 1 rfl) ?_
      have h_108 := hs
      refine va_iald hx hb hK hP 1 1 rfl rfl h_108 dX4_kind_33 ?_
      refine lv_aload_n hx hb dX4_kind_34 rfl (lv_at hl 0 rfl) ?_
      refine va_get (D := D) (ci := 5) (v := .ref an) (C := RX4) (T := TX4) (N := 18) hx hb hts hi4 hown hK hP 0 rfl rfl 2 (by decide) (hts (.fieldLink RX4 13 "DecimalWordsModel" "minus" "[Z") (inW_8 _ (List.mem_of_getElem? (i := 31) rfl))) (fun _ h9 => h9) rfl dX4_kind_35 ?_
      refine lv_iload_n hx hb dX4_kind_38 rfl (lv_at hl 1 rfl) ?_
      refine va_zald hx hb hK hP 2 3 rfl rfl h_108 dX4_kind_39 ?_
      have J_112 : (∀ z111 : Int32, z111 = Z_X4_kind_J_112 vms p0 → ∀ (H : Heap) (locs : List Loc), va_P D vwCl (mw cI cJ cZ am ak an ac ae ag aq (bI z104) vmo vfg vtp vkd vng vcc vqq vrs vct vun vre vks vms vcs ves vdg vog) H → va_D A (mw cI cJ cZ am ak an ac ae ag aq (bI z104) vmo vfg vtp vkd vng vcc vqq vrs vct vun vre vks vms vcs ves vdg vog) → va_S A s.heap H locs → ∀ ls : Array Slot, lv_has ls 2 [] → W p l e rm_X4_kind s m args below meth c H locs 0 0 Q (F0 m 48 ls [.int z111, .int (vks p0.toNatClampNeg)])) := by
        intro z111 ez111 H locs hP hD hS ls hl
        have hu := hu _ ez111
        refine lv_iadd hx hb dX4_kind_48 ?_
        have e9 := Eq.symm hu; subst e9
        exact x_iret hx hb hr hlocks hQ hK hP hD hS rfl rfl dX4_kind_49
      obtain ⟨z9, ez9⟩ : ∃ y9 : Int32, y9 = Z_X4_kind_J_112 vms p0 := ⟨_, rfl⟩
      have hz := rZ_X4_kind_J_112 vms p0 ez9
      unfold RZ_X4_kind_J_112 at hz
      refine xb_eq (tgt := 47) hx hb dX4_kind_40 (by decide) (fun c_109 => ?_) (fun c_109 => ?_)
      · rw [if_neg c_109] at hz
        refine lv_iconst (v := 0) hx hb dX4_kind_47 (by decide) ?_
        have e9 := Eq.symm hz; subst e9
        exact J_112 _ ez9 H locs hP hD hS ls (lv_sub hl [] rfl)
      · rw [if_pos c_109] at hz
        refine lv_iconst (v := 4) hx hb dX4_kind_43 (by decide) ?_
        refine lv_goto (tgt := 48) hx hb dX4_kind_44 (by decide) ?_
        have e9 := Eq.symm hz; subst e9
        exact J_112 _ ez9 H locs hP hD hS ls (lv_sub hl [] rfl)
    · rw [if_neg c_107] at hu
      refine lv_iconst (v := 0) hx hb dX4_kind_24 (by decide) ?_
      refine lv_goto (tgt := 49) hx hb dX4_kind_25 (by decide) ?_
      have e9 := Eq.symm hu; subst e9
      exact x_iret hx hb hr hlocks hQ hK hP hD hS rfl rfl dX4_kind_49
  obtain ⟨z9, ez9⟩ : ∃ y9 : Bool, y9 = Z_X4_kind_J_105 p0 := ⟨_, rfl⟩
  have hz := rZ_X4_kind_J_105 p0 ez9
  unfold RZ_X4_kind_J_105 at hz
  refine xb_eq (tgt := 13) hx hb dX4_kind_6 (by decide) (fun c_102 => ?_) (fun c_102 => ?_)
  · rw [if_neg c_102] at hz
    refine lv_iconst (v := 0) hx hb dX4_kind_13 (by decide) ?_
    have e9 := Eq.symm hz; subst e9
    exact J_105 _ ez9 H locs hP hD hS ls (lv_sub hl [0, 1] rfl)
  · rw [if_pos c_102] at hz
    refine lv_iconst (v := 1) hx hb dX4_kind_9 (by decide) ?_
    refine lv_goto (tgt := 14) hx hb dX4_kind_10 (by decide) ?_
    have e9 := Eq.symm hz; subst e9
    exact J_105 _ ez9 H locs hP hD hS ls (lv_sub hl [0, 1] rfl)

def Z_X4_coefficient_J_105 (p0 : Int32) : Bool := (if F_X4_noRegister p0 = true then true else false)
def RZ_X4_coefficient_J_105 (p0 : Int32) (u9 : Bool) : Prop := (if F_X4_noRegister p0 = true then u9 = true else u9 = false)
theorem rZ_X4_coefficient_J_105 (p0 : Int32) {u9 : Bool} (hu : u9 = Z_X4_coefficient_J_105 p0) : RZ_X4_coefficient_J_105 p0 u9 := by
  unfold RZ_X4_coefficient_J_105
  refine ite_P (fun c_102 => ?_) (fun c_102 => ?_)
  · have hu := hu.trans (if_pos c_102)
    exact hu
  · have hu := hu.trans (if_neg c_102)
    exact hu
def F_X4_coefficient (vks : Nat → Int32) (vcs : Nat → Int64) (p0 : Int32) : Int64 × Int32 := (bnd (Z_X4_coefficient_J_105 p0) (fun z104 : Bool => (if (bI z104) = 0 then (if F_X4_is vks p0 (0 : Int32) = true then (vcs p0.toNatClampNeg, (bI z104)) else (0, (bI z104))) else (0, (bI z104)))))
def RF_X4_coefficient (vks : Nat → Int32) (vcs : Nat → Int64) (p0 : Int32) (u9 : Int64 × Int32) : Prop := (∀ z104 : Bool, z104 = Z_X4_coefficient_J_105 p0 → (if (bI z104) = 0 then (if F_X4_is vks p0 (0 : Int32) = true then u9 = (vcs p0.toNatClampNeg, (bI z104)) else u9 = (0, (bI z104))) else u9 = (0, (bI z104))))
theorem rF_X4_coefficient (vks : Nat → Int32) (vcs : Nat → Int64) (p0 : Int32) {u9 : Int64 × Int32} (hu : u9 = F_X4_coefficient vks vcs p0) : RF_X4_coefficient vks vcs p0 u9 := by
  unfold RF_X4_coefficient
  intro z104 ez104
  have hu := bnd_n hu ez104
  refine ite_P (fun c_107 => ?_) (fun c_107 => ?_)
  · have hu := hu.trans (if_pos c_107)
    refine ite_P (fun c_110 => ?_) (fun c_110 => ?_)
    · have hu := hu.trans (if_pos c_110)
      exact hu
    · have hu := hu.trans (if_neg c_110)
      exact hu
  · have hu := hu.trans (if_neg c_107)
    exact hu
def S_X4_coefficient (vks : Nat → Int32) (vcs : Nat → Int64) (p0 : Int32) : Prop := (∀ z104 : Bool, z104 = Z_X4_coefficient_J_105 p0 → (if (bI z104) = 0 then (S_X4_is vks p0 (0 : Int32)) ∧ (if F_X4_is vks p0 (0 : Int32) = true then vp_in p0 8 else True) else True))
def rm_X4_coefficient : Room := { frames := 1, cells := 0, slots := 0, locals := 22 }
set_option maxHeartbeats 4000000 in
set_option maxRecDepth 100000 in
theorem c_X4_coefficient (l : Launch) (D : va_G) (cR cI cJ cZ : ClassId) (t0 : Nat) (am ak an ac ae ag aq : Nat) (vth : Int32) (vmo : Int32) (vfg : Int32) (vtp : Int32) (vkd : Int32) (vng : Bool) (vcc : Int64) (vqq : Int32) (vrs : Int32) (vct : Int32) (vun : Int32) (vre : Bool) (vks : Nat → Int32) (vms : Nat → Bool) (vcs : Nat → Int64) (ves : Nat → Int32) (vdg : Nat → Int32) (vog : Nat → Int32) (p0 : Int32) (u : Int64 × Int32) (hu : u = F_X4_coefficient vks vcs p0) (hs : S_X4_coefficient vks vcs p0) : XM l D (xty cR cI cJ cZ) t0 yX4_coefficient cX4_coefficient 2 (some .long) rm_X4_coefficient [.ref am, .int p0] (some (.long u.1)) (mw cI cJ cZ am ak an ac ae ag aq vth vmo vfg vtp vkd vng vcc vqq vrs vct vun vre vks vms vcs ves vdg vog) (mw cI cJ cZ am ak an ac ae ag aq u.2 vmo vfg vtp vkd vng vcc vqq vrs vct vun vre vks vms vcs ves vdg vog) := by
  refine XM.of (by decide) (Nat.le_of_ble_eq_true rfl) ?_
  intro p e s m args below meth c A Q F hK hP hD hA hSt hS hQ ls hl
  obtain ⟨hx, hb, hr, hts, hown, hlocks, hml⟩ := F
  have hCF : CallFix p m c cX4_coefficient 2 s args gW RX4 := ⟨hx, hb, hml, hown, hts⟩
  unfold S_X4_coefficient at hs
  have hu := rF_X4_coefficient vks vcs p0 hu
  unfold RF_X4_coefficient at hu
  obtain ⟨H, eH⟩ : ∃ y9 : Heap, y9 = s.heap := ⟨_, rfl⟩
  obtain ⟨locs, eL⟩ : ∃ y9 : List Loc, y9 = [] := ⟨_, rfl⟩
  rw [← eL] at hS ⊢
  have hP : va_P D vwCl (mw cI cJ cZ am ak an ac ae ag aq vth vmo vfg vtp vkd vng vcc vqq vrs vct vun vre vks vms vcs ves vdg vog) H := by rw [eH]; exact hP
  have hS : va_S A s.heap H locs := by rw [eH]; exact hS
  suffices goal9 : W p l e rm_X4_coefficient s m args below meth c H locs 0 0 Q (F0 m 0 ls []) from by rw [← eH]; exact goal9
  have hl : lv_has ls 2 [(0, .ref am), (1, .int p0)] := hl
  have hi4 : ∀ w ∈ wsX40, w ∈ gW := inW_X4
  refine lv_aload_n hx hb dX4_coefficient_0 rfl (lv_at hl 0 rfl) ?_
  refine lv_aload_n hx hb dX4_coefficient_1 rfl (lv_at hl 0 rfl) ?_
  refine lv_iload_n hx hb dX4_coefficient_2 rfl (lv_at hl 1 rfl) ?_
  refine x_V (As := [.int p0]) (rest := [.ref am]) hCF (c_X4_noRegister l D cR cI cJ cZ t0 am ak an ac ae ag aq vth vmo vfg vtp vkd vng vcc vqq vrs vct vun vre vks vms vcs ves vdg vog p0 _ rfl) (x_cwV 1 hts (inW_12 _ (List.mem_of_getElem? (i := 4) rfl)) (inW_12 _ (List.mem_of_getElem? (i := 5) rfl)) (inW_12 _ (List.mem_of_getElem? (i := 6) rfl)) (inW_9 _ (List.mem_of_getElem? (i := 5) rfl)) (inW_11 _ (List.mem_of_getElem? (i := 39) rfl)) rfl rfl (by decide +kernel) ⟨Nat.le_of_ble_eq_true rfl, Nat.le_of_ble_eq_true rfl⟩) hK hP hD hS hA hSt 0 rfl rfl rfl hl.1 rfl (Nat.le_of_ble_eq_true rfl) dX4_coefficient_3 ⟨Nat.le_of_ble_eq_true rfl, Nat.le_of_ble_eq_true rfl⟩ (fun H locs hP hD hS => ?_)
  show W p l e _ s m args below meth c H locs 0 0 Q (F0 m 6 ls (.int (bI (F_X4_noRegister p0)) :: [.ref am]))
  have J_105 : (∀ z104 : Bool, z104 = Z_X4_coefficient_J_105 p0 → ∀ (H : Heap) (locs : List Loc), va_P D vwCl (mw cI cJ cZ am ak an ac ae ag aq vth vmo vfg vtp vkd vng vcc vqq vrs vct vun vre vks vms vcs ves vdg vog) H → va_D A (mw cI cJ cZ am ak an ac ae ag aq vth vmo vfg vtp vkd vng vcc vqq vrs vct vun vre vks vms vcs ves vdg vog) → va_S A s.heap H locs → ∀ ls : Array Slot, lv_has ls 2 [(0, .ref am), (1, .int p0)] → W p l e rm_X4_coefficient s m args below meth c H locs 0 0 Q (F0 m 14 ls [.int (bI z104), .ref am])) := by
    intro z104 ez104 H locs hP hD hS ls hl
    have hs := hs _ ez104
    have hu := hu _ ez104
    refine va_put (D := D) (ci := 5) (v := .int (bI z104)) (ty := .int) (C := RX4) (T := TX4) (N := 18) hx hb hts hi4 tyX4 tyX4_ok nmX4 hown hK hP hD hS 0 rfl rfl 0 (by decide) (hts (.fieldLink RX4 30 "DecimalWordsModel" "thrown" "I") (inW_8 _ (List.mem_of_getElem? (i := 38) rfl))) (fun _ h9 => h9) rfl (by decide +kernel) rfl rfl (Nat.le_of_ble_eq_true rfl) dX4_coefficient_14 (fun H locs hP hD hS => ?_)
    have hP : va_P D vwCl (mw cI cJ cZ am ak an ac ae ag aq (bI z104) vmo vfg vtp vkd vng vcc vqq vrs vct vun vre vks vms vcs ves vdg vog) H := hP
    have hD : va_D A (mw cI cJ cZ am ak an ac ae ag aq (bI z104) vmo vfg vtp vkd vng vcc vqq vrs vct vun vre vks vms vcs ves vdg vog) := hD
    refine lv_aload_n hx hb dX4_coefficient_17 rfl (lv_at hl 0 rfl) ?_
    refine va_get (D := D) (ci := 5) (v := .int (bI z104)) (C := RX4) (T := TX4) (N := 18) hx hb hts hi4 hown hK hP 0 rfl rfl 0 (by decide) (hts (.fieldLink RX4 30 "DecimalWordsModel" "thrown" "I") (inW_8 _ (List.mem_of_getElem? (i := 38) rfl))) (fun _ h9 => h9) rfl dX4_coefficient_18 ?_
    refine lv_if_ne (tgt := 33) hx hb dX4_coefficient_21 (by decide) (fun c_107 => ?_) (fun c_107 => ?_)
    · rw [if_neg c_107] at hu
      refine lv_lconst (v := 0) hx hb dX4_coefficient_33 (by decide) ?_
      refine lv_goto (tgt := 43) hx hb dX4_coefficient_34 (by decide) ?_
      have e9 := Eq.symm hu; subst e9
      exact x_lret hx hb hr hlocks hQ hK hP hD hS rfl rfl dX4_coefficient_43
    · rw [if_pos c_107] at hs
      rw [if_pos c_107] at hu
      refine lv_aload_n hx hb dX4_coefficient_24 rfl (lv_at hl 0 rfl) ?_
      refine lv_iload_n hx hb dX4_coefficient_25 rfl (lv_at hl 1 rfl) ?_
      refine lv_iconst (v := 0) hx hb dX4_coefficient_26 (by decide) ?_
      obtain ⟨h_108, hs⟩ := hs
      refine x_V (As := [.int p0, .int 0]) (rest := []) hCF (c_X4_is l D cR cI cJ cZ t0 am ak an ac ae ag aq (bI z104) vmo vfg vtp vkd vng vcc vqq vrs vct vun vre vks vms vcs ves vdg vog p0 (0 : Int32) _ rfl h_108) (x_cwV 2 hts (inW_10 _ (List.mem_of_getElem? (i := 18) rfl)) (inW_10 _ (List.mem_of_getElem? (i := 19) rfl)) (inW_10 _ (List.mem_of_getElem? (i := 20) rfl)) (inW_9 _ (List.mem_of_getElem? (i := 5) rfl)) (inW_10 _ (List.mem_of_getElem? (i := 10) rfl)) rfl rfl (by decide +kernel) ⟨Nat.le_of_ble_eq_true rfl, Nat.le_of_ble_eq_true rfl⟩) hK hP hD hS hA hSt 0 rfl rfl rfl hl.1 rfl (Nat.le_of_ble_eq_true rfl) dX4_coefficient_27 ⟨Nat.le_of_ble_eq_true rfl, Nat.le_of_ble_eq_true rfl⟩ (fun H locs hP hD hS => ?_)
      show W p l e _ s m args below meth c H locs 0 0 Q (F0 m 30 ls (.int (bI (F_X4_is vks p0 (0 : Int32))) :: []))
      refine xb_ne (tgt := 37) hx hb dX4_coefficient_30 (by decide) (fun c_110 => ?_) (fun c_110 => ?_)
      · rw [if_pos c_110] at hs
        rw [if_pos c_110] at hu
        refine lv_aload_n hx hb dX4_coefficient_37 rfl (lv_at hl 0 rfl) ?_
        refine va_get (D := D) (ci := 5) (v := .ref ac) (C := RX4) (T := TX4) (N := 18) hx hb hts hi4 hown hK hP 0 rfl rfl 3 (by decide) (hts (.fieldLink RX4 17 "DecimalWordsModel" "coefficients" "[J") (inW_8 _ (List.mem_of_getElem? (i := 33) rfl))) (fun _ h9 => h9) rfl dX4_coefficient_38 ?_
        refine lv_iload_n hx hb dX4_coefficient_41 rfl (lv_at hl 1 rfl) ?_
        have h_111 := hs
        refine va_lald hx hb hK hP 3 2 rfl rfl h_111 dX4_coefficient_42 ?_
        have e9 := Eq.symm hu; subst e9
        exact x_lret hx hb hr hlocks hQ hK hP hD hS rfl rfl dX4_coefficient_43
      · rw [if_neg c_110] at hu
        refine lv_lconst (v := 0) hx hb dX4_coefficient_33 (by decide) ?_
        refine lv_goto (tgt := 43) hx hb dX4_coefficient_34 (by decide) ?_
        have e9 := Eq.symm hu; subst e9
        exact x_lret hx hb hr hlocks hQ hK hP hD hS rfl rfl dX4_coefficient_43
  obtain ⟨z9, ez9⟩ : ∃ y9 : Bool, y9 = Z_X4_coefficient_J_105 p0 := ⟨_, rfl⟩
  have hz := rZ_X4_coefficient_J_105 p0 ez9
  unfold RZ_X4_coefficient_J_105 at hz
  refine xb_eq (tgt := 13) hx hb dX4_coefficient_6 (by decide) (fun c_102 => ?_) (fun c_102 => ?_)
  · rw [if_neg c_102] at hz
    refine lv_iconst (v := 0) hx hb dX4_coefficient_13 (by decide) ?_
    have e9 := Eq.symm hz; subst e9
    exact J_105 _ ez9 H locs hP hD hS ls (lv_sub hl [0, 1] rfl)
  · rw [if_pos c_102] at hz
    refine lv_iconst (v := 1) hx hb dX4_coefficient_9 (by decide) ?_
    refine lv_goto (tgt := 14) hx hb dX4_coefficient_10 (by decide) ?_
    have e9 := Eq.symm hz; subst e9
    exact J_105 _ ez9 H locs hP hD hS ls (lv_sub hl [0, 1] rfl)

def Z_X4_exponent_J_105 (p0 : Int32) : Bool := (if F_X4_noRegister p0 = true then true else false)
def RZ_X4_exponent_J_105 (p0 : Int32) (u9 : Bool) : Prop := (if F_X4_noRegister p0 = true then u9 = true else u9 = false)
theorem rZ_X4_exponent_J_105 (p0 : Int32) {u9 : Bool} (hu : u9 = Z_X4_exponent_J_105 p0) : RZ_X4_exponent_J_105 p0 u9 := by
  unfold RZ_X4_exponent_J_105
  refine ite_P (fun c_102 => ?_) (fun c_102 => ?_)
  · have hu := hu.trans (if_pos c_102)
    exact hu
  · have hu := hu.trans (if_neg c_102)
    exact hu
def F_X4_exponent (vks : Nat → Int32) (ves : Nat → Int32) (p0 : Int32) : Int32 × Int32 := (bnd (Z_X4_exponent_J_105 p0) (fun z104 : Bool => (if (bI z104) = 0 then (if F_X4_is vks p0 (0 : Int32) = true then (ves p0.toNatClampNeg, (bI z104)) else (0, (bI z104))) else (0, (bI z104)))))
def RF_X4_exponent (vks : Nat → Int32) (ves : Nat → Int32) (p0 : Int32) (u9 : Int32 × Int32) : Prop := (∀ z104 : Bool, z104 = Z_X4_exponent_J_105 p0 → (if (bI z104) = 0 then (if F_X4_is vks p0 (0 : Int32) = true then u9 = (ves p0.toNatClampNeg, (bI z104)) else u9 = (0, (bI z104))) else u9 = (0, (bI z104))))
theorem rF_X4_exponent (vks : Nat → Int32) (ves : Nat → Int32) (p0 : Int32) {u9 : Int32 × Int32} (hu : u9 = F_X4_exponent vks ves p0) : RF_X4_exponent vks ves p0 u9 := by
  unfold RF_X4_exponent
  intro z104 ez104
  have hu := bnd_n hu ez104
  refine ite_P (fun c_107 => ?_) (fun c_107 => ?_)
  · have hu := hu.trans (if_pos c_107)
    refine ite_P (fun c_110 => ?_) (fun c_110 => ?_)
    · have hu := hu.trans (if_pos c_110)
      exact hu
    · have hu := hu.trans (if_neg c_110)
      exact hu
  · have hu := hu.trans (if_neg c_107)
    exact hu
def S_X4_exponent (vks : Nat → Int32) (ves : Nat → Int32) (p0 : Int32) : Prop := (∀ z104 : Bool, z104 = Z_X4_exponent_J_105 p0 → (if (bI z104) = 0 then (S_X4_is vks p0 (0 : Int32)) ∧ (if F_X4_is vks p0 (0 : Int32) = true then vp_in p0 8 else True) else True))
def rm_X4_exponent : Room := { frames := 1, cells := 0, slots := 0, locals := 22 }
set_option maxHeartbeats 4000000 in
set_option maxRecDepth 100000 in
theorem c_X4_exponent (l : Launch) (D : va_G) (cR cI cJ cZ : ClassId) (t0 : Nat) (am ak an ac ae ag aq : Nat) (vth : Int32) (vmo : Int32) (vfg : Int32) (vtp : Int32) (vkd : Int32) (vng : Bool) (vcc : Int64) (vqq : Int32) (vrs : Int32) (vct : Int32) (vun : Int32) (vre : Bool) (vks : Nat → Int32) (vms : Nat → Bool) (vcs : Nat → Int64) (ves : Nat → Int32) (vdg : Nat → Int32) (vog : Nat → Int32) (p0 : Int32) (u : Int32 × Int32) (hu : u = F_X4_exponent vks ves p0) (hs : S_X4_exponent vks ves p0) : XM l D (xty cR cI cJ cZ) t0 yX4_exponent cX4_exponent 2 (some .int) rm_X4_exponent [.ref am, .int p0] (some (.int u.1)) (mw cI cJ cZ am ak an ac ae ag aq vth vmo vfg vtp vkd vng vcc vqq vrs vct vun vre vks vms vcs ves vdg vog) (mw cI cJ cZ am ak an ac ae ag aq u.2 vmo vfg vtp vkd vng vcc vqq vrs vct vun vre vks vms vcs ves vdg vog) := by
  refine XM.of (by decide) (Nat.le_of_ble_eq_true rfl) ?_
  intro p e s m args below meth c A Q F hK hP hD hA hSt hS hQ ls hl
  obtain ⟨hx, hb, hr, hts, hown, hlocks, hml⟩ := F
  have hCF : CallFix p m c cX4_exponent 2 s args gW RX4 := ⟨hx, hb, hml, hown, hts⟩
  unfold S_X4_exponent at hs
  have hu := rF_X4_exponent vks ves p0 hu
  unfold RF_X4_exponent at hu
  obtain ⟨H, eH⟩ : ∃ y9 : Heap, y9 = s.heap := ⟨_, rfl⟩
  obtain ⟨locs, eL⟩ : ∃ y9 : List Loc, y9 = [] := ⟨_, rfl⟩
  rw [← eL] at hS ⊢
  have hP : va_P D vwCl (mw cI cJ cZ am ak an ac ae ag aq vth vmo vfg vtp vkd vng vcc vqq vrs vct vun vre vks vms vcs ves vdg vog) H := by rw [eH]; exact hP
  have hS : va_S A s.heap H locs := by rw [eH]; exact hS
  suffices goal9 : W p l e rm_X4_exponent s m args below meth c H locs 0 0 Q (F0 m 0 ls []) from by rw [← eH]; exact goal9
  have hl : lv_has ls 2 [(0, .ref am), (1, .int p0)] := hl
  have hi4 : ∀ w ∈ wsX40, w ∈ gW := inW_X4
  refine lv_aload_n hx hb dX4_exponent_0 rfl (lv_at hl 0 rfl) ?_
  refine lv_aload_n hx hb dX4_exponent_1 rfl (lv_at hl 0 rfl) ?_
  refine lv_iload_n hx hb dX4_exponent_2 rfl (lv_at hl 1 rfl) ?_
  refine x_V (As := [.int p0]) (rest := [.ref am]) hCF (c_X4_noRegister l D cR cI cJ cZ t0 am ak an ac ae ag aq vth vmo vfg vtp vkd vng vcc vqq vrs vct vun vre vks vms vcs ves vdg vog p0 _ rfl) (x_cwV 1 hts (inW_12 _ (List.mem_of_getElem? (i := 4) rfl)) (inW_12 _ (List.mem_of_getElem? (i := 5) rfl)) (inW_12 _ (List.mem_of_getElem? (i := 6) rfl)) (inW_9 _ (List.mem_of_getElem? (i := 5) rfl)) (inW_11 _ (List.mem_of_getElem? (i := 39) rfl)) rfl rfl (by decide +kernel) ⟨Nat.le_of_ble_eq_true rfl, Nat.le_of_ble_eq_true rfl⟩) hK hP hD hS hA hSt 0 rfl rfl rfl hl.1 rfl (Nat.le_of_ble_eq_true rfl) dX4_exponent_3 ⟨Nat.le_of_ble_eq_true rfl, Nat.le_of_ble_eq_true rfl⟩ (fun H locs hP hD hS => ?_)
  show W p l e _ s m args below meth c H locs 0 0 Q (F0 m 6 ls (.int (bI (F_X4_noRegister p0)) :: [.ref am]))
  have J_105 : (∀ z104 : Bool, z104 = Z_X4_exponent_J_105 p0 → ∀ (H : Heap) (locs : List Loc), va_P D vwCl (mw cI cJ cZ am ak an ac ae ag aq vth vmo vfg vtp vkd vng vcc vqq vrs vct vun vre vks vms vcs ves vdg vog) H → va_D A (mw cI cJ cZ am ak an ac ae ag aq vth vmo vfg vtp vkd vng vcc vqq vrs vct vun vre vks vms vcs ves vdg vog) → va_S A s.heap H locs → ∀ ls : Array Slot, lv_has ls 2 [(0, .ref am), (1, .int p0)] → W p l e rm_X4_exponent s m args below meth c H locs 0 0 Q (F0 m 14 ls [.int (bI z104), .ref am])) := by
    intro z104 ez104 H locs hP hD hS ls hl
    have hs := hs _ ez104
    have hu := hu _ ez104
    refine va_put (D := D) (ci := 5) (v := .int (bI z104)) (ty := .int) (C := RX4) (T := TX4) (N := 18) hx hb hts hi4 tyX4 tyX4_ok nmX4 hown hK hP hD hS 0 rfl rfl 0 (by decide) (hts (.fieldLink RX4 30 "DecimalWordsModel" "thrown" "I") (inW_8 _ (List.mem_of_getElem? (i := 38) rfl))) (fun _ h9 => h9) rfl (by decide +kernel) rfl rfl (Nat.le_of_ble_eq_true rfl) dX4_exponent_14 (fun H locs hP hD hS => ?_)
    have hP : va_P D vwCl (mw cI cJ cZ am ak an ac ae ag aq (bI z104) vmo vfg vtp vkd vng vcc vqq vrs vct vun vre vks vms vcs ves vdg vog) H := hP
    have hD : va_D A (mw cI cJ cZ am ak an ac ae ag aq (bI z104) vmo vfg vtp vkd vng vcc vqq vrs vct vun vre vks vms vcs ves vdg vog) := hD
    refine lv_aload_n hx hb dX4_exponent_17 rfl (lv_at hl 0 rfl) ?_
    refine va_get (D := D) (ci := 5) (v := .int (bI z104)) (C := RX4) (T := TX4) (N := 18) hx hb hts hi4 hown hK hP 0 rfl rfl 0 (by decide) (hts (.fieldLink RX4 30 "DecimalWordsModel" "thrown" "I") (inW_8 _ (List.mem_of_getElem? (i := 38) rfl))) (fun _ h9 => h9) rfl dX4_exponent_18 ?_
    refine lv_if_ne (tgt := 33) hx hb dX4_exponent_21 (by decide) (fun c_107 => ?_) (fun c_107 => ?_)
    · rw [if_neg c_107] at hu
      refine lv_iconst (v := 0) hx hb dX4_exponent_33 (by decide) ?_
      refine lv_goto (tgt := 43) hx hb dX4_exponent_34 (by decide) ?_
      have e9 := Eq.symm hu; subst e9
      exact x_iret hx hb hr hlocks hQ hK hP hD hS rfl rfl dX4_exponent_43
    · rw [if_pos c_107] at hs
      rw [if_pos c_107] at hu
      refine lv_aload_n hx hb dX4_exponent_24 rfl (lv_at hl 0 rfl) ?_
      refine lv_iload_n hx hb dX4_exponent_25 rfl (lv_at hl 1 rfl) ?_
      refine lv_iconst (v := 0) hx hb dX4_exponent_26 (by decide) ?_
      obtain ⟨h_108, hs⟩ := hs
      refine x_V (As := [.int p0, .int 0]) (rest := []) hCF (c_X4_is l D cR cI cJ cZ t0 am ak an ac ae ag aq (bI z104) vmo vfg vtp vkd vng vcc vqq vrs vct vun vre vks vms vcs ves vdg vog p0 (0 : Int32) _ rfl h_108) (x_cwV 2 hts (inW_10 _ (List.mem_of_getElem? (i := 18) rfl)) (inW_10 _ (List.mem_of_getElem? (i := 19) rfl)) (inW_10 _ (List.mem_of_getElem? (i := 20) rfl)) (inW_9 _ (List.mem_of_getElem? (i := 5) rfl)) (inW_10 _ (List.mem_of_getElem? (i := 10) rfl)) rfl rfl (by decide +kernel) ⟨Nat.le_of_ble_eq_true rfl, Nat.le_of_ble_eq_true rfl⟩) hK hP hD hS hA hSt 0 rfl rfl rfl hl.1 rfl (Nat.le_of_ble_eq_true rfl) dX4_exponent_27 ⟨Nat.le_of_ble_eq_true rfl, Nat.le_of_ble_eq_true rfl⟩ (fun H locs hP hD hS => ?_)
      show W p l e _ s m args below meth c H locs 0 0 Q (F0 m 30 ls (.int (bI (F_X4_is vks p0 (0 : Int32))) :: []))
      refine xb_ne (tgt := 37) hx hb dX4_exponent_30 (by decide) (fun c_110 => ?_) (fun c_110 => ?_)
      · rw [if_pos c_110] at hs
        rw [if_pos c_110] at hu
        refine lv_aload_n hx hb dX4_exponent_37 rfl (lv_at hl 0 rfl) ?_
        refine va_get (D := D) (ci := 5) (v := .ref ae) (C := RX4) (T := TX4) (N := 18) hx hb hts hi4 hown hK hP 0 rfl rfl 4 (by decide) (hts (.fieldLink RX4 21 "DecimalWordsModel" "exponents" "[I") (inW_8 _ (List.mem_of_getElem? (i := 34) rfl))) (fun _ h9 => h9) rfl dX4_exponent_38 ?_
        refine lv_iload_n hx hb dX4_exponent_41 rfl (lv_at hl 1 rfl) ?_
        have h_111 := hs
        refine va_iald hx hb hK hP 4 1 rfl rfl h_111 dX4_exponent_42 ?_
        have e9 := Eq.symm hu; subst e9
        exact x_iret hx hb hr hlocks hQ hK hP hD hS rfl rfl dX4_exponent_43
      · rw [if_neg c_110] at hu
        refine lv_iconst (v := 0) hx hb dX4_exponent_33 (by decide) ?_
        refine lv_goto (tgt := 43) hx hb dX4_exponent_34 (by decide) ?_
        have e9 := Eq.symm hu; subst e9
        exact x_iret hx hb hr hlocks hQ hK hP hD hS rfl rfl dX4_exponent_43
  obtain ⟨z9, ez9⟩ : ∃ y9 : Bool, y9 = Z_X4_exponent_J_105 p0 := ⟨_, rfl⟩
  have hz := rZ_X4_exponent_J_105 p0 ez9
  unfold RZ_X4_exponent_J_105 at hz
  refine xb_eq (tgt := 13) hx hb dX4_exponent_6 (by decide) (fun c_102 => ?_) (fun c_102 => ?_)
  · rw [if_neg c_102] at hz
    refine lv_iconst (v := 0) hx hb dX4_exponent_13 (by decide) ?_
    have e9 := Eq.symm hz; subst e9
    exact J_105 _ ez9 H locs hP hD hS ls (lv_sub hl [0, 1] rfl)
  · rw [if_pos c_102] at hz
    refine lv_iconst (v := 1) hx hb dX4_exponent_9 (by decide) ?_
    refine lv_goto (tgt := 14) hx hb dX4_exponent_10 (by decide) ?_
    have e9 := Eq.symm hz; subst e9
    exact J_105 _ ez9 H locs hP hD hS ls (lv_sub hl [0, 1] rfl)
