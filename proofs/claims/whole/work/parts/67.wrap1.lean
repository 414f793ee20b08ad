def F_L_put_ok (vso : Nat → Int32) (vmi : Nat → Bool) (vco : Nat → Int64) (vex : Nat → Int32) (p1 : Int32) (p2 : Bool) (p3 : Int64) (p4 : Int32) : Int32 × (Nat → Int32) × (Nat → Bool) × (Nat → Int64) × (Nat → Int32) := (bnd (F_X3_put_ok vso vmi vco vex p1 p2 p3 p4) (fun u102 : (Nat → Int32) × (Nat → Bool) × (Nat → Int64) × (Nat → Int32) => (0, u102.1, u102.2.1, u102.2.2.1, u102.2.2.2)))
def RF_L_put_ok (vso : Nat → Int32) (vmi : Nat → Bool) (vco : Nat → Int64) (vex : Nat → Int32) (p1 : Int32) (p2 : Bool) (p3 : Int64) (p4 : Int32) (u9 : Int32 × (Nat → Int32) × (Nat → Bool) × (Nat → Int64) × (Nat → Int32)) : Prop := (∀ u102 : (Nat → Int32) × (Nat → Bool) × (Nat → Int64) × (Nat → Int32), u102 = F_X3_put_ok vso vmi vco vex p1 p2 p3 p4 → u9 = (0, u102.1, u102.2.1, u102.2.2.1, u102.2.2.2))
theorem rF_L_put_ok (vso : Nat → Int32) (vmi : Nat → Bool) (vco : Nat → Int64) (vex : Nat → Int32) (p1 : Int32) (p2 : Bool) (p3 : Int64) (p4 : Int32) {u9 : Int32 × (Nat → Int32) × (Nat → Bool) × (Nat → Int64) × (Nat → Int32)} (hu : u9 = F_L_put_ok vso vmi vco vex p1 p2 p3 p4) : RF_L_put_ok vso vmi vco vex p1 p2 p3 p4 u9 := by
  unfold RF_L_put_ok
  intro u102 eu102
  have hu := bnd_n hu eu102
  exact hu
def S_L_put_ok (vso : Nat → Int32) (vmi : Nat → Bool) (vco : Nat → Int64) (vex : Nat → Int32) (p1 : Int32) (p2 : Bool) (p3 : Int64) (p4 : Int32) : Prop := S_X3_put_ok vso vmi vco vex p1 p2 p3 p4
def rm_L_put : Room := { frames := 8, cells := 2, slots := 12, locals := 135 }
set_option maxHeartbeats 4000000 in
set_option maxRecDepth 100000 in
theorem c_L_put_ok (l : Launch) (hl0 : l.stackTraces = false) (D : va_G) (cR cI cJ cZ : ClassId) (t0 : Nat) (sv : Nat → Nat) (ax ar ao : Nat) (ad : Nat → Nat) (vrd : Int32) (vtr : Int32) (vsd : Int32) (vrn : Int32) (vom : Bool) (voh : Int64) (vol : Int64) (vop : Int32) (voe : Bool) (vow : Int32) (vok : Int64) (vos : Int32) (vso : Nat → Int32) (vmi : Nat → Bool) (vco : Nat → Int64) (vex : Nat → Int32) (p1 : Int32) (p2 : Bool) (p3 : Int64) (p4 : Int32) (u : Int32 × (Nat → Int32) × (Nat → Bool) × (Nat → Int64) × (Nat → Int32)) (hu : u = F_L_put_ok vso vmi vco vex p1 p2 p3 p4) (hs : S_L_put_ok vso vmi vco vex p1 p2 p3 p4) : XL l D (xty cR cI cJ cZ) t0 sv yL_put cL_put 7 (some .int) [(0, 9, 12, 13), (0, 9, 16, 15)] rm_L_put 2 [.ref ax, .int p1, .int (bI p2), .long p3, .int p4] (some (.int u.1)) (xw cR ax ar ao ad vrd vtr vsd vrn vom voh vol vop voe vow vok vos vso vmi vco vex) (xw cR ax ar ao ad vrd vtr vsd vrn vom voh vol vop voe vow vok vos u.2.1 u.2.2.1 u.2.2.2.1 u.2.2.2.2) := by
  refine XL.of (by decide) (Nat.le_of_ble_eq_true rfl) ?_
  intro p e s m args below meth c A Q F htab hK hP hD hA hY hS hQ ls hl
  have hSt := hY.1
  obtain ⟨hx, hb, hr, hts, hown, hlocks, hml⟩ := F
  have hCF : CallFix p m c cL_put 7 s args gW RL := ⟨hx, hb, hml, hown, hts⟩
  unfold S_L_put_ok at hs
  have hu := rF_L_put_ok vso vmi vco vex p1 p2 p3 p4 hu
  unfold RF_L_put_ok at hu
  obtain ⟨H, eH⟩ : ∃ y9 : Heap, y9 = s.heap := ⟨_, rfl⟩
  obtain ⟨locs, eL⟩ : ∃ y9 : List Loc, y9 = [] := ⟨_, rfl⟩
  rw [← eL] at hS ⊢
  have hP : va_P D vwCl (xw cR ax ar ao ad vrd vtr vsd vrn vom voh vol vop voe vow vok vos vso vmi vco vex) H := by rw [eH]; exact hP
  have hS : va_S A s.heap H locs := by rw [eH]; exact hS
  suffices goal9 : W p l e rm_L_put s m args below meth c H locs 0 0 Q (F0 m 0 ls []) from by rw [← eH]; exact goal9
  have hl : lv_has ls 7 [(0, .ref ax), (1, .int p1), (2, .int (bI p2)), (3, .long p3), (5, .int p4)] := hl
  refine lv_aload_n hx hb dL_put_0 rfl (lv_at hl 0 rfl) ?_
  refine lv_iload_n hx hb dL_put_1 rfl (lv_at hl 1 rfl) ?_
  refine lv_iload_n hx hb dL_put_2 rfl (lv_at hl 2 rfl) ?_
  refine lv_lload_n hx hb dL_put_3 rfl (lv_at hl 3 rfl) ?_
  refine lv_iload hx hb dL_put_4 (lv_at hl 4 rfl) ?_
  have h_101 := hs
  obtain ⟨u102, eu102⟩ : ∃ y9 : (Nat → Int32) × (Nat → Bool) × (Nat → Int64) × (Nat → Int32), y9 = F_X3_put_ok vso vmi vco vex p1 p2 p3 p4 := ⟨_, rfl⟩
  have hu := hu _ eu102
  refine y_Vok (As := [.int p1, .int (bI p2), .long p3, .int p4]) (rest := []) (wf := []) hCF (c_X3_put_ok l hl0 D cR cI cJ cZ t0 sv ax ar ao ad vrd vtr vsd vrn vom voh vol vop voe vow vok vos vso vmi vco vex p1 p2 p3 p4 u102 eu102 h_101) (y_cwV 4 hts (inW_13 _ (List.mem_of_getElem? (i := 12) rfl)) (inW_13 _ (List.mem_of_getElem? (i := 13) rfl)) (inW_13 _ (List.mem_of_getElem? (i := 14) rfl)) (inW_1 _ (List.mem_of_getElem? (i := 25) rfl)) (inW_4 _ (List.mem_of_getElem? (i := 28) rfl)) rfl rfl (by decide +kernel) ⟨Nat.le_of_ble_eq_true rfl, Nat.le_of_ble_eq_true rfl⟩) hK (y_nil (P := fun w => va_P D vwCl w H) hP) (y_nil (P := fun w => va_D A w) hD) hS hA hY 0 rfl rfl rfl hl.1 rfl (Nat.le_of_ble_eq_true rfl) dL_put_6 ⟨Nat.le_of_ble_eq_true rfl, Nat.le_of_ble_eq_true rfl⟩ (fun H locs hP hD hS => ?_)
  have hP : va_P D vwCl (xw cR ax ar ao ad vrd vtr vsd vrn vom voh vol vop voe vow vok vos u102.1 u102.2.1 u102.2.2.1 u102.2.2.2) H := y_unnil (P := fun w => va_P D vwCl w H) hP
  have hD : va_D A (xw cR ax ar ao ad vrd vtr vsd vrn vom voh vol vop voe vow vok vos u102.1 u102.2.1 u102.2.2.1 u102.2.2.2) := y_unnil (P := fun w => va_D A w) hD
  show W p l e _ s m args below meth c H locs 2 12 Q (F0 m 9 ls [])
  refine lv_goto (tgt := 20) hx hb dL_put_9 (by decide) ?_
  refine lv_iconst (v := 0) hx hb dL_put_20 (by decide) ?_
  have e9 := Eq.symm hu; subst e9
  exact z_iret hx hb hr hlocks hQ hK hP hD hS rfl (Nat.le_of_ble_eq_true rfl) (Nat.le_of_ble_eq_true rfl) rfl dL_put_21

def F_L_put_b0  (p1 : Int32) (p2 : Bool) (p3 : Int64) (p4 : Int32) : Int32 := 1
def RF_L_put_b0  (p1 : Int32) (p2 : Bool) (p3 : Int64) (p4 : Int32) (u9 : Int32) : Prop := u9 = 1
theorem rF_L_put_b0  (p1 : Int32) (p2 : Bool) (p3 : Int64) (p4 : Int32) {u9 : Int32} (hu : u9 = F_L_put_b0 p1 p2 p3 p4) : RF_L_put_b0 p1 p2 p3 p4 u9 := by
  unfold RF_L_put_b0
  exact hu
def S_L_put_b0  (p1 : Int32) (p2 : Bool) (p3 : Int64) (p4 : Int32) : Prop := S_X3_put_b0 p1 p2 p3 p4
set_option maxHeartbeats 4000000 in
set_option maxRecDepth 100000 in
theorem c_L_put_b0 (l : Launch) (hl0 : l.stackTraces = false) (D : va_G) (cR cI cJ cZ : ClassId) (t0 : Nat) (sv : Nat → Nat) (ax ar ao : Nat) (ad : Nat → Nat) (vrd : Int32) (vtr : Int32) (vsd : Int32) (vrn : Int32) (vom : Bool) (voh : Int64) (vol : Int64) (vop : Int32) (voe : Bool) (vow : Int32) (vok : Int64) (vos : Int32) (vso : Nat → Int32) (vmi : Nat → Bool) (vco : Nat → Int64) (vex : Nat → Int32) (p1 : Int32) (p2 : Bool) (p3 : Int64) (p4 : Int32) (u : Int32) (hu : u = F_L_put_b0 p1 p2 p3 p4) (hs : S_L_put_b0 p1 p2 p3 p4) : XL l D (xty cR cI cJ cZ) t0 sv yL_put cL_put 7 (some .int) [(0, 9, 12, 13), (0, 9, 16, 15)] rm_L_put 2 [.ref ax, .int p1, .int (bI p2), .long p3, .int p4] (some (.int u)) (xw cR ax ar ao ad vrd vtr vsd vrn vom voh vol vop voe vow vok vos vso vmi vco vex) (xw cR ax ar ao ad vrd vtr vsd vrn vom voh vol vop voe vow vok vos vso vmi vco vex) := by
  refine XL.of (by decide) (Nat.le_of_ble_eq_true rfl) ?_
  intro p e s m args below meth c A Q F htab hK hP hD hA hY hS hQ ls hl
  have hSt := hY.1
  obtain ⟨hx, hb, hr, hts, hown, hlocks, hml⟩ := F
  have hCF : CallFix p m c cL_put 7 s args gW RL := ⟨hx, hb, hml, hown, hts⟩
  unfold S_L_put_b0 at hs
  have hu := rF_L_put_b0 p1 p2 p3 p4 hu
  unfold RF_L_put_b0 at hu
  obtain ⟨H, eH⟩ : ∃ y9 : Heap, y9 = s.heap := ⟨_, rfl⟩
  obtain ⟨locs, eL⟩ : ∃ y9 : List Loc, y9 = [] := ⟨_, rfl⟩
  rw [← eL] at hS ⊢
  have hP : va_P D vwCl (xw cR ax ar ao ad vrd vtr vsd vrn vom voh vol vop voe vow vok vos vso vmi vco vex) H := by rw [eH]; exact hP
  have hS : va_S A s.heap H locs := by rw [eH]; exact hS
  suffices goal9 : W p l e rm_L_put s m args below meth c H locs 0 0 Q (F0 m 0 ls []) from by rw [← eH]; exact goal9
  have hl : lv_has ls 7 [(0, .ref ax), (1, .int p1), (2, .int (bI p2)), (3, .long p3), (5, .int p4)] := hl
  refine lv_aload_n hx hb dL_put_0 rfl (lv_at hl 0 rfl) ?_
  refine lv_iload_n hx hb dL_put_1 rfl (lv_at hl 1 rfl) ?_
  refine lv_iload_n hx hb dL_put_2 rfl (lv_at hl 2 rfl) ?_
  refine lv_lload_n hx hb dL_put_3 rfl (lv_at hl 3 rfl) ?_
  refine lv_iload hx hb dL_put_4 (lv_at hl 4 rfl) ?_
  have h_101 := hs
  refine y_Vcat (As := [.int p1, .int (bI p2), .long p3, .int p4]) (rest := []) (wf := []) hCF (c_X3_put_b0 l hl0 D cR cI cJ cZ t0 sv ax ar ao ad vrd vtr vsd vrn vom voh vol vop voe vow vok vos vso vmi vco vex p1 p2 p3 p4 h_101) (y_cwV 4 hts (inW_13 _ (List.mem_of_getElem? (i := 12) rfl)) (inW_13 _ (List.mem_of_getElem? (i := 13) rfl)) (inW_13 _ (List.mem_of_getElem? (i := 14) rfl)) (inW_1 _ (List.mem_of_getElem? (i := 25) rfl)) (inW_4 _ (List.mem_of_getElem? (i := 28) rfl)) rfl rfl (by decide +kernel) ⟨Nat.le_of_ble_eq_true rfl, Nat.le_of_ble_eq_true rfl⟩) hK (y_nil (P := fun w => va_P D vwCl w H) hP) (y_nil (P := fun w => va_D A w) hD) hS hA hY 0 rfl rfl rfl hl.1 rfl (Nat.le_of_ble_eq_true rfl) dL_put_6 ⟨Nat.le_of_ble_eq_true rfl, Nat.le_of_ble_eq_true rfl⟩ [] ⟨0, 9, 12, 13⟩ [⟨0, 9, 16, 15⟩] (by rw [htab]; rfl) (fun z hz => by cases hz) (by decide) (by decide) (inW_13 _ (List.mem_of_getElem? (i := 10) rfl)) yc_IO (fun H locs q9 hP hD hS => ?_)
  have hP : va_P D vwCl (xw cR ax ar ao ad vrd vtr vsd vrn vom voh vol vop voe vow vok vos vso vmi vco vex) H := y_unnil (P := fun w => va_P D vwCl w H) hP
  have hD : va_D A (xw cR ax ar ao ad vrd vtr vsd vrn vom voh vol vop voe vow vok vos vso vmi vco vex) := y_unnil (P := fun w => va_D A w) hD
  show W p l e _ s m args below meth c H locs 2 12 Q (F0 m 12 ls [.ref q9])
  refine lv_astore (lv' := [(6, .ref q9), (0, .ref ax), (1, .int p1), (2, .int (bI p2)), (3, .long p3), (5, .int p4)]) hx hb dL_put_12 hl (by decide) rfl (fun ls hl => ?_)
  refine lv_iconst (v := 1) hx hb dL_put_14 (by decide) ?_
  have e9 := Eq.symm hu; subst e9
  exact z_iret hx hb hr hlocks hQ hK hP hD hS rfl (Nat.le_of_ble_eq_true rfl) (Nat.le_of_ble_eq_true rfl) rfl dL_put_15

def F_L_put_b1  (p1 : Int32) (p2 : Bool) (p3 : Int64) (p4 : Int32) : Int32 := 2
def RF_L_put_b1  (p1 : Int32) (p2 : Bool) (p3 : Int64) (p4 : Int32) (u9 : Int32) : Prop := u9 = 2
theorem rF_L_put_b1  (p1 : Int32) (p2 : Bool) (p3 : Int64) (p4 : Int32) {u9 : Int32} (hu : u9 = F_L_put_b1 p1 p2 p3 p4) : RF_L_put_b1 p1 p2 p3 p4 u9 := by
  unfold RF_L_put_b1
  exact hu
def S_L_put_b1  (p1 : Int32) (p2 : Bool) (p3 : Int64) (p4 : Int32) : Prop := S_X3_put_b1 p1 p2 p3 p4
set_option maxHeartbeats 4000000 in
set_option maxRecDepth 100000 in
theorem c_L_put_b1 (l : Launch) (hl0 : l.stackTraces = false) (D : va_G) (cR cI cJ cZ : ClassId) (t0 : Nat) (sv : Nat → Nat) (ax ar ao : Nat) (ad : Nat → Nat) (vrd : Int32) (vtr : Int32) (vsd : Int32) (vrn : Int32) (vom : Bool) (voh : Int64) (vol : Int64) (vop : Int32) (voe : Bool) (vow : Int32) (vok : Int64) (vos : Int32) (vso : Nat → Int32) (vmi : Nat → Bool) (vco : Nat → Int64) (vex : Nat → Int32) (p1 : Int32) (p2 : Bool) (p3 : Int64) (p4 : Int32) (u : Int32) (hu : u = F_L_put_b1 p1 p2 p3 p4) (hs : S_L_put_b1 p1 p2 p3 p4) : XL l D (xty cR cI cJ cZ) t0 sv yL_put cL_put 7 (some .int) [(0, 9, 12, 13), (0, 9, 16, 15)] rm_L_put 2 [.ref ax, .int p1, .int (bI p2), .long p3, .int p4] (some (.int u)) (xw cR ax ar ao ad vrd vtr vsd vrn vom voh vol vop voe vow vok vos vso vmi vco vex) (xw cR ax ar ao ad vrd vtr vsd vrn vom voh vol vop voe vow vok vos vso vmi vco vex) := by
  refine XL.of (by decide) (Nat.le_of_ble_eq_true rfl) ?_
  intro p e s m args below meth c A Q F htab hK hP hD hA hY hS hQ ls hl
  have hSt := hY.1
  obtain ⟨hx, hb, hr, hts, hown, hlocks, hml⟩ := F
  have hCF : CallFix p m c cL_put 7 s args gW RL := ⟨hx, hb, hml, hown, hts⟩
  unfold S_L_put_b1 at hs
  have hu := rF_L_put_b1 p1 p2 p3 p4 hu
  unfold RF_L_put_b1 at hu
  obtain ⟨H, eH⟩ : ∃ y9 : Heap, y9 = s.heap := ⟨_, rfl⟩
  obtain ⟨locs, eL⟩ : ∃ y9 : List Loc, y9 = [] := ⟨_, rfl⟩
  rw [← eL] at hS ⊢
  have hP : va_P D vwCl (xw cR ax ar ao ad vrd vtr vsd vrn vom voh vol vop voe vow vok vos vso vmi vco vex) H := by rw [eH]; exact hP
  have hS : va_S A s.heap H locs := by rw [eH]; exact hS
  suffices goal9 : W p l e rm_L_put s m args below meth c H locs 0 0 Q (F0 m 0 ls []) from by rw [← eH]; exact goal9
  have hl : lv_has ls 7 [(0, .ref ax), (1, .int p1), (2, .int (bI p2)), (3, .long p3), (5, .int p4)] := hl
  refine lv_aload_n hx hb dL_put_0 rfl (lv_at hl 0 rfl) ?_
  refine lv_iload_n hx hb dL_put_1 rfl (lv_at hl 1 rfl) ?_
  refine lv_iload_n hx hb dL_put_2 rfl (lv_at hl 2 rfl) ?_
  refine lv_lload_n hx hb dL_put_3 rfl (lv_at hl 3 rfl) ?_
  refine lv_iload hx hb dL_put_4 (lv_at hl 4 rfl) ?_
  have h_101 := hs
  refine y_Vcat (As := [.int p1, .int (bI p2), .long p3, .int p4]) (rest := []) (wf := []) hCF (c_X3_put_b1 l hl0 D cR cI cJ cZ t0 sv ax ar ao ad vrd vtr vsd vrn vom voh vol vop voe vow vok vos vso vmi vco vex p1 p2 p3 p4 h_101) (y_cwV 4 hts (inW_13 _ (List.mem_of_getElem? (i := 12) rfl)) (inW_13 _ (List.mem_of_getElem? (i := 13) rfl)) (inW_13 _ (List.mem_of_getElem? (i := 14) rfl)) (inW_1 _ (List.mem_of_getElem? (i := 25) rfl)) (inW_4 _ (List.mem_of_getElem? (i := 28) rfl)) rfl rfl (by decide +kernel) ⟨Nat.le_of_ble_eq_true rfl, Nat.le_of_ble_eq_true rfl⟩) hK (y_nil (P := fun w => va_P D vwCl w H) hP) (y_nil (P := fun w => va_D A w) hD) hS hA hY 0 rfl rfl rfl hl.1 rfl (Nat.le_of_ble_eq_true rfl) dL_put_6 ⟨Nat.le_of_ble_eq_true rfl, Nat.le_of_ble_eq_true rfl⟩ [⟨0, 9, 12, 13⟩] ⟨0, 9, 16, 15⟩ [] (by rw [htab]; rfl) (fun z hz => by
    rcases List.mem_cons.mp hz with h | hz
    · rw [h]; exact Or.inr ⟨by decide, _, hts _ (inW_13 _ (List.mem_of_getElem? (i := 10) rfl)), hY.2.2.2.2.2.1⟩
    cases hz) (by decide) (by decide) (inW_13 _ (List.mem_of_getElem? (i := 11) rfl)) yc_IA (fun H locs q9 hP hD hS => ?_)
  have hP : va_P D vwCl (xw cR ax ar ao ad vrd vtr vsd vrn vom voh vol vop voe vow vok vos vso vmi vco vex) H := y_unnil (P := fun w => va_P D vwCl w H) hP
  have hD : va_D A (xw cR ax ar ao ad vrd vtr vsd vrn vom voh vol vop voe vow vok vos vso vmi vco vex) := y_unnil (P := fun w => va_D A w) hD
  show W p l e _ s m args below meth c H locs 2 12 Q (F0 m 16 ls [.ref q9])
  refine lv_astore (lv' := [(6, .ref q9), (0, .ref ax), (1, .int p1), (2, .int (bI p2)), (3, .long p3), (5, .int p4)]) hx hb dL_put_16 hl (by decide) rfl (fun ls hl => ?_)
  refine lv_iconst (v := 2) hx hb dL_put_18 (by decide) ?_
  have e9 := Eq.symm hu; subst e9
  exact z_iret hx hb hr hlocks hQ hK hP hD hS rfl (Nat.le_of_ble_eq_true rfl) (Nat.le_of_ble_eq_true rfl) rfl dL_put_19

def F_L_put_b2  (p1 : Int32) (p2 : Bool) (p3 : Int64) (p4 : Int32) : Int32 := 2
def RF_L_put_b2  (p1 : Int32) (p2 : Bool) (p3 : Int64) (p4 : Int32) (u9 : Int32) : Prop := u9 = 2
theorem rF_L_put_b2  (p1 : Int32) (p2 : Bool) (p3 : Int64) (p4 : Int32) {u9 : Int32} (hu : u9 = F_L_put_b2 p1 p2 p3 p4) : RF_L_put_b2 p1 p2 p3 p4 u9 := by
  unfold RF_L_put_b2
  exact hu
def S_L_put_b2  (p1 : Int32) (p2 : Bool) (p3 : Int64) (p4 : Int32) : Prop := S_X3_put_b2 p1 p2 p3 p4
set_option maxHeartbeats 4000000 in
set_option maxRecDepth 100000 in
theorem c_L_put_b2 (l : Launch) (hl0 : l.stackTraces = false) (D : va_G) (cR cI cJ cZ : ClassId) (t0 : Nat) (sv : Nat → Nat) (ax ar ao : Nat) (ad : Nat → Nat) (vrd : Int32) (vtr : Int32) (vsd : Int32) (vrn : Int32) (vom : Bool) (voh : Int64) (vol : Int64) (vop : Int32) (voe : Bool) (vow : Int32) (vok : Int64) (vos : Int32) (vso : Nat → Int32) (vmi : Nat → Bool) (vco : Nat → Int64) (vex : Nat → Int32) (p1 : Int32) (p2 : Bool) (p3 : Int64) (p4 : Int32) (u : Int32) (hu : u = F_L_put_b2 p1 p2 p3 p4) (hs : S_L_put_b2 p1 p2 p3 p4) : XL l D (xty cR cI cJ cZ) t0 sv yL_put cL_put 7 (some .int) [(0, 9, 12, 13), (0, 9, 16, 15)] rm_L_put 2 [.ref ax, .int p1, .int (bI p2), .long p3, .int p4] (some (.int u)) (xw cR ax ar ao ad vrd vtr vsd vrn vom voh vol vop voe vow vok vos vso vmi vco vex) (xw cR ax ar ao ad vrd vtr vsd vrn vom voh vol vop voe vow vok vos vso vmi vco vex) := by
  refine XL.of (by decide) (Nat.le_of_ble_eq_true rfl) ?_
  intro p e s m args below meth c A Q F htab hK hP hD hA hY hS hQ ls hl
  have hSt := hY.1
  obtain ⟨hx, hb, hr, hts, hown, hlocks, hml⟩ := F
  have hCF : CallFix p m c cL_put 7 s args gW RL := ⟨hx, hb, hml, hown, hts⟩
  unfold S_L_put_b2 at hs
  have hu := rF_L_put_b2 p1 p2 p3 p4 hu
  unfold RF_L_put_b2 at hu
  obtain ⟨H, eH⟩ : ∃ y9 : Heap, y9 = s.heap := ⟨_, rfl⟩
  obtain ⟨locs, eL⟩ : ∃ y9 : List Loc, y9 = [] := ⟨_, rfl⟩
  rw [← eL] at hS ⊢
  have hP : va_P D vwCl (xw cR ax ar ao ad vrd vtr vsd vrn vom voh vol vop voe vow vok vos vso vmi vco vex) H := by rw [eH]; exact hP
  have hS : va_S A s.heap H locs := by rw [eH]; exact hS
  suffices goal9 : W p l e rm_L_put s m args below meth c H locs 0 0 Q (F0 m 0 ls []) from by rw [← eH]; exact goal9
  have hl : lv_has ls 7 [(0, .ref ax), (1, .int p1), (2, .int (bI p2)), (3, .long p3), (5, .int p4)] := hl
  refine lv_aload_n hx hb dL_put_0 rfl (lv_at hl 0 rfl) ?_
  refine lv_iload_n hx hb dL_put_1 rfl (lv_at hl 1 rfl) ?_
  refine lv_iload_n hx hb dL_put_2 rfl (lv_at hl 2 rfl) ?_
  refine lv_lload_n hx hb dL_put_3 rfl (lv_at hl 3 rfl) ?_
  refine lv_iload hx hb dL_put_4 (lv_at hl 4 rfl) ?_
  have h_101 := hs
  refine y_Vcat (As := [.int p1, .int (bI p2), .long p3, .int p4]) (rest := []) (wf := []) hCF (c_X3_put_b2 l hl0 D cR cI cJ cZ t0 sv ax ar ao ad vrd vtr vsd vrn vom voh vol vop voe vow vok vos vso vmi vco vex p1 p2 p3 p4 h_101) (y_cwV 4 hts (inW_13 _ (List.mem_of_getElem? (i := 12) rfl)) (inW_13 _ (List.mem_of_getElem? (i := 13) rfl)) (inW_13 _ (List.mem_of_getElem? (i := 14) rfl)) (inW_1 _ (List.mem_of_getElem? (i := 25) rfl)) (inW_4 _ (List.mem_of_getElem? (i := 28) rfl)) rfl rfl (by decide +kernel) ⟨Nat.le_of_ble_eq_true rfl, Nat.le_of_ble_eq_true rfl⟩) hK (y_nil (P := fun w => va_P D vwCl w H) hP) (y_nil (P := fun w => va_D A w) hD) hS hA hY 0 rfl rfl rfl hl.1 rfl (Nat.le_of_ble_eq_true rfl) dL_put_6 ⟨Nat.le_of_ble_eq_true rfl, Nat.le_of_ble_eq_true rfl⟩ [⟨0, 9, 12, 13⟩] ⟨0, 9, 16, 15⟩ [] (by rw [htab]; rfl) (fun z hz => by
    rcases List.mem_cons.mp hz with h | hz
    · rw [h]; exact Or.inr ⟨by decide, _, hts _ (inW_13 _ (List.mem_of_getElem? (i := 10) rfl)), hY.2.2.2.2.2.1⟩
    cases hz) (by decide) (by decide) (inW_13 _ (List.mem_of_getElem? (i := 11) rfl)) yc_IA (fun H locs q9 hP hD hS => ?_)
  have hP : va_P D vwCl (xw cR ax ar ao ad vrd vtr vsd vrn vom voh vol vop voe vow vok vos vso vmi vco vex) H := y_unnil (P := fun w => va_P D vwCl w H) hP
  have hD : va_D A (xw cR ax ar ao ad vrd vtr vsd vrn vom voh vol vop voe vow vok vos vso vmi vco vex) := y_unnil (P := fun w => va_D A w) hD
  show W p l e _ s m args below meth c H locs 2 12 Q (F0 m 16 ls [.ref q9])
  refine lv_astore (lv' := [(6, .ref q9), (0, .ref ax), (1, .int p1), (2, .int (bI p2)), (3, .long p3), (5, .int p4)]) hx hb dL_put_16 hl (by decide) rfl (fun ls hl => ?_)
  refine lv_iconst (v := 2) hx hb dL_put_18 (by decide) ?_
  have e9 := Eq.symm hu; subst e9
  exact z_iret hx hb hr hlocks hQ hK hP hD hS rfl (Nat.le_of_ble_eq_true rfl) (Nat.le_of_ble_eq_true rfl) rfl dL_put_19

def F_L_put_b3  (p1 : Int32) (p2 : Bool) (p3 : Int64) (p4 : Int32) : Int32 := 2
def RF_L_put_b3  (p1 : Int32) (p2 : Bool) (p3 : Int64) (p4 : Int32) (u9 : Int32) : Prop := u9 = 2
theorem rF_L_put_b3  (p1 : Int32) (p2 : Bool) (p3 : Int64) (p4 : Int32) {u9 : Int32} (hu : u9 = F_L_put_b3 p1 p2 p3 p4) : RF_L_put_b3 p1 p2 p3 p4 u9 := by
  unfold RF_L_put_b3
  exact hu
def S_L_put_b3  (p1 : Int32) (p2 : Bool) (p3 : Int64) (p4 : Int32) : Prop := S_X3_put_b3 p1 p2 p3 p4
set_option maxHeartbeats 4000000 in
set_option maxRecDepth 100000 in
theorem c_L_put_b3 (l : Launch) (hl0 : l.stackTraces = false) (D : va_G) (cR cI cJ cZ : ClassId) (t0 : Nat) (sv : Nat → Nat) (ax ar ao : Nat) (ad : Nat → Nat) (vrd : Int32) (vtr : Int32) (vsd : Int32) (vrn : Int32) (vom : Bool) (voh : Int64) (vol : Int64) (vop : Int32) (voe : Bool) (vow : Int32) (vok : Int64) (vos : Int32) (vso : Nat → Int32) (vmi : Nat → Bool) (vco : Nat → Int64) (vex : Nat → Int32) (p1 : Int32) (p2 : Bool) (p3 : Int64) (p4 : Int32) (u : Int32) (hu : u = F_L_put_b3 p1 p2 p3 p4) (hs : S_L_put_b3 p1 p2 p3 p4) : XL l D (xty cR cI cJ cZ) t0 sv yL_put cL_put 7 (some .int) [(0, 9, 12, 13), (0, 9, 16, 15)] rm_L_put 2 [.ref ax, .int p1, .int (bI p2), .long p3, .int p4] (some (.int u)) (xw cR ax ar ao ad vrd vtr vsd vrn vom voh vol vop voe vow vok vos vso vmi vco vex) (xw cR ax ar ao ad vrd vtr vsd vrn vom voh vol vop voe vow vok vos vso vmi vco vex) := by
  refine XL.of (by decide) (Nat.le_of_ble_eq_true rfl) ?_
  intro p e s m args below meth c A Q F htab hK hP hD hA hY hS hQ ls hl
  have hSt := hY.1
  obtain ⟨hx, hb, hr, hts, hown, hlocks, hml⟩ := F
  have hCF : CallFix p m c cL_put 7 s args gW RL := ⟨hx, hb, hml, hown, hts⟩
  unfold S_L_put_b3 at hs
  have hu := rF_L_put_b3 p1 p2 p3 p4 hu
  unfold RF_L_put_b3 at hu
  obtain ⟨H, eH⟩ : ∃ y9 : Heap, y9 = s.heap := ⟨_, rfl⟩
  obtain ⟨locs, eL⟩ : ∃ y9 : List Loc, y9 = [] := ⟨_, rfl⟩
  rw [← eL] at hS ⊢
  have hP : va_P D vwCl (xw cR ax ar ao ad vrd vtr vsd vrn vom voh vol vop voe vow vok vos vso vmi vco vex) H := by rw [eH]; exact hP
  have hS : va_S A s.heap H locs := by rw [eH]; exact hS
  suffices goal9 : W p l e rm_L_put s m args below meth c H locs 0 0 Q (F0 m 0 ls []) from by rw [← eH]; exact goal9
  have hl : lv_has ls 7 [(0, .ref ax), (1, .int p1), (2, .int (bI p2)), (3, .long p3), (5, .int p4)] := hl
  refine lv_aload_n hx hb dL_put_0 rfl (lv_at hl 0 rfl) ?_
  refine lv_iload_n hx hb dL_put_1 rfl (lv_at hl 1 rfl) ?_
  refine lv_iload_n hx hb dL_put_2 rfl (lv_at hl 2 rfl) ?_
  refine lv_lload_n hx hb dL_put_3 rfl (lv_at hl 3 rfl) ?_
  refine lv_iload hx hb dL_put_4 (lv_at hl 4 rfl) ?_
  have h_101 := hs
  refine y_Vcat (As := [.int p1, .int (bI p2), .long p3, .int p4]) (rest := []) (wf := []) hCF (c_X3_put_b3 l hl0 D cR cI cJ cZ t0 sv ax ar ao ad vrd vtr vsd vrn vom voh vol vop voe vow vok vos vso vmi vco vex p1 p2 p3 p4 h_101) (y_cwV 4 hts (inW_13 _ (List.mem_of_getElem? (i := 12) rfl)) (inW_13 _ (List.mem_of_getElem? (i := 13) rfl)) (inW_13 _ (List.mem_of_getElem? (i := 14) rfl)) (inW_1 _ (List.mem_of_getElem? (i := 25) rfl)) (inW_4 _ (List.mem_of_getElem? (i := 28) rfl)) rfl rfl (by decide +kernel) ⟨Nat.le_of_ble_eq_true rfl, Nat.le_of_ble_eq_true rfl⟩) hK (y_nil (P := fun w => va_P D vwCl w H) hP) (y_nil (P := fun w => va_D A w) hD) hS hA hY 0 rfl rfl rfl hl.1 rfl (Nat.le_of_ble_eq_true rfl) dL_put_6 ⟨Nat.le_of_ble_eq_true rfl, Nat.le_of_ble_eq_true rfl⟩ [⟨0, 9, 12, 13⟩] ⟨0, 9, 16, 15⟩ [] (by rw [htab]; rfl) (fun z hz => by
    rcases List.mem_cons.mp hz with h | hz
    · rw [h]; exact Or.inr ⟨by decide, _, hts _ (inW_13 _ (List.mem_of_getElem? (i := 10) rfl)), hY.2.2.2.2.2.1⟩
    cases hz) (by decide) (by decide) (inW_13 _ (List.mem_of_getElem? (i := 11) rfl)) yc_IA (fun H locs q9 hP hD hS => ?_)
  have hP : va_P D vwCl (xw cR ax ar ao ad vrd vtr vsd vrn vom voh vol vop voe vow vok vos vso vmi vco vex) H := y_unnil (P := fun w => va_P D vwCl w H) hP
  have hD : va_D A (xw cR ax ar ao ad vrd vtr vsd vrn vom voh vol vop voe vow vok vos vso vmi vco vex) := y_unnil (P := fun w => va_D A w) hD
  show W p l e _ s m args below meth c H locs 2 12 Q (F0 m 16 ls [.ref q9])
  refine lv_astore (lv' := [(6, .ref q9), (0, .ref ax), (1, .int p1), (2, .int (bI p2)), (3, .long p3), (5, .int p4)]) hx hb dL_put_16 hl (by decide) rfl (fun ls hl => ?_)
  refine lv_iconst (v := 2) hx hb dL_put_18 (by decide) ?_
  have e9 := Eq.symm hu; subst e9
  exact z_iret hx hb hr hlocks hQ hK hP hD hS rfl (Nat.le_of_ble_eq_true rfl) (Nat.le_of_ble_eq_true rfl) rfl dL_put_19

def F_L_put_b4  (p1 : Int32) (p2 : Bool) (p3 : Int64) (p4 : Int32) : Int32 := 2
def RF_L_put_b4  (p1 : Int32) (p2 : Bool) (p3 : Int64) (p4 : Int32) (u9 : Int32) : Prop := u9 = 2
theorem rF_L_put_b4  (p1 : Int32) (p2 : Bool) (p3 : Int64) (p4 : Int32) {u9 : Int32} (hu : u9 = F_L_put_b4 p1 p2 p3 p4) : RF_L_put_b4 p1 p2 p3 p4 u9 := by
  unfold RF_L_put_b4
  exact hu
def S_L_put_b4  (p1 : Int32) (p2 : Bool) (p3 : Int64) (p4 : Int32) : Prop := S_X3_put_b4 p1 p2 p3 p4
set_option maxHeartbeats 4000000 in
set_option maxRecDepth 100000 in
theorem c_L_put_b4 (l : Launch) (hl0 : l.stackTraces = false) (D : va_G) (cR cI cJ cZ : ClassId) (t0 : Nat) (sv : Nat → Nat) (ax ar ao : Nat) (ad : Nat → Nat) (vrd : Int32) (vtr : Int32) (vsd : Int32) (vrn : Int32) (vom : Bool) (voh : Int64) (vol : Int64) (vop : Int32) (voe : Bool) (vow : Int32) (vok : Int64) (vos : Int32) (vso : Nat → Int32) (vmi : Nat → Bool) (vco : Nat → Int64) (vex : Nat → Int32) (p1 : Int32) (p2 : Bool) (p3 : Int64) (p4 : Int32) (u : Int32) (hu : u = F_L_put_b4 p1 p2 p3 p4) (hs : S_L_put_b4 p1 p2 p3 p4) : XL l D (xty cR cI cJ cZ) t0 sv yL_put cL_put 7 (some .int) [(0, 9, 12, 13), (0, 9, 16, 15)] rm_L_put 2 [.ref ax, .int p1, .int (bI p2), .long p3, .int p4] (some (.int u)) (xw cR ax ar ao ad vrd vtr vsd vrn vom voh vol vop voe vow vok vos vso vmi vco vex) (xw cR ax ar ao ad vrd vtr vsd vrn vom voh vol vop voe vow vok vos vso vmi vco vex) := by
  refine XL.of (by decide) (Nat.le_of_ble_eq_true rfl) ?_
  intro p e s m args below meth c A Q F htab hK hP hD hA hY hS hQ ls hl
  have hSt := hY.1
  obtain ⟨hx, hb, hr, hts, hown, hlocks, hml⟩ := F
  have hCF : CallFix p m c cL_put 7 s args gW RL := ⟨hx, hb, hml, hown, hts⟩
  unfold S_L_put_b4 at hs
  have hu := rF_L_put_b4 p1 p2 p3 p4 hu
  unfold RF_L_put_b4 at hu
  obtain ⟨H, eH⟩ : ∃ y9 : Heap, y9 = s.heap := ⟨_, rfl⟩
  obtain ⟨locs, eL⟩ : ∃ y9 : List Loc, y9 = [] := ⟨_, rfl⟩
  rw [← eL] at hS ⊢
  have hP : va_P D vwCl (xw cR ax ar ao ad vrd vtr vsd vrn vom voh vol vop voe vow vok vos vso vmi vco vex) H := by rw [eH]; exact hP
  have hS : va_S A s.heap H locs := by rw [eH]; exact hS
  suffices goal9 : W p l e rm_L_put s m args below meth c H locs 0 0 Q (F0 m 0 ls []) from by rw [← eH]; exact goal9
  have hl : lv_has ls 7 [(0, .ref ax), (1, .int p1), (2, .int (bI p2)), (3, .long p3), (5, .int p4)] := hl
  refine lv_aload_n hx hb dL_put_0 rfl (lv_at hl 0 rfl) ?_
  refine lv_iload_n hx hb dL_put_1 rfl (lv_at hl 1 rfl) ?_
  refine lv_iload_n hx hb dL_put_2 rfl (lv_at hl 2 rfl) ?_
  refine lv_lload_n hx hb dL_put_3 rfl (lv_at hl 3 rfl) ?_
  refine lv_iload hx hb dL_put_4 (lv_at hl 4 rfl) ?_
  have h_101 := hs
  refine y_Vcat (As := [.int p1, .int (bI p2), .long p3, .int p4]) (rest := []) (wf := []) hCF (c_X3_put_b4 l hl0 D cR cI cJ cZ t0 sv ax ar ao ad vrd vtr vsd vrn vom voh vol vop voe vow vok vos vso vmi vco vex p1 p2 p3 p4 h_101) (y_cwV 4 hts (inW_13 _ (List.mem_of_getElem? (i := 12) rfl)) (inW_13 _ (List.mem_of_getElem? (i := 13) rfl)) (inW_13 _ (List.mem_of_getElem? (i := 14) rfl)) (inW_1 _ (List.mem_of_getElem? (i := 25) rfl)) (inW_4 _ (List.mem_of_getElem? (i := 28) rfl)) rfl rfl (by decide +kernel) ⟨Nat.le_of_ble_eq_true rfl, Nat.le_of_ble_eq_true rfl⟩) hK (y_nil (P := fun w => va_P D vwCl w H) hP) (y_nil (P := fun w => va_D A w) hD) hS hA hY 0 rfl rfl rfl hl.1 rfl (Nat.le_of_ble_eq_true rfl) dL_put_6 ⟨Nat.le_of_ble_eq_true rfl, Nat.le_of_ble_eq_true rfl⟩ [⟨0, 9, 12, 13⟩] ⟨0, 9, 16, 15⟩ [] (by rw [htab]; rfl) (fun z hz => by
    rcases List.mem_cons.mp hz with h | hz
    · rw [h]; exact Or.inr ⟨by decide, _, hts _ (inW_13 _ (List.mem_of_getElem? (i := 10) rfl)), hY.2.2.2.2.2.1⟩
    cases hz) (by decide) (by decide) (inW_13 _ (List.mem_of_getElem? (i := 11) rfl)) yc_IA (fun H locs q9 hP hD hS => ?_)
  have hP : va_P D vwCl (xw cR ax ar ao ad vrd vtr vsd vrn vom voh vol vop voe vow vok vos vso vmi vco vex) H := y_unnil (P := fun w => va_P D vwCl w H) hP
  have hD : va_D A (xw cR ax ar ao ad vrd vtr vsd vrn vom voh vol vop voe vow vok vos vso vmi vco vex) := y_unnil (P := fun w => va_D A w) hD
  show W p l e _ s m args below meth c H locs 2 12 Q (F0 m 16 ls [.ref q9])
  refine lv_astore (lv' := [(6, .ref q9), (0, .ref ax), (1, .int p1), (2, .int (bI p2)), (3, .long p3), (5, .int p4)]) hx hb dL_put_16 hl (by decide) rfl (fun ls hl => ?_)
  refine lv_iconst (v := 2) hx hb dL_put_18 (by decide) ?_
  have e9 := Eq.symm hu; subst e9
  exact z_iret hx hb hr hlocks hQ hK hP hD hS rfl (Nat.le_of_ble_eq_true rfl) (Nat.le_of_ble_eq_true rfl) rfl dL_put_19

def F_L_mode_ok  (p1 : Int32) : Int32 × Int32 := (bnd (F_X3_mode_ok p1) (fun u102 : Int32 => (0, u102)))
def RF_L_mode_ok  (p1 : Int32) (u9 : Int32 × Int32) : Prop := (∀ u102 : Int32, u102 = F_X3_mode_ok p1 → u9 = (0, u102))
theorem rF_L_mode_ok  (p1 : Int32) {u9 : Int32 × Int32} (hu : u9 = F_L_mode_ok p1) : RF_L_mode_ok p1 u9 := by
  unfold RF_L_mode_ok
  intro u102 eu102
  have hu := bnd_n hu eu102
  exact hu
def S_L_mode_ok  (p1 : Int32) : Prop := S_X3_mode_ok p1
def rm_L_mode : Room := { frames := 7, cells := 1, slots := 6, locals := 103 }
set_option maxHeartbeats 4000000 in
set_option maxRecDepth 100000 in
theorem c_L_mode_ok (l : Launch) (hl0 : l.stackTraces = false) (D : va_G) (cR cI cJ cZ : ClassId) (t0 : Nat) (sv : Nat → Nat) (ax ar ao : Nat) (ad : Nat → Nat) (vrd : Int32) (vtr : Int32) (vsd : Int32) (vrn : Int32) (vom : Bool) (voh : Int64) (vol : Int64) (vop : Int32) (voe : Bool) (vow : Int32) (vok : Int64) (vos : Int32) (vso : Nat → Int32) (vmi : Nat → Bool) (vco : Nat → Int64) (vex : Nat → Int32) (p1 : Int32) (u : Int32 × Int32) (hu : u = F_L_mode_ok p1) (hs : S_L_mode_ok p1) : XL l D (xty cR cI cJ cZ) t0 sv yL_mode cL_mode 3 (some .int) [(0, 5, 8, 15)] rm_L_mode 1 [.ref ax, .int p1] (some (.int u.1)) (xw cR ax ar ao ad vrd vtr vsd vrn vom voh vol vop voe vow vok vos vso vmi vco vex) (xw cR ax ar ao ad u.2 vtr vsd vrn vom voh vol vop voe vow vok vos vso vmi vco vex) := by
  refine XL.of (by decide) (Nat.le_of_ble_eq_true rfl) ?_
  intro p e s m args below meth c A Q F htab hK hP hD hA hY hS hQ ls hl
  have hSt := hY.1
  obtain ⟨hx, hb, hr, hts, hown, hlocks, hml⟩ := F
  have hCF : CallFix p m c cL_mode 3 s args gW RL := ⟨hx, hb, hml, hown, hts⟩
  unfold S_L_mode_ok at hs
  have hu := rF_L_mode_ok p1 hu
  unfold RF_L_mode_ok at hu
  obtain ⟨H, eH⟩ : ∃ y9 : Heap, y9 = s.heap := ⟨_, rfl⟩
  obtain ⟨locs, eL⟩ : ∃ y9 : List Loc, y9 = [] := ⟨_, rfl⟩
  rw [← eL] at hS ⊢
  have hP : va_P D vwCl (xw cR ax ar ao ad vrd vtr vsd vrn vom voh vol vop voe vow vok vos vso vmi vco vex) H := by rw [eH]; exact hP
  have hS : va_S A s.heap H locs := by rw [eH]; exact hS
  suffices goal9 : W p l e rm_L_mode s m args below meth c H locs 0 0 Q (F0 m 0 ls []) from by rw [← eH]; exact goal9
  have hl : lv_has ls 3 [(0, .ref ax), (1, .int p1)] := hl
  refine lv_aload_n hx hb dL_mode_0 rfl (lv_at hl 0 rfl) ?_
  refine lv_iload_n hx hb dL_mode_1 rfl (lv_at hl 1 rfl) ?_
  have h_101 := hs
  obtain ⟨u102, eu102⟩ : ∃ y9 : Int32, y9 = F_X3_mode_ok p1 := ⟨_, rfl⟩
  have hu := hu _ eu102
  refine y_Vok (As := [.int p1]) (rest := []) (wf := []) hCF (c_X3_mode_ok l hl0 D cR cI cJ cZ t0 sv ax ar ao ad vrd vtr vsd vrn vom voh vol vop voe vow vok vos vso vmi vco vex p1 u102 eu102 h_101) (y_cwV 1 hts (inW_14 _ (List.mem_of_getElem? (i := 5) rfl)) (inW_14 _ (List.mem_of_getElem? (i := 6) rfl)) (inW_14 _ (List.mem_of_getElem? (i := 7) rfl)) (inW_1 _ (List.mem_of_getElem? (i := 25) rfl)) (inW_8 _ (List.mem_of_getElem? (i := 21) rfl)) rfl rfl (by decide +kernel) ⟨Nat.le_of_ble_eq_true rfl, Nat.le_of_ble_eq_true rfl⟩) hK (y_nil (P := fun w => va_P D vwCl w H) hP) (y_nil (P := fun w => va_D A w) hD) hS hA hY 0 rfl rfl rfl hl.1 rfl (Nat.le_of_ble_eq_true rfl) dL_mode_2 ⟨Nat.le_of_ble_eq_true rfl, Nat.le_of_ble_eq_true rfl⟩ (fun H locs hP hD hS => ?_)
  have hP : va_P D vwCl (xw cR ax ar ao ad u102 vtr vsd vrn vom voh vol vop voe vow vok vos vso vmi vco vex) H := y_unnil (P := fun w => va_P D vwCl w H) hP
  have hD : va_D A (xw cR ax ar ao ad u102 vtr vsd vrn vom voh vol vop voe vow vok vos vso vmi vco vex) := y_unnil (P := fun w => va_D A w) hD
  show W p l e _ s m args below meth c H locs 1 6 Q (F0 m 5 ls [])
  refine lv_goto (tgt := 11) hx hb dL_mode_5 (by decide) ?_
  refine lv_iconst (v := 0) hx hb dL_mode_11 (by decide) ?_
  have e9 := Eq.symm hu; subst e9
  exact z_iret hx hb hr hlocks hQ hK hP hD hS rfl (Nat.le_of_ble_eq_true rfl) (Nat.le_of_ble_eq_true rfl) rfl dL_mode_12

def F_L_mode_b1  (p1 : Int32) : Int32 := 1
def RF_L_mode_b1  (p1 : Int32) (u9 : Int32) : Prop := u9 = 1
theorem rF_L_mode_b1  (p1 : Int32) {u9 : Int32} (hu : u9 = F_L_mode_b1 p1) : RF_L_mode_b1 p1 u9 := by
  unfold RF_L_mode_b1
  exact hu
def S_L_mode_b1  (p1 : Int32) : Prop := S_X3_mode_b1 p1
set_option maxHeartbeats 4000000 in
set_option maxRecDepth 100000 in
theorem c_L_mode_b1 (l : Launch) (hl0 : l.stackTraces = false) (D : va_G) (cR cI cJ cZ : ClassId) (t0 : Nat) (sv : Nat → Nat) (ax ar ao : Nat) (ad : Nat → Nat) (vrd : Int32) (vtr : Int32) (vsd : Int32) (vrn : Int32) (vom : Bool) (voh : Int64) (vol : Int64) (vop : Int32) (voe : Bool) (vow : Int32) (vok : Int64) (vos : Int32) (vso : Nat → Int32) (vmi : Nat → Bool) (vco : Nat → Int64) (vex : Nat → Int32) (p1 : Int32) (u : Int32) (hu : u = F_L_mode_b1 p1) (hs : S_L_mode_b1 p1) : XL l D (xty cR cI cJ cZ) t0 sv yL_mode cL_mode 3 (some .int) [(0, 5, 8, 15)] rm_L_mode 1 [.ref ax, .int p1] (some (.int u)) (xw cR ax ar ao ad vrd vtr vsd vrn vom voh vol vop voe vow vok vos vso vmi vco vex) (xw cR ax ar ao ad vrd vtr vsd vrn vom voh vol vop voe vow vok vos vso vmi vco vex) := by
  refine XL.of (by decide) (Nat.le_of_ble_eq_true rfl) ?_
  intro p e s m args below meth c A Q F htab hK hP hD hA hY hS hQ ls hl
  have hSt := hY.1
  obtain ⟨hx, hb, hr, hts, hown, hlocks, hml⟩ := F
  have hCF : CallFix p m c cL_mode 3 s args gW RL := ⟨hx, hb, hml, hown, hts⟩
  unfold S_L_mode_b1 at hs
  have hu := rF_L_mode_b1 p1 hu
  unfold RF_L_mode_b1 at hu
  obtain ⟨H, eH⟩ : ∃ y9 : Heap, y9 = s.heap := ⟨_, rfl⟩
  obtain ⟨locs, eL⟩ : ∃ y9 : List Loc, y9 = [] := ⟨_, rfl⟩
  rw [← eL] at hS ⊢
  have hP : va_P D vwCl (xw cR ax ar ao ad vrd vtr vsd vrn vom voh vol vop voe vow vok vos vso vmi vco vex) H := by rw [eH]; exact hP
  have hS : va_S A s.heap H locs := by rw [eH]; exact hS
  suffices goal9 : W p l e rm_L_mode s m args below meth c H locs 0 0 Q (F0 m 0 ls []) from by rw [← eH]; exact goal9
  have hl : lv_has ls 3 [(0, .ref ax), (1, .int p1)] := hl
  refine lv_aload_n hx hb dL_mode_0 rfl (lv_at hl 0 rfl) ?_
  refine lv_iload_n hx hb dL_mode_1 rfl (lv_at hl 1 rfl) ?_
  have h_101 := hs
  refine y_Vcat (As := [.int p1]) (rest := []) (wf := []) hCF (c_X3_mode_b1 l hl0 D cR cI cJ cZ t0 sv ax ar ao ad vrd vtr vsd vrn vom voh vol vop voe vow vok vos vso vmi vco vex p1 h_101) (y_cwV 1 hts (inW_14 _ (List.mem_of_getElem? (i := 5) rfl)) (inW_14 _ (List.mem_of_getElem? (i := 6) rfl)) (inW_14 _ (List.mem_of_getElem? (i := 7) rfl)) (inW_1 _ (List.mem_of_getElem? (i := 25) rfl)) (inW_8 _ (List.mem_of_getElem? (i := 21) rfl)) rfl rfl (by decide +kernel) ⟨Nat.le_of_ble_eq_true rfl, Nat.le_of_ble_eq_true rfl⟩) hK (y_nil (P := fun w => va_P D vwCl w H) hP) (y_nil (P := fun w => va_D A w) hD) hS hA hY 0 rfl rfl rfl hl.1 rfl (Nat.le_of_ble_eq_true rfl) dL_mode_2 ⟨Nat.le_of_ble_eq_true rfl, Nat.le_of_ble_eq_true rfl⟩ [] ⟨0, 5, 8, 15⟩ [] (by rw [htab]; rfl) (fun z hz => by cases hz) (by decide) (by decide) (inW_13 _ (List.mem_of_getElem? (i := 11) rfl)) yc_IA (fun H locs q9 hP hD hS => ?_)
  have hP : va_P D vwCl (xw cR ax ar ao ad vrd vtr vsd vrn vom voh vol vop voe vow vok vos vso vmi vco vex) H := y_unnil (P := fun w => va_P D vwCl w H) hP
  have hD : va_D A (xw cR ax ar ao ad vrd vtr vsd vrn vom voh vol vop voe vow vok vos vso vmi vco vex) := y_unnil (P := fun w => va_D A w) hD
  show W p l e _ s m args below meth c H locs 1 6 Q (F0 m 8 ls [.ref q9])
  refine lv_astore_n (lv' := [(2, .ref q9), (0, .ref ax), (1, .int p1)]) hx hb dL_mode_8 rfl hl (by decide) rfl (fun ls hl => ?_)
  refine lv_iconst (v := 1) hx hb dL_mode_9 (by decide) ?_
  have e9 := Eq.symm hu; subst e9
  exact z_iret hx hb hr hlocks hQ hK hP hD hS rfl (Nat.le_of_ble_eq_true rfl) (Nat.le_of_ble_eq_true rfl) rfl dL_mode_10

def F_L_mode_b2  (p1 : Int32) : Int32 := 1
def RF_L_mode_b2  (p1 : Int32) (u9 : Int32) : Prop := u9 = 1
theorem rF_L_mode_b2  (p1 : Int32) {u9 : Int32} (hu : u9 = F_L_mode_b2 p1) : RF_L_mode_b2 p1 u9 := by
  unfold RF_L_mode_b2
  exact hu
def S_L_mode_b2  (p1 : Int32) : Prop := S_X3_mode_b2 p1
set_option maxHeartbeats 4000000 in
set_option maxRecDepth 100000 in
theorem c_L_mode_b2 (l : Launch) (hl0 : l.stackTraces = false) (D : va_G) (cR cI cJ cZ : ClassId) (t0 : Nat) (sv : Nat → Nat) (ax ar ao : Nat) (ad : Nat → Nat) (vrd : Int32) (vtr : Int32) (vsd : Int32) (vrn : Int32) (vom : Bool) (voh : Int64) (vol : Int64) (vop : Int32) (voe : Bool) (vow : Int32) (vok : Int64) (vos : Int32) (vso : Nat → Int32) (vmi : Nat → Bool) (vco : Nat → Int64) (vex : Nat → Int32) (p1 : Int32) (u : Int32) (hu : u = F_L_mode_b2 p1) (hs : S_L_mode_b2 p1) : XL l D (xty cR cI cJ cZ) t0 sv yL_mode cL_mode 3 (some .int) [(0, 5, 8, 15)] rm_L_mode 1 [.ref ax, .int p1] (some (.int u)) (xw cR ax ar ao ad vrd vtr vsd vrn vom voh vol vop voe vow vok vos vso vmi vco vex) (xw cR ax ar ao ad vrd vtr vsd vrn vom voh vol vop voe vow vok vos vso vmi vco vex) := by
  refine XL.of (by decide) (Nat.le_of_ble_eq_true rfl) ?_
  intro p e s m args below meth c A Q F htab hK hP hD hA hY hS hQ ls hl
  have hSt := hY.1
  obtain ⟨hx, hb, hr, hts, hown, hlocks, hml⟩ := F
  have hCF : CallFix p m c cL_mode 3 s args gW RL := ⟨hx, hb, hml, hown, hts⟩
  unfold S_L_mode_b2 at hs
  have hu := rF_L_mode_b2 p1 hu
  unfold RF_L_mode_b2 at hu
  obtain ⟨H, eH⟩ : ∃ y9 : Heap, y9 = s.heap := ⟨_, rfl⟩
  obtain ⟨locs, eL⟩ : ∃ y9 : List Loc, y9 = [] := ⟨_, rfl⟩
  rw [← eL] at hS ⊢
  have hP : va_P D vwCl (xw cR ax ar ao ad vrd vtr vsd vrn vom voh vol vop voe vow vok vos vso vmi vco vex) H := by rw [eH]; exact hP
  have hS : va_S A s.heap H locs := by rw [eH]; exact hS
  suffices goal9 : W p l e rm_L_mode s m args below meth c H locs 0 0 Q (F0 m 0 ls []) from by rw [← eH]; exact goal9
  have hl : lv_has ls 3 [(0, .ref ax), (1, .int p1)] := hl
  refine lv_aload_n hx hb dL_mode_0 rfl (lv_at hl 0 rfl) ?_
  refine lv_iload_n hx hb dL_mode_1 rfl (lv_at hl 1 rfl) ?_
  have h_101 := hs
  refine y_Vcat (As := [.int p1]) (rest := []) (wf := []) hCF (c_X3_mode_b2 l hl0 D cR cI cJ cZ t0 sv ax ar ao ad vrd vtr vsd vrn vom voh vol vop voe vow vok vos vso vmi vco vex p1 h_101) (y_cwV 1 hts (inW_14 _ (List.mem_of_getElem? (i := 5) rfl)) (inW_14 _ (List.mem_of_getElem? (i := 6) rfl)) (inW_14 _ (List.mem_of_getElem? (i := 7) rfl)) (inW_1 _ (List.mem_of_getElem? (i := 25) rfl)) (inW_8 _ (List.mem_of_getElem? (i := 21) rfl)) rfl rfl (by decide +kernel) ⟨Nat.le_of_ble_eq_true rfl, Nat.le_of_ble_eq_true rfl⟩) hK (y_nil (P := fun w => va_P D vwCl w H) hP) (y_nil (P := fun w => va_D A w) hD) hS hA hY 0 rfl rfl rfl hl.1 rfl (Nat.le_of_ble_eq_true rfl) dL_mode_2 ⟨Nat.le_of_ble_eq_true rfl, Nat.le_of_ble_eq_true rfl⟩ [] ⟨0, 5, 8, 15⟩ [] (by rw [htab]; rfl) (fun z hz => by cases hz) (by decide) (by decide) (inW_13 _ (List.mem_of_getElem? (i := 11) rfl)) yc_IA (fun H locs q9 hP hD hS => ?_)
  have hP : va_P D vwCl (xw cR ax ar ao ad vrd vtr vsd vrn vom voh vol vop voe vow vok vos vso vmi vco vex) H := y_unnil (P := fun w => va_P D vwCl w H) hP
  have hD : va_D A (xw cR ax ar ao ad vrd vtr vsd vrn vom voh vol vop voe vow vok vos vso vmi vco vex) := y_unnil (P := fun w => va_D A w) hD
  show W p l e _ s m args below meth c H locs 1 6 Q (F0 m 8 ls [.ref q9])
  refine lv_astore_n (lv' := [(2, .ref q9), (0, .ref ax), (1, .int p1)]) hx hb dL_mode_8 rfl hl (by decide) rfl (fun ls hl => ?_)
  refine lv_iconst (v := 1) hx hb dL_mode_9 (by decide) ?_
  have e9 := Eq.symm hu; subst e9
  exact z_iret hx hb hr hlocks hQ hK hP hD hS rfl (Nat.le_of_ble_eq_true rfl) (Nat.le_of_ble_eq_true rfl) rfl dL_mode_10

def F_L_trap_ok  (p1 : Int32) : Int32 × Int32 := (bnd (F_X3_trap_ok p1) (fun u102 : Int32 => (0, u102)))
def RF_L_trap_ok  (p1 : Int32) (u9 : Int32 × Int32) : Prop := (∀ u102 : Int32, u102 = F_X3_trap_ok p1 → u9 = (0, u102))
theorem rF_L_trap_ok  (p1 : Int32) {u9 : Int32 × Int32} (hu : u9 = F_L_trap_ok p1) : RF_L_trap_ok p1 u9 := by
  unfold RF_L_trap_ok
  intro u102 eu102
  have hu := bnd_n hu eu102
  exact hu
def S_L_trap_ok  (p1 : Int32) : Prop := S_X3_trap_ok p1
def rm_L_trap : Room := { frames := 7, cells := 1, slots := 6, locals := 103 }
set_option maxHeartbeats 4000000 in
set_option maxRecDepth 100000 in
theorem c_L_trap_ok (l : Launch) (hl0 : l.stackTraces = false) (D : va_G) (cR cI cJ cZ : ClassId) (t0 : Nat) (sv : Nat → Nat) (ax ar ao : Nat) (ad : Nat → Nat) (vrd : Int32) (vtr : Int32) (vsd : Int32) (vrn : Int32) (vom : Bool) (voh : Int64) (vol : Int64) (vop : Int32) (voe : Bool) (vow : Int32) (vok : Int64) (vos : Int32) (vso : Nat → Int32) (vmi : Nat → Bool) (vco : Nat → Int64) (vex : Nat → Int32) (p1 : Int32) (u : Int32 × Int32) (hu : u = F_L_trap_ok p1) (hs : S_L_trap_ok p1) : XL l D (xty cR cI cJ cZ) t0 sv yL_trap cL_trap 3 (some .int) [(0, 5, 8, 15)] rm_L_trap 1 [.ref ax, .int p1] (some (.int u.1)) (xw cR ax ar ao ad vrd vtr vsd vrn vom voh vol vop voe vow vok vos vso vmi vco vex) (xw cR ax ar ao ad vrd u.2 vsd vrn vom voh vol vop voe vow vok vos vso vmi vco vex) := by
  refine XL.of (by decide) (Nat.le_of_ble_eq_true rfl) ?_
  intro p e s m args below meth c A Q F htab hK hP hD hA hY hS hQ ls hl
  have hSt := hY.1
  obtain ⟨hx, hb, hr, hts, hown, hlocks, hml⟩ := F
  have hCF : CallFix p m c cL_trap 3 s args gW RL := ⟨hx, hb, hml, hown, hts⟩
  unfold S_L_trap_ok at hs
  have hu := rF_L_trap_ok p1 hu
  unfold RF_L_trap_ok at hu
  obtain ⟨H, eH⟩ : ∃ y9 : Heap, y9 = s.heap := ⟨_, rfl⟩
  obtain ⟨locs, eL⟩ : ∃ y9 : List Loc, y9 = [] := ⟨_, rfl⟩
  rw [← eL] at hS ⊢
  have hP : va_P D vwCl (xw cR ax ar ao ad vrd vtr vsd vrn vom voh vol vop voe vow vok vos vso vmi vco vex) H := by rw [eH]; exact hP
  have hS : va_S A s.heap H locs := by rw [eH]; exact hS
  suffices goal9 : W p l e rm_L_trap s m args below meth c H locs 0 0 Q (F0 m 0 ls []) from by rw [← eH]; exact goal9
  have hl : lv_has ls 3 [(0, .ref ax), (1, .int p1)] := hl
  refine lv_aload_n hx hb dL_trap_0 rfl (lv_at hl 0 rfl) ?_
  refine lv_iload_n hx hb dL_trap_1 rfl (lv_at hl 1 rfl) ?_
  have h_101 := hs
  obtain ⟨u102, eu102⟩ : ∃ y9 : Int32, y9 = F_X3_trap_ok p1 := ⟨_, rfl⟩
  have hu := hu _ eu102
  refine y_Vok (As := [.int p1]) (rest := []) (wf := []) hCF (c_X3_trap_ok l hl0 D cR cI cJ cZ t0 sv ax ar ao ad vrd vtr vsd vrn vom voh vol vop voe vow vok vos vso vmi vco vex p1 u102 eu102 h_101) (y_cwV 1 hts (inW_14 _ (List.mem_of_getElem? (i := 9) rfl)) (inW_14 _ (List.mem_of_getElem? (i := 10) rfl)) (inW_14 _ (List.mem_of_getElem? (i := 11) rfl)) (inW_1 _ (List.mem_of_getElem? (i := 25) rfl)) (inW_8 _ (List.mem_of_getElem? (i := 22) rfl)) rfl rfl (by decide +kernel) ⟨Nat.le_of_ble_eq_true rfl, Nat.le_of_ble_eq_true rfl⟩) hK (y_nil (P := fun w => va_P D vwCl w H) hP) (y_nil (P := fun w => va_D A w) hD) hS hA hY 0 rfl rfl rfl hl.1 rfl (Nat.le_of_ble_eq_true rfl) dL_trap_2 ⟨Nat.le_of_ble_eq_true rfl, Nat.le_of_ble_eq_true rfl⟩ (fun H locs hP hD hS => ?_)
  have hP : va_P D vwCl (xw cR ax ar ao ad vrd u102 vsd vrn vom voh vol vop voe vow vok vos vso vmi vco vex) H := y_unnil (P := fun w => va_P D vwCl w H) hP
  have hD : va_D A (xw cR ax ar ao ad vrd u102 vsd vrn vom voh vol vop voe vow vok vos vso vmi vco vex) := y_unnil (P := fun w => va_D A w) hD
  show W p l e _ s m args below meth c H locs 1 6 Q (F0 m 5 ls [])
  refine lv_goto (tgt := 11) hx hb dL_trap_5 (by decide) ?_
  refine lv_iconst (v := 0) hx hb dL_trap_11 (by decide) ?_
  have e9 := Eq.symm hu; subst e9
  exact z_iret hx hb hr hlocks hQ hK hP hD hS rfl (Nat.le_of_ble_eq_true rfl) (Nat.le_of_ble_eq_true rfl) rfl dL_trap_12

def F_L_trap_b1  (p1 : Int32) : Int32 := 1
def RF_L_trap_b1  (p1 : Int32) (u9 : Int32) : Prop := u9 = 1
theorem rF_L_trap_b1  (p1 : Int32) {u9 : Int32} (hu : u9 = F_L_trap_b1 p1) : RF_L_trap_b1 p1 u9 := by
  unfold RF_L_trap_b1
  exact hu
def S_L_trap_b1  (p1 : Int32) : Prop := S_X3_trap_b1 p1
set_option maxHeartbeats 4000000 in
set_option maxRecDepth 100000 in
theorem c_L_trap_b1 (l : Launch) (hl0 : l.stackTraces = false) (D : va_G) (cR cI cJ cZ : ClassId) (t0 : Nat) (sv : Nat → Nat) (ax ar ao : Nat) (ad : Nat → Nat) (vrd : Int32) (vtr : Int32) (vsd : Int32) (vrn : Int32) (vom : Bool) (voh : Int64) (vol : Int64) (vop : Int32) (voe : Bool) (vow : Int32) (vok : Int64) (vos : Int32) (vso : Nat → Int32) (vmi : Nat → Bool) (vco : Nat → Int64) (vex : Nat → Int32) (p1 : Int32) (u : Int32) (hu : u = F_L_trap_b1 p1) (hs : S_L_trap_b1 p1) : XL l D (xty cR cI cJ cZ) t0 sv yL_trap cL_trap 3 (some .int) [(0, 5, 8, 15)] rm_L_trap 1 [.ref ax, .int p1] (some (.int u)) (xw cR ax ar ao ad vrd vtr vsd vrn vom voh vol vop voe vow vok vos vso vmi vco vex) (xw cR ax ar ao ad vrd vtr vsd vrn vom voh vol vop voe vow vok vos vso vmi vco vex) := by
  refine XL.of (by decide) (Nat.le_of_ble_eq_true rfl) ?_
  intro p e s m args below meth c A Q F htab hK hP hD hA hY hS hQ ls hl
  have hSt := hY.1
  obtain ⟨hx, hb, hr, hts, hown, hlocks, hml⟩ := F
  have hCF : CallFix p m c cL_trap 3 s args gW RL := ⟨hx, hb, hml, hown, hts⟩
  unfold S_L_trap_b1 at hs
  have hu := rF_L_trap_b1 p1 hu
  unfold RF_L_trap_b1 at hu
  obtain ⟨H, eH⟩ : ∃ y9 : Heap, y9 = s.heap := ⟨_, rfl⟩
  obtain ⟨locs, eL⟩ : ∃ y9 : List Loc, y9 = [] := ⟨_, rfl⟩
  rw [← eL] at hS ⊢
  have hP : va_P D vwCl (xw cR ax ar ao ad vrd vtr vsd vrn vom voh vol vop voe vow vok vos vso vmi vco vex) H := by rw [eH]; exact hP
  have hS : va_S A s.heap H locs := by rw [eH]; exact hS
  suffices goal9 : W p l e rm_L_trap s m args below meth c H locs 0 0 Q (F0 m 0 ls []) from by rw [← eH]; exact goal9
  have hl : lv_has ls 3 [(0, .ref ax), (1, .int p1)] := hl
  refine lv_aload_n hx hb dL_trap_0 rfl (lv_at hl 0 rfl) ?_
  refine lv_iload_n hx hb dL_trap_1 rfl (lv_at hl 1 rfl) ?_
  have h_101 := hs
  refine y_Vcat (As := [.int p1]) (rest := []) (wf := []) hCF (c_X3_trap_b1 l hl0 D cR cI cJ cZ t0 sv ax ar ao ad vrd vtr vsd vrn vom voh vol vop voe vow vok vos vso vmi vco vex p1 h_101) (y_cwV 1 hts (inW_14 _ (List.mem_of_getElem? (i := 9) rfl)) (inW_14 _ (List.mem_of_getElem? (i := 10) rfl)) (inW_14 _ (List.mem_of_getElem? (i := 11) rfl)) (inW_1 _ (List.mem_of_getElem? (i := 25) rfl)) (inW_8 _ (List.mem_of_getElem? (i := 22) rfl)) rfl rfl (by decide +kernel) ⟨Nat.le_of_ble_eq_true rfl, Nat.le_of_ble_eq_true rfl⟩) hK (y_nil (P := fun w => va_P D vwCl w H) hP) (y_nil (P := fun w => va_D A w) hD) hS hA hY 0 rfl rfl rfl hl.1 rfl (Nat.le_of_ble_eq_true rfl) dL_trap_2 ⟨Nat.le_of_ble_eq_true rfl, Nat.le_of_ble_eq_true rfl⟩ [] ⟨0, 5, 8, 15⟩ [] (by rw [htab]; rfl) (fun z hz => by cases hz) (by decide) (by decide) (inW_13 _ (List.mem_of_getElem? (i := 11) rfl)) yc_IA (fun H locs q9 hP hD hS => ?_)
  have hP : va_P D vwCl (xw cR ax ar ao ad vrd vtr vsd vrn vom voh vol vop voe vow vok vos vso vmi vco vex) H := y_unnil (P := fun w => va_P D vwCl w H) hP
  have hD : va_D A (xw cR ax ar ao ad vrd vtr vsd vrn vom voh vol vop voe vow vok vos vso vmi vco vex) := y_unnil (P := fun w => va_D A w) hD
  show W p l e _ s m args below meth c H locs 1 6 Q (F0 m 8 ls [.ref q9])
  refine lv_astore_n (lv' := [(2, .ref q9), (0, .ref ax), (1, .int p1)]) hx hb dL_trap_8 rfl hl (by decide) rfl (fun ls hl => ?_)
  refine lv_iconst (v := 1) hx hb dL_trap_9 (by decide) ?_
  have e9 := Eq.symm hu; subst e9
  exact z_iret hx hb hr hlocks hQ hK hP hD hS rfl (Nat.le_of_ble_eq_true rfl) (Nat.le_of_ble_eq_true rfl) rfl dL_trap_10

def F_L_trap_b2  (p1 : Int32) : Int32 := 1
def RF_L_trap_b2  (p1 : Int32) (u9 : Int32) : Prop := u9 = 1
theorem rF_L_trap_b2  (p1 : Int32) {u9 : Int32} (hu : u9 = F_L_trap_b2 p1) : RF_L_trap_b2 p1 u9 := by
  unfold RF_L_trap_b2
  exact hu
def S_L_trap_b2  (p1 : Int32) : Prop := S_X3_trap_b2 p1
set_option maxHeartbeats 4000000 in
set_option maxRecDepth 100000 in
theorem c_L_trap_b2 (l : Launch) (hl0 : l.stackTraces = false) (D : va_G) (cR cI cJ cZ : ClassId) (t0 : Nat) (sv : Nat → Nat) (ax ar ao : Nat) (ad : Nat → Nat) (vrd : Int32) (vtr : Int32) (vsd : Int32) (vrn : Int32) (vom : Bool) (voh : Int64) (vol : Int64) (vop : Int32) (voe : Bool) (vow : Int32) (vok : Int64) (vos : Int32) (vso : Nat → Int32) (vmi : Nat → Bool) (vco : Nat → Int64) (vex : Nat → Int32) (p1 : Int32) (u : Int32) (hu : u = F_L_trap_b2 p1) (hs : S_L_trap_b2 p1) : XL l D (xty cR cI cJ cZ) t0 sv yL_trap cL_trap 3 (some .int) [(0, 5, 8, 15)] rm_L_trap 1 [.ref ax, .int p1] (some (.int u)) (xw cR ax ar ao ad vrd vtr vsd vrn vom voh vol vop voe vow vok vos vso vmi vco vex) (xw cR ax ar ao ad vrd vtr vsd vrn vom voh vol vop voe vow vok vos vso vmi vco vex) := by
  refine XL.of (by decide) (Nat.le_of_ble_eq_true rfl) ?_
  intro p e s m args below meth c A Q F htab hK hP hD hA hY hS hQ ls hl
  have hSt := hY.1
  obtain ⟨hx, hb, hr, hts, hown, hlocks, hml⟩ := F
  have hCF : CallFix p m c cL_trap 3 s args gW RL := ⟨hx, hb, hml, hown, hts⟩
  unfold S_L_trap_b2 at hs
  have hu := rF_L_trap_b2 p1 hu
  unfold RF_L_trap_b2 at hu
  obtain ⟨H, eH⟩ : ∃ y9 : Heap, y9 = s.heap := ⟨_, rfl⟩
  obtain ⟨locs, eL⟩ : ∃ y9 : List Loc, y9 = [] := ⟨_, rfl⟩
  rw [← eL] at hS ⊢
  have hP : va_P D vwCl (xw cR ax ar ao ad vrd vtr vsd vrn vom voh vol vop voe vow vok vos vso vmi vco vex) H := by rw [eH]; exact hP
  have hS : va_S A s.heap H locs := by rw [eH]; exact hS
  suffices goal9 : W p l e rm_L_trap s m args below meth c H locs 0 0 Q (F0 m 0 ls []) from by rw [← eH]; exact goal9
  have hl : lv_has ls 3 [(0, .ref ax), (1, .int p1)] := hl
  refine lv_aload_n hx hb dL_trap_0 rfl (lv_at hl 0 rfl) ?_
  refine lv_iload_n hx hb dL_trap_1 rfl (lv_at hl 1 rfl) ?_
  have h_101 := hs
  refine y_Vcat (As := [.int p1]) (rest := []) (wf := []) hCF (c_X3_trap_b2 l hl0 D cR cI cJ cZ t0 sv ax ar ao ad vrd vtr vsd vrn vom voh vol vop voe vow vok vos vso vmi vco vex p1 h_101) (y_cwV 1 hts (inW_14 _ (List.mem_of_getElem? (i := 9) rfl)) (inW_14 _ (List.mem_of_getElem? (i := 10) rfl)) (inW_14 _ (List.mem_of_getElem? (i := 11) rfl)) (inW_1 _ (List.mem_of_getElem? (i := 25) rfl)) (inW_8 _ (List.mem_of_getElem? (i := 22) rfl)) rfl rfl (by decide +kernel) ⟨Nat.le_of_ble_eq_true rfl, Nat.le_of_ble_eq_true rfl⟩) hK (y_nil (P := fun w => va_P D vwCl w H) hP) (y_nil (P := fun w => va_D A w) hD) hS hA hY 0 rfl rfl rfl hl.1 rfl (Nat.le_of_ble_eq_true rfl) dL_trap_2 ⟨Nat.le_of_ble_eq_true rfl, Nat.le_of_ble_eq_true rfl⟩ [] ⟨0, 5, 8, 15⟩ [] (by rw [htab]; rfl) (fun z hz => by cases hz) (by decide) (by decide) (inW_13 _ (List.mem_of_getElem? (i := 11) rfl)) yc_IA (fun H locs q9 hP hD hS => ?_)
  have hP : va_P D vwCl (xw cR ax ar ao ad vrd vtr vsd vrn vom voh vol vop voe vow vok vos vso vmi vco vex) H := y_unnil (P := fun w => va_P D vwCl w H) hP
  have hD : va_D A (xw cR ax ar ao ad vrd vtr vsd vrn vom voh vol vop voe vow vok vos vso vmi vco vex) := y_unnil (P := fun w => va_D A w) hD
  show W p l e _ s m args below meth c H locs 1 6 Q (F0 m 8 ls [.ref q9])
  refine lv_astore_n (lv' := [(2, .ref q9), (0, .ref ax), (1, .int p1)]) hx hb dL_trap_8 rfl hl (by decide) rfl (fun ls hl => ?_)
  refine lv_iconst (v := 1) hx hb dL_trap_9 (by decide) ?_
  have e9 := Eq.symm hu; subst e9
  exact z_iret hx hb hr hlocks hQ hK hP hD hS rfl (Nat.le_of_ble_eq_true rfl) (Nat.le_of_ble_eq_true rfl) rfl dL_trap_10

def F_L_kind_ok (vso : Nat → Int32) (vmi : Nat → Bool) (vou : Nat → Int64) (p1 : Int32) : Int32 × (Nat → Int64) := (bnd (F_X3_kind_ok vso vmi p1) (fun u102 : Int32 => (bnd (u102.toInt64) (fun f104 : Int64 => (bnd (va_up vou (0 : Int32).toNatClampNeg f104) (fun w106 : Nat → Int64 => (0, w106)))))))
def RF_L_kind_ok (vso : Nat → Int32) (vmi : Nat → Bool) (vou : Nat → Int64) (p1 : Int32) (u9 : Int32 × (Nat → Int64)) : Prop := (∀ u102 : Int32, u102 = F_X3_kind_ok vso vmi p1 → (∀ f104 : Int64, f104 = u102.toInt64 → (∀ w106 : Nat → Int64, w106 = va_up vou (0 : Int32).toNatClampNeg f104 → u9 = (0, w106))))
theorem rF_L_kind_ok (vso : Nat → Int32) (vmi : Nat → Bool) (vou : Nat → Int64) (p1 : Int32) {u9 : Int32 × (Nat → Int64)} (hu : u9 = F_L_kind_ok vso vmi vou p1) : RF_L_kind_ok vso vmi vou p1 u9 := by
  unfold RF_L_kind_ok
  intro u102 eu102
  have hu := bnd_n hu eu102
  intro f104 ef104
  have hu := bnd_n hu ef104
  intro w106 ew106
  have hu := bnd_n hu ew106
  exact hu
def S_L_kind_ok (vso : Nat → Int32) (vmi : Nat → Bool) (vou : Nat → Int64) (p1 : Int32) : Prop := (S_X3_kind_ok vso vmi p1) ∧ (∀ u102 : Int32, u102 = F_X3_kind_ok vso vmi p1 → (∀ f104 : Int64, f104 = u102.toInt64 → vp_in (0 : Int32) 1))
def rm_L_kind : Room := { frames := 8, cells := 1, slots := 6, locals := 131 }
set_option maxHeartbeats 4000000 in
set_option maxRecDepth 100000 in
theorem c_L_kind_ok (l : Launch) (hl0 : l.stackTraces = false) (D : va_G) (cR cI cJ cZ : ClassId) (t0 : Nat) (sv : Nat → Nat) (ax ar ao : Nat) (ad : Nat → Nat) (aw : Nat) (vrd : Int32) (vtr : Int32) (vsd : Int32) (vrn : Int32) (vom : Bool) (voh : Int64) (vol : Int64) (vop : Int32) (voe : Bool) (vow : Int32) (vok : Int64) (vos : Int32) (vso : Nat → Int32) (vmi : Nat → Bool) (vco : Nat → Int64) (vex : Nat → Int32) (vou : Nat → Int64) (p1 : Int32) (u : Int32 × (Nat → Int64)) (hu : u = F_L_kind_ok vso vmi vou p1) (hs : S_L_kind_ok vso vmi vou p1) : XL l D (xty cR cI cJ cZ) t0 sv yL_kind cL_kind 4 (some .int) [(0, 9, 12, 13)] rm_L_kind 1 [.ref ax, .int p1, .ref aw] (some (.int u.1)) (xw cR ax ar ao ad vrd vtr vsd vrn vom voh vol vop voe vow vok vos vso vmi vco vex ++ [(aw, .inl (cJ, 1, .inr (.inl vou)))]) (xw cR ax ar ao ad vrd vtr vsd vrn vom voh vol vop voe vow vok vos vso vmi vco vex ++ [(aw, .inl (cJ, 1, .inr (.inl u.2)))]) := by
  refine XL.of (by decide) (Nat.le_of_ble_eq_true rfl) ?_
  intro p e s m args below meth c A Q F htab hK hP hD hA hY hS hQ ls hl
  have hSt := hY.1
  obtain ⟨hx, hb, hr, hts, hown, hlocks, hml⟩ := F
  have hCF : CallFix p m c cL_kind 4 s args gW RL := ⟨hx, hb, hml, hown, hts⟩
  unfold S_L_kind_ok at hs
  have hu := rF_L_kind_ok vso vmi vou p1 hu
  unfold RF_L_kind_ok at hu
  obtain ⟨H, eH⟩ : ∃ y9 : Heap, y9 = s.heap := ⟨_, rfl⟩
  obtain ⟨locs, eL⟩ : ∃ y9 : List Loc, y9 = [] := ⟨_, rfl⟩
  rw [← eL] at hS ⊢
  have hP : va_P D vwCl (xw cR ax ar ao ad vrd vtr vsd vrn vom voh vol vop voe vow vok vos vso vmi vco vex ++ [(aw, .inl (cJ, 1, .inr (.inl vou)))]) H := by rw [eH]; exact hP
  have hS : va_S A s.heap H locs := by rw [eH]; exact hS
  suffices goal9 : W p l e rm_L_kind s m args below meth c H locs 0 0 Q (F0 m 0 ls []) from by rw [← eH]; exact goal9
  have hl : lv_has ls 4 [(0, .ref ax), (1, .int p1), (2, .ref aw)] := hl
  refine lv_aload_n hx hb dL_kind_0 rfl (lv_at hl 2 rfl) ?_
  refine lv_iconst (v := 0) hx hb dL_kind_1 (by decide) ?_
  refine lv_aload_n hx hb dL_kind_2 rfl (lv_at hl 0 rfl) ?_
  refine lv_iload_n hx hb dL_kind_3 rfl (lv_at hl 1 rfl) ?_
  obtain ⟨h_101, hs⟩ := hs
  obtain ⟨u102, eu102⟩ : ∃ y9 : Int32, y9 = F_X3_kind_ok vso vmi p1 := ⟨_, rfl⟩
  have hs := hs _ eu102
  have hu := hu _ eu102
  refine y_Vok (As := [.int p1]) (rest := [.int 0, .ref aw]) (wf := [(aw, .inl (cJ, 1, .inr (.inl vou)))]) hCF (c_X3_kind_ok l hl0 D cR cI cJ cZ t0 sv ax ar ao ad vrd vtr vsd vrn vom voh vol vop voe vow vok vos vso vmi vco vex p1 u102 eu102 h_101) (y_cwV 1 hts (inW_13 _ (List.mem_of_getElem? (i := 25) rfl)) (inW_13 _ (List.mem_of_getElem? (i := 26) rfl)) (inW_13 _ (List.mem_of_getElem? (i := 27) rfl)) (inW_1 _ (List.mem_of_getElem? (i := 25) rfl)) (inW_8 _ (List.mem_of_getElem? (i := 9) rfl)) rfl rfl (by decide +kernel) ⟨Nat.le_of_ble_eq_true rfl, Nat.le_of_ble_eq_true rfl⟩) hK hP hD hS hA hY 0 rfl rfl rfl hl.1 rfl (Nat.le_of_ble_eq_true rfl) dL_kind_4 ⟨Nat.le_of_ble_eq_true rfl, Nat.le_of_ble_eq_true rfl⟩ (fun H locs hP hD hS => ?_)
  have hP : va_P D vwCl (xw cR ax ar ao ad vrd vtr vsd vrn vom voh vol vop voe vow vok vos vso vmi vco vex ++ [(aw, .inl (cJ, 1, .inr (.inl vou)))]) H := hP
  have hD : va_D A (xw cR ax ar ao ad vrd vtr vsd vrn vom voh vol vop voe vow vok vos vso vmi vco vex ++ [(aw, .inl (cJ, 1, .inr (.inl vou)))]) := hD
  show W p l e _ s m args below meth c H locs 1 6 Q (F0 m 7 ls (.int u102 :: [.int 0, .ref aw]))
  refine x_i2l hx hb dL_kind_7 ?_
  refine lv_topl (fun f104 ef104 => ?_)
  have hs := hs _ ef104
  have hu := hu _ ef104
  have h_105 := hs
  refine va_last hx hb hK hP hD hS 12 2 rfl rfl h_105 dL_kind_8 (fun H locs hP hD hS => ?_)
  obtain ⟨w106, ew106⟩ : ∃ y9 : Nat → Int64, y9 = va_up vou (0 : Int32).toNatClampNeg f104 := ⟨_, rfl⟩
  have hu := hu _ ew106
  have hP : va_P D vwCl (xw cR ax ar ao ad vrd vtr vsd vrn vom voh vol vop voe vow vok vos vso vmi vco vex ++ [(aw, .inl (cJ, 1, .inr (.inl w106)))]) H := by rw [ew106]; exact hP
  have hD : va_D A (xw cR ax ar ao ad vrd vtr vsd vrn vom voh vol vop voe vow vok vos vso vmi vco vex ++ [(aw, .inl (cJ, 1, .inr (.inl w106)))]) := by rw [ew106]; exact hD
  refine lv_goto (tgt := 15) hx hb dL_kind_9 (by decide) ?_
  refine lv_iconst (v := 0) hx hb dL_kind_15 (by decide) ?_
  have e9 := Eq.symm hu; subst e9
  exact z_iret hx hb hr hlocks hQ hK hP hD hS rfl (Nat.le_of_ble_eq_true rfl) (Nat.le_of_ble_eq_true rfl) rfl dL_kind_16

def F_L_kind_b0  (p1 : Int32) : Int32 := 1
def RF_L_kind_b0  (p1 : Int32) (u9 : Int32) : Prop := u9 = 1
theorem rF_L_kind_b0  (p1 : Int32) {u9 : Int32} (hu : u9 = F_L_kind_b0 p1) : RF_L_kind_b0 p1 u9 := by
  unfold RF_L_kind_b0
  exact hu
def S_L_kind_b0  (p1 : Int32) : Prop := S_X3_kind_b0 p1
set_option maxHeartbeats 4000000 in
set_option maxRecDepth 100000 in
theorem c_L_kind_b0 (l : Launch) (hl0 : l.stackTraces = false) (D : va_G) (cR cI cJ cZ : ClassId) (t0 : Nat) (sv : Nat → Nat) (ax ar ao : Nat) (ad : Nat → Nat) (aw : Nat) (vrd : Int32) (vtr : Int32) (vsd : Int32) (vrn : Int32) (vom : Bool) (voh : Int64) (vol : Int64) (vop : Int32) (voe : Bool) (vow : Int32) (vok : Int64) (vos : Int32) (vso : Nat → Int32) (vmi : Nat → Bool) (vco : Nat → Int64) (vex : Nat → Int32) (vou : Nat → Int64) (p1 : Int32) (u : Int32) (hu : u = F_L_kind_b0 p1) (hs : S_L_kind_b0 p1) : XL l D (xty cR cI cJ cZ) t0 sv yL_kind cL_kind 4 (some .int) [(0, 9, 12, 13)] rm_L_kind 1 [.ref ax, .int p1, .ref aw] (some (.int u)) (xw cR ax ar ao ad vrd vtr vsd vrn vom voh vol vop voe vow vok vos vso vmi vco vex ++ [(aw, .inl (cJ, 1, .inr (.inl vou)))]) (xw cR ax ar ao ad vrd vtr vsd vrn vom voh vol vop voe vow vok vos vso vmi vco vex ++ [(aw, .inl (cJ, 1, .inr (.inl vou)))]) := by
  refine XL.of (by decide) (Nat.le_of_ble_eq_true rfl) ?_
  intro p e s m args below meth c A Q F htab hK hP hD hA hY hS hQ ls hl
  have hSt := hY.1
  obtain ⟨hx, hb, hr, hts, hown, hlocks, hml⟩ := F
  have hCF : CallFix p m c cL_kind 4 s args gW RL := ⟨hx, hb, hml, hown, hts⟩
  unfold S_L_kind_b0 at hs
  have hu := rF_L_kind_b0 p1 hu
  unfold RF_L_kind_b0 at hu
  obtain ⟨H, eH⟩ : ∃ y9 : Heap, y9 = s.heap := ⟨_, rfl⟩
  obtain ⟨locs, eL⟩ : ∃ y9 : List Loc, y9 = [] := ⟨_, rfl⟩
  rw [← eL] at hS ⊢
  have hP : va_P D vwCl (xw cR ax ar ao ad vrd vtr vsd vrn vom voh vol vop voe vow vok vos vso vmi vco vex ++ [(aw, .inl (cJ, 1, .inr (.inl vou)))]) H := by rw [eH]; exact hP
  have hS : va_S A s.heap H locs := by rw [eH]; exact hS
  suffices goal9 : W p l e rm_L_kind s m args below meth c H locs 0 0 Q (F0 m 0 ls []) from by rw [← eH]; exact goal9
  have hl : lv_has ls 4 [(0, .ref ax), (1, .int p1), (2, .ref aw)] := hl
  refine lv_aload_n hx hb dL_kind_0 rfl (lv_at hl 2 rfl) ?_
  refine lv_iconst (v := 0) hx hb dL_kind_1 (by decide) ?_
  refine lv_aload_n hx hb dL_kind_2 rfl (lv_at hl 0 rfl) ?_
  refine lv_iload_n hx hb dL_kind_3 rfl (lv_at hl 1 rfl) ?_
  have h_101 := hs
  refine y_Vcat (As := [.int p1]) (rest := [.int 0, .ref aw]) (wf := [(aw, .inl (cJ, 1, .inr (.inl vou)))]) hCF (c_X3_kind_b0 l hl0 D cR cI cJ cZ t0 sv ax ar ao ad vrd vtr vsd vrn vom voh vol vop voe vow vok vos vso vmi vco vex p1 h_101) (y_cwV 1 hts (inW_13 _ (List.mem_of_getElem? (i := 25) rfl)) (inW_13 _ (List.mem_of_getElem? (i := 26) rfl)) (inW_13 _ (List.mem_of_getElem? (i := 27) rfl)) (inW_1 _ (List.mem_of_getElem? (i := 25) rfl)) (inW_8 _ (List.mem_of_getElem? (i := 9) rfl)) rfl rfl (by decide +kernel) ⟨Nat.le_of_ble_eq_true rfl, Nat.le_of_ble_eq_true rfl⟩) hK hP hD hS hA hY 0 rfl rfl rfl hl.1 rfl (Nat.le_of_ble_eq_true rfl) dL_kind_4 ⟨Nat.le_of_ble_eq_true rfl, Nat.le_of_ble_eq_true rfl⟩ [] ⟨0, 9, 12, 13⟩ [] (by rw [htab]; rfl) (fun z hz => by cases hz) (by decide) (by decide) (inW_13 _ (List.mem_of_getElem? (i := 10) rfl)) yc_IO (fun H locs q9 hP hD hS => ?_)
  have hP : va_P D vwCl (xw cR ax ar ao ad vrd vtr vsd vrn vom voh vol vop voe vow vok vos vso vmi vco vex ++ [(aw, .inl (cJ, 1, .inr (.inl vou)))]) H := hP
  have hD : va_D A (xw cR ax ar ao ad vrd vtr vsd vrn vom voh vol vop voe vow vok vos vso vmi vco vex ++ [(aw, .inl (cJ, 1, .inr (.inl vou)))]) := hD
  show W p l e _ s m args below meth c H locs 1 6 Q (F0 m 12 ls [.ref q9])
  refine lv_astore_n (lv' := [(3, .ref q9), (0, .ref ax), (1, .int p1), (2, .ref aw)]) hx hb dL_kind_12 rfl hl (by decide) rfl (fun ls hl => ?_)
  refine lv_iconst (v := 1) hx hb dL_kind_13 (by decide) ?_
  have e9 := Eq.symm hu; subst e9
  exact z_iret hx hb hr hlocks hQ hK hP hD hS rfl (Nat.le_of_ble_eq_true rfl) (Nat.le_of_ble_eq_true rfl) rfl dL_kind_14

def F_L_coefficient_ok (vco : Nat → Int64) (vou : Nat → Int64) (p1 : Int32) : Int32 × (Nat → Int64) := (bnd (F_X3_coefficient_ok vco p1) (fun u102 : Int64 => (bnd (va_up vou (0 : Int32).toNatClampNeg u102) (fun w105 : Nat → Int64 => (0, w105)))))
def RF_L_coefficient_ok (vco : Nat → Int64) (vou : Nat → Int64) (p1 : Int32) (u9 : Int32 × (Nat → Int64)) : Prop := (∀ u102 : Int64, u102 = F_X3_coefficient_ok vco p1 → (∀ w105 : Nat → Int64, w105 = va_up vou (0 : Int32).toNatClampNeg u102 → u9 = (0, w105)))
theorem rF_L_coefficient_ok (vco : Nat → Int64) (vou : Nat → Int64) (p1 : Int32) {u9 : Int32 × (Nat → Int64)} (hu : u9 = F_L_coefficient_ok vco vou p1) : RF_L_coefficient_ok vco vou p1 u9 := by
  unfold RF_L_coefficient_ok
  intro u102 eu102
  have hu := bnd_n hu eu102
  intro w105 ew105
  have hu := bnd_n hu ew105
  exact hu
def S_L_coefficient_ok (vco : Nat → Int64) (vou : Nat → Int64) (p1 : Int32) : Prop := (S_X3_coefficient_ok vco p1) ∧ (∀ u102 : Int64, u102 = F_X3_coefficient_ok vco p1 → vp_in (0 : Int32) 1)
def rm_L_coefficient : Room := { frames := 8, cells := 1, slots := 6, locals := 131 }
set_option maxHeartbeats 4000000 in
set_option maxRecDepth 100000 in
theorem c_L_coefficient_ok (l : Launch) (hl0 : l.stackTraces = false) (D : va_G) (cR cI cJ cZ : ClassId) (t0 : Nat) (sv : Nat → Nat) (ax ar ao : Nat) (ad : Nat → Nat) (aw : Nat) (vrd : Int32) (vtr : Int32) (vsd : Int32) (vrn : Int32) (vom : Bool) (voh : Int64) (vol : Int64) (vop : Int32) (voe : Bool) (vow : Int32) (vok : Int64) (vos : Int32) (vso : Nat → Int32) (vmi : Nat → Bool) (vco : Nat → Int64) (vex : Nat → Int32) (vou : Nat → Int64) (p1 : Int32) (u : Int32 × (Nat → Int64)) (hu : u = F_L_coefficient_ok vco vou p1) (hs : S_L_coefficient_ok vco vou p1) : XL l D (xty cR cI cJ cZ) t0 sv yL_coefficient cL_coefficient 4 (some .int) [(0, 8, 11, 13)] rm_L_coefficient 1 [.ref ax, .int p1, .ref aw] (some (.int u.1)) (xw cR ax ar ao ad vrd vtr vsd vrn vom voh vol vop voe vow vok vos vso vmi vco vex ++ [(aw, .inl (cJ, 1, .inr (.inl vou)))]) (xw cR ax ar ao ad vrd vtr vsd vrn vom voh vol vop voe vow vok vos vso vmi vco vex ++ [(aw, .inl (cJ, 1, .inr (.inl u.2)))]) := by
  refine XL.of (by decide) (Nat.le_of_ble_eq_true rfl) ?_
  intro p e s m args below meth c A Q F htab hK hP hD hA hY hS hQ ls hl
  have hSt := hY.1
  obtain ⟨hx, hb, hr, hts, hown, hlocks, hml⟩ := F
  have hCF : CallFix p m c cL_coefficient 4 s args gW RL := ⟨hx, hb, hml, hown, hts⟩
  unfold S_L_coefficient_ok at hs
  have hu := rF_L_coefficient_ok vco vou p1 hu
  unfold RF_L_coefficient_ok at hu
  obtain ⟨H, eH⟩ : ∃ y9 : Heap, y9 = s.heap := ⟨_, rfl⟩
  obtain ⟨locs, eL⟩ : ∃ y9 : List Loc, y9 = [] := ⟨_, rfl⟩
  rw [← eL] at hS ⊢
  have hP : va_P D vwCl (xw cR ax ar ao ad vrd vtr vsd vrn vom voh vol vop voe vow vok vos vso vmi vco vex ++ [(aw, .inl (cJ, 1, .inr (.inl vou)))]) H := by rw [eH]; exact hP
  have hS : va_S A s.heap H locs := by rw [eH]; exact hS
  suffices goal9 : W p l e rm_L_coefficient s m args below meth c H locs 0 0 Q (F0 m 0 ls []) from by rw [← eH]; exact goal9
  have hl : lv_has ls 4 [(0, .ref ax), (1, .int p1), (2, .ref aw)] := hl
  refine lv_aload_n hx hb dL_coefficient_0 rfl (lv_at hl 2 rfl) ?_
  refine lv_iconst (v := 0) hx hb dL_coefficient_1 (by decide) ?_
  refine lv_aload_n hx hb dL_coefficient_2 rfl (lv_at hl 0 rfl) ?_
  refine lv_iload_n hx hb dL_coefficient_3 rfl (lv_at hl 1 rfl) ?_
  obtain ⟨h_101, hs⟩ := hs
  obtain ⟨u102, eu102⟩ : ∃ y9 : Int64, y9 = F_X3_coefficient_ok vco p1 := ⟨_, rfl⟩
  have hs := hs _ eu102
  have hu := hu _ eu102
  refine y_Vok (As := [.int p1]) (rest := [.int 0, .ref aw]) (wf := [(aw, .inl (cJ, 1, .inr (.inl vou)))]) hCF (c_X3_coefficient_ok l hl0 D cR cI cJ cZ t0 sv ax ar ao ad vrd vtr vsd vrn vom voh vol vop voe vow vok vos vso vmi vco vex p1 u102 eu102 h_101) (y_cwV 1 hts (inW_13 _ (List.mem_of_getElem? (i := 29) rfl)) (inW_13 _ (List.mem_of_getElem? (i := 30) rfl)) (inW_13 _ (List.mem_of_getElem? (i := 31) rfl)) (inW_1 _ (List.mem_of_getElem? (i := 25) rfl)) (inW_8 _ (List.mem_of_getElem? (i := 10) rfl)) rfl rfl (by decide +kernel) ⟨Nat.le_of_ble_eq_true rfl, Nat.le_of_ble_eq_true rfl⟩) hK hP hD hS hA hY 0 rfl rfl rfl hl.1 rfl (Nat.le_of_ble_eq_true rfl) dL_coefficient_4 ⟨Nat.le_of_ble_eq_true rfl, Nat.le_of_ble_eq_true rfl⟩ (fun H locs hP hD hS => ?_)
  have hP : va_P D vwCl (xw cR ax ar ao ad vrd vtr vsd vrn vom voh vol vop voe vow vok vos vso vmi vco vex ++ [(aw, .inl (cJ, 1, .inr (.inl vou)))]) H := hP
  have hD : va_D A (xw cR ax ar ao ad vrd vtr vsd vrn vom voh vol vop voe vow vok vos vso vmi vco vex ++ [(aw, .inl (cJ, 1, .inr (.inl vou)))]) := hD
  show W p l e _ s m args below meth c H locs 1 6 Q (F0 m 7 ls (.long u102 :: [.int 0, .ref aw]))
  have h_104 := hs
  refine va_last hx hb hK hP hD hS 12 2 rfl rfl h_104 dL_coefficient_7 (fun H locs hP hD hS => ?_)
  obtain ⟨w105, ew105⟩ : ∃ y9 : Nat → Int64, y9 = va_up vou (0 : Int32).toNatClampNeg u102 := ⟨_, rfl⟩
  have hu := hu _ ew105
  have hP : va_P D vwCl (xw cR ax ar ao ad vrd vtr vsd vrn vom voh vol vop voe vow vok vos vso vmi vco vex ++ [(aw, .inl (cJ, 1, .inr (.inl w105)))]) H := by rw [ew105]; exact hP
  have hD : va_D A (xw cR ax ar ao ad vrd vtr vsd vrn vom voh vol vop voe vow vok vos vso vmi vco vex ++ [(aw, .inl (cJ, 1, .inr (.inl w105)))]) := by rw [ew105]; exact hD
  refine lv_goto (tgt := 14) hx hb dL_coefficient_8 (by decide) ?_
  refine lv_iconst (v := 0) hx hb dL_coefficient_14 (by decide) ?_
  have e9 := Eq.symm hu; subst e9
  exact z_iret hx hb hr hlocks hQ hK hP hD hS rfl (Nat.le_of_ble_eq_true rfl) (Nat.le_of_ble_eq_true rfl) rfl dL_coefficient_15

def F_L_coefficient_b0  (p1 : Int32) : Int32 := 1
def RF_L_coefficient_b0  (p1 : Int32) (u9 : Int32) : Prop := u9 = 1
theorem rF_L_coefficient_b0  (p1 : Int32) {u9 : Int32} (hu : u9 = F_L_coefficient_b0 p1) : RF_L_coefficient_b0 p1 u9 := by
  unfold RF_L_coefficient_b0
  exact hu
def S_L_coefficient_b0  (p1 : Int32) : Prop := S_X3_coefficient_b0 p1
set_option maxHeartbeats 4000000 in
set_option maxRecDepth 100000 in
theorem c_L_coefficient_b0 (l : Launch) (hl0 : l.stackTraces = false) (D : va_G) (cR cI cJ cZ : ClassId) (t0 : Nat) (sv : Nat → Nat) (ax ar ao : Nat) (ad : Nat → Nat) (aw : Nat) (vrd : Int32) (vtr : Int32) (vsd : Int32) (vrn : Int32) (vom : Bool) (voh : Int64) (vol : Int64) (vop : Int32) (voe : Bool) (vow : Int32) (vok : Int64) (vos : Int32) (vso : Nat → Int32) (vmi : Nat → Bool) (vco : Nat → Int64) (vex : Nat → Int32) (vou : Nat → Int64) (p1 : Int32) (u : Int32) (hu : u = F_L_coefficient_b0 p1) (hs : S_L_coefficient_b0 p1) : XL l D (xty cR cI cJ cZ) t0 sv yL_coefficient cL_coefficient 4 (some .int) [(0, 8, 11, 13)] rm_L_coefficient 1 [.ref ax, .int p1, .ref aw] (some (.int u)) (xw cR ax ar ao ad vrd vtr vsd vrn vom voh vol vop voe vow vok vos vso vmi vco vex ++ [(aw, .inl (cJ, 1, .inr (.inl vou)))]) (xw cR ax ar ao ad vrd vtr vsd vrn vom voh vol vop voe vow vok vos vso vmi vco vex ++ [(aw, .inl (cJ, 1, .inr (.inl vou)))]) := by
  refine XL.of (by decide) (Nat.le_of_ble_eq_true rfl) ?_
  intro p e s m args below meth c A Q F htab hK hP hD hA hY hS hQ ls hl
  have hSt := hY.1
  obtain ⟨hx, hb, hr, hts, hown, hlocks, hml⟩ := F
  have hCF : CallFix p m c cL_coefficient 4 s args gW RL := ⟨hx, hb, hml, hown, hts⟩
  unfold S_L_coefficient_b0 at hs
  have hu := rF_L_coefficient_b0 p1 hu
  unfold RF_L_coefficient_b0 at hu
  obtain ⟨H, eH⟩ : ∃ y9 : Heap, y9 = s.heap := ⟨_, rfl⟩
  obtain ⟨locs, eL⟩ : ∃ y9 : List Loc, y9 = [] := ⟨_, rfl⟩
  rw [← eL] at hS ⊢
  have hP : va_P D vwCl (xw cR ax ar ao ad vrd vtr vsd vrn vom voh vol vop voe vow vok vos vso vmi vco vex ++ [(aw, .inl (cJ, 1, .inr (.inl vou)))]) H := by rw [eH]; exact hP
  have hS : va_S A s.heap H locs := by rw [eH]; exact hS
  suffices goal9 : W p l e rm_L_coefficient s m args below meth c H locs 0 0 Q (F0 m 0 ls []) from by rw [← eH]; exact goal9
  have hl : lv_has ls 4 [(0, .ref ax), (1, .int p1), (2, .ref aw)] := hl
  refine lv_aload_n hx hb dL_coefficient_0 rfl (lv_at hl 2 rfl) ?_
  refine lv_iconst (v := 0) hx hb dL_coefficient_1 (by decide) ?_
  refine lv_aload_n hx hb dL_coefficient_2 rfl (lv_at hl 0 rfl) ?_
  refine lv_iload_n hx hb dL_coefficient_3 rfl (lv_at hl 1 rfl) ?_
  have h_101 := hs
  refine y_Vcat (As := [.int p1]) (rest := [.int 0, .ref aw]) (wf := [(aw, .inl (cJ, 1, .inr (.inl vou)))]) hCF (c_X3_coefficient_b0 l hl0 D cR cI cJ cZ t0 sv ax ar ao ad vrd vtr vsd vrn vom voh vol vop voe vow vok vos vso vmi vco vex p1 h_101) (y_cwV 1 hts (inW_13 _ (List.mem_of_getElem? (i := 29) rfl)) (inW_13 _ (List.mem_of_getElem? (i := 30) rfl)) (inW_13 _ (List.mem_of_getElem? (i := 31) rfl)) (inW_1 _ (List.mem_of_getElem? (i := 25) rfl)) (inW_8 _ (List.mem_of_getElem? (i := 10) rfl)) rfl rfl (by decide +kernel) ⟨Nat.le_of_ble_eq_true rfl, Nat.le_of_ble_eq_true rfl⟩) hK hP hD hS hA hY 0 rfl rfl rfl hl.1 rfl (Nat.le_of_ble_eq_true rfl) dL_coefficient_4 ⟨Nat.le_of_ble_eq_true rfl, Nat.le_of_ble_eq_true rfl⟩ [] ⟨0, 8, 11, 13⟩ [] (by rw [htab]; rfl) (fun z hz => by cases hz) (by decide) (by decide) (inW_13 _ (List.mem_of_getElem? (i := 10) rfl)) yc_IO (fun H locs q9 hP hD hS => ?_)
  have hP : va_P D vwCl (xw cR ax ar ao ad vrd vtr vsd vrn vom voh vol vop voe vow vok vos vso vmi vco vex ++ [(aw, .inl (cJ, 1, .inr (.inl vou)))]) H := hP
  have hD : va_D A (xw cR ax ar ao ad vrd vtr vsd vrn vom voh vol vop voe vow vok vos vso vmi vco vex ++ [(aw, .inl (cJ, 1, .inr (.inl vou)))]) := hD
  show W p l e _ s m args below meth c H locs 1 6 Q (F0 m 11 ls [.ref q9])
  refine lv_astore_n (lv' := [(3, .ref q9), (0, .ref ax), (1, .int p1), (2, .ref aw)]) hx hb dL_coefficient_11 rfl hl (by decide) rfl (fun ls hl => ?_)
  refine lv_iconst (v := 1) hx hb dL_coefficient_12 (by decide) ?_
  have e9 := Eq.symm hu; subst e9
  exact z_iret hx hb hr hlocks hQ hK hP hD hS rfl (Nat.le_of_ble_eq_true rfl) (Nat.le_of_ble_eq_true rfl) rfl dL_coefficient_13

def F_L_exponent_ok (vex : Nat → Int32) (vou : Nat → Int64) (p1 : Int32) : Int32 × (Nat → Int64) := (bnd (F_X3_exponent_ok vex p1) (fun u102 : Int32 => (bnd (u102.toInt64) (fun f104 : Int64 => (bnd (va_up vou (0 : Int32).toNatClampNeg f104) (fun w106 : Nat → Int64 => (0, w106)))))))
def RF_L_exponent_ok (vex : Nat → Int32) (vou : Nat → Int64) (p1 : Int32) (u9 : Int32 × (Nat → Int64)) : Prop := (∀ u102 : Int32, u102 = F_X3_exponent_ok vex p1 → (∀ f104 : Int64, f104 = u102.toInt64 → (∀ w106 : Nat → Int64, w106 = va_up vou (0 : Int32).toNatClampNeg f104 → u9 = (0, w106))))
theorem rF_L_exponent_ok (vex : Nat → Int32) (vou : Nat → Int64) (p1 : Int32) {u9 : Int32 × (Nat → Int64)} (hu : u9 = F_L_exponent_ok vex vou p1) : RF_L_exponent_ok vex vou p1 u9 := by
  unfold RF_L_exponent_ok
  intro u102 eu102
  have hu := bnd_n hu eu102
  intro f104 ef104
  have hu := bnd_n hu ef104
  intro w106 ew106
  have hu := bnd_n hu ew106
  exact hu
def S_L_exponent_ok (vex : Nat → Int32) (vou : Nat → Int64) (p1 : Int32) : Prop := (S_X3_exponent_ok vex p1) ∧ (∀ u102 : Int32, u102 = F_X3_exponent_ok vex p1 → (∀ f104 : Int64, f104 = u102.toInt64 → vp_in (0 : Int32) 1))
def rm_L_exponent : Room := { frames := 8, cells := 1, slots := 6, locals := 131 }
set_option maxHeartbeats 4000000 in
set_option maxRecDepth 100000 in
theorem c_L_exponent_ok (l : Launch) (hl0 : l.stackTraces = false) (D : va_G) (cR cI cJ cZ : ClassId) (t0 : Nat) (sv : Nat → Nat) (ax ar ao : Nat) (ad : Nat → Nat) (aw : Nat) (vrd : Int32) (vtr : Int32) (vsd : Int32) (vrn : Int32) (vom : Bool) (voh : Int64) (vol : Int64) (vop : Int32) (voe : Bool) (vow : Int32) (vok : Int64) (vos : Int32) (vso : Nat → Int32) (vmi : Nat → Bool) (vco : Nat → Int64) (vex : Nat → Int32) (vou : Nat → Int64) (p1 : Int32) (u : Int32 × (Nat → Int64)) (hu : u = F_L_exponent_ok vex vou p1) (hs : S_L_exponent_ok vex vou p1) : XL l D (xty cR cI cJ cZ) t0 sv yL_exponent cL_exponent 4 (some .int) [(0, 9, 12, 13)] rm_L_exponent 1 [.ref ax, .int p1, .ref aw] (some (.int u.1)) (xw cR ax ar ao ad vrd vtr vsd vrn vom voh vol vop voe vow vok vos vso vmi vco vex ++ [(aw, .inl (cJ, 1, .inr (.inl vou)))]) (xw cR ax ar ao ad vrd vtr vsd vrn vom voh vol vop voe vow vok vos vso vmi vco vex ++ [(aw, .inl (cJ, 1, .inr (.inl u.2)))]) := by
  refine XL.of (by decide) (Nat.le_of_ble_eq_true rfl) ?_
  intro p e s m args below meth c A Q F htab hK hP hD hA hY hS hQ ls hl
  have hSt := hY.1
  obtain ⟨hx, hb, hr, hts, hown, hlocks, hml⟩ := F
  have hCF : CallFix p m c cL_exponent 4 s args gW RL := ⟨hx, hb, hml, hown, hts⟩
  unfold S_L_exponent_ok at hs
  have hu := rF_L_exponent_ok vex vou p1 hu
  unfold RF_L_exponent_ok at hu
  obtain ⟨H, eH⟩ : ∃ y9 : Heap, y9 = s.heap := ⟨_, rfl⟩
  obtain ⟨locs, eL⟩ : ∃ y9 : List Loc, y9 = [] := ⟨_, rfl⟩
  rw [← eL] at hS ⊢
  have hP : va_P D vwCl (xw cR ax ar ao ad vrd vtr vsd vrn vom voh vol vop voe vow vok vos vso vmi vco vex ++ [(aw, .inl (cJ, 1, .inr (.inl vou)))]) H := by rw [eH]; exact hP
  have hS : va_S A s.heap H locs := by rw [eH]; exact hS
  suffices goal9 : W p l e rm_L_exponent s m args below meth c H locs 0 0 Q (F0 m 0 ls []) from by rw [← eH]; exact goal9
  have hl : lv_has ls 4 [(0, .ref ax), (1, .int p1), (2, .ref aw)] := hl
  refine lv_aload_n hx hb dL_exponent_0 rfl (lv_at hl 2 rfl) ?_
  refine lv_iconst (v := 0) hx hb dL_exponent_1 (by decide) ?_
  refine lv_aload_n hx hb dL_exponent_2 rfl (lv_at hl 0 rfl) ?_
  refine lv_iload_n hx hb dL_exponent_3 rfl (lv_at hl 1 rfl) ?_
  obtain ⟨h_101, hs⟩ := hs
  obtain ⟨u102, eu102⟩ : ∃ y9 : Int32, y9 = F_X3_exponent_ok vex p1 := ⟨_, rfl⟩
  have hs := hs _ eu102
  have hu := hu _ eu102
  refine y_Vok (As := [.int p1]) (rest := [.int 0, .ref aw]) (wf := [(aw, .inl (cJ, 1, .inr (.inl vou)))]) hCF (c_X3_exponent_ok l hl0 D cR cI cJ cZ t0 sv ax ar ao ad vrd vtr vsd vrn vom voh vol vop voe vow vok vos vso vmi vco vex p1 u102 eu102 h_101) (y_cwV 1 hts (inW_13 _ (List.mem_of_getElem? (i := 33) rfl)) (inW_13 _ (List.mem_of_getElem? (i := 34) rfl)) (inW_13 _ (List.mem_of_getElem? (i := 35) rfl)) (inW_1 _ (List.mem_of_getElem? (i := 25) rfl)) (inW_8 _ (List.mem_of_getElem? (i := 11) rfl)) rfl rfl (by decide +kernel) ⟨Nat.le_of_ble_eq_true rfl, Nat.le_of_ble_eq_true rfl⟩) hK hP hD hS hA hY 0 rfl rfl rfl hl.1 rfl (Nat.le_of_ble_eq_true rfl) dL_exponent_4 ⟨Nat.le_of_ble_eq_true rfl, Nat.le_of_ble_eq_true rfl⟩ (fun H locs hP hD hS => ?_)
  have hP : va_P D vwCl (xw cR ax ar ao ad vrd vtr vsd vrn vom voh vol vop voe vow vok vos vso vmi vco vex ++ [(aw, .inl (cJ, 1, .inr (.inl vou)))]) H := hP
  have hD : va_D A (xw cR ax ar ao ad vrd vtr vsd vrn vom voh vol vop voe vow vok vos vso vmi vco vex ++ [(aw, .inl (cJ, 1, .inr (.inl vou)))]) := hD
  show W p l e _ s m args below meth c H locs 1 6 Q (F0 m 7 ls (.int u102 :: [.int 0, .ref aw]))
  refine x_i2l hx hb dL_exponent_7 ?_
  refine lv_topl (fun f104 ef104 => ?_)
  have hs := hs _ ef104
  have hu := hu _ ef104
  have h_105 := hs
  refine va_last hx hb hK hP hD hS 12 2 rfl rfl h_105 dL_exponent_8 (fun H locs hP hD hS => ?_)
  obtain ⟨w106, ew106⟩ : ∃ y9 : Nat → Int64, y9 = va_up vou (0 : Int32).toNatClampNeg f104 := ⟨_, rfl⟩
  have hu := hu _ ew106
  have hP : va_P D vwCl (xw cR ax ar ao ad vrd vtr vsd vrn vom voh vol vop voe vow vok vos vso vmi vco vex ++ [(aw, .inl (cJ, 1, .inr (.inl w106)))]) H := by rw [ew106]; exact hP
  have hD : va_D A (xw cR ax ar ao ad vrd vtr vsd vrn vom voh vol vop voe vow vok vos vso vmi vco vex ++ [(aw, .inl (cJ, 1, .inr (.inl w106)))]) := by rw [ew106]; exact hD
  refine lv_goto (tgt := 15) hx hb dL_exponent_9 (by decide) ?_
  refine lv_iconst (v := 0) hx hb dL_exponent_15 (by decide) ?_
  have e9 := Eq.symm hu; subst e9
  exact z_iret hx hb hr hlocks hQ hK hP hD hS rfl (Nat.le_of_ble_eq_true rfl) (Nat.le_of_ble_eq_true rfl) rfl dL_exponent_16

def F_L_exponent_b0  (p1 : Int32) : Int32 := 1
def RF_L_exponent_b0  (p1 : Int32) (u9 : Int32) : Prop := u9 = 1
theorem rF_L_exponent_b0  (p1 : Int32) {u9 : Int32} (hu : u9 = F_L_exponent_b0 p1) : RF_L_exponent_b0 p1 u9 := by
  unfold RF_L_exponent_b0
  exact hu
def S_L_exponent_b0  (p1 : Int32) : Prop := S_X3_exponent_b0 p1
set_option maxHeartbeats 4000000 in
set_option maxRecDepth 100000 in
theorem c_L_exponent_b0 (l : Launch) (hl0 : l.stackTraces = false) (D : va_G) (cR cI cJ cZ : ClassId) (t0 : Nat) (sv : Nat → Nat) (ax ar ao : Nat) (ad : Nat → Nat) (aw : Nat) (vrd : Int32) (vtr : Int32) (vsd : Int32) (vrn : Int32) (vom : Bool) (voh : Int64) (vol : Int64) (vop : Int32) (voe : Bool) (vow : Int32) (vok : Int64) (vos : Int32) (vso : Nat → Int32) (vmi : Nat → Bool) (vco : Nat → Int64) (vex : Nat → Int32) (vou : Nat → Int64) (p1 : Int32) (u : Int32) (hu : u = F_L_exponent_b0 p1) (hs : S_L_exponent_b0 p1) : XL l D (xty cR cI cJ cZ) t0 sv yL_exponent cL_exponent 4 (some .int) [(0, 9, 12, 13)] rm_L_exponent 1 [.ref ax, .int p1, .ref aw] (some (.int u)) (xw cR ax ar ao ad vrd vtr vsd vrn vom voh vol vop voe vow vok vos vso vmi vco vex ++ [(aw, .inl (cJ, 1, .inr (.inl vou)))]) (xw cR ax ar ao ad vrd vtr vsd vrn vom voh vol vop voe vow vok vos vso vmi vco vex ++ [(aw, .inl (cJ, 1, .inr (.inl vou)))]) := by
  refine XL.of (by decide) (Nat.le_of_ble_eq_true rfl) ?_
  intro p e s m args below meth c A Q F htab hK hP hD hA hY hS hQ ls hl
  have hSt := hY.1
  obtain ⟨hx, hb, hr, hts, hown, hlocks, hml⟩ := F
  have hCF : CallFix p m c cL_exponent 4 s args gW RL := ⟨hx, hb, hml, hown, hts⟩
  unfold S_L_exponent_b0 at hs
  have hu := rF_L_exponent_b0 p1 hu
  unfold RF_L_exponent_b0 at hu
  obtain ⟨H, eH⟩ : ∃ y9 : Heap, y9 = s.heap := ⟨_, rfl⟩
  obtain ⟨locs, eL⟩ : ∃ y9 : List Loc, y9 = [] := ⟨_, rfl⟩
  rw [← eL] at hS ⊢
  have hP : va_P D vwCl (xw cR ax ar ao ad vrd vtr vsd vrn vom voh vol vop voe vow vok vos vso vmi vco vex ++ [(aw, .inl (cJ, 1, .inr (.inl vou)))]) H := by rw [eH]; exact hP
  have hS : va_S A s.heap H locs := by rw [eH]; exact hS
  suffices goal9 : W p l e rm_L_exponent s m args below meth c H locs 0 0 Q (F0 m 0 ls []) from by rw [← eH]; exact goal9
  have hl : lv_has ls 4 [(0, .ref ax), (1, .int p1), (2, .ref aw)] := hl
  refine lv_aload_n hx hb dL_exponent_0 rfl (lv_at hl 2 rfl) ?_
  refine lv_iconst (v := 0) hx hb dL_exponent_1 (by decide) ?_
  refine lv_aload_n hx hb dL_exponent_2 rfl (lv_at hl 0 rfl) ?_
  refine lv_iload_n hx hb dL_exponent_3 rfl (lv_at hl 1 rfl) ?_
  have h_101 := hs
  refine y_Vcat (As := [.int p1]) (rest := [.int 0, .ref aw]) (wf := [(aw, .inl (cJ, 1, .inr (.inl vou)))]) hCF (c_X3_exponent_b0 l hl0 D cR cI cJ cZ t0 sv ax ar ao ad vrd vtr vsd vrn vom voh vol vop voe vow vok vos vso vmi vco vex p1 h_101) (y_cwV 1 hts (inW_13 _ (List.mem_of_getElem? (i := 33) rfl)) (inW_13 _ (List.mem_of_getElem? (i := 34) rfl)) (inW_13 _ (List.mem_of_getElem? (i := 35) rfl)) (inW_1 _ (List.mem_of_getElem? (i := 25) rfl)) (inW_8 _ (List.mem_of_getElem? (i := 11) rfl)) rfl rfl (by decide +kernel) ⟨Nat.le_of_ble_eq_true rfl, Nat.le_of_ble_eq_true rfl⟩) hK hP hD hS hA hY 0 rfl rfl rfl hl.1 rfl (Nat.le_of_ble_eq_true rfl) dL_exponent_4 ⟨Nat.le_of_ble_eq_true rfl, Nat.le_of_ble_eq_true rfl⟩ [] ⟨0, 9, 12, 13⟩ [] (by rw [htab]; rfl) (fun z hz => by cases hz) (by decide) (by decide) (inW_13 _ (List.mem_of_getElem? (i := 10) rfl)) yc_IO (fun H locs q9 hP hD hS => ?_)
  have hP : va_P D vwCl (xw cR ax ar ao ad vrd vtr vsd vrn vom voh vol vop voe vow vok vos vso vmi vco vex ++ [(aw, .inl (cJ, 1, .inr (.inl vou)))]) H := hP
  have hD : va_D A (xw cR ax ar ao ad vrd vtr vsd vrn vom voh vol vop voe vow vok vos vso vmi vco vex ++ [(aw, .inl (cJ, 1, .inr (.inl vou)))]) := hD
  show W p l e _ s m args below meth c H locs 1 6 Q (F0 m 12 ls [.ref q9])
  refine lv_astore_n (lv' := [(3, .ref q9), (0, .ref ax), (1, .int p1), (2, .ref aw)]) hx hb dL_exponent_12 rfl hl (by decide) rfl (fun ls hl => ?_)
  refine lv_iconst (v := 1) hx hb dL_exponent_13 (by decide) ?_
  have e9 := Eq.symm hu; subst e9
  exact z_iret hx hb hr hlocks hQ hK hP hD hS rfl (Nat.le_of_ble_eq_true rfl) (Nat.le_of_ble_eq_true rfl) rfl dL_exponent_14

def F_L_compare_ok (vso : Nat → Int32) (vmi : Nat → Bool) (vco : Nat → Int64) (vex : Nat → Int32) (vou : Nat → Int64) (p1 : Int32) (p2 : Int32) : Int32 × (Nat → Int64) := (bnd (F_X3_compare_ok vso vmi vco vex p1 p2) (fun u102 : Int32 => (bnd (u102.toInt64) (fun f104 : Int64 => (bnd (va_up vou (0 : Int32).toNatClampNeg f104) (fun w106 : Nat → Int64 => (0, w106)))))))
def RF_L_compare_ok (vso : Nat → Int32) (vmi : Nat → Bool) (vco : Nat → Int64) (vex : Nat → Int32) (vou : Nat → Int64) (p1 : Int32) (p2 : Int32) (u9 : Int32 × (Nat → Int64)) : Prop := (∀ u102 : Int32, u102 = F_X3_compare_ok vso vmi vco vex p1 p2 → (∀ f104 : Int64, f104 = u102.toInt64 → (∀ w106 : Nat → Int64, w106 = va_up vou (0 : Int32).toNatClampNeg f104 → u9 = (0, w106))))
theorem rF_L_compare_ok (vso : Nat → Int32) (vmi : Nat → Bool) (vco : Nat → Int64) (vex : Nat → Int32) (vou : Nat → Int64) (p1 : Int32) (p2 : Int32) {u9 : Int32 × (Nat → Int64)} (hu : u9 = F_L_compare_ok vso vmi vco vex vou p1 p2) : RF_L_compare_ok vso vmi vco vex vou p1 p2 u9 := by
  unfold RF_L_compare_ok
  intro u102 eu102
  have hu := bnd_n hu eu102
  intro f104 ef104
  have hu := bnd_n hu ef104
  intro w106 ew106
  have hu := bnd_n hu ew106
  exact hu
def S_L_compare_ok (vso : Nat → Int32) (vmi : Nat → Bool) (vco : Nat → Int64) (vex : Nat → Int32) (vou : Nat → Int64) (p1 : Int32) (p2 : Int32) : Prop := (S_X3_compare_ok vso vmi vco vex p1 p2) ∧ (∀ u102 : Int32, u102 = F_X3_compare_ok vso vmi vco vex p1 p2 → (∀ f104 : Int64, f104 = u102.toInt64 → vp_in (0 : Int32) 1))
def rm_L_compare : Room := { frames := 8, cells := 2, slots := 12, locals := 132 }
set_option maxHeartbeats 4000000 in
set_option maxRecDepth 100000 in
theorem c_L_compare_ok (l : Launch) (hl0 : l.stackTraces = false) (D : va_G) (cR cI cJ cZ : ClassId) (t0 : Nat) (sv : Nat → Nat) (ax ar ao : Nat) (ad : Nat → Nat) (aw : Nat) (vrd : Int32) (vtr : Int32) (vsd : Int32) (vrn : Int32) (vom : Bool) (voh : Int64) (vol : Int64) (vop : Int32) (voe : Bool) (vow : Int32) (vok : Int64) (vos : Int32) (vso : Nat → Int32) (vmi : Nat → Bool) (vco : Nat → Int64) (vex : Nat → Int32) (vou : Nat → Int64) (p1 : Int32) (p2 : Int32) (u : Int32 × (Nat → Int64)) (hu : u = F_L_compare_ok vso vmi vco vex vou p1 p2) (hs : S_L_compare_ok vso vmi vco vex vou p1 p2) : XL l D (xty cR cI cJ cZ) t0 sv yL_compare cL_compare 5 (some .int) [(0, 10, 13, 13)] rm_L_compare 2 [.ref ax, .int p1, .int p2, .ref aw] (some (.int u.1)) (xw cR ax ar ao ad vrd vtr vsd vrn vom voh vol vop voe vow vok vos vso vmi vco vex ++ [(aw, .inl (cJ, 1, .inr (.inl vou)))]) (xw cR ax ar ao ad vrd vtr vsd vrn vom voh vol vop voe vow vok vos vso vmi vco vex ++ [(aw, .inl (cJ, 1, .inr (.inl u.2)))]) := by
  refine XL.of (by decide) (Nat.le_of_ble_eq_true rfl) ?_
  intro p e s m args below meth c A Q F htab hK hP hD hA hY hS hQ ls hl
  have hSt := hY.1
  obtain ⟨hx, hb, hr, hts, hown, hlocks, hml⟩ := F
  have hCF : CallFix p m c cL_compare 5 s args gW RL := ⟨hx, hb, hml, hown, hts⟩
  unfold S_L_compare_ok at hs
  have hu := rF_L_compare_ok vso vmi vco vex vou p1 p2 hu
  unfold RF_L_compare_ok at hu
  obtain ⟨H, eH⟩ : ∃ y9 : Heap, y9 = s.heap := ⟨_, rfl⟩
  obtain ⟨locs, eL⟩ : ∃ y9 : List Loc, y9 = [] := ⟨_, rfl⟩
  rw [← eL] at hS ⊢
  have hP : va_P D vwCl (xw cR ax ar ao ad vrd vtr vsd vrn vom voh vol vop voe vow vok vos vso vmi vco vex ++ [(aw, .inl (cJ, 1, .inr (.inl vou)))]) H := by rw [eH]; exact hP
  have hS : va_S A s.heap H locs := by rw [eH]; exact hS
  suffices goal9 : W p l e rm_L_compare s m args below meth c H locs 0 0 Q (F0 m 0 ls []) from by rw [← eH]; exact goal9
  have hl : lv_has ls 5 [(0, .ref ax), (1, .int p1), (2, .int p2), (3, .ref aw)] := hl
  refine lv_aload_n hx hb dL_compare_0 rfl (lv_at hl 3 rfl) ?_
  refine lv_iconst (v := 0) hx hb dL_compare_1 (by decide) ?_
  refine lv_aload_n hx hb dL_compare_2 rfl (lv_at hl 0 rfl) ?_
  refine lv_iload_n hx hb dL_compare_3 rfl (lv_at hl 1 rfl) ?_
  refine lv_iload_n hx hb dL_compare_4 rfl (lv_at hl 2 rfl) ?_
  obtain ⟨h_101, hs⟩ := hs
  obtain ⟨u102, eu102⟩ : ∃ y9 : Int32, y9 = F_X3_compare_ok vso vmi vco vex p1 p2 := ⟨_, rfl⟩
  have hs := hs _ eu102
  have hu := hu _ eu102
  refine y_Vok (As := [.int p1, .int p2]) (rest := [.int 0, .ref aw]) (wf := [(aw, .inl (cJ, 1, .inr (.inl vou)))]) hCF (c_X3_compare_ok l hl0 D cR cI cJ cZ t0 sv ax ar ao ad vrd vtr vsd vrn vom voh vol vop voe vow vok vos vso vmi vco vex p1 p2 u102 eu102 h_101) (y_cwV 2 hts (inW_13 _ (List.mem_of_getElem? (i := 21) rfl)) (inW_13 _ (List.mem_of_getElem? (i := 22) rfl)) (inW_13 _ (List.mem_of_getElem? (i := 23) rfl)) (inW_1 _ (List.mem_of_getElem? (i := 25) rfl)) (inW_8 _ (List.mem_of_getElem? (i := 8) rfl)) rfl rfl (by decide +kernel) ⟨Nat.le_of_ble_eq_true rfl, Nat.le_of_ble_eq_true rfl⟩) hK hP hD hS hA hY 0 rfl rfl rfl hl.1 rfl (Nat.le_of_ble_eq_true rfl) dL_compare_5 ⟨Nat.le_of_ble_eq_true rfl, Nat.le_of_ble_eq_true rfl⟩ (fun H locs hP hD hS => ?_)
  have hP : va_P D vwCl (xw cR ax ar ao ad vrd vtr vsd vrn vom voh vol vop voe vow vok vos vso vmi vco vex ++ [(aw, .inl (cJ, 1, .inr (.inl vou)))]) H := hP
  have hD : va_D A (xw cR ax ar ao ad vrd vtr vsd vrn vom voh vol vop voe vow vok vos vso vmi vco vex ++ [(aw, .inl (cJ, 1, .inr (.inl vou)))]) := hD
  show W p l e _ s m args below meth c H locs 2 12 Q (F0 m 8 ls (.int u102 :: [.int 0, .ref aw]))
  refine x_i2l hx hb dL_compare_8 ?_
  refine lv_topl (fun f104 ef104 => ?_)
  have hs := hs _ ef104
  have hu := hu _ ef104
  have h_105 := hs
  refine va_last hx hb hK hP hD hS 12 2 rfl rfl h_105 dL_compare_9 (fun H locs hP hD hS => ?_)
  obtain ⟨w106, ew106⟩ : ∃ y9 : Nat → Int64, y9 = va_up vou (0 : Int32).toNatClampNeg f104 := ⟨_, rfl⟩
  have hu := hu _ ew106
  have hP : va_P D vwCl (xw cR ax ar ao ad vrd vtr vsd vrn vom voh vol vop voe vow vok vos vso vmi vco vex ++ [(aw, .inl (cJ, 1, .inr (.inl w106)))]) H := by rw [ew106]; exact hP
  have hD : va_D A (xw cR ax ar ao ad vrd vtr vsd vrn vom voh vol vop voe vow vok vos vso vmi vco vex ++ [(aw, .inl (cJ, 1, .inr (.inl w106)))]) := by rw [ew106]; exact hD
  refine lv_goto (tgt := 17) hx hb dL_compare_10 (by decide) ?_
  refine lv_iconst (v := 0) hx hb dL_compare_17 (by decide) ?_
  have e9 := Eq.symm hu; subst e9
  exact z_iret hx hb hr hlocks hQ hK hP hD hS rfl (Nat.le_of_ble_eq_true rfl) (Nat.le_of_ble_eq_true rfl) rfl dL_compare_18

def F_L_compare_b0  (p1 : Int32) (p2 : Int32) : Int32 := 1
def RF_L_compare_b0  (p1 : Int32) (p2 : Int32) (u9 : Int32) : Prop := u9 = 1
theorem rF_L_compare_b0  (p1 : Int32) (p2 : Int32) {u9 : Int32} (hu : u9 = F_L_compare_b0 p1 p2) : RF_L_compare_b0 p1 p2 u9 := by
  unfold RF_L_compare_b0
  exact hu
def S_L_compare_b0  (p1 : Int32) (p2 : Int32) : Prop := S_X3_compare_b0 p1 p2
set_option maxHeartbeats 4000000 in
set_option maxRecDepth 100000 in
theorem c_L_compare_b0 (l : Launch) (hl0 : l.stackTraces = false) (D : va_G) (cR cI cJ cZ : ClassId) (t0 : Nat) (sv : Nat → Nat) (ax ar ao : Nat) (ad : Nat → Nat) (aw : Nat) (vrd : Int32) (vtr : Int32) (vsd : Int32) (vrn : Int32) (vom : Bool) (voh : Int64) (vol : Int64) (vop : Int32) (voe : Bool) (vow : Int32) (vok : Int64) (vos : Int32) (vso : Nat → Int32) (vmi : Nat → Bool) (vco : Nat → Int64) (vex : Nat → Int32) (vou : Nat → Int64) (p1 : Int32) (p2 : Int32) (u : Int32) (hu : u = F_L_compare_b0 p1 p2) (hs : S_L_compare_b0 p1 p2) : XL l D (xty cR cI cJ cZ) t0 sv yL_compare cL_compare 5 (some .int) [(0, 10, 13, 13)] rm_L_compare 2 [.ref ax, .int p1, .int p2, .ref aw] (some (.int u)) (xw cR ax ar ao ad vrd vtr vsd vrn vom voh vol vop voe vow vok vos vso vmi vco vex ++ [(aw, .inl (cJ, 1, .inr (.inl vou)))]) (xw cR ax ar ao ad vrd vtr vsd vrn vom voh vol vop voe vow vok vos vso vmi vco vex ++ [(aw, .inl (cJ, 1, .inr (.inl vou)))]) := by
  refine XL.of (by decide) (Nat.le_of_ble_eq_true rfl) ?_
  intro p e s m args below meth c A Q F htab hK hP hD hA hY hS hQ ls hl
  have hSt := hY.1
  obtain ⟨hx, hb, hr, hts, hown, hlocks, hml⟩ := F
  have hCF : CallFix p m c cL_compare 5 s args gW RL := ⟨hx, hb, hml, hown, hts⟩
  unfold S_L_compare_b0 at hs
  have hu := rF_L_compare_b0 p1 p2 hu
  unfold RF_L_compare_b0 at hu
  obtain ⟨H, eH⟩ : ∃ y9 : Heap, y9 = s.heap := ⟨_, rfl⟩
  obtain ⟨locs, eL⟩ : ∃ y9 : List Loc, y9 = [] := ⟨_, rfl⟩
  rw [← eL] at hS ⊢
  have hP : va_P D vwCl (xw cR ax ar ao ad vrd vtr vsd vrn vom voh vol vop voe vow vok vos vso vmi vco vex ++ [(aw, .inl (cJ, 1, .inr (.inl vou)))]) H := by rw [eH]; exact hP
  have hS : va_S A s.heap H locs := by rw [eH]; exact hS
  suffices goal9 : W p l e rm_L_compare s m args below meth c H locs 0 0 Q (F0 m 0 ls []) from by rw [← eH]; exact goal9
  have hl : lv_has ls 5 [(0, .ref ax), (1, .int p1), (2, .int p2), (3, .ref aw)] := hl
  refine lv_aload_n hx hb dL_compare_0 rfl (lv_at hl 3 rfl) ?_
  refine lv_iconst (v := 0) hx hb dL_compare_1 (by decide) ?_
  refine lv_aload_n hx hb dL_compare_2 rfl (lv_at hl 0 rfl) ?_
  refine lv_iload_n hx hb dL_compare_3 rfl (lv_at hl 1 rfl) ?_
  refine lv_iload_n hx hb dL_compare_4 rfl (lv_at hl 2 rfl) ?_
  have h_101 := hs
  refine y_Vcat (As := [.int p1, .int p2]) (rest := [.int 0, .ref aw]) (wf := [(aw, .inl (cJ, 1, .inr (.inl vou)))]) hCF (c_X3_compare_b0 l hl0 D cR cI cJ cZ t0 sv ax ar ao ad vrd vtr vsd vrn vom voh vol vop voe vow vok vos vso vmi vco vex p1 p2 h_101) (y_cwV 2 hts (inW_13 _ (List.mem_of_getElem? (i := 21) rfl)) (inW_13 _ (List.mem_of_getElem? (i := 22) rfl)) (inW_13 _ (List.mem_of_getElem? (i := 23) rfl)) (inW_1 _ (List.mem_of_getElem? (i := 25) rfl)) (inW_8 _ (List.mem_of_getElem? (i := 8) rfl)) rfl rfl (by decide +kernel) ⟨Nat.le_of_ble_eq_true rfl, Nat.le_of_ble_eq_true rfl⟩) hK hP hD hS hA hY 0 rfl rfl rfl hl.1 rfl (Nat.le_of_ble_eq_true rfl) dL_compare_5 ⟨Nat.le_of_ble_eq_true rfl, Nat.le_of_ble_eq_true rfl⟩ [] ⟨0, 10, 13, 13⟩ [] (by rw [htab]; rfl) (fun z hz => by cases hz) (by decide) (by decide) (inW_13 _ (List.mem_of_getElem? (i := 10) rfl)) yc_IO (fun H locs q9 hP hD hS => ?_)
  have hP : va_P D vwCl (xw cR ax ar ao ad vrd vtr vsd vrn vom voh vol vop voe vow vok vos vso vmi vco vex ++ [(aw, .inl (cJ, 1, .inr (.inl vou)))]) H := hP
  have hD : va_D A (xw cR ax ar ao ad vrd vtr vsd vrn vom voh vol vop voe vow vok vos vso vmi vco vex ++ [(aw, .inl (cJ, 1, .inr (.inl vou)))]) := hD
  show W p l e _ s m args below meth c H locs 2 12 Q (F0 m 13 ls [.ref q9])
  refine lv_astore (lv' := [(4, .ref q9), (0, .ref ax), (1, .int p1), (2, .int p2), (3, .ref aw)]) hx hb dL_compare_13 hl (by decide) rfl (fun ls hl => ?_)
  refine lv_iconst (v := 1) hx hb dL_compare_15 (by decide) ?_
  have e9 := Eq.symm hu; subst e9
  exact z_iret hx hb hr hlocks hQ hK hP hD hS rfl (Nat.le_of_ble_eq_true rfl) (Nat.le_of_ble_eq_true rfl) rfl dL_compare_16

def F_L_compare_b1  (p1 : Int32) (p2 : Int32) : Int32 := 1
def RF_L_compare_b1  (p1 : Int32) (p2 : Int32) (u9 : Int32) : Prop := u9 = 1
theorem rF_L_compare_b1  (p1 : Int32) (p2 : Int32) {u9 : Int32} (hu : u9 = F_L_compare_b1 p1 p2) : RF_L_compare_b1 p1 p2 u9 := by
  unfold RF_L_compare_b1
  exact hu
def S_L_compare_b1  (p1 : Int32) (p2 : Int32) : Prop := S_X3_compare_b1 p1 p2
set_option maxHeartbeats 4000000 in
set_option maxRecDepth 100000 in
theorem c_L_compare_b1 (l : Launch) (hl0 : l.stackTraces = false) (D : va_G) (cR cI cJ cZ : ClassId) (t0 : Nat) (sv : Nat → Nat) (ax ar ao : Nat) (ad : Nat → Nat) (aw : Nat) (vrd : Int32) (vtr : Int32) (vsd : Int32) (vrn : Int32) (vom : Bool) (voh : Int64) (vol : Int64) (vop : Int32) (voe : Bool) (vow : Int32) (vok : Int64) (vos : Int32) (vso : Nat → Int32) (vmi : Nat → Bool) (vco : Nat → Int64) (vex : Nat → Int32) (vou : Nat → Int64) (p1 : Int32) (p2 : Int32) (u : Int32) (hu : u = F_L_compare_b1 p1 p2) (hs : S_L_compare_b1 p1 p2) : XL l D (xty cR cI cJ cZ) t0 sv yL_compare cL_compare 5 (some .int) [(0, 10, 13, 13)] rm_L_compare 2 [.ref ax, .int p1, .int p2, .ref aw] (some (.int u)) (xw cR ax ar ao ad vrd vtr vsd vrn vom voh vol vop voe vow vok vos vso vmi vco vex ++ [(aw, .inl (cJ, 1, .inr (.inl vou)))]) (xw cR ax ar ao ad vrd vtr vsd vrn vom voh vol vop voe vow vok vos vso vmi vco vex ++ [(aw, .inl (cJ, 1, .inr (.inl vou)))]) := by
  refine XL.of (by decide) (Nat.le_of_ble_eq_true rfl) ?_
  intro p e s m args below meth c A Q F htab hK hP hD hA hY hS hQ ls hl
  have hSt := hY.1
  obtain ⟨hx, hb, hr, hts, hown, hlocks, hml⟩ := F
  have hCF : CallFix p m c cL_compare 5 s args gW RL := ⟨hx, hb, hml, hown, hts⟩
  unfold S_L_compare_b1 at hs
  have hu := rF_L_compare_b1 p1 p2 hu
  unfold RF_L_compare_b1 at hu
  obtain ⟨H, eH⟩ : ∃ y9 : Heap, y9 = s.heap := ⟨_, rfl⟩
  obtain ⟨locs, eL⟩ : ∃ y9 : List Loc, y9 = [] := ⟨_, rfl⟩
  rw [← eL] at hS ⊢
  have hP : va_P D vwCl (xw cR ax ar ao ad vrd vtr vsd vrn vom voh vol vop voe vow vok vos vso vmi vco vex ++ [(aw, .inl (cJ, 1, .inr (.inl vou)))]) H := by rw [eH]; exact hP
  have hS : va_S A s.heap H locs := by rw [eH]; exact hS
  suffices goal9 : W p l e rm_L_compare s m args below meth c H locs 0 0 Q (F0 m 0 ls []) from by rw [← eH]; exact goal9
  have hl : lv_has ls 5 [(0, .ref ax), (1, .int p1), (2, .int p2), (3, .ref aw)] := hl
  refine lv_aload_n hx hb dL_compare_0 rfl (lv_at hl 3 rfl) ?_
  refine lv_iconst (v := 0) hx hb dL_compare_1 (by decide) ?_
  refine lv_aload_n hx hb dL_compare_2 rfl (lv_at hl 0 rfl) ?_
  refine lv_iload_n hx hb dL_compare_3 rfl (lv_at hl 1 rfl) ?_
  refine lv_iload_n hx hb dL_compare_4 rfl (lv_at hl 2 rfl) ?_
  have h_101 := hs
  refine y_Vcat (As := [.int p1, .int p2]) (rest := [.int 0, .ref aw]) (wf := [(aw, .inl (cJ, 1, .inr (.inl vou)))]) hCF (c_X3_compare_b1 l hl0 D cR cI cJ cZ t0 sv ax ar ao ad vrd vtr vsd vrn vom voh vol vop voe vow vok vos vso vmi vco vex p1 p2 h_101) (y_cwV 2 hts (inW_13 _ (List.mem_of_getElem? (i := 21) rfl)) (inW_13 _ (List.mem_of_getElem? (i := 22) rfl)) (inW_13 _ (List.mem_of_getElem? (i := 23) rfl)) (inW_1 _ (List.mem_of_getElem? (i := 25) rfl)) (inW_8 _ (List.mem_of_getElem? (i := 8) rfl)) rfl rfl (by decide +kernel) ⟨Nat.le_of_ble_eq_true rfl, Nat.le_of_ble_eq_true rfl⟩) hK hP hD hS hA hY 0 rfl rfl rfl hl.1 rfl (Nat.le_of_ble_eq_true rfl) dL_compare_5 ⟨Nat.le_of_ble_eq_true rfl, Nat.le_of_ble_eq_true rfl⟩ [] ⟨0, 10, 13, 13⟩ [] (by rw [htab]; rfl) (fun z hz => by cases hz) (by decide) (by decide) (inW_13 _ (List.mem_of_getElem? (i := 10) rfl)) yc_IO (fun H locs q9 hP hD hS => ?_)
  have hP : va_P D vwCl (xw cR ax ar ao ad vrd vtr vsd vrn vom voh vol vop voe vow vok vos vso vmi vco vex ++ [(aw, .inl (cJ, 1, .inr (.inl vou)))]) H := hP
  have hD : va_D A (xw cR ax ar ao ad vrd vtr vsd vrn vom voh vol vop voe vow vok vos vso vmi vco vex ++ [(aw, .inl (cJ, 1, .inr (.inl vou)))]) := hD
  show W p l e _ s m args below meth c H locs 2 12 Q (F0 m 13 ls [.ref q9])
  refine lv_astore (lv' := [(4, .ref q9), (0, .ref ax), (1, .int p1), (2, .int p2), (3, .ref aw)]) hx hb dL_compare_13 hl (by decide) rfl (fun ls hl => ?_)
  refine lv_iconst (v := 1) hx hb dL_compare_15 (by decide) ?_
  have e9 := Eq.symm hu; subst e9
  exact z_iret hx hb hr hlocks hQ hK hP hD hS rfl (Nat.le_of_ble_eq_true rfl) (Nat.le_of_ble_eq_true rfl) rfl dL_compare_16
