def F_L_apply_ok (vrd : Int32) (vtr : Int32) (vsd : Int32) (vom : Bool) (voh : Int64) (vol : Int64) (vop : Int32) (voe : Bool) (vow : Int32) (vok : Int64) (vos : Int32) (vso : Nat → Int32) (vmi : Nat → Bool) (vco : Nat → Int64) (vex : Nat → Int32) (p1 : Int32) (p2 : Int32) (p3 : Int32) (p4 : Int32) : Int32 × Int32 × Int32 × Bool × Int64 × Int64 × Int32 × Bool × Int32 × Int64 × Int32 × (Nat → Int32) × (Nat → Bool) × (Nat → Int64) × (Nat → Int32) := (bnd (F_X3_apply_ok vrd vtr vsd vom voh vol vop voe vow vok vos vso vmi vco vex p1 p2 p3 p4) (fun u102 : Int32 × Int32 × Bool × Int64 × Int64 × Int32 × Bool × Int32 × Int64 × Int32 × (Nat → Int32) × (Nat → Bool) × (Nat → Int64) × (Nat → Int32) => (0, u102.1, u102.2.1, u102.2.2.1, u102.2.2.2.1, u102.2.2.2.2.1, u102.2.2.2.2.2.1, u102.2.2.2.2.2.2.1, u102.2.2.2.2.2.2.2.1, u102.2.2.2.2.2.2.2.2.1, u102.2.2.2.2.2.2.2.2.2.1, u102.2.2.2.2.2.2.2.2.2.2.1, u102.2.2.2.2.2.2.2.2.2.2.2.1, u102.2.2.2.2.2.2.2.2.2.2.2.2.1, u102.2.2.2.2.2.2.2.2.2.2.2.2.2)))
def RF_L_apply_ok (vrd : Int32) (vtr : Int32) (vsd : Int32) (vom : Bool) (voh : Int64) (vol : Int64) (vop : Int32) (voe : Bool) (vow : Int32) (vok : Int64) (vos : Int32) (vso : Nat → Int32) (vmi : Nat → Bool) (vco : Nat → Int64) (vex : Nat → Int32) (p1 : Int32) (p2 : Int32) (p3 : Int32) (p4 : Int32) (u9 : Int32 × Int32 × Int32 × Bool × Int64 × Int64 × Int32 × Bool × Int32 × Int64 × Int32 × (Nat → Int32) × (Nat → Bool) × (Nat → Int64) × (Nat → Int32)) : Prop := (∀ u102 : Int32 × Int32 × Bool × Int64 × Int64 × Int32 × Bool × Int32 × Int64 × Int32 × (Nat → Int32) × (Nat → Bool) × (Nat → Int64) × (Nat → Int32), u102 = F_X3_apply_ok vrd vtr vsd vom voh vol vop voe vow vok vos vso vmi vco vex p1 p2 p3 p4 → u9 = (0, u102.1, u102.2.1, u102.2.2.1, u102.2.2.2.1, u102.2.2.2.2.1, u102.2.2.2.2.2.1, u102.2.2.2.2.2.2.1, u102.2.2.2.2.2.2.2.1, u102.2.2.2.2.2.2.2.2.1, u102.2.2.2.2.2.2.2.2.2.1, u102.2.2.2.2.2.2.2.2.2.2.1, u102.2.2.2.2.2.2.2.2.2.2.2.1, u102.2.2.2.2.2.2.2.2.2.2.2.2.1, u102.2.2.2.2.2.2.2.2.2.2.2.2.2))
theorem rF_L_apply_ok (vrd : Int32) (vtr : Int32) (vsd : Int32) (vom : Bool) (voh : Int64) (vol : Int64) (vop : Int32) (voe : Bool) (vow : Int32) (vok : Int64) (vos : Int32) (vso : Nat → Int32) (vmi : Nat → Bool) (vco : Nat → Int64) (vex : Nat → Int32) (p1 : Int32) (p2 : Int32) (p3 : Int32) (p4 : Int32) {u9 : Int32 × Int32 × Int32 × Bool × Int64 × Int64 × Int32 × Bool × Int32 × Int64 × Int32 × (Nat → Int32) × (Nat → Bool) × (Nat → Int64) × (Nat → Int32)} (hu : u9 = F_L_apply_ok vrd vtr vsd vom voh vol vop voe vow vok vos vso vmi vco vex p1 p2 p3 p4) : RF_L_apply_ok vrd vtr vsd vom voh vol vop voe vow vok vos vso vmi vco vex p1 p2 p3 p4 u9 := by
  unfold RF_L_apply_ok
  intro u102 eu102
  have hu := bnd_n hu eu102
  exact hu
def S_L_apply_ok (vrd : Int32) (vtr : Int32) (vsd : Int32) (vom : Bool) (voh : Int64) (vol : Int64) (vop : Int32) (voe : Bool) (vow : Int32) (vok : Int64) (vos : Int32) (vso : Nat → Int32) (vmi : Nat → Bool) (vco : Nat → Int64) (vex : Nat → Int32) (p1 : Int32) (p2 : Int32) (p3 : Int32) (p4 : Int32) : Prop := S_X3_apply_ok vrd vtr vsd vom voh vol vop voe vow vok vos vso vmi vco vex p1 p2 p3 p4
def rm_L_apply : Room := { frames := 8, cells := 4, slots := 24, locals := 190 }
set_option maxHeartbeats 4000000 in
set_option maxRecDepth 100000 in
theorem c_L_apply_ok (l : Launch) (hl0 : l.stackTraces = false) (D : va_G) (cR cI cJ cZ : ClassId) (t0 : Nat) (sv : Nat → Nat) (ax ar ao : Nat) (ad : Nat → Nat) (vrd : Int32) (vtr : Int32) (vsd : Int32) (vrn : Int32) (vom : Bool) (voh : Int64) (vol : Int64) (vop : Int32) (voe : Bool) (vow : Int32) (vok : Int64) (vos : Int32) (vso : Nat → Int32) (vmi : Nat → Bool) (vco : Nat → Int64) (vex : Nat → Int32) (p1 : Int32) (p2 : Int32) (p3 : Int32) (p4 : Int32) (u : Int32 × Int32 × Int32 × Bool × Int64 × Int64 × Int32 × Bool × Int32 × Int64 × Int32 × (Nat → Int32) × (Nat → Bool) × (Nat → Int64) × (Nat → Int32)) (hu : u = F_L_apply_ok vrd vtr vsd vom voh vol vop voe vow vok vos vso vmi vco vex p1 p2 p3 p4) (hs : S_L_apply_ok vrd vtr vsd vom voh vol vop voe vow vok vos vso vmi vco vex p1 p2 p3 p4) : XL l D (xty cR cI cJ cZ) t0 sv yL_apply cL_apply 6 (some .int) [(0, 9, 12, 13), (0, 9, 16, 15), (0, 9, 20, 21)] rm_L_apply 4 [.ref ax, .int p1, .int p2, .int p3, .int p4] (some (.int u.1)) (xw cR ax ar ao ad vrd vtr vsd vrn vom voh vol vop voe vow vok vos vso vmi vco vex) (xw cR ax ar ao ad vrd vtr u.2.1 u.2.2.1 u.2.2.2.1 u.2.2.2.2.1 u.2.2.2.2.2.1 u.2.2.2.2.2.2.1 u.2.2.2.2.2.2.2.1 u.2.2.2.2.2.2.2.2.1 u.2.2.2.2.2.2.2.2.2.1 u.2.2.2.2.2.2.2.2.2.2.1 u.2.2.2.2.2.2.2.2.2.2.2.1 u.2.2.2.2.2.2.2.2.2.2.2.2.1 u.2.2.2.2.2.2.2.2.2.2.2.2.2.1 u.2.2.2.2.2.2.2.2.2.2.2.2.2.2) := by
  refine XL.of (by decide) (Nat.le_of_ble_eq_true rfl) ?_
  intro p e s m args below meth c A Q F htab hK hP hD hA hY hS hQ ls hl
  have hSt := hY.1
  obtain ⟨hx, hb, hr, hts, hown, hlocks, hml⟩ := F
  have hCF : CallFix p m c cL_apply 6 s args gW RL := ⟨hx, hb, hml, hown, hts⟩
  unfold S_L_apply_ok at hs
  have hu := rF_L_apply_ok vrd vtr vsd vom voh vol vop voe vow vok vos vso vmi vco vex p1 p2 p3 p4 hu
  unfold RF_L_apply_ok at hu
  obtain ⟨H, eH⟩ : ∃ y9 : Heap, y9 = s.heap := ⟨_, rfl⟩
  obtain ⟨locs, eL⟩ : ∃ y9 : List Loc, y9 = [] := ⟨_, rfl⟩
  rw [← eL] at hS ⊢
  have hP : va_P D vwCl (xw cR ax ar ao ad vrd vtr vsd vrn vom voh vol vop voe vow vok vos vso vmi vco vex) H := by rw [eH]; exact hP
  have hS : va_S A s.heap H locs := by rw [eH]; exact hS
  suffices goal9 : W p l e rm_L_apply s m args below meth c H locs 0 0 Q (F0 m 0 ls []) from by rw [← eH]; exact goal9
  have hl : lv_has ls 6 [(0, .ref ax), (1, .int p1), (2, .int p2), (3, .int p3), (4, .int p4)] := hl
  refine lv_aload_n hx hb dL_apply_0 rfl (lv_at hl 0 rfl) ?_
  refine lv_iload_n hx hb dL_apply_1 rfl (lv_at hl 1 rfl) ?_
  refine lv_iload_n hx hb dL_apply_2 rfl (lv_at hl 2 rfl) ?_
  refine lv_iload_n hx hb dL_apply_3 rfl (lv_at hl 3 rfl) ?_
  refine lv_iload hx hb dL_apply_4 (lv_at hl 4 rfl) ?_
  have h_101 := hs
  obtain ⟨u102, eu102⟩ : ∃ y9 : Int32 × Int32 × Bool × Int64 × Int64 × Int32 × Bool × Int32 × Int64 × Int32 × (Nat → Int32) × (Nat → Bool) × (Nat → Int64) × (Nat → Int32), y9 = F_X3_apply_ok vrd vtr vsd vom voh vol vop voe vow vok vos vso vmi vco vex p1 p2 p3 p4 := ⟨_, rfl⟩
  have hu := hu _ eu102
  refine y_Vok (As := [.int p1, .int p2, .int p3, .int p4]) (rest := []) (wf := []) hCF (c_X3_apply_ok l hl0 D cR cI cJ cZ t0 sv ax ar ao ad vrd vtr vsd vrn vom voh vol vop voe vow vok vos vso vmi vco vex p1 p2 p3 p4 u102 eu102 h_101) (y_cwV 4 hts (inW_13 _ (List.mem_of_getElem? (i := 17) rfl)) (inW_13 _ (List.mem_of_getElem? (i := 18) rfl)) (inW_13 _ (List.mem_of_getElem? (i := 19) rfl)) (inW_1 _ (List.mem_of_getElem? (i := 25) rfl)) (inW_4 _ (List.mem_of_getElem? (i := 38) rfl)) rfl rfl (by decide +kernel) ⟨Nat.le_of_ble_eq_true rfl, Nat.le_of_ble_eq_true rfl⟩) hK (y_nil (P := fun w => va_P D vwCl w H) hP) (y_nil (P := fun w => va_D A w) hD) hS hA hY 0 rfl rfl rfl hl.1 rfl (Nat.le_of_ble_eq_true rfl) dL_apply_6 ⟨Nat.le_of_ble_eq_true rfl, Nat.le_of_ble_eq_true rfl⟩ (fun H locs hP hD hS => ?_)
  have hP : va_P D vwCl (xw cR ax ar ao ad vrd vtr u102.1 u102.2.1 u102.2.2.1 u102.2.2.2.1 u102.2.2.2.2.1 u102.2.2.2.2.2.1 u102.2.2.2.2.2.2.1 u102.2.2.2.2.2.2.2.1 u102.2.2.2.2.2.2.2.2.1 u102.2.2.2.2.2.2.2.2.2.1 u102.2.2.2.2.2.2.2.2.2.2.1 u102.2.2.2.2.2.2.2.2.2.2.2.1 u102.2.2.2.2.2.2.2.2.2.2.2.2.1 u102.2.2.2.2.2.2.2.2.2.2.2.2.2) H := y_unnil (P := fun w => va_P D vwCl w H) hP
  have hD : va_D A (xw cR ax ar ao ad vrd vtr u102.1 u102.2.1 u102.2.2.1 u102.2.2.2.1 u102.2.2.2.2.1 u102.2.2.2.2.2.1 u102.2.2.2.2.2.2.1 u102.2.2.2.2.2.2.2.1 u102.2.2.2.2.2.2.2.2.1 u102.2.2.2.2.2.2.2.2.2.1 u102.2.2.2.2.2.2.2.2.2.2.1 u102.2.2.2.2.2.2.2.2.2.2.2.1 u102.2.2.2.2.2.2.2.2.2.2.2.2.1 u102.2.2.2.2.2.2.2.2.2.2.2.2.2) := y_unnil (P := fun w => va_D A w) hD
  show W p l e _ s m args below meth c H locs 4 24 Q (F0 m 9 ls [])
  refine lv_goto (tgt := 24) hx hb dL_apply_9 (by decide) ?_
  refine lv_iconst (v := 0) hx hb dL_apply_24 (by decide) ?_
  have e9 := Eq.symm hu; subst e9
  exact z_iret hx hb hr hlocks hQ hK hP hD hS rfl (Nat.le_of_ble_eq_true rfl) (Nat.le_of_ble_eq_true rfl) rfl dL_apply_25

def F_L_apply_b0  (p1 : Int32) (p2 : Int32) (p3 : Int32) (p4 : Int32) : Int32 := 1
def RF_L_apply_b0  (p1 : Int32) (p2 : Int32) (p3 : Int32) (p4 : Int32) (u9 : Int32) : Prop := u9 = 1
theorem rF_L_apply_b0  (p1 : Int32) (p2 : Int32) (p3 : Int32) (p4 : Int32) {u9 : Int32} (hu : u9 = F_L_apply_b0 p1 p2 p3 p4) : RF_L_apply_b0 p1 p2 p3 p4 u9 := by
  unfold RF_L_apply_b0
  exact hu
def S_L_apply_b0  (p1 : Int32) (p2 : Int32) (p3 : Int32) (p4 : Int32) : Prop := S_X3_apply_b0 p1 p2 p3 p4
set_option maxHeartbeats 4000000 in
set_option maxRecDepth 100000 in
theorem c_L_apply_b0 (l : Launch) (hl0 : l.stackTraces = false) (D : va_G) (cR cI cJ cZ : ClassId) (t0 : Nat) (sv : Nat → Nat) (ax ar ao : Nat) (ad : Nat → Nat) (vrd : Int32) (vtr : Int32) (vsd : Int32) (vrn : Int32) (vom : Bool) (voh : Int64) (vol : Int64) (vop : Int32) (voe : Bool) (vow : Int32) (vok : Int64) (vos : Int32) (vso : Nat → Int32) (vmi : Nat → Bool) (vco : Nat → Int64) (vex : Nat → Int32) (p1 : Int32) (p2 : Int32) (p3 : Int32) (p4 : Int32) (u : Int32) (hu : u = F_L_apply_b0 p1 p2 p3 p4) (hs : S_L_apply_b0 p1 p2 p3 p4) : XL l D (xty cR cI cJ cZ) t0 sv yL_apply cL_apply 6 (some .int) [(0, 9, 12, 13), (0, 9, 16, 15), (0, 9, 20, 21)] rm_L_apply 4 [.ref ax, .int p1, .int p2, .int p3, .int p4] (some (.int u)) (xw cR ax ar ao ad vrd vtr vsd vrn vom voh vol vop voe vow vok vos vso vmi vco vex) (xw cR ax ar ao ad vrd vtr vsd vrn vom voh vol vop voe vow vok vos vso vmi vco vex) := by
  refine XL.of (by decide) (Nat.le_of_ble_eq_true rfl) ?_
  intro p e s m args below meth c A Q F htab hK hP hD hA hY hS hQ ls hl
  have hSt := hY.1
  obtain ⟨hx, hb, hr, hts, hown, hlocks, hml⟩ := F
  have hCF : CallFix p m c cL_apply 6 s args gW RL := ⟨hx, hb, hml, hown, hts⟩
  unfold S_L_apply_b0 at hs
  have hu := rF_L_apply_b0 p1 p2 p3 p4 hu
  unfold RF_L_apply_b0 at hu
  obtain ⟨H, eH⟩ : ∃ y9 : Heap, y9 = s.heap := ⟨_, rfl⟩
  obtain ⟨locs, eL⟩ : ∃ y9 : List Loc, y9 = [] := ⟨_, rfl⟩
  rw [← eL] at hS ⊢
  have hP : va_P D vwCl (xw cR ax ar ao ad vrd vtr vsd vrn vom voh vol vop voe vow vok vos vso vmi vco vex) H := by rw [eH]; exact hP
  have hS : va_S A s.heap H locs := by rw [eH]; exact hS
  suffices goal9 : W p l e rm_L_apply s m args below meth c H locs 0 0 Q (F0 m 0 ls []) from by rw [← eH]; exact goal9
  have hl : lv_has ls 6 [(0, .ref ax), (1, .int p1), (2, .int p2), (3, .int p3), (4, .int p4)] := hl
  refine lv_aload_n hx hb dL_apply_0 rfl (lv_at hl 0 rfl) ?_
  refine lv_iload_n hx hb dL_apply_1 rfl (lv_at hl 1 rfl) ?_
  refine lv_iload_n hx hb dL_apply_2 rfl (lv_at hl 2 rfl) ?_
  refine lv_iload_n hx hb dL_apply_3 rfl (lv_at hl 3 rfl) ?_
  refine lv_iload hx hb dL_apply_4 (lv_at hl 4 rfl) ?_
  have h_101 := hs
  refine y_Vcat (As := [.int p1, .int p2, .int p3, .int p4]) (rest := []) (wf := []) hCF (c_X3_apply_b0 l hl0 D cR cI cJ cZ t0 sv ax ar ao ad vrd vtr vsd vrn vom voh vol vop voe vow vok vos vso vmi vco vex p1 p2 p3 p4 h_101) (y_cwV 4 hts (inW_13 _ (List.mem_of_getElem? (i := 17) rfl)) (inW_13 _ (List.mem_of_getElem? (i := 18) rfl)) (inW_13 _ (List.mem_of_getElem? (i := 19) rfl)) (inW_1 _ (List.mem_of_getElem? (i := 25) rfl)) (inW_4 _ (List.mem_of_getElem? (i := 38) rfl)) rfl rfl (by decide +kernel) ⟨Nat.le_of_ble_eq_true rfl, Nat.le_of_ble_eq_true rfl⟩) hK (y_nil (P := fun w => va_P D vwCl w H) hP) (y_nil (P := fun w => va_D A w) hD) hS hA hY 0 rfl rfl rfl hl.1 rfl (Nat.le_of_ble_eq_true rfl) dL_apply_6 ⟨Nat.le_of_ble_eq_true rfl, Nat.le_of_ble_eq_true rfl⟩ [] ⟨0, 9, 12, 13⟩ [⟨0, 9, 16, 15⟩, ⟨0, 9, 20, 21⟩] (by rw [htab]; rfl) (fun z hz => by cases hz) (by decide) (by decide) (inW_13 _ (List.mem_of_getElem? (i := 10) rfl)) yc_IO (fun H locs q9 hP hD hS => ?_)
  have hP : va_P D vwCl (xw cR ax ar ao ad vrd vtr vsd vrn vom voh vol vop voe vow vok vos vso vmi vco vex) H := y_unnil (P := fun w => va_P D vwCl w H) hP
  have hD : va_D A (xw cR ax ar ao ad vrd vtr vsd vrn vom voh vol vop voe vow vok vos vso vmi vco vex) := y_unnil (P := fun w => va_D A w) hD
  show W p l e _ s m args below meth c H locs 4 24 Q (F0 m 12 ls [.ref q9])
  refine lv_astore (lv' := [(5, .ref q9), (0, .ref ax), (1, .int p1), (2, .int p2), (3, .int p3), (4, .int p4)]) hx hb dL_apply_12 hl (by decide) rfl (fun ls hl => ?_)
  refine lv_iconst (v := 1) hx hb dL_apply_14 (by decide) ?_
  have e9 := Eq.symm hu; subst e9
  exact z_iret hx hb hr hlocks hQ hK hP hD hS rfl (Nat.le_of_ble_eq_true rfl) (Nat.le_of_ble_eq_true rfl) rfl dL_apply_15

def F_L_apply_b1  (p1 : Int32) (p2 : Int32) (p3 : Int32) (p4 : Int32) : Int32 := 1
def RF_L_apply_b1  (p1 : Int32) (p2 : Int32) (p3 : Int32) (p4 : Int32) (u9 : Int32) : Prop := u9 = 1
theorem rF_L_apply_b1  (p1 : Int32) (p2 : Int32) (p3 : Int32) (p4 : Int32) {u9 : Int32} (hu : u9 = F_L_apply_b1 p1 p2 p3 p4) : RF_L_apply_b1 p1 p2 p3 p4 u9 := by
  unfold RF_L_apply_b1
  exact hu
def S_L_apply_b1  (p1 : Int32) (p2 : Int32) (p3 : Int32) (p4 : Int32) : Prop := S_X3_apply_b1 p1 p2 p3 p4
set_option maxHeartbeats 4000000 in
set_option maxRecDepth 100000 in
theorem c_L_apply_b1 (l : Launch) (hl0 : l.stackTraces = false) (D : va_G) (cR cI cJ cZ : ClassId) (t0 : Nat) (sv : Nat → Nat) (ax ar ao : Nat) (ad : Nat → Nat) (vrd : Int32) (vtr : Int32) (vsd : Int32) (vrn : Int32) (vom : Bool) (voh : Int64) (vol : Int64) (vop : Int32) (voe : Bool) (vow : Int32) (vok : Int64) (vos : Int32) (vso : Nat → Int32) (vmi : Nat → Bool) (vco : Nat → Int64) (vex : Nat → Int32) (p1 : Int32) (p2 : Int32) (p3 : Int32) (p4 : Int32) (u : Int32) (hu : u = F_L_apply_b1 p1 p2 p3 p4) (hs : S_L_apply_b1 p1 p2 p3 p4) : XL l D (xty cR cI cJ cZ) t0 sv yL_apply cL_apply 6 (some .int) [(0, 9, 12, 13), (0, 9, 16, 15), (0, 9, 20, 21)] rm_L_apply 4 [.ref ax, .int p1, .int p2, .int p3, .int p4] (some (.int u)) (xw cR ax ar ao ad vrd vtr vsd vrn vom voh vol vop voe vow vok vos vso vmi vco vex) (xw cR ax ar ao ad vrd vtr vsd vrn vom voh vol vop voe vow vok vos vso vmi vco vex) := by
  refine XL.of (by decide) (Nat.le_of_ble_eq_true rfl) ?_
  intro p e s m args below meth c A Q F htab hK hP hD hA hY hS hQ ls hl
  have hSt := hY.1
  obtain ⟨hx, hb, hr, hts, hown, hlocks, hml⟩ := F
  have hCF : CallFix p m c cL_apply 6 s args gW RL := ⟨hx, hb, hml, hown, hts⟩
  unfold S_L_apply_b1 at hs
  have hu := rF_L_apply_b1 p1 p2 p3 p4 hu
  unfold RF_L_apply_b1 at hu
  obtain ⟨H, eH⟩ : ∃ y9 : Heap, y9 = s.heap := ⟨_, rfl⟩
  obtain ⟨locs, eL⟩ : ∃ y9 : List Loc, y9 = [] := ⟨_, rfl⟩
  rw [← eL] at hS ⊢
  have hP : va_P D vwCl (xw cR ax ar ao ad vrd vtr vsd vrn vom voh vol vop voe vow vok vos vso vmi vco vex) H := by rw [eH]; exact hP
  have hS : va_S A s.heap H locs := by rw [eH]; exact hS
  suffices goal9 : W p l e rm_L_apply s m args below meth c H locs 0 0 Q (F0 m 0 ls []) from by rw [← eH]; exact goal9
  have hl : lv_has ls 6 [(0, .ref ax), (1, .int p1), (2, .int p2), (3, .int p3), (4, .int p4)] := hl
  refine lv_aload_n hx hb dL_apply_0 rfl (lv_at hl 0 rfl) ?_
  refine lv_iload_n hx hb dL_apply_1 rfl (lv_at hl 1 rfl) ?_
  refine lv_iload_n hx hb dL_apply_2 rfl (lv_at hl 2 rfl) ?_
  refine lv_iload_n hx hb dL_apply_3 rfl (lv_at hl 3 rfl) ?_
  refine lv_iload hx hb dL_apply_4 (lv_at hl 4 rfl) ?_
  have h_101 := hs
  refine y_Vcat (As := [.int p1, .int p2, .int p3, .int p4]) (rest := []) (wf := []) hCF (c_X3_apply_b1 l hl0 D cR cI cJ cZ t0 sv ax ar ao ad vrd vtr vsd vrn vom voh vol vop voe vow vok vos vso vmi vco vex p1 p2 p3 p4 h_101) (y_cwV 4 hts (inW_13 _ (List.mem_of_getElem? (i := 17) rfl)) (inW_13 _ (List.mem_of_getElem? (i := 18) rfl)) (inW_13 _ (List.mem_of_getElem? (i := 19) rfl)) (inW_1 _ (List.mem_of_getElem? (i := 25) rfl)) (inW_4 _ (List.mem_of_getElem? (i := 38) rfl)) rfl rfl (by decide +kernel) ⟨Nat.le_of_ble_eq_true rfl, Nat.le_of_ble_eq_true rfl⟩) hK (y_nil (P := fun w => va_P D vwCl w H) hP) (y_nil (P := fun w => va_D A w) hD) hS hA hY 0 rfl rfl rfl hl.1 rfl (Nat.le_of_ble_eq_true rfl) dL_apply_6 ⟨Nat.le_of_ble_eq_true rfl, Nat.le_of_ble_eq_true rfl⟩ [] ⟨0, 9, 12, 13⟩ [⟨0, 9, 16, 15⟩, ⟨0, 9, 20, 21⟩] (by rw [htab]; rfl) (fun z hz => by cases hz) (by decide) (by decide) (inW_13 _ (List.mem_of_getElem? (i := 10) rfl)) yc_IO (fun H locs q9 hP hD hS => ?_)
  have hP : va_P D vwCl (xw cR ax ar ao ad vrd vtr vsd vrn vom voh vol vop voe vow vok vos vso vmi vco vex) H := y_unnil (P := fun w => va_P D vwCl w H) hP
  have hD : va_D A (xw cR ax ar ao ad vrd vtr vsd vrn vom voh vol vop voe vow vok vos vso vmi vco vex) := y_unnil (P := fun w => va_D A w) hD
  show W p l e _ s m args below meth c H locs 4 24 Q (F0 m 12 ls [.ref q9])
  refine lv_astore (lv' := [(5, .ref q9), (0, .ref ax), (1, .int p1), (2, .int p2), (3, .int p3), (4, .int p4)]) hx hb dL_apply_12 hl (by decide) rfl (fun ls hl => ?_)
  refine lv_iconst (v := 1) hx hb dL_apply_14 (by decide) ?_
  have e9 := Eq.symm hu; subst e9
  exact z_iret hx hb hr hlocks hQ hK hP hD hS rfl (Nat.le_of_ble_eq_true rfl) (Nat.le_of_ble_eq_true rfl) rfl dL_apply_15

def F_L_apply_b2  (p1 : Int32) (p2 : Int32) (p3 : Int32) (p4 : Int32) : Int32 := 1
def RF_L_apply_b2  (p1 : Int32) (p2 : Int32) (p3 : Int32) (p4 : Int32) (u9 : Int32) : Prop := u9 = 1
theorem rF_L_apply_b2  (p1 : Int32) (p2 : Int32) (p3 : Int32) (p4 : Int32) {u9 : Int32} (hu : u9 = F_L_apply_b2 p1 p2 p3 p4) : RF_L_apply_b2 p1 p2 p3 p4 u9 := by
  unfold RF_L_apply_b2
  exact hu
def S_L_apply_b2  (p1 : Int32) (p2 : Int32) (p3 : Int32) (p4 : Int32) : Prop := S_X3_apply_b2 p1 p2 p3 p4
set_option maxHeartbeats 4000000 in
set_option maxRecDepth 100000 in
theorem c_L_apply_b2 (l : Launch) (hl0 : l.stackTraces = false) (D : va_G) (cR cI cJ cZ : ClassId) (t0 : Nat) (sv : Nat → Nat) (ax ar ao : Nat) (ad : Nat → Nat) (vrd : Int32) (vtr : Int32) (vsd : Int32) (vrn : Int32) (vom : Bool) (voh : Int64) (vol : Int64) (vop : Int32) (voe : Bool) (vow : Int32) (vok : Int64) (vos : Int32) (vso : Nat → Int32) (vmi : Nat → Bool) (vco : Nat → Int64) (vex : Nat → Int32) (p1 : Int32) (p2 : Int32) (p3 : Int32) (p4 : Int32) (u : Int32) (hu : u = F_L_apply_b2 p1 p2 p3 p4) (hs : S_L_apply_b2 p1 p2 p3 p4) : XL l D (xty cR cI cJ cZ) t0 sv yL_apply cL_apply 6 (some .int) [(0, 9, 12, 13), (0, 9, 16, 15), (0, 9, 20, 21)] rm_L_apply 4 [.ref ax, .int p1, .int p2, .int p3, .int p4] (some (.int u)) (xw cR ax ar ao ad vrd vtr vsd vrn vom voh vol vop voe vow vok vos vso vmi vco vex) (xw cR ax ar ao ad vrd vtr vsd vrn vom voh vol vop voe vow vok vos vso vmi vco vex) := by
  refine XL.of (by decide) (Nat.le_of_ble_eq_true rfl) ?_
  intro p e s m args below meth c A Q F htab hK hP hD hA hY hS hQ ls hl
  have hSt := hY.1
  obtain ⟨hx, hb, hr, hts, hown, hlocks, hml⟩ := F
  have hCF : CallFix p m c cL_apply 6 s args gW RL := ⟨hx, hb, hml, hown, hts⟩
  unfold S_L_apply_b2 at hs
  have hu := rF_L_apply_b2 p1 p2 p3 p4 hu
  unfold RF_L_apply_b2 at hu
  obtain ⟨H, eH⟩ : ∃ y9 : Heap, y9 = s.heap := ⟨_, rfl⟩
  obtain ⟨locs, eL⟩ : ∃ y9 : List Loc, y9 = [] := ⟨_, rfl⟩
  rw [← eL] at hS ⊢
  have hP : va_P D vwCl (xw cR ax ar ao ad vrd vtr vsd vrn vom voh vol vop voe vow vok vos vso vmi vco vex) H := by rw [eH]; exact hP
  have hS : va_S A s.heap H locs := by rw [eH]; exact hS
  suffices goal9 : W p l e rm_L_apply s m args below meth c H locs 0 0 Q (F0 m 0 ls []) from by rw [← eH]; exact goal9
  have hl : lv_has ls 6 [(0, .ref ax), (1, .int p1), (2, .int p2), (3, .int p3), (4, .int p4)] := hl
  refine lv_aload_n hx hb dL_apply_0 rfl (lv_at hl 0 rfl) ?_
  refine lv_iload_n hx hb dL_apply_1 rfl (lv_at hl 1 rfl) ?_
  refine lv_iload_n hx hb dL_apply_2 rfl (lv_at hl 2 rfl) ?_
  refine lv_iload_n hx hb dL_apply_3 rfl (lv_at hl 3 rfl) ?_
  refine lv_iload hx hb dL_apply_4 (lv_at hl 4 rfl) ?_
  have h_101 := hs
  refine y_Vcat (As := [.int p1, .int p2, .int p3, .int p4]) (rest := []) (wf := []) hCF (c_X3_apply_b2 l hl0 D cR cI cJ cZ t0 sv ax ar ao ad vrd vtr vsd vrn vom voh vol vop voe vow vok vos vso vmi vco vex p1 p2 p3 p4 h_101) (y_cwV 4 hts (inW_13 _ (List.mem_of_getElem? (i := 17) rfl)) (inW_13 _ (List.mem_of_getElem? (i := 18) rfl)) (inW_13 _ (List.mem_of_getElem? (i := 19) rfl)) (inW_1 _ (List.mem_of_getElem? (i := 25) rfl)) (inW_4 _ (List.mem_of_getElem? (i := 38) rfl)) rfl rfl (by decide +kernel) ⟨Nat.le_of_ble_eq_true rfl, Nat.le_of_ble_eq_true rfl⟩) hK (y_nil (P := fun w => va_P D vwCl w H) hP) (y_nil (P := fun w => va_D A w) hD) hS hA hY 0 rfl rfl rfl hl.1 rfl (Nat.le_of_ble_eq_true rfl) dL_apply_6 ⟨Nat.le_of_ble_eq_true rfl, Nat.le_of_ble_eq_true rfl⟩ [] ⟨0, 9, 12, 13⟩ [⟨0, 9, 16, 15⟩, ⟨0, 9, 20, 21⟩] (by rw [htab]; rfl) (fun z hz => by cases hz) (by decide) (by decide) (inW_13 _ (List.mem_of_getElem? (i := 10) rfl)) yc_IO (fun H locs q9 hP hD hS => ?_)
  have hP : va_P D vwCl (xw cR ax ar ao ad vrd vtr vsd vrn vom voh vol vop voe vow vok vos vso vmi vco vex) H := y_unnil (P := fun w => va_P D vwCl w H) hP
  have hD : va_D A (xw cR ax ar ao ad vrd vtr vsd vrn vom voh vol vop voe vow vok vos vso vmi vco vex) := y_unnil (P := fun w => va_D A w) hD
  show W p l e _ s m args below meth c H locs 4 24 Q (F0 m 12 ls [.ref q9])
  refine lv_astore (lv' := [(5, .ref q9), (0, .ref ax), (1, .int p1), (2, .int p2), (3, .int p3), (4, .int p4)]) hx hb dL_apply_12 hl (by decide) rfl (fun ls hl => ?_)
  refine lv_iconst (v := 1) hx hb dL_apply_14 (by decide) ?_
  have e9 := Eq.symm hu; subst e9
  exact z_iret hx hb hr hlocks hQ hK hP hD hS rfl (Nat.le_of_ble_eq_true rfl) (Nat.le_of_ble_eq_true rfl) rfl dL_apply_15

def F_L_apply_b3  (p1 : Int32) (p2 : Int32) (p3 : Int32) (p4 : Int32) : Int32 := 2
def RF_L_apply_b3  (p1 : Int32) (p2 : Int32) (p3 : Int32) (p4 : Int32) (u9 : Int32) : Prop := u9 = 2
theorem rF_L_apply_b3  (p1 : Int32) (p2 : Int32) (p3 : Int32) (p4 : Int32) {u9 : Int32} (hu : u9 = F_L_apply_b3 p1 p2 p3 p4) : RF_L_apply_b3 p1 p2 p3 p4 u9 := by
  unfold RF_L_apply_b3
  exact hu
def S_L_apply_b3  (p1 : Int32) (p2 : Int32) (p3 : Int32) (p4 : Int32) : Prop := S_X3_apply_b3 p1 p2 p3 p4
set_option maxHeartbeats 4000000 in
set_option maxRecDepth 100000 in
theorem c_L_apply_b3 (l : Launch) (hl0 : l.stackTraces = false) (D : va_G) (cR cI cJ cZ : ClassId) (t0 : Nat) (sv : Nat → Nat) (ax ar ao : Nat) (ad : Nat → Nat) (vrd : Int32) (vtr : Int32) (vsd : Int32) (vrn : Int32) (vom : Bool) (voh : Int64) (vol : Int64) (vop : Int32) (voe : Bool) (vow : Int32) (vok : Int64) (vos : Int32) (vso : Nat → Int32) (vmi : Nat → Bool) (vco : Nat → Int64) (vex : Nat → Int32) (p1 : Int32) (p2 : Int32) (p3 : Int32) (p4 : Int32) (u : Int32) (hu : u = F_L_apply_b3 p1 p2 p3 p4) (hs : S_L_apply_b3 p1 p2 p3 p4) : XL l D (xty cR cI cJ cZ) t0 sv yL_apply cL_apply 6 (some .int) [(0, 9, 12, 13), (0, 9, 16, 15), (0, 9, 20, 21)] rm_L_apply 4 [.ref ax, .int p1, .int p2, .int p3, .int p4] (some (.int u)) (xw cR ax ar ao ad vrd vtr vsd vrn vom voh vol vop voe vow vok vos vso vmi vco vex) (xw cR ax ar ao ad vrd vtr vsd vrn vom voh vol vop voe vow vok vos vso vmi vco vex) := by
  refine XL.of (by decide) (Nat.le_of_ble_eq_true rfl) ?_
  intro p e s m args below meth c A Q F htab hK hP hD hA hY hS hQ ls hl
  have hSt := hY.1
  obtain ⟨hx, hb, hr, hts, hown, hlocks, hml⟩ := F
  have hCF : CallFix p m c cL_apply 6 s args gW RL := ⟨hx, hb, hml, hown, hts⟩
  unfold S_L_apply_b3 at hs
  have hu := rF_L_apply_b3 p1 p2 p3 p4 hu
  unfold RF_L_apply_b3 at hu
  obtain ⟨H, eH⟩ : ∃ y9 : Heap, y9 = s.heap := ⟨_, rfl⟩
  obtain ⟨locs, eL⟩ : ∃ y9 : List Loc, y9 = [] := ⟨_, rfl⟩
  rw [← eL] at hS ⊢
  have hP : va_P D vwCl (xw cR ax ar ao ad vrd vtr vsd vrn vom voh vol vop voe vow vok vos vso vmi vco vex) H := by rw [eH]; exact hP
  have hS : va_S A s.heap H locs := by rw [eH]; exact hS
  suffices goal9 : W p l e rm_L_apply s m args below meth c H locs 0 0 Q (F0 m 0 ls []) from by rw [← eH]; exact goal9
  have hl : lv_has ls 6 [(0, .ref ax), (1, .int p1), (2, .int p2), (3, .int p3), (4, .int p4)] := hl
  refine lv_aload_n hx hb dL_apply_0 rfl (lv_at hl 0 rfl) ?_
  refine lv_iload_n hx hb dL_apply_1 rfl (lv_at hl 1 rfl) ?_
  refine lv_iload_n hx hb dL_apply_2 rfl (lv_at hl 2 rfl) ?_
  refine lv_iload_n hx hb dL_apply_3 rfl (lv_at hl 3 rfl) ?_
  refine lv_iload hx hb dL_apply_4 (lv_at hl 4 rfl) ?_
  have h_101 := hs
  refine y_Vcat (As := [.int p1, .int p2, .int p3, .int p4]) (rest := []) (wf := []) hCF (c_X3_apply_b3 l hl0 D cR cI cJ cZ t0 sv ax ar ao ad vrd vtr vsd vrn vom voh vol vop voe vow vok vos vso vmi vco vex p1 p2 p3 p4 h_101) (y_cwV 4 hts (inW_13 _ (List.mem_of_getElem? (i := 17) rfl)) (inW_13 _ (List.mem_of_getElem? (i := 18) rfl)) (inW_13 _ (List.mem_of_getElem? (i := 19) rfl)) (inW_1 _ (List.mem_of_getElem? (i := 25) rfl)) (inW_4 _ (List.mem_of_getElem? (i := 38) rfl)) rfl rfl (by decide +kernel) ⟨Nat.le_of_ble_eq_true rfl, Nat.le_of_ble_eq_true rfl⟩) hK (y_nil (P := fun w => va_P D vwCl w H) hP) (y_nil (P := fun w => va_D A w) hD) hS hA hY 0 rfl rfl rfl hl.1 rfl (Nat.le_of_ble_eq_true rfl) dL_apply_6 ⟨Nat.le_of_ble_eq_true rfl, Nat.le_of_ble_eq_true rfl⟩ [⟨0, 9, 12, 13⟩] ⟨0, 9, 16, 15⟩ [⟨0, 9, 20, 21⟩] (by rw [htab]; rfl) (fun z hz => by
    rcases List.mem_cons.mp hz with h | hz
    · rw [h]; exact Or.inr ⟨by decide, _, hts _ (inW_13 _ (List.mem_of_getElem? (i := 10) rfl)), hY.2.2.2.2.2.1⟩
    cases hz) (by decide) (by decide) (inW_13 _ (List.mem_of_getElem? (i := 11) rfl)) yc_IA (fun H locs q9 hP hD hS => ?_)
  have hP : va_P D vwCl (xw cR ax ar ao ad vrd vtr vsd vrn vom voh vol vop voe vow vok vos vso vmi vco vex) H := y_unnil (P := fun w => va_P D vwCl w H) hP
  have hD : va_D A (xw cR ax ar ao ad vrd vtr vsd vrn vom voh vol vop voe vow vok vos vso vmi vco vex) := y_unnil (P := fun w => va_D A w) hD
  show W p l e _ s m args below meth c H locs 4 24 Q (F0 m 16 ls [.ref q9])
  refine lv_astore (lv' := [(5, .ref q9), (0, .ref ax), (1, .int p1), (2, .int p2), (3, .int p3), (4, .int p4)]) hx hb dL_apply_16 hl (by decide) rfl (fun ls hl => ?_)
  refine lv_iconst (v := 2) hx hb dL_apply_18 (by decide) ?_
  have e9 := Eq.symm hu; subst e9
  exact z_iret hx hb hr hlocks hQ hK hP hD hS rfl (Nat.le_of_ble_eq_true rfl) (Nat.le_of_ble_eq_true rfl) rfl dL_apply_19

def F_L_apply_b4  (p1 : Int32) (p2 : Int32) (p3 : Int32) (p4 : Int32) : Int32 := 2
def RF_L_apply_b4  (p1 : Int32) (p2 : Int32) (p3 : Int32) (p4 : Int32) (u9 : Int32) : Prop := u9 = 2
theorem rF_L_apply_b4  (p1 : Int32) (p2 : Int32) (p3 : Int32) (p4 : Int32) {u9 : Int32} (hu : u9 = F_L_apply_b4 p1 p2 p3 p4) : RF_L_apply_b4 p1 p2 p3 p4 u9 := by
  unfold RF_L_apply_b4
  exact hu
def S_L_apply_b4  (p1 : Int32) (p2 : Int32) (p3 : Int32) (p4 : Int32) : Prop := S_X3_apply_b4 p1 p2 p3 p4
set_option maxHeartbeats 4000000 in
set_option maxRecDepth 100000 in
theorem c_L_apply_b4 (l : Launch) (hl0 : l.stackTraces = false) (D : va_G) (cR cI cJ cZ : ClassId) (t0 : Nat) (sv : Nat → Nat) (ax ar ao : Nat) (ad : Nat → Nat) (vrd : Int32) (vtr : Int32) (vsd : Int32) (vrn : Int32) (vom : Bool) (voh : Int64) (vol : Int64) (vop : Int32) (voe : Bool) (vow : Int32) (vok : Int64) (vos : Int32) (vso : Nat → Int32) (vmi : Nat → Bool) (vco : Nat → Int64) (vex : Nat → Int32) (p1 : Int32) (p2 : Int32) (p3 : Int32) (p4 : Int32) (u : Int32) (hu : u = F_L_apply_b4 p1 p2 p3 p4) (hs : S_L_apply_b4 p1 p2 p3 p4) : XL l D (xty cR cI cJ cZ) t0 sv yL_apply cL_apply 6 (some .int) [(0, 9, 12, 13), (0, 9, 16, 15), (0, 9, 20, 21)] rm_L_apply 4 [.ref ax, .int p1, .int p2, .int p3, .int p4] (some (.int u)) (xw cR ax ar ao ad vrd vtr vsd vrn vom voh vol vop voe vow vok vos vso vmi vco vex) (xw cR ax ar ao ad vrd vtr vsd vrn vom voh vol vop voe vow vok vos vso vmi vco vex) := by
  refine XL.of (by decide) (Nat.le_of_ble_eq_true rfl) ?_
  intro p e s m args below meth c A Q F htab hK hP hD hA hY hS hQ ls hl
  have hSt := hY.1
  obtain ⟨hx, hb, hr, hts, hown, hlocks, hml⟩ := F
  have hCF : CallFix p m c cL_apply 6 s args gW RL := ⟨hx, hb, hml, hown, hts⟩
  unfold S_L_apply_b4 at hs
  have hu := rF_L_apply_b4 p1 p2 p3 p4 hu
  unfold RF_L_apply_b4 at hu
  obtain ⟨H, eH⟩ : ∃ y9 : Heap, y9 = s.heap := ⟨_, rfl⟩
  obtain ⟨locs, eL⟩ : ∃ y9 : List Loc, y9 = [] := ⟨_, rfl⟩
  rw [← eL] at hS ⊢
  have hP : va_P D vwCl (xw cR ax ar ao ad vrd vtr vsd vrn vom voh vol vop voe vow vok vos vso vmi vco vex) H := by rw [eH]; exact hP
  have hS : va_S A s.heap H locs := by rw [eH]; exact hS
  suffices goal9 : W p l e rm_L_apply s m args below meth c H locs 0 0 Q (F0 m 0 ls []) from by rw [← eH]; exact goal9
  have hl : lv_has ls 6 [(0, .ref ax), (1, .int p1), (2, .int p2), (3, .int p3), (4, .int p4)] := hl
  refine lv_aload_n hx hb dL_apply_0 rfl (lv_at hl 0 rfl) ?_
  refine lv_iload_n hx hb dL_apply_1 rfl (lv_at hl 1 rfl) ?_
  refine lv_iload_n hx hb dL_apply_2 rfl (lv_at hl 2 rfl) ?_
  refine lv_iload_n hx hb dL_apply_3 rfl (lv_at hl 3 rfl) ?_
  refine lv_iload hx hb dL_apply_4 (lv_at hl 4 rfl) ?_
  have h_101 := hs
  refine y_Vcat (As := [.int p1, .int p2, .int p3, .int p4]) (rest := []) (wf := []) hCF (c_X3_apply_b4 l hl0 D cR cI cJ cZ t0 sv ax ar ao ad vrd vtr vsd vrn vom voh vol vop voe vow vok vos vso vmi vco vex p1 p2 p3 p4 h_101) (y_cwV 4 hts (inW_13 _ (List.mem_of_getElem? (i := 17) rfl)) (inW_13 _ (List.mem_of_getElem? (i := 18) rfl)) (inW_13 _ (List.mem_of_getElem? (i := 19) rfl)) (inW_1 _ (List.mem_of_getElem? (i := 25) rfl)) (inW_4 _ (List.mem_of_getElem? (i := 38) rfl)) rfl rfl (by decide +kernel) ⟨Nat.le_of_ble_eq_true rfl, Nat.le_of_ble_eq_true rfl⟩) hK (y_nil (P := fun w => va_P D vwCl w H) hP) (y_nil (P := fun w => va_D A w) hD) hS hA hY 0 rfl rfl rfl hl.1 rfl (Nat.le_of_ble_eq_true rfl) dL_apply_6 ⟨Nat.le_of_ble_eq_true rfl, Nat.le_of_ble_eq_true rfl⟩ [⟨0, 9, 12, 13⟩] ⟨0, 9, 16, 15⟩ [⟨0, 9, 20, 21⟩] (by rw [htab]; rfl) (fun z hz => by
    rcases List.mem_cons.mp hz with h | hz
    · rw [h]; exact Or.inr ⟨by decide, _, hts _ (inW_13 _ (List.mem_of_getElem? (i := 10) rfl)), hY.2.2.2.2.2.1⟩
    cases hz) (by decide) (by decide) (inW_13 _ (List.mem_of_getElem? (i := 11) rfl)) yc_IA (fun H locs q9 hP hD hS => ?_)
  have hP : va_P D vwCl (xw cR ax ar ao ad vrd vtr vsd vrn vom voh vol vop voe vow vok vos vso vmi vco vex) H := y_unnil (P := fun w => va_P D vwCl w H) hP
  have hD : va_D A (xw cR ax ar ao ad vrd vtr vsd vrn vom voh vol vop voe vow vok vos vso vmi vco vex) := y_unnil (P := fun w => va_D A w) hD
  show W p l e _ s m args below meth c H locs 4 24 Q (F0 m 16 ls [.ref q9])
  refine lv_astore (lv' := [(5, .ref q9), (0, .ref ax), (1, .int p1), (2, .int p2), (3, .int p3), (4, .int p4)]) hx hb dL_apply_16 hl (by decide) rfl (fun ls hl => ?_)
  refine lv_iconst (v := 2) hx hb dL_apply_18 (by decide) ?_
  have e9 := Eq.symm hu; subst e9
  exact z_iret hx hb hr hlocks hQ hK hP hD hS rfl (Nat.le_of_ble_eq_true rfl) (Nat.le_of_ble_eq_true rfl) rfl dL_apply_19

def F_L_apply_b5 (vrd : Int32) (vtr : Int32) (vsd : Int32) (vom : Bool) (voh : Int64) (vol : Int64) (vop : Int32) (voe : Bool) (vow : Int32) (vok : Int64) (vos : Int32) (vso : Nat → Int32) (vmi : Nat → Bool) (vco : Nat → Int64) (vex : Nat → Int32) (p1 : Int32) (p2 : Int32) (p3 : Int32) (p4 : Int32) : Int32 × Int32 × Int32 × Bool × Int64 × Int64 × Int32 × Bool × Int32 × Int64 × Int32 × (Nat → Int32) × (Nat → Bool) × (Nat → Int64) × (Nat → Int32) := (bnd (F_X3_apply_b5 vrd vtr vsd vom voh vol vop voe vow vok vos vso vmi vco vex p1 p2 p3 p4) (fun u102 : Int32 × Int32 × Bool × Int64 × Int64 × Int32 × Bool × Int32 × Int64 × Int32 × (Nat → Int32) × (Nat → Bool) × (Nat → Int64) × (Nat → Int32) => (3, u102.1, u102.2.1, u102.2.2.1, u102.2.2.2.1, u102.2.2.2.2.1, u102.2.2.2.2.2.1, u102.2.2.2.2.2.2.1, u102.2.2.2.2.2.2.2.1, u102.2.2.2.2.2.2.2.2.1, u102.2.2.2.2.2.2.2.2.2.1, u102.2.2.2.2.2.2.2.2.2.2.1, u102.2.2.2.2.2.2.2.2.2.2.2.1, u102.2.2.2.2.2.2.2.2.2.2.2.2.1, u102.2.2.2.2.2.2.2.2.2.2.2.2.2)))
def RF_L_apply_b5 (vrd : Int32) (vtr : Int32) (vsd : Int32) (vom : Bool) (voh : Int64) (vol : Int64) (vop : Int32) (voe : Bool) (vow : Int32) (vok : Int64) (vos : Int32) (vso : Nat → Int32) (vmi : Nat → Bool) (vco : Nat → Int64) (vex : Nat → Int32) (p1 : Int32) (p2 : Int32) (p3 : Int32) (p4 : Int32) (u9 : Int32 × Int32 × Int32 × Bool × Int64 × Int64 × Int32 × Bool × Int32 × Int64 × Int32 × (Nat → Int32) × (Nat → Bool) × (Nat → Int64) × (Nat → Int32)) : Prop := (∀ u102 : Int32 × Int32 × Bool × Int64 × Int64 × Int32 × Bool × Int32 × Int64 × Int32 × (Nat → Int32) × (Nat → Bool) × (Nat → Int64) × (Nat → Int32), u102 = F_X3_apply_b5 vrd vtr vsd vom voh vol vop voe vow vok vos vso vmi vco vex p1 p2 p3 p4 → u9 = (3, u102.1, u102.2.1, u102.2.2.1, u102.2.2.2.1, u102.2.2.2.2.1, u102.2.2.2.2.2.1, u102.2.2.2.2.2.2.1, u102.2.2.2.2.2.2.2.1, u102.2.2.2.2.2.2.2.2.1, u102.2.2.2.2.2.2.2.2.2.1, u102.2.2.2.2.2.2.2.2.2.2.1, u102.2.2.2.2.2.2.2.2.2.2.2.1, u102.2.2.2.2.2.2.2.2.2.2.2.2.1, u102.2.2.2.2.2.2.2.2.2.2.2.2.2))
theorem rF_L_apply_b5 (vrd : Int32) (vtr : Int32) (vsd : Int32) (vom : Bool) (voh : Int64) (vol : Int64) (vop : Int32) (voe : Bool) (vow : Int32) (vok : Int64) (vos : Int32) (vso : Nat → Int32) (vmi : Nat → Bool) (vco : Nat → Int64) (vex : Nat → Int32) (p1 : Int32) (p2 : Int32) (p3 : Int32) (p4 : Int32) {u9 : Int32 × Int32 × Int32 × Bool × Int64 × Int64 × Int32 × Bool × Int32 × Int64 × Int32 × (Nat → Int32) × (Nat → Bool) × (Nat → Int64) × (Nat → Int32)} (hu : u9 = F_L_apply_b5 vrd vtr vsd vom voh vol vop voe vow vok vos vso vmi vco vex p1 p2 p3 p4) : RF_L_apply_b5 vrd vtr vsd vom voh vol vop voe vow vok vos vso vmi vco vex p1 p2 p3 p4 u9 := by
  unfold RF_L_apply_b5
  intro u102 eu102
  have hu := bnd_n hu eu102
  exact hu
def S_L_apply_b5 (vrd : Int32) (vtr : Int32) (vsd : Int32) (vom : Bool) (voh : Int64) (vol : Int64) (vop : Int32) (voe : Bool) (vow : Int32) (vok : Int64) (vos : Int32) (vso : Nat → Int32) (vmi : Nat → Bool) (vco : Nat → Int64) (vex : Nat → Int32) (p1 : Int32) (p2 : Int32) (p3 : Int32) (p4 : Int32) : Prop := S_X3_apply_b5 vrd vtr vsd vom voh vol vop voe vow vok vos vso vmi vco vex p1 p2 p3 p4
set_option maxHeartbeats 4000000 in
set_option maxRecDepth 100000 in
theorem c_L_apply_b5 (l : Launch) (hl0 : l.stackTraces = false) (D : va_G) (cR cI cJ cZ : ClassId) (t0 : Nat) (sv : Nat → Nat) (ax ar ao : Nat) (ad : Nat → Nat) (vrd : Int32) (vtr : Int32) (vsd : Int32) (vrn : Int32) (vom : Bool) (voh : Int64) (vol : Int64) (vop : Int32) (voe : Bool) (vow : Int32) (vok : Int64) (vos : Int32) (vso : Nat → Int32) (vmi : Nat → Bool) (vco : Nat → Int64) (vex : Nat → Int32) (p1 : Int32) (p2 : Int32) (p3 : Int32) (p4 : Int32) (u : Int32 × Int32 × Int32 × Bool × Int64 × Int64 × Int32 × Bool × Int32 × Int64 × Int32 × (Nat → Int32) × (Nat → Bool) × (Nat → Int64) × (Nat → Int32)) (hu : u = F_L_apply_b5 vrd vtr vsd vom voh vol vop voe vow vok vos vso vmi vco vex p1 p2 p3 p4) (hs : S_L_apply_b5 vrd vtr vsd vom voh vol vop voe vow vok vos vso vmi vco vex p1 p2 p3 p4) : XL l D (xty cR cI cJ cZ) t0 sv yL_apply cL_apply 6 (some .int) [(0, 9, 12, 13), (0, 9, 16, 15), (0, 9, 20, 21)] rm_L_apply 4 [.ref ax, .int p1, .int p2, .int p3, .int p4] (some (.int u.1)) (xw cR ax ar ao ad vrd vtr vsd vrn vom voh vol vop voe vow vok vos vso vmi vco vex) (xw cR ax ar ao ad vrd vtr u.2.1 u.2.2.1 u.2.2.2.1 u.2.2.2.2.1 u.2.2.2.2.2.1 u.2.2.2.2.2.2.1 u.2.2.2.2.2.2.2.1 u.2.2.2.2.2.2.2.2.1 u.2.2.2.2.2.2.2.2.2.1 u.2.2.2.2.2.2.2.2.2.2.1 u.2.2.2.2.2.2.2.2.2.2.2.1 u.2.2.2.2.2.2.2.2.2.2.2.2.1 u.2.2.2.2.2.2.2.2.2.2.2.2.2.1 u.2.2.2.2.2.2.2.2.2.2.2.2.2.2) := by
  refine XL.of (by decide) (Nat.le_of_ble_eq_true rfl) ?_
  intro p e s m args below meth c A Q F htab hK hP hD hA hY hS hQ ls hl
  have hSt := hY.1
  obtain ⟨hx, hb, hr, hts, hown, hlocks, hml⟩ := F
  have hCF : CallFix p m c cL_apply 6 s args gW RL := ⟨hx, hb, hml, hown, hts⟩
  unfold S_L_apply_b5 at hs
  have hu := rF_L_apply_b5 vrd vtr vsd vom voh vol vop voe vow vok vos vso vmi vco vex p1 p2 p3 p4 hu
  unfold RF_L_apply_b5 at hu
  obtain ⟨H, eH⟩ : ∃ y9 : Heap, y9 = s.heap := ⟨_, rfl⟩
  obtain ⟨locs, eL⟩ : ∃ y9 : List Loc, y9 = [] := ⟨_, rfl⟩
  rw [← eL] at hS ⊢
  have hP : va_P D vwCl (xw cR ax ar ao ad vrd vtr vsd vrn vom voh vol vop voe vow vok vos vso vmi vco vex) H := by rw [eH]; exact hP
  have hS : va_S A s.heap H locs := by rw [eH]; exact hS
  suffices goal9 : W p l e rm_L_apply s m args below meth c H locs 0 0 Q (F0 m 0 ls []) from by rw [← eH]; exact goal9
  have hl : lv_has ls 6 [(0, .ref ax), (1, .int p1), (2, .int p2), (3, .int p3), (4, .int p4)] := hl
  refine lv_aload_n hx hb dL_apply_0 rfl (lv_at hl 0 rfl) ?_
  refine lv_iload_n hx hb dL_apply_1 rfl (lv_at hl 1 rfl) ?_
  refine lv_iload_n hx hb dL_apply_2 rfl (lv_at hl 2 rfl) ?_
  refine lv_iload_n hx hb dL_apply_3 rfl (lv_at hl 3 rfl) ?_
  refine lv_iload hx hb dL_apply_4 (lv_at hl 4 rfl) ?_
  have h_101 := hs
  obtain ⟨u102, eu102⟩ : ∃ y9 : Int32 × Int32 × Bool × Int64 × Int64 × Int32 × Bool × Int32 × Int64 × Int32 × (Nat → Int32) × (Nat → Bool) × (Nat → Int64) × (Nat → Int32), y9 = F_X3_apply_b5 vrd vtr vsd vom voh vol vop voe vow vok vos vso vmi vco vex p1 p2 p3 p4 := ⟨_, rfl⟩
  have hu := hu _ eu102
  refine y_Vcat (As := [.int p1, .int p2, .int p3, .int p4]) (rest := []) (wf := []) hCF (c_X3_apply_b5 l hl0 D cR cI cJ cZ t0 sv ax ar ao ad vrd vtr vsd vrn vom voh vol vop voe vow vok vos vso vmi vco vex p1 p2 p3 p4 u102 eu102 h_101) (y_cwV 4 hts (inW_13 _ (List.mem_of_getElem? (i := 17) rfl)) (inW_13 _ (List.mem_of_getElem? (i := 18) rfl)) (inW_13 _ (List.mem_of_getElem? (i := 19) rfl)) (inW_1 _ (List.mem_of_getElem? (i := 25) rfl)) (inW_4 _ (List.mem_of_getElem? (i := 38) rfl)) rfl rfl (by decide +kernel) ⟨Nat.le_of_ble_eq_true rfl, Nat.le_of_ble_eq_true rfl⟩) hK (y_nil (P := fun w => va_P D vwCl w H) hP) (y_nil (P := fun w => va_D A w) hD) hS hA hY 0 rfl rfl rfl hl.1 rfl (Nat.le_of_ble_eq_true rfl) dL_apply_6 ⟨Nat.le_of_ble_eq_true rfl, Nat.le_of_ble_eq_true rfl⟩ [⟨0, 9, 12, 13⟩, ⟨0, 9, 16, 15⟩] ⟨0, 9, 20, 21⟩ [] (by rw [htab]; rfl) (fun z hz => by
    rcases List.mem_cons.mp hz with h | hz
    · rw [h]; exact Or.inr ⟨by decide, _, hts _ (inW_13 _ (List.mem_of_getElem? (i := 10) rfl)), hY.2.2.2.2.2.2.1⟩
    rcases List.mem_cons.mp hz with h | hz
    · rw [h]; exact Or.inr ⟨by decide, _, hts _ (inW_13 _ (List.mem_of_getElem? (i := 11) rfl)), hY.2.2.2.2.2.2.2⟩
    cases hz) (by decide) (by decide) (inW_13 _ (List.mem_of_getElem? (i := 16) rfl)) yc_AE (fun H locs q9 hP hD hS => ?_)
  have hP : va_P D vwCl (xw cR ax ar ao ad vrd vtr u102.1 u102.2.1 u102.2.2.1 u102.2.2.2.1 u102.2.2.2.2.1 u102.2.2.2.2.2.1 u102.2.2.2.2.2.2.1 u102.2.2.2.2.2.2.2.1 u102.2.2.2.2.2.2.2.2.1 u102.2.2.2.2.2.2.2.2.2.1 u102.2.2.2.2.2.2.2.2.2.2.1 u102.2.2.2.2.2.2.2.2.2.2.2.1 u102.2.2.2.2.2.2.2.2.2.2.2.2.1 u102.2.2.2.2.2.2.2.2.2.2.2.2.2) H := y_unnil (P := fun w => va_P D vwCl w H) hP
  have hD : va_D A (xw cR ax ar ao ad vrd vtr u102.1 u102.2.1 u102.2.2.1 u102.2.2.2.1 u102.2.2.2.2.1 u102.2.2.2.2.2.1 u102.2.2.2.2.2.2.1 u102.2.2.2.2.2.2.2.1 u102.2.2.2.2.2.2.2.2.1 u102.2.2.2.2.2.2.2.2.2.1 u102.2.2.2.2.2.2.2.2.2.2.1 u102.2.2.2.2.2.2.2.2.2.2.2.1 u102.2.2.2.2.2.2.2.2.2.2.2.2.1 u102.2.2.2.2.2.2.2.2.2.2.2.2.2) := y_unnil (P := fun w => va_D A w) hD
  show W p l e _ s m args below meth c H locs 4 24 Q (F0 m 20 ls [.ref q9])
  refine lv_astore (lv' := [(5, .ref q9), (0, .ref ax), (1, .int p1), (2, .int p2), (3, .int p3), (4, .int p4)]) hx hb dL_apply_20 hl (by decide) rfl (fun ls hl => ?_)
  refine lv_iconst (v := 3) hx hb dL_apply_22 (by decide) ?_
  have e9 := Eq.symm hu; subst e9
  exact z_iret hx hb hr hlocks hQ hK hP hD hS rfl (Nat.le_of_ble_eq_true rfl) (Nat.le_of_ble_eq_true rfl) rfl dL_apply_23

def F_L_pack_ok (vso : Nat → Int32) (vmi : Nat → Bool) (vco : Nat → Int64) (vex : Nat → Int32) (vou : Nat → Int64) (p1 : Int32) (p2 : Int32) : Int32 × (Nat → Int64) := (bnd (F_X3_pack_ok vso vmi vco vex p1 p2) (fun u102 : Int64 => (bnd (va_up vou (0 : Int32).toNatClampNeg u102) (fun w105 : Nat → Int64 => (0, w105)))))
def RF_L_pack_ok (vso : Nat → Int32) (vmi : Nat → Bool) (vco : Nat → Int64) (vex : Nat → Int32) (vou : Nat → Int64) (p1 : Int32) (p2 : Int32) (u9 : Int32 × (Nat → Int64)) : Prop := (∀ u102 : Int64, u102 = F_X3_pack_ok vso vmi vco vex p1 p2 → (∀ w105 : Nat → Int64, w105 = va_up vou (0 : Int32).toNatClampNeg u102 → u9 = (0, w105)))
theorem rF_L_pack_ok (vso : Nat → Int32) (vmi : Nat → Bool) (vco : Nat → Int64) (vex : Nat → Int32) (vou : Nat → Int64) (p1 : Int32) (p2 : Int32) {u9 : Int32 × (Nat → Int64)} (hu : u9 = F_L_pack_ok vso vmi vco vex vou p1 p2) : RF_L_pack_ok vso vmi vco vex vou p1 p2 u9 := by
  unfold RF_L_pack_ok
  intro u102 eu102
  have hu := bnd_n hu eu102
  intro w105 ew105
  have hu := bnd_n hu ew105
  exact hu
def S_L_pack_ok (vso : Nat → Int32) (vmi : Nat → Bool) (vco : Nat → Int64) (vex : Nat → Int32) (vou : Nat → Int64) (p1 : Int32) (p2 : Int32) : Prop := (S_X3_pack_ok vso vmi vco vex p1 p2) ∧ (∀ u102 : Int64, u102 = F_X3_pack_ok vso vmi vco vex p1 p2 → vp_in (0 : Int32) 1)
def rm_L_pack : Room := { frames := 8, cells := 2, slots := 12, locals := 132 }
set_option maxHeartbeats 4000000 in
set_option maxRecDepth 100000 in
theorem c_L_pack_ok (l : Launch) (hl0 : l.stackTraces = false) (D : va_G) (cR cI cJ cZ : ClassId) (t0 : Nat) (sv : Nat → Nat) (ax ar ao : Nat) (ad : Nat → Nat) (aw : Nat) (vrd : Int32) (vtr : Int32) (vsd : Int32) (vrn : Int32) (vom : Bool) (voh : Int64) (vol : Int64) (vop : Int32) (voe : Bool) (vow : Int32) (vok : Int64) (vos : Int32) (vso : Nat → Int32) (vmi : Nat → Bool) (vco : Nat → Int64) (vex : Nat → Int32) (vou : Nat → Int64) (p1 : Int32) (p2 : Int32) (u : Int32 × (Nat → Int64)) (hu : u = F_L_pack_ok vso vmi vco vex vou p1 p2) (hs : S_L_pack_ok vso vmi vco vex vou p1 p2) : XL l D (xty cR cI cJ cZ) t0 sv yL_pack cL_pack 5 (some .int) [(0, 9, 12, 13), (0, 9, 16, 15)] rm_L_pack 2 [.ref ax, .int p1, .int p2, .ref aw] (some (.int u.1)) (xw cR ax ar ao ad vrd vtr vsd vrn vom voh vol vop voe vow vok vos vso vmi vco vex ++ [(aw, .inl (cJ, 1, .inr (.inl vou)))]) (xw cR ax ar ao ad vrd vtr vsd vrn vom voh vol vop voe vow vok vos vso vmi vco vex ++ [(aw, .inl (cJ, 1, .inr (.inl u.2)))]) := by
  refine XL.of (by decide) (Nat.le_of_ble_eq_true rfl) ?_
  intro p e s m args below meth c A Q F htab hK hP hD hA hY hS hQ ls hl
  have hSt := hY.1
  obtain ⟨hx, hb, hr, hts, hown, hlocks, hml⟩ := F
  have hCF : CallFix p m c cL_pack 5 s args gW RL := ⟨hx, hb, hml, hown, hts⟩
  unfold S_L_pack_ok at hs
  have hu := rF_L_pack_ok vso vmi vco vex vou p1 p2 hu
  unfold RF_L_pack_ok at hu
  obtain ⟨H, eH⟩ : ∃ y9 : Heap, y9 = s.heap := ⟨_, rfl⟩
  obtain ⟨locs, eL⟩ : ∃ y9 : List Loc, y9 = [] := ⟨_, rfl⟩
  rw [← eL] at hS ⊢
  have hP : va_P D vwCl (xw cR ax ar ao ad vrd vtr vsd vrn vom voh vol vop voe vow vok vos vso vmi vco vex ++ [(aw, .inl (cJ, 1, .inr (.inl vou)))]) H := by rw [eH]; exact hP
  have hS : va_S A s.heap H locs := by rw [eH]; exact hS
  suffices goal9 : W p l e rm_L_pack s m args below meth c H locs 0 0 Q (F0 m 0 ls []) from by rw [← eH]; exact goal9
  have hl : lv_has ls 5 [(0, .ref ax), (1, .int p1), (2, .int p2), (3, .ref aw)] := hl
  refine lv_aload_n hx hb dL_pack_0 rfl (lv_at hl 3 rfl) ?_
  refine lv_iconst (v := 0) hx hb dL_pack_1 (by decide) ?_
  refine lv_aload_n hx hb dL_pack_2 rfl (lv_at hl 0 rfl) ?_
  refine lv_iload_n hx hb dL_pack_3 rfl (lv_at hl 1 rfl) ?_
  refine lv_iload_n hx hb dL_pack_4 rfl (lv_at hl 2 rfl) ?_
  obtain ⟨h_101, hs⟩ := hs
  obtain ⟨u102, eu102⟩ : ∃ y9 : Int64, y9 = F_X3_pack_ok vso vmi vco vex p1 p2 := ⟨_, rfl⟩
  have hs := hs _ eu102
  have hu := hu _ eu102
  refine y_Vok (As := [.int p1, .int p2]) (rest := [.int 0, .ref aw]) (wf := [(aw, .inl (cJ, 1, .inr (.inl vou)))]) hCF (c_X3_pack_ok l hl0 D cR cI cJ cZ t0 sv ax ar ao ad vrd vtr vsd vrn vom voh vol vop voe vow vok vos vso vmi vco vex p1 p2 u102 eu102 h_101) (y_cwV 2 hts (inW_13 _ (List.mem_of_getElem? (i := 37) rfl)) (inW_13 _ (List.mem_of_getElem? (i := 38) rfl)) (inW_13 _ (List.mem_of_getElem? (i := 39) rfl)) (inW_1 _ (List.mem_of_getElem? (i := 25) rfl)) (inW_8 _ (List.mem_of_getElem? (i := 12) rfl)) rfl rfl (by decide +kernel) ⟨Nat.le_of_ble_eq_true rfl, Nat.le_of_ble_eq_true rfl⟩) hK hP hD hS hA hY 0 rfl rfl rfl hl.1 rfl (Nat.le_of_ble_eq_true rfl) dL_pack_5 ⟨Nat.le_of_ble_eq_true rfl, Nat.le_of_ble_eq_true rfl⟩ (fun H locs hP hD hS => ?_)
  have hP : va_P D vwCl (xw cR ax ar ao ad vrd vtr vsd vrn vom voh vol vop voe vow vok vos vso vmi vco vex ++ [(aw, .inl (cJ, 1, .inr (.inl vou)))]) H := hP
  have hD : va_D A (xw cR ax ar ao ad vrd vtr vsd vrn vom voh vol vop voe vow vok vos vso vmi vco vex ++ [(aw, .inl (cJ, 1, .inr (.inl vou)))]) := hD
  show W p l e _ s m args below meth c H locs 2 12 Q (F0 m 8 ls (.long u102 :: [.int 0, .ref aw]))
  have h_104 := hs
  refine va_last hx hb hK hP hD hS 12 2 rfl rfl h_104 dL_pack_8 (fun H locs hP hD hS => ?_)
  obtain ⟨w105, ew105⟩ : ∃ y9 : Nat → Int64, y9 = va_up vou (0 : Int32).toNatClampNeg u102 := ⟨_, rfl⟩
  have hu := hu _ ew105
  have hP : va_P D vwCl (xw cR ax ar ao ad vrd vtr vsd vrn vom voh vol vop voe vow vok vos vso vmi vco vex ++ [(aw, .inl (cJ, 1, .inr (.inl w105)))]) H := by rw [ew105]; exact hP
  have hD : va_D A (xw cR ax ar ao ad vrd vtr vsd vrn vom voh vol vop voe vow vok vos vso vmi vco vex ++ [(aw, .inl (cJ, 1, .inr (.inl w105)))]) := by rw [ew105]; exact hD
  refine lv_goto (tgt := 20) hx hb dL_pack_9 (by decide) ?_
  refine lv_iconst (v := 0) hx hb dL_pack_20 (by decide) ?_
  have e9 := Eq.symm hu; subst e9
  exact z_iret hx hb hr hlocks hQ hK hP hD hS rfl (Nat.le_of_ble_eq_true rfl) (Nat.le_of_ble_eq_true rfl) rfl dL_pack_21

def F_L_pack_b0  (p1 : Int32) (p2 : Int32) : Int32 := 1
def RF_L_pack_b0  (p1 : Int32) (p2 : Int32) (u9 : Int32) : Prop := u9 = 1
theorem rF_L_pack_b0  (p1 : Int32) (p2 : Int32) {u9 : Int32} (hu : u9 = F_L_pack_b0 p1 p2) : RF_L_pack_b0 p1 p2 u9 := by
  unfold RF_L_pack_b0
  exact hu
def S_L_pack_b0  (p1 : Int32) (p2 : Int32) : Prop := S_X3_pack_b0 p1 p2
set_option maxHeartbeats 4000000 in
set_option maxRecDepth 100000 in
theorem c_L_pack_b0 (l : Launch) (hl0 : l.stackTraces = false) (D : va_G) (cR cI cJ cZ : ClassId) (t0 : Nat) (sv : Nat → Nat) (ax ar ao : Nat) (ad : Nat → Nat) (aw : Nat) (vrd : Int32) (vtr : Int32) (vsd : Int32) (vrn : Int32) (vom : Bool) (voh : Int64) (vol : Int64) (vop : Int32) (voe : Bool) (vow : Int32) (vok : Int64) (vos : Int32) (vso : Nat → Int32) (vmi : Nat → Bool) (vco : Nat → Int64) (vex : Nat → Int32) (vou : Nat → Int64) (p1 : Int32) (p2 : Int32) (u : Int32) (hu : u = F_L_pack_b0 p1 p2) (hs : S_L_pack_b0 p1 p2) : XL l D (xty cR cI cJ cZ) t0 sv yL_pack cL_pack 5 (some .int) [(0, 9, 12, 13), (0, 9, 16, 15)] rm_L_pack 2 [.ref ax, .int p1, .int p2, .ref aw] (some (.int u)) (xw cR ax ar ao ad vrd vtr vsd vrn vom voh vol vop voe vow vok vos vso vmi vco vex ++ [(aw, .inl (cJ, 1, .inr (.inl vou)))]) (xw cR ax ar ao ad vrd vtr vsd vrn vom voh vol vop voe vow vok vos vso vmi vco vex ++ [(aw, .inl (cJ, 1, .inr (.inl vou)))]) := by
  refine XL.of (by decide) (Nat.le_of_ble_eq_true rfl) ?_
  intro p e s m args below meth c A Q F htab hK hP hD hA hY hS hQ ls hl
  have hSt := hY.1
  obtain ⟨hx, hb, hr, hts, hown, hlocks, hml⟩ := F
  have hCF : CallFix p m c cL_pack 5 s args gW RL := ⟨hx, hb, hml, hown, hts⟩
  unfold S_L_pack_b0 at hs
  have hu := rF_L_pack_b0 p1 p2 hu
  unfold RF_L_pack_b0 at hu
  obtain ⟨H, eH⟩ : ∃ y9 : Heap, y9 = s.heap := ⟨_, rfl⟩
  obtain ⟨locs, eL⟩ : ∃ y9 : List Loc, y9 = [] := ⟨_, rfl⟩
  rw [← eL] at hS ⊢
  have hP : va_P D vwCl (xw cR ax ar ao ad vrd vtr vsd vrn vom voh vol vop voe vow vok vos vso vmi vco vex ++ [(aw, .inl (cJ, 1, .inr (.inl vou)))]) H := by rw [eH]; exact hP
  have hS : va_S A s.heap H locs := by rw [eH]; exact hS
  suffices goal9 : W p l e rm_L_pack s m args below meth c H locs 0 0 Q (F0 m 0 ls []) from by rw [← eH]; exact goal9
  have hl : lv_has ls 5 [(0, .ref ax), (1, .int p1), (2, .int p2), (3, .ref aw)] := hl
  refine lv_aload_n hx hb dL_pack_0 rfl (lv_at hl 3 rfl) ?_
  refine lv_iconst (v := 0) hx hb dL_pack_1 (by decide) ?_
  refine lv_aload_n hx hb dL_pack_2 rfl (lv_at hl 0 rfl) ?_
  refine lv_iload_n hx hb dL_pack_3 rfl (lv_at hl 1 rfl) ?_
  refine lv_iload_n hx hb dL_pack_4 rfl (lv_at hl 2 rfl) ?_
  have h_101 := hs
  refine y_Vcat (As := [.int p1, .int p2]) (rest := [.int 0, .ref aw]) (wf := [(aw, .inl (cJ, 1, .inr (.inl vou)))]) hCF (c_X3_pack_b0 l hl0 D cR cI cJ cZ t0 sv ax ar ao ad vrd vtr vsd vrn vom voh vol vop voe vow vok vos vso vmi vco vex p1 p2 h_101) (y_cwV 2 hts (inW_13 _ (List.mem_of_getElem? (i := 37) rfl)) (inW_13 _ (List.mem_of_getElem? (i := 38) rfl)) (inW_13 _ (List.mem_of_getElem? (i := 39) rfl)) (inW_1 _ (List.mem_of_getElem? (i := 25) rfl)) (inW_8 _ (List.mem_of_getElem? (i := 12) rfl)) rfl rfl (by decide +kernel) ⟨Nat.le_of_ble_eq_true rfl, Nat.le_of_ble_eq_true rfl⟩) hK hP hD hS hA hY 0 rfl rfl rfl hl.1 rfl (Nat.le_of_ble_eq_true rfl) dL_pack_5 ⟨Nat.le_of_ble_eq_true rfl, Nat.le_of_ble_eq_true rfl⟩ [] ⟨0, 9, 12, 13⟩ [⟨0, 9, 16, 15⟩] (by rw [htab]; rfl) (fun z hz => by cases hz) (by decide) (by decide) (inW_13 _ (List.mem_of_getElem? (i := 10) rfl)) yc_IO (fun H locs q9 hP hD hS => ?_)
  have hP : va_P D vwCl (xw cR ax ar ao ad vrd vtr vsd vrn vom voh vol vop voe vow vok vos vso vmi vco vex ++ [(aw, .inl (cJ, 1, .inr (.inl vou)))]) H := hP
  have hD : va_D A (xw cR ax ar ao ad vrd vtr vsd vrn vom voh vol vop voe vow vok vos vso vmi vco vex ++ [(aw, .inl (cJ, 1, .inr (.inl vou)))]) := hD
  show W p l e _ s m args below meth c H locs 2 12 Q (F0 m 12 ls [.ref q9])
  refine lv_astore (lv' := [(4, .ref q9), (0, .ref ax), (1, .int p1), (2, .int p2), (3, .ref aw)]) hx hb dL_pack_12 hl (by decide) rfl (fun ls hl => ?_)
  refine lv_iconst (v := 1) hx hb dL_pack_14 (by decide) ?_
  have e9 := Eq.symm hu; subst e9
  exact z_iret hx hb hr hlocks hQ hK hP hD hS rfl (Nat.le_of_ble_eq_true rfl) (Nat.le_of_ble_eq_true rfl) rfl dL_pack_15

def F_L_pack_b1  (p1 : Int32) (p2 : Int32) : Int32 := 2
def RF_L_pack_b1  (p1 : Int32) (p2 : Int32) (u9 : Int32) : Prop := u9 = 2
theorem rF_L_pack_b1  (p1 : Int32) (p2 : Int32) {u9 : Int32} (hu : u9 = F_L_pack_b1 p1 p2) : RF_L_pack_b1 p1 p2 u9 := by
  unfold RF_L_pack_b1
  exact hu
def S_L_pack_b1  (p1 : Int32) (p2 : Int32) : Prop := S_X3_pack_b1 p1 p2
set_option maxHeartbeats 4000000 in
set_option maxRecDepth 100000 in
theorem c_L_pack_b1 (l : Launch) (hl0 : l.stackTraces = false) (D : va_G) (cR cI cJ cZ : ClassId) (t0 : Nat) (sv : Nat → Nat) (ax ar ao : Nat) (ad : Nat → Nat) (aw : Nat) (vrd : Int32) (vtr : Int32) (vsd : Int32) (vrn : Int32) (vom : Bool) (voh : Int64) (vol : Int64) (vop : Int32) (voe : Bool) (vow : Int32) (vok : Int64) (vos : Int32) (vso : Nat → Int32) (vmi : Nat → Bool) (vco : Nat → Int64) (vex : Nat → Int32) (vou : Nat → Int64) (p1 : Int32) (p2 : Int32) (u : Int32) (hu : u = F_L_pack_b1 p1 p2) (hs : S_L_pack_b1 p1 p2) : XL l D (xty cR cI cJ cZ) t0 sv yL_pack cL_pack 5 (some .int) [(0, 9, 12, 13), (0, 9, 16, 15)] rm_L_pack 2 [.ref ax, .int p1, .int p2, .ref aw] (some (.int u)) (xw cR ax ar ao ad vrd vtr vsd vrn vom voh vol vop voe vow vok vos vso vmi vco vex ++ [(aw, .inl (cJ, 1, .inr (.inl vou)))]) (xw cR ax ar ao ad vrd vtr vsd vrn vom voh vol vop voe vow vok vos vso vmi vco vex ++ [(aw, .inl (cJ, 1, .inr (.inl vou)))]) := by
  refine XL.of (by decide) (Nat.le_of_ble_eq_true rfl) ?_
  intro p e s m args below meth c A Q F htab hK hP hD hA hY hS hQ ls hl
  have hSt := hY.1
  obtain ⟨hx, hb, hr, hts, hown, hlocks, hml⟩ := F
  have hCF : CallFix p m c cL_pack 5 s args gW RL := ⟨hx, hb, hml, hown, hts⟩
  unfold S_L_pack_b1 at hs
  have hu := rF_L_pack_b1 p1 p2 hu
  unfold RF_L_pack_b1 at hu
  obtain ⟨H, eH⟩ : ∃ y9 : Heap, y9 = s.heap := ⟨_, rfl⟩
  obtain ⟨locs, eL⟩ : ∃ y9 : List Loc, y9 = [] := ⟨_, rfl⟩
  rw [← eL] at hS ⊢
  have hP : va_P D vwCl (xw cR ax ar ao ad vrd vtr vsd vrn vom voh vol vop voe vow vok vos vso vmi vco vex ++ [(aw, .inl (cJ, 1, .inr (.inl vou)))]) H := by rw [eH]; exact hP
  have hS : va_S A s.heap H locs := by rw [eH]; exact hS
  suffices goal9 : W p l e rm_L_pack s m args below meth c H locs 0 0 Q (F0 m 0 ls []) from by rw [← eH]; exact goal9
  have hl : lv_has ls 5 [(0, .ref ax), (1, .int p1), (2, .int p2), (3, .ref aw)] := hl
  refine lv_aload_n hx hb dL_pack_0 rfl (lv_at hl 3 rfl) ?_
  refine lv_iconst (v := 0) hx hb dL_pack_1 (by decide) ?_
  refine lv_aload_n hx hb dL_pack_2 rfl (lv_at hl 0 rfl) ?_
  refine lv_iload_n hx hb dL_pack_3 rfl (lv_at hl 1 rfl) ?_
  refine lv_iload_n hx hb dL_pack_4 rfl (lv_at hl 2 rfl) ?_
  have h_101 := hs
  refine y_Vcat (As := [.int p1, .int p2]) (rest := [.int 0, .ref aw]) (wf := [(aw, .inl (cJ, 1, .inr (.inl vou)))]) hCF (c_X3_pack_b1 l hl0 D cR cI cJ cZ t0 sv ax ar ao ad vrd vtr vsd vrn vom voh vol vop voe vow vok vos vso vmi vco vex p1 p2 h_101) (y_cwV 2 hts (inW_13 _ (List.mem_of_getElem? (i := 37) rfl)) (inW_13 _ (List.mem_of_getElem? (i := 38) rfl)) (inW_13 _ (List.mem_of_getElem? (i := 39) rfl)) (inW_1 _ (List.mem_of_getElem? (i := 25) rfl)) (inW_8 _ (List.mem_of_getElem? (i := 12) rfl)) rfl rfl (by decide +kernel) ⟨Nat.le_of_ble_eq_true rfl, Nat.le_of_ble_eq_true rfl⟩) hK hP hD hS hA hY 0 rfl rfl rfl hl.1 rfl (Nat.le_of_ble_eq_true rfl) dL_pack_5 ⟨Nat.le_of_ble_eq_true rfl, Nat.le_of_ble_eq_true rfl⟩ [⟨0, 9, 12, 13⟩] ⟨0, 9, 16, 15⟩ [] (by rw [htab]; rfl) (fun z hz => by
    rcases List.mem_cons.mp hz with h | hz
    · rw [h]; exact Or.inr ⟨by decide, _, hts _ (inW_13 _ (List.mem_of_getElem? (i := 10) rfl)), hY.2.2.2.2.2.1⟩
    cases hz) (by decide) (by decide) (inW_13 _ (List.mem_of_getElem? (i := 11) rfl)) yc_IA (fun H locs q9 hP hD hS => ?_)
  have hP : va_P D vwCl (xw cR ax ar ao ad vrd vtr vsd vrn vom voh vol vop voe vow vok vos vso vmi vco vex ++ [(aw, .inl (cJ, 1, .inr (.inl vou)))]) H := hP
  have hD : va_D A (xw cR ax ar ao ad vrd vtr vsd vrn vom voh vol vop voe vow vok vos vso vmi vco vex ++ [(aw, .inl (cJ, 1, .inr (.inl vou)))]) := hD
  show W p l e _ s m args below meth c H locs 2 12 Q (F0 m 16 ls [.ref q9])
  refine lv_astore (lv' := [(4, .ref q9), (0, .ref ax), (1, .int p1), (2, .int p2), (3, .ref aw)]) hx hb dL_pack_16 hl (by decide) rfl (fun ls hl => ?_)
  refine lv_iconst (v := 2) hx hb dL_pack_18 (by decide) ?_
  have e9 := Eq.symm hu; subst e9
  exact z_iret hx hb hr hlocks hQ hK hP hD hS rfl (Nat.le_of_ble_eq_true rfl) (Nat.le_of_ble_eq_true rfl) rfl dL_pack_19

def F_L_unpack_ok (vso : Nat → Int32) (vmi : Nat → Bool) (vco : Nat → Int64) (vex : Nat → Int32) (p1 : Int32) (p2 : Int32) (p3 : Int64) : Int32 × (Nat → Int32) × (Nat → Bool) × (Nat → Int64) × (Nat → Int32) := (bnd (F_X3_unpack_ok vso vmi vco vex p1 p2 p3) (fun u102 : (Nat → Int32) × (Nat → Bool) × (Nat → Int64) × (Nat → Int32) => (0, u102.1, u102.2.1, u102.2.2.1, u102.2.2.2)))
def RF_L_unpack_ok (vso : Nat → Int32) (vmi : Nat → Bool) (vco : Nat → Int64) (vex : Nat → Int32) (p1 : Int32) (p2 : Int32) (p3 : Int64) (u9 : Int32 × (Nat → Int32) × (Nat → Bool) × (Nat → Int64) × (Nat → Int32)) : Prop := (∀ u102 : (Nat → Int32) × (Nat → Bool) × (Nat → Int64) × (Nat → Int32), u102 = F_X3_unpack_ok vso vmi vco vex p1 p2 p3 → u9 = (0, u102.1, u102.2.1, u102.2.2.1, u102.2.2.2))
theorem rF_L_unpack_ok (vso : Nat → Int32) (vmi : Nat → Bool) (vco : Nat → Int64) (vex : Nat → Int32) (p1 : Int32) (p2 : Int32) (p3 : Int64) {u9 : Int32 × (Nat → Int32) × (Nat → Bool) × (Nat → Int64) × (Nat → Int32)} (hu : u9 = F_L_unpack_ok vso vmi vco vex p1 p2 p3) : RF_L_unpack_ok vso vmi vco vex p1 p2 p3 u9 := by
  unfold RF_L_unpack_ok
  intro u102 eu102
  have hu := bnd_n hu eu102
  exact hu
def S_L_unpack_ok (vso : Nat → Int32) (vmi : Nat → Bool) (vco : Nat → Int64) (vex : Nat → Int32) (p1 : Int32) (p2 : Int32) (p3 : Int64) : Prop := S_X3_unpack_ok vso vmi vco vex p1 p2 p3
def rm_L_unpack : Room := { frames := 8, cells := 2, slots := 12, locals := 145 }
set_option maxHeartbeats 4000000 in
set_option maxRecDepth 100000 in
theorem c_L_unpack_ok (l : Launch) (hl0 : l.stackTraces = false) (D : va_G) (cR cI cJ cZ : ClassId) (t0 : Nat) (sv : Nat → Nat) (ax ar ao : Nat) (ad : Nat → Nat) (vrd : Int32) (vtr : Int32) (vsd : Int32) (vrn : Int32) (vom : Bool) (voh : Int64) (vol : Int64) (vop : Int32) (voe : Bool) (vow : Int32) (vok : Int64) (vos : Int32) (vso : Nat → Int32) (vmi : Nat → Bool) (vco : Nat → Int64) (vex : Nat → Int32) (p1 : Int32) (p2 : Int32) (p3 : Int64) (u : Int32 × (Nat → Int32) × (Nat → Bool) × (Nat → Int64) × (Nat → Int32)) (hu : u = F_L_unpack_ok vso vmi vco vex p1 p2 p3) (hs : S_L_unpack_ok vso vmi vco vex p1 p2 p3) : XL l D (xty cR cI cJ cZ) t0 sv yL_unpack cL_unpack 6 (some .int) [(0, 7, 10, 13), (0, 7, 14, 15)] rm_L_unpack 2 [.ref ax, .int p1, .int p2, .long p3] (some (.int u.1)) (xw cR ax ar ao ad vrd vtr vsd vrn vom voh vol vop voe vow vok vos vso vmi vco vex) (xw cR ax ar ao ad vrd vtr vsd vrn vom voh vol vop voe vow vok vos u.2.1 u.2.2.1 u.2.2.2.1 u.2.2.2.2) := by
  refine XL.of (by decide) (Nat.le_of_ble_eq_true rfl) ?_
  intro p e s m args below meth c A Q F htab hK hP hD hA hY hS hQ ls hl
  have hSt := hY.1
  obtain ⟨hx, hb, hr, hts, hown, hlocks, hml⟩ := F
  have hCF : CallFix p m c cL_unpack 6 s args gW RL := ⟨hx, hb, hml, hown, hts⟩
  unfold S_L_unpack_ok at hs
  have hu := rF_L_unpack_ok vso vmi vco vex p1 p2 p3 hu
  unfold RF_L_unpack_ok at hu
  obtain ⟨H, eH⟩ : ∃ y9 : Heap, y9 = s.heap := ⟨_, rfl⟩
  obtain ⟨locs, eL⟩ : ∃ y9 : List Loc, y9 = [] := ⟨_, rfl⟩
  rw [← eL] at hS ⊢
  have hP : va_P D vwCl (xw cR ax ar ao ad vrd vtr vsd vrn vom voh vol vop voe vow vok vos vso vmi vco vex) H := by rw [eH]; exact hP
  have hS : va_S A s.heap H locs := by rw [eH]; exact hS
  suffices goal9 : W p l e rm_L_unpack s m args below meth c H locs 0 0 Q (F0 m 0 ls []) from by rw [← eH]; exact goal9
  have hl : lv_has ls 6 [(0, .ref ax), (1, .int p1), (2, .int p2), (3, .long p3)] := hl
  refine lv_aload_n hx hb dL_unpack_0 rfl (lv_at hl 0 rfl) ?_
  refine lv_iload_n hx hb dL_unpack_1 rfl (lv_at hl 1 rfl) ?_
  refine lv_iload_n hx hb dL_unpack_2 rfl (lv_at hl 2 rfl) ?_
  refine lv_lload_n hx hb dL_unpack_3 rfl (lv_at hl 3 rfl) ?_
  have h_101 := hs
  obtain ⟨u102, eu102⟩ : ∃ y9 : (Nat → Int32) × (Nat → Bool) × (Nat → Int64) × (Nat → Int32), y9 = F_X3_unpack_ok vso vmi vco vex p1 p2 p3 := ⟨_, rfl⟩
  have hu := hu _ eu102
  refine y_Vok (As := [.int p1, .int p2, .long p3]) (rest := []) (wf := []) hCF (c_X3_unpack_ok l hl0 D cR cI cJ cZ t0 sv ax ar ao ad vrd vtr vsd vrn vom voh vol vop voe vow vok vos vso vmi vco vex p1 p2 p3 u102 eu102 h_101) (y_cwV 3 hts (inW_14 _ (List.mem_of_getElem? (i := 1) rfl)) (inW_14 _ (List.mem_of_getElem? (i := 2) rfl)) (inW_14 _ (List.mem_of_getElem? (i := 3) rfl)) (inW_1 _ (List.mem_of_getElem? (i := 25) rfl)) (inW_8 _ (List.mem_of_getElem? (i := 18) rfl)) rfl rfl (by decide +kernel) ⟨Nat.le_of_ble_eq_true rfl, Nat.le_of_ble_eq_true rfl⟩) hK (y_nil (P := fun w => va_P D vwCl w H) hP) (y_nil (P := fun w => va_D A w) hD) hS hA hY 0 rfl rfl rfl hl.1 rfl (Nat.le_of_ble_eq_true rfl) dL_unpack_4 ⟨Nat.le_of_ble_eq_true rfl, Nat.le_of_ble_eq_true rfl⟩ (fun H locs hP hD hS => ?_)
  have hP : va_P D vwCl (xw cR ax ar ao ad vrd vtr vsd vrn vom voh vol vop voe vow vok vos u102.1 u102.2.1 u102.2.2.1 u102.2.2.2) H := y_unnil (P := fun w => va_P D vwCl w H) hP
  have hD : va_D A (xw cR ax ar ao ad vrd vtr vsd vrn vom voh vol vop voe vow vok vos u102.1 u102.2.1 u102.2.2.1 u102.2.2.2) := y_unnil (P := fun w => va_D A w) hD
  show W p l e _ s m args below meth c H locs 2 12 Q (F0 m 7 ls [])
  refine lv_goto (tgt := 18) hx hb dL_unpack_7 (by decide) ?_
  refine lv_iconst (v := 0) hx hb dL_unpack_18 (by decide) ?_
  have e9 := Eq.symm hu; subst e9
  exact z_iret hx hb hr hlocks hQ hK hP hD hS rfl (Nat.le_of_ble_eq_true rfl) (Nat.le_of_ble_eq_true rfl) rfl dL_unpack_19

def F_L_unpack_b0  (p1 : Int32) (p2 : Int32) (p3 : Int64) : Int32 := 1
def RF_L_unpack_b0  (p1 : Int32) (p2 : Int32) (p3 : Int64) (u9 : Int32) : Prop := u9 = 1
theorem rF_L_unpack_b0  (p1 : Int32) (p2 : Int32) (p3 : Int64) {u9 : Int32} (hu : u9 = F_L_unpack_b0 p1 p2 p3) : RF_L_unpack_b0 p1 p2 p3 u9 := by
  unfold RF_L_unpack_b0
  exact hu
def S_L_unpack_b0  (p1 : Int32) (p2 : Int32) (p3 : Int64) : Prop := S_X3_unpack_b0 p1 p2 p3
set_option maxHeartbeats 4000000 in
set_option maxRecDepth 100000 in
theorem c_L_unpack_b0 (l : Launch) (hl0 : l.stackTraces = false) (D : va_G) (cR cI cJ cZ : ClassId) (t0 : Nat) (sv : Nat → Nat) (ax ar ao : Nat) (ad : Nat → Nat) (vrd : Int32) (vtr : Int32) (vsd : Int32) (vrn : Int32) (vom : Bool) (voh : Int64) (vol : Int64) (vop : Int32) (voe : Bool) (vow : Int32) (vok : Int64) (vos : Int32) (vso : Nat → Int32) (vmi : Nat → Bool) (vco : Nat → Int64) (vex : Nat → Int32) (p1 : Int32) (p2 : Int32) (p3 : Int64) (u : Int32) (hu : u = F_L_unpack_b0 p1 p2 p3) (hs : S_L_unpack_b0 p1 p2 p3) : XL l D (xty cR cI cJ cZ) t0 sv yL_unpack cL_unpack 6 (some .int) [(0, 7, 10, 13), (0, 7, 14, 15)] rm_L_unpack 2 [.ref ax, .int p1, .int p2, .long p3] (some (.int u)) (xw cR ax ar ao ad vrd vtr vsd vrn vom voh vol vop voe vow vok vos vso vmi vco vex) (xw cR ax ar ao ad vrd vtr vsd vrn vom voh vol vop voe vow vok vos vso vmi vco vex) := by
  refine XL.of (by decide) (Nat.le_of_ble_eq_true rfl) ?_
  intro p e s m args below meth c A Q F htab hK hP hD hA hY hS hQ ls hl
  have hSt := hY.1
  obtain ⟨hx, hb, hr, hts, hown, hlocks, hml⟩ := F
  have hCF : CallFix p m c cL_unpack 6 s args gW RL := ⟨hx, hb, hml, hown, hts⟩
  unfold S_L_unpack_b0 at hs
  have hu := rF_L_unpack_b0 p1 p2 p3 hu
  unfold RF_L_unpack_b0 at hu
  obtain ⟨H, eH⟩ : ∃ y9 : Heap, y9 = s.heap := ⟨_, rfl⟩
  obtain ⟨locs, eL⟩ : ∃ y9 : List Loc, y9 = [] := ⟨_, rfl⟩
  rw [← eL] at hS ⊢
  have hP : va_P D vwCl (xw cR ax ar ao ad vrd vtr vsd vrn vom voh vol vop voe vow vok vos vso vmi vco vex) H := by rw [eH]; exact hP
  have hS : va_S A s.heap H locs := by rw [eH]; exact hS
  suffices goal9 : W p l e rm_L_unpack s m args below meth c H locs 0 0 Q (F0 m 0 ls []) from by rw [← eH]; exact goal9
  have hl : lv_has ls 6 [(0, .ref ax), (1, .int p1), (2, .int p2), (3, .long p3)] := hl
  refine lv_aload_n hx hb dL_unpack_0 rfl (lv_at hl 0 rfl) ?_
  refine lv_iload_n hx hb dL_unpack_1 rfl (lv_at hl 1 rfl) ?_
  refine lv_iload_n hx hb dL_unpack_2 rfl (lv_at hl 2 rfl) ?_
  refine lv_lload_n hx hb dL_unpack_3 rfl (lv_at hl 3 rfl) ?_
  have h_101 := hs
  refine y_Vcat (As := [.int p1, .int p2, .long p3]) (rest := []) (wf := []) hCF (c_X3_unpack_b0 l hl0 D cR cI cJ cZ t0 sv ax ar ao ad vrd vtr vsd vrn vom voh vol vop voe vow vok vos vso vmi vco vex p1 p2 p3 h_101) (y_cwV 3 hts (inW_14 _ (List.mem_of_getElem? (i := 1) rfl)) (inW_14 _ (List.mem_of_getElem? (i := 2) rfl)) (inW_14 _ (List.mem_of_getElem? (i := 3) rfl)) (inW_1 _ (List.mem_of_getElem? (i := 25) rfl)) (inW_8 _ (List.mem_of_getElem? (i := 18) rfl)) rfl rfl (by decide +kernel) ⟨Nat.le_of_ble_eq_true rfl, Nat.le_of_ble_eq_true rfl⟩) hK (y_nil (P := fun w => va_P D vwCl w H) hP) (y_nil (P := fun w => va_D A w) hD) hS hA hY 0 rfl rfl rfl hl.1 rfl (Nat.le_of_ble_eq_true rfl) dL_unpack_4 ⟨Nat.le_of_ble_eq_true rfl, Nat.le_of_ble_eq_true rfl⟩ [] ⟨0, 7, 10, 13⟩ [⟨0, 7, 14, 15⟩] (by rw [htab]; rfl) (fun z hz => by cases hz) (by decide) (by decide) (inW_13 _ (List.mem_of_getElem? (i := 10) rfl)) yc_IO (fun H locs q9 hP hD hS => ?_)
  have hP : va_P D vwCl (xw cR ax ar ao ad vrd vtr vsd vrn vom voh vol vop voe vow vok vos vso vmi vco vex) H := y_unnil (P := fun w => va_P D vwCl w H) hP
  have hD : va_D A (xw cR ax ar ao ad vrd vtr vsd vrn vom voh vol vop voe vow vok vos vso vmi vco vex) := y_unnil (P := fun w => va_D A w) hD
  show W p l e _ s m args below meth c H locs 2 12 Q (F0 m 10 ls [.ref q9])
  refine lv_astore (lv' := [(5, .ref q9), (0, .ref ax), (1, .int p1), (2, .int p2), (3, .long p3)]) hx hb dL_unpack_10 hl (by decide) rfl (fun ls hl => ?_)
  refine lv_iconst (v := 1) hx hb dL_unpack_12 (by decide) ?_
  have e9 := Eq.symm hu; subst e9
  exact z_iret hx hb hr hlocks hQ hK hP hD hS rfl (Nat.le_of_ble_eq_true rfl) (Nat.le_of_ble_eq_true rfl) rfl dL_unpack_13

def F_L_unpack_b1  (p1 : Int32) (p2 : Int32) (p3 : Int64) : Int32 := 2
def RF_L_unpack_b1  (p1 : Int32) (p2 : Int32) (p3 : Int64) (u9 : Int32) : Prop := u9 = 2
theorem rF_L_unpack_b1  (p1 : Int32) (p2 : Int32) (p3 : Int64) {u9 : Int32} (hu : u9 = F_L_unpack_b1 p1 p2 p3) : RF_L_unpack_b1 p1 p2 p3 u9 := by
  unfold RF_L_unpack_b1
  exact hu
def S_L_unpack_b1  (p1 : Int32) (p2 : Int32) (p3 : Int64) : Prop := S_X3_unpack_b1 p1 p2 p3
set_option maxHeartbeats 4000000 in
set_option maxRecDepth 100000 in
theorem c_L_unpack_b1 (l : Launch) (hl0 : l.stackTraces = false) (D : va_G) (cR cI cJ cZ : ClassId) (t0 : Nat) (sv : Nat → Nat) (ax ar ao : Nat) (ad : Nat → Nat) (vrd : Int32) (vtr : Int32) (vsd : Int32) (vrn : Int32) (vom : Bool) (voh : Int64) (vol : Int64) (vop : Int32) (voe : Bool) (vow : Int32) (vok : Int64) (vos : Int32) (vso : Nat → Int32) (vmi : Nat → Bool) (vco : Nat → Int64) (vex : Nat → Int32) (p1 : Int32) (p2 : Int32) (p3 : Int64) (u : Int32) (hu : u = F_L_unpack_b1 p1 p2 p3) (hs : S_L_unpack_b1 p1 p2 p3) : XL l D (xty cR cI cJ cZ) t0 sv yL_unpack cL_unpack 6 (some .int) [(0, 7, 10, 13), (0, 7, 14, 15)] rm_L_unpack 2 [.ref ax, .int p1, .int p2, .long p3] (some (.int u)) (xw cR ax ar ao ad vrd vtr vsd vrn vom voh vol vop voe vow vok vos vso vmi vco vex) (xw cR ax ar ao ad vrd vtr vsd vrn vom voh vol vop voe vow vok vos vso vmi vco vex) := by
  refine XL.of (by decide) (Nat.le_of_ble_eq_true rfl) ?_
  intro p e s m args below meth c A Q F htab hK hP hD hA hY hS hQ ls hl
  have hSt := hY.1
  obtain ⟨hx, hb, hr, hts, hown, hlocks, hml⟩ := F
  have hCF : CallFix p m c cL_unpack 6 s args gW RL := ⟨hx, hb, hml, hown, hts⟩
  unfold S_L_unpack_b1 at hs
  have hu := rF_L_unpack_b1 p1 p2 p3 hu
  unfold RF_L_unpack_b1 at hu
  obtain ⟨H, eH⟩ : ∃ y9 : Heap, y9 = s.heap := ⟨_, rfl⟩
  obtain ⟨locs, eL⟩ : ∃ y9 : List Loc, y9 = [] := ⟨_, rfl⟩
  rw [← eL] at hS ⊢
  have hP : va_P D vwCl (xw cR ax ar ao ad vrd vtr vsd vrn vom voh vol vop voe vow vok vos vso vmi vco vex) H := by rw [eH]; exact hP
  have hS : va_S A s.heap H locs := by rw [eH]; exact hS
  suffices goal9 : W p l e rm_L_unpack s m args below meth c H locs 0 0 Q (F0 m 0 ls []) from by rw [← eH]; exact goal9
  have hl : lv_has ls 6 [(0, .ref ax), (1, .int p1), (2, .int p2), (3, .long p3)] := hl
  refine lv_aload_n hx hb dL_unpack_0 rfl (lv_at hl 0 rfl) ?_
  refine lv_iload_n hx hb dL_unpack_1 rfl (lv_at hl 1 rfl) ?_
  refine lv_iload_n hx hb dL_unpack_2 rfl (lv_at hl 2 rfl) ?_
  refine lv_lload_n hx hb dL_unpack_3 rfl (lv_at hl 3 rfl) ?_
  have h_101 := hs
  refine y_Vcat (As := [.int p1, .int p2, .long p3]) (rest := []) (wf := []) hCF (c_X3_unpack_b1 l hl0 D cR cI cJ cZ t0 sv ax ar ao ad vrd vtr vsd vrn vom voh vol vop voe vow vok vos vso vmi vco vex p1 p2 p3 h_101) (y_cwV 3 hts (inW_14 _ (List.mem_of_getElem? (i := 1) rfl)) (inW_14 _ (List.mem_of_getElem? (i := 2) rfl)) (inW_14 _ (List.mem_of_getElem? (i := 3) rfl)) (inW_1 _ (List.mem_of_getElem? (i := 25) rfl)) (inW_8 _ (List.mem_of_getElem? (i := 18) rfl)) rfl rfl (by decide +kernel) ⟨Nat.le_of_ble_eq_true rfl, Nat.le_of_ble_eq_true rfl⟩) hK (y_nil (P := fun w => va_P D vwCl w H) hP) (y_nil (P := fun w => va_D A w) hD) hS hA hY 0 rfl rfl rfl hl.1 rfl (Nat.le_of_ble_eq_true rfl) dL_unpack_4 ⟨Nat.le_of_ble_eq_true rfl, Nat.le_of_ble_eq_true rfl⟩ [⟨0, 7, 10, 13⟩] ⟨0, 7, 14, 15⟩ [] (by rw [htab]; rfl) (fun z hz => by
    rcases List.mem_cons.mp hz with h | hz
    · rw [h]; exact Or.inr ⟨by decide, _, hts _ (inW_13 _ (List.mem_of_getElem? (i := 10) rfl)), hY.2.2.2.2.2.1⟩
    cases hz) (by decide) (by decide) (inW_13 _ (List.mem_of_getElem? (i := 11) rfl)) yc_IA (fun H locs q9 hP hD hS => ?_)
  have hP : va_P D vwCl (xw cR ax ar ao ad vrd vtr vsd vrn vom voh vol vop voe vow vok vos vso vmi vco vex) H := y_unnil (P := fun w => va_P D vwCl w H) hP
  have hD : va_D A (xw cR ax ar ao ad vrd vtr vsd vrn vom voh vol vop voe vow vok vos vso vmi vco vex) := y_unnil (P := fun w => va_D A w) hD
  show W p l e _ s m args below meth c H locs 2 12 Q (F0 m 14 ls [.ref q9])
  refine lv_astore (lv' := [(5, .ref q9), (0, .ref ax), (1, .int p1), (2, .int p2), (3, .long p3)]) hx hb dL_unpack_14 hl (by decide) rfl (fun ls hl => ?_)
  refine lv_iconst (v := 2) hx hb dL_unpack_16 (by decide) ?_
  have e9 := Eq.symm hu; subst e9
  exact z_iret hx hb hr hlocks hQ hK hP hD hS rfl (Nat.le_of_ble_eq_true rfl) (Nat.le_of_ble_eq_true rfl) rfl dL_unpack_17

def F_L_sum_ok (vrd : Int32) (vtr : Int32) (vsd : Int32) (vrn : Int32) (vom : Bool) (voh : Int64) (vol : Int64) (vop : Int32) (voe : Bool) (vow : Int32) (vok : Int64) (vos : Int32) (vso : Nat → Int32) (vmi : Nat → Bool) (vco : Nat → Int64) (vex : Nat → Int32) (vou : Nat → Int64) (p1 : Int32) (p2 : Int32) (p3 : Int32) : Int32 × Int32 × Int32 × Bool × Int64 × Int64 × Int32 × Bool × Int32 × Int64 × Int32 × (Nat → Int32) × (Nat → Bool) × (Nat → Int64) × (Nat → Int32) × (Nat → Int64) := (bnd (F_X3_sum_ok vrd vtr vsd vrn vom voh vol vop voe vow vok vos vso vmi vco vex p1 p2 p3) (fun u102 : Int32 × Int32 × Int32 × Bool × Int64 × Int64 × Int32 × Bool × Int32 × Int64 × Int32 × (Nat → Int32) × (Nat → Bool) × (Nat → Int64) × (Nat → Int32) => (bnd (u102.1.toInt64) (fun f104 : Int64 => (bnd (va_up vou (0 : Int32).toNatClampNeg f104) (fun w106 : Nat → Int64 => (0, u102.2.1, u102.2.2.1, u102.2.2.2.1, u102.2.2.2.2.1, u102.2.2.2.2.2.1, u102.2.2.2.2.2.2.1, u102.2.2.2.2.2.2.2.1, u102.2.2.2.2.2.2.2.2.1, u102.2.2.2.2.2.2.2.2.2.1, u102.2.2.2.2.2.2.2.2.2.2.1, u102.2.2.2.2.2.2.2.2.2.2.2.1, u102.2.2.2.2.2.2.2.2.2.2.2.2.1, u102.2.2.2.2.2.2.2.2.2.2.2.2.2.1, u102.2.2.2.2.2.2.2.2.2.2.2.2.2.2, w106)))))))
def RF_L_sum_ok (vrd : Int32) (vtr : Int32) (vsd : Int32) (vrn : Int32) (vom : Bool) (voh : Int64) (vol : Int64) (vop : Int32) (voe : Bool) (vow : Int32) (vok : Int64) (vos : Int32) (vso : Nat → Int32) (vmi : Nat → Bool) (vco : Nat → Int64) (vex : Nat → Int32) (vou : Nat → Int64) (p1 : Int32) (p2 : Int32) (p3 : Int32) (u9 : Int32 × Int32 × Int32 × Bool × Int64 × Int64 × Int32 × Bool × Int32 × Int64 × Int32 × (Nat → Int32) × (Nat → Bool) × (Nat → Int64) × (Nat → Int32) × (Nat → Int64)) : Prop := (∀ u102 : Int32 × Int32 × Int32 × Bool × Int64 × Int64 × Int32 × Bool × Int32 × Int64 × Int32 × (Nat → Int32) × (Nat → Bool) × (Nat → Int64) × (Nat → Int32), u102 = F_X3_sum_ok vrd vtr vsd vrn vom voh vol vop voe vow vok vos vso vmi vco vex p1 p2 p3 → (∀ f104 : Int64, f104 = u102.1.toInt64 → (∀ w106 : Nat → Int64, w106 = va_up vou (0 : Int32).toNatClampNeg f104 → u9 = (0, u102.2.1, u102.2.2.1, u102.2.2.2.1, u102.2.2.2.2.1, u102.2.2.2.2.2.1, u102.2.2.2.2.2.2.1, u102.2.2.2.2.2.2.2.1, u102.2.2.2.2.2.2.2.2.1, u102.2.2.2.2.2.2.2.2.2.1, u102.2.2.2.2.2.2.2.2.2.2.1, u102.2.2.2.2.2.2.2.2.2.2.2.1, u102.2.2.2.2.2.2.2.2.2.2.2.2.1, u102.2.2.2.2.2.2.2.2.2.2.2.2.2.1, u102.2.2.2.2.2.2.2.2.2.2.2.2.2.2, w106))))
theorem rF_L_sum_ok (vrd : Int32) (vtr : Int32) (vsd : Int32) (vrn : Int32) (vom : Bool) (voh : Int64) (vol : Int64) (vop : Int32) (voe : Bool) (vow : Int32) (vok : Int64) (vos : Int32) (vso : Nat → Int32) (vmi : Nat → Bool) (vco : Nat → Int64) (vex : Nat → Int32) (vou : Nat → Int64) (p1 : Int32) (p2 : Int32) (p3 : Int32) {u9 : Int32 × Int32 × Int32 × Bool × Int64 × Int64 × Int32 × Bool × Int32 × Int64 × Int32 × (Nat → Int32) × (Nat → Bool) × (Nat → Int64) × (Nat → Int32) × (Nat → Int64)} (hu : u9 = F_L_sum_ok vrd vtr vsd vrn vom voh vol vop voe vow vok vos vso vmi vco vex vou p1 p2 p3) : RF_L_sum_ok vrd vtr vsd vrn vom voh vol vop voe vow vok vos vso vmi vco vex vou p1 p2 p3 u9 := by
  unfold RF_L_sum_ok
  intro u102 eu102
  have hu := bnd_n hu eu102
  intro f104 ef104
  have hu := bnd_n hu ef104
  intro w106 ew106
  have hu := bnd_n hu ew106
  exact hu
def S_L_sum_ok (vrd : Int32) (vtr : Int32) (vsd : Int32) (vrn : Int32) (vom : Bool) (voh : Int64) (vol : Int64) (vop : Int32) (voe : Bool) (vow : Int32) (vok : Int64) (vos : Int32) (vso : Nat → Int32) (vmi : Nat → Bool) (vco : Nat → Int64) (vex : Nat → Int32) (vou : Nat → Int64) (p1 : Int32) (p2 : Int32) (p3 : Int32) : Prop := (S_X3_sum_ok vrd vtr vsd vrn vom voh vol vop voe vow vok vos vso vmi vco vex p1 p2 p3) ∧ (∀ u102 : Int32 × Int32 × Int32 × Bool × Int64 × Int64 × Int32 × Bool × Int32 × Int64 × Int32 × (Nat → Int32) × (Nat → Bool) × (Nat → Int64) × (Nat → Int32), u102 = F_X3_sum_ok vrd vtr vsd vrn vom voh vol vop voe vow vok vos vso vmi vco vex p1 p2 p3 → (∀ f104 : Int64, f104 = u102.1.toInt64 → vp_in (0 : Int32) 1))
def rm_L_sum : Room := { frames := 8, cells := 3, slots := 18, locals := 191 }
set_option maxHeartbeats 4000000 in
set_option maxRecDepth 100000 in
theorem c_L_sum_ok (l : Launch) (hl0 : l.stackTraces = false) (D : va_G) (cR cI cJ cZ : ClassId) (t0 : Nat) (sv : Nat → Nat) (ax ar ao : Nat) (ad : Nat → Nat) (aw : Nat) (vrd : Int32) (vtr : Int32) (vsd : Int32) (vrn : Int32) (vom : Bool) (voh : Int64) (vol : Int64) (vop : Int32) (voe : Bool) (vow : Int32) (vok : Int64) (vos : Int32) (vso : Nat → Int32) (vmi : Nat → Bool) (vco : Nat → Int64) (vex : Nat → Int32) (vou : Nat → Int64) (p1 : Int32) (p2 : Int32) (p3 : Int32) (u : Int32 × Int32 × Int32 × Bool × Int64 × Int64 × Int32 × Bool × Int32 × Int64 × Int32 × (Nat → Int32) × (Nat → Bool) × (Nat → Int64) × (Nat → Int32) × (Nat → Int64)) (hu : u = F_L_sum_ok vrd vtr vsd vrn vom voh vol vop voe vow vok vos vso vmi vco vex vou p1 p2 p3) (hs : S_L_sum_ok vrd vtr vsd vrn vom voh vol vop voe vow vok vos vso vmi vco vex vou p1 p2 p3) : XL l D (xty cR cI cJ cZ) t0 sv yL_sum cL_sum 6 (some .int) [(0, 12, 15, 13)] rm_L_sum 3 [.ref ax, .int p1, .int p2, .int p3, .ref aw] (some (.int u.1)) (xw cR ax ar ao ad vrd vtr vsd vrn vom voh vol vop voe vow vok vos vso vmi vco vex ++ [(aw, .inl (cJ, 1, .inr (.inl vou)))]) (xw cR ax ar ao ad vrd vtr u.2.1 u.2.2.1 u.2.2.2.1 u.2.2.2.2.1 u.2.2.2.2.2.1 u.2.2.2.2.2.2.1 u.2.2.2.2.2.2.2.1 u.2.2.2.2.2.2.2.2.1 u.2.2.2.2.2.2.2.2.2.1 u.2.2.2.2.2.2.2.2.2.2.1 u.2.2.2.2.2.2.2.2.2.2.2.1 u.2.2.2.2.2.2.2.2.2.2.2.2.1 u.2.2.2.2.2.2.2.2.2.2.2.2.2.1 u.2.2.2.2.2.2.2.2.2.2.2.2.2.2.1 ++ [(aw, .inl (cJ, 1, .inr (.inl u.2.2.2.2.2.2.2.2.2.2.2.2.2.2.2)))]) := by
  refine XL.of (by decide) (Nat.le_of_ble_eq_true rfl) ?_
  intro p e s m args below meth c A Q F htab hK hP hD hA hY hS hQ ls hl
  have hSt := hY.1
  obtain ⟨hx, hb, hr, hts, hown, hlocks, hml⟩ := F
  have hCF : CallFix p m c cL_sum 6 s args gW RL := ⟨hx, hb, hml, hown, hts⟩
  unfold S_L_sum_ok at hs
  have hu := rF_L_sum_ok vrd vtr vsd vrn vom voh vol vop voe vow vok vos vso vmi vco vex vou p1 p2 p3 hu
  unfold RF_L_sum_ok at hu
  obtain ⟨H, eH⟩ : ∃ y9 : Heap, y9 = s.heap := ⟨_, rfl⟩
  obtain ⟨locs, eL⟩ : ∃ y9 : List Loc, y9 = [] := ⟨_, rfl⟩
  rw [← eL] at hS ⊢
  have hP : va_P D vwCl (xw cR ax ar ao ad vrd vtr vsd vrn vom voh vol vop voe vow vok vos vso vmi vco vex ++ [(aw, .inl (cJ, 1, .inr (.inl vou)))]) H := by rw [eH]; exact hP
  have hS : va_S A s.heap H locs := by rw [eH]; exact hS
  suffices goal9 : W p l e rm_L_sum s m args below meth c H locs 0 0 Q (F0 m 0 ls []) from by rw [← eH]; exact goal9
  have hl : lv_has ls 6 [(0, .ref ax), (1, .int p1), (2, .int p2), (3, .int p3), (4, .ref aw)] := hl
  refine lv_aload hx hb dL_sum_0 (lv_at hl 4 rfl) ?_
  refine lv_iconst (v := 0) hx hb dL_sum_2 (by decide) ?_
  refine lv_aload_n hx hb dL_sum_3 rfl (lv_at hl 0 rfl) ?_
  refine lv_iload_n hx hb dL_sum_4 rfl (lv_at hl 1 rfl) ?_
  refine lv_iload_n hx hb dL_sum_5 rfl (lv_at hl 2 rfl) ?_
  refine lv_iload_n hx hb dL_sum_6 rfl (lv_at hl 3 rfl) ?_
  obtain ⟨h_101, hs⟩ := hs
  obtain ⟨u102, eu102⟩ : ∃ y9 : Int32 × Int32 × Int32 × Bool × Int64 × Int64 × Int32 × Bool × Int32 × Int64 × Int32 × (Nat → Int32) × (Nat → Bool) × (Nat → Int64) × (Nat → Int32), y9 = F_X3_sum_ok vrd vtr vsd vrn vom voh vol vop voe vow vok vos vso vmi vco vex p1 p2 p3 := ⟨_, rfl⟩
  have hs := hs _ eu102
  have hu := hu _ eu102
  refine y_Vok (As := [.int p1, .int p2, .int p3]) (rest := [.int 0, .ref aw]) (wf := [(aw, .inl (cJ, 1, .inr (.inl vou)))]) hCF (c_X3_sum_ok l hl0 D cR cI cJ cZ t0 sv ax ar ao ad vrd vtr vsd vrn vom voh vol vop voe vow vok vos vso vmi vco vex p1 p2 p3 u102 eu102 h_101) (y_cwV 3 hts (inW_14 _ (List.mem_of_getElem? (i := 13) rfl)) (inW_14 _ (List.mem_of_getElem? (i := 14) rfl)) (inW_14 _ (List.mem_of_getElem? (i := 15) rfl)) (inW_1 _ (List.mem_of_getElem? (i := 25) rfl)) (inW_8 _ (List.mem_of_getElem? (i := 25) rfl)) rfl rfl (by decide +kernel) ⟨Nat.le_of_ble_eq_true rfl, Nat.le_of_ble_eq_true rfl⟩) hK hP hD hS hA hY 0 rfl rfl rfl hl.1 rfl (Nat.le_of_ble_eq_true rfl) dL_sum_7 ⟨Nat.le_of_ble_eq_true rfl, Nat.le_of_ble_eq_true rfl⟩ (fun H locs hP hD hS => ?_)
  have hP : va_P D vwCl (xw cR ax ar ao ad vrd vtr u102.2.1 u102.2.2.1 u102.2.2.2.1 u102.2.2.2.2.1 u102.2.2.2.2.2.1 u102.2.2.2.2.2.2.1 u102.2.2.2.2.2.2.2.1 u102.2.2.2.2.2.2.2.2.1 u102.2.2.2.2.2.2.2.2.2.1 u102.2.2.2.2.2.2.2.2.2.2.1 u102.2.2.2.2.2.2.2.2.2.2.2.1 u102.2.2.2.2.2.2.2.2.2.2.2.2.1 u102.2.2.2.2.2.2.2.2.2.2.2.2.2.1 u102.2.2.2.2.2.2.2.2.2.2.2.2.2.2 ++ [(aw, .inl (cJ, 1, .inr (.inl vou)))]) H := hP
  have hD : va_D A (xw cR ax ar ao ad vrd vtr u102.2.1 u102.2.2.1 u102.2.2.2.1 u102.2.2.2.2.1 u102.2.2.2.2.2.1 u102.2.2.2.2.2.2.1 u102.2.2.2.2.2.2.2.1 u102.2.2.2.2.2.2.2.2.1 u102.2.2.2.2.2.2.2.2.2.1 u102.2.2.2.2.2.2.2.2.2.2.1 u102.2.2.2.2.2.2.2.2.2.2.2.1 u102.2.2.2.2.2.2.2.2.2.2.2.2.1 u102.2.2.2.2.2.2.2.2.2.2.2.2.2.1 u102.2.2.2.2.2.2.2.2.2.2.2.2.2.2 ++ [(aw, .inl (cJ, 1, .inr (.inl vou)))]) := hD
  show W p l e _ s m args below meth c H locs 3 18 Q (F0 m 10 ls (.int u102.1 :: [.int 0, .ref aw]))
  refine x_i2l hx hb dL_sum_10 ?_
  refine lv_topl (fun f104 ef104 => ?_)
  have hs := hs _ ef104
  have hu := hu _ ef104
  have h_105 := hs
  refine va_last hx hb hK hP hD hS 12 2 rfl rfl h_105 dL_sum_11 (fun H locs hP hD hS => ?_)
  obtain ⟨w106, ew106⟩ : ∃ y9 : Nat → Int64, y9 = va_up vou (0 : Int32).toNatClampNeg f104 := ⟨_, rfl⟩
  have hu := hu _ ew106
  have hP : va_P D vwCl (xw cR ax ar ao ad vrd vtr u102.2.1 u102.2.2.1 u102.2.2.2.1 u102.2.2.2.2.1 u102.2.2.2.2.2.1 u102.2.2.2.2.2.2.1 u102.2.2.2.2.2.2.2.1 u102.2.2.2.2.2.2.2.2.1 u102.2.2.2.2.2.2.2.2.2.1 u102.2.2.2.2.2.2.2.2.2.2.1 u102.2.2.2.2.2.2.2.2.2.2.2.1 u102.2.2.2.2.2.2.2.2.2.2.2.2.1 u102.2.2.2.2.2.2.2.2.2.2.2.2.2.1 u102.2.2.2.2.2.2.2.2.2.2.2.2.2.2 ++ [(aw, .inl (cJ, 1, .inr (.inl w106)))]) H := by rw [ew106]; exact hP
  have hD : va_D A (xw cR ax ar ao ad vrd vtr u102.2.1 u102.2.2.1 u102.2.2.2.1 u102.2.2.2.2.1 u102.2.2.2.2.2.1 u102.2.2.2.2.2.2.1 u102.2.2.2.2.2.2.2.1 u102.2.2.2.2.2.2.2.2.1 u102.2.2.2.2.2.2.2.2.2.1 u102.2.2.2.2.2.2.2.2.2.2.1 u102.2.2.2.2.2.2.2.2.2.2.2.1 u102.2.2.2.2.2.2.2.2.2.2.2.2.1 u102.2.2.2.2.2.2.2.2.2.2.2.2.2.1 u102.2.2.2.2.2.2.2.2.2.2.2.2.2.2 ++ [(aw, .inl (cJ, 1, .inr (.inl w106)))]) := by rw [ew106]; exact hD
  refine lv_goto (tgt := 19) hx hb dL_sum_12 (by decide) ?_
  refine lv_iconst (v := 0) hx hb dL_sum_19 (by decide) ?_
  have e9 := Eq.symm hu; subst e9
  exact z_iret hx hb hr hlocks hQ hK hP hD hS rfl (Nat.le_of_ble_eq_true rfl) (Nat.le_of_ble_eq_true rfl) rfl dL_sum_20

def F_L_sum_b0  (p1 : Int32) (p2 : Int32) (p3 : Int32) : Int32 := 1
def RF_L_sum_b0  (p1 : Int32) (p2 : Int32) (p3 : Int32) (u9 : Int32) : Prop := u9 = 1
theorem rF_L_sum_b0  (p1 : Int32) (p2 : Int32) (p3 : Int32) {u9 : Int32} (hu : u9 = F_L_sum_b0 p1 p2 p3) : RF_L_sum_b0 p1 p2 p3 u9 := by
  unfold RF_L_sum_b0
  exact hu
def S_L_sum_b0  (p1 : Int32) (p2 : Int32) (p3 : Int32) : Prop := S_X3_sum_b0 p1 p2 p3
set_option maxHeartbeats 4000000 in
set_option maxRecDepth 100000 in
theorem c_L_sum_b0 (l : Launch) (hl0 : l.stackTraces = false) (D : va_G) (cR cI cJ cZ : ClassId) (t0 : Nat) (sv : Nat → Nat) (ax ar ao : Nat) (ad : Nat → Nat) (aw : Nat) (vrd : Int32) (vtr : Int32) (vsd : Int32) (vrn : Int32) (vom : Bool) (voh : Int64) (vol : Int64) (vop : Int32) (voe : Bool) (vow : Int32) (vok : Int64) (vos : Int32) (vso : Nat → Int32) (vmi : Nat → Bool) (vco : Nat → Int64) (vex : Nat → Int32) (vou : Nat → Int64) (p1 : Int32) (p2 : Int32) (p3 : Int32) (u : Int32) (hu : u = F_L_sum_b0 p1 p2 p3) (hs : S_L_sum_b0 p1 p2 p3) : XL l D (xty cR cI cJ cZ) t0 sv yL_sum cL_sum 6 (some .int) [(0, 12, 15, 13)] rm_L_sum 3 [.ref ax, .int p1, .int p2, .int p3, .ref aw] (some (.int u)) (xw cR ax ar ao ad vrd vtr vsd vrn vom voh vol vop voe vow vok vos vso vmi vco vex ++ [(aw, .inl (cJ, 1, .inr (.inl vou)))]) (xw cR ax ar ao ad vrd vtr vsd vrn vom voh vol vop voe vow vok vos vso vmi vco vex ++ [(aw, .inl (cJ, 1, .inr (.inl vou)))]) := by
  refine XL.of (by decide) (Nat.le_of_ble_eq_true rfl) ?_
  intro p e s m args below meth c A Q F htab hK hP hD hA hY hS hQ ls hl
  have hSt := hY.1
  obtain ⟨hx, hb, hr, hts, hown, hlocks, hml⟩ := F
  have hCF : CallFix p m c cL_sum 6 s args gW RL := ⟨hx, hb, hml, hown, hts⟩
  unfold S_L_sum_b0 at hs
  have hu := rF_L_sum_b0 p1 p2 p3 hu
  unfold RF_L_sum_b0 at hu
  obtain ⟨H, eH⟩ : ∃ y9 : Heap, y9 = s.heap := ⟨_, rfl⟩
  obtain ⟨locs, eL⟩ : ∃ y9 : List Loc, y9 = [] := ⟨_, rfl⟩
  rw [← eL] at hS ⊢
  have hP : va_P D vwCl (xw cR ax ar ao ad vrd vtr vsd vrn vom voh vol vop voe vow vok vos vso vmi vco vex ++ [(aw, .inl (cJ, 1, .inr (.inl vou)))]) H := by rw [eH]; exact hP
  have hS : va_S A s.heap H locs := by rw [eH]; exact hS
  suffices goal9 : W p l e rm_L_sum s m args below meth c H locs 0 0 Q (F0 m 0 ls []) from by rw [← eH]; exact goal9
  have hl : lv_has ls 6 [(0, .ref ax), (1, .int p1), (2, .int p2), (3, .int p3), (4, .ref aw)] := hl
  refine lv_aload hx hb dL_sum_0 (lv_at hl 4 rfl) ?_
  refine lv_iconst (v := 0) hx hb dL_sum_2 (by decide) ?_
  refine lv_aload_n hx hb dL_sum_3 rfl (lv_at hl 0 rfl) ?_
  refine lv_iload_n hx hb dL_sum_4 rfl (lv_at hl 1 rfl) ?_
  refine lv_iload_n hx hb dL_sum_5 rfl (lv_at hl 2 rfl) ?_
  refine lv_iload_n hx hb dL_sum_6 rfl (lv_at hl 3 rfl) ?_
  have h_101 := hs
  refine y_Vcat (As := [.int p1, .int p2, .int p3]) (rest := [.int 0, .ref aw]) (wf := [(aw, .inl (cJ, 1, .inr (.inl vou)))]) hCF (c_X3_sum_b0 l hl0 D cR cI cJ cZ t0 sv ax ar ao ad vrd vtr vsd vrn vom voh vol vop voe vow vok vos vso vmi vco vex p1 p2 p3 h_101) (y_cwV 3 hts (inW_14 _ (List.mem_of_getElem? (i := 13) rfl)) (inW_14 _ (List.mem_of_getElem? (i := 14) rfl)) (inW_14 _ (List.mem_of_getElem? (i := 15) rfl)) (inW_1 _ (List.mem_of_getElem? (i := 25) rfl)) (inW_8 _ (List.mem_of_getElem? (i := 25) rfl)) rfl rfl (by decide +kernel) ⟨Nat.le_of_ble_eq_true rfl, Nat.le_of_ble_eq_true rfl⟩) hK hP hD hS hA hY 0 rfl rfl rfl hl.1 rfl (Nat.le_of_ble_eq_true rfl) dL_sum_7 ⟨Nat.le_of_ble_eq_true rfl, Nat.le_of_ble_eq_true rfl⟩ [] ⟨0, 12, 15, 13⟩ [] (by rw [htab]; rfl) (fun z hz => by cases hz) (by decide) (by decide) (inW_13 _ (List.mem_of_getElem? (i := 10) rfl)) yc_IO (fun H locs q9 hP hD hS => ?_)
  have hP : va_P D vwCl (xw cR ax ar ao ad vrd vtr vsd vrn vom voh vol vop voe vow vok vos vso vmi vco vex ++ [(aw, .inl (cJ, 1, .inr (.inl vou)))]) H := hP
  have hD : va_D A (xw cR ax ar ao ad vrd vtr vsd vrn vom voh vol vop voe vow vok vos vso vmi vco vex ++ [(aw, .inl (cJ, 1, .inr (.inl vou)))]) := hD
  show W p l e _ s m args below meth c H locs 3 18 Q (F0 m 15 ls [.ref q9])
  refine lv_astore (lv' := [(5, .ref q9), (0, .ref ax), (1, .int p1), (2, .int p2), (3, .int p3), (4, .ref aw)]) hx hb dL_sum_15 hl (by decide) rfl (fun ls hl => ?_)
  refine lv_iconst (v := 1) hx hb dL_sum_17 (by decide) ?_
  have e9 := Eq.symm hu; subst e9
  exact z_iret hx hb hr hlocks hQ hK hP hD hS rfl (Nat.le_of_ble_eq_true rfl) (Nat.le_of_ble_eq_true rfl) rfl dL_sum_18

def F_L_sum_b1  (p1 : Int32) (p2 : Int32) (p3 : Int32) : Int32 := 1
def RF_L_sum_b1  (p1 : Int32) (p2 : Int32) (p3 : Int32) (u9 : Int32) : Prop := u9 = 1
theorem rF_L_sum_b1  (p1 : Int32) (p2 : Int32) (p3 : Int32) {u9 : Int32} (hu : u9 = F_L_sum_b1 p1 p2 p3) : RF_L_sum_b1 p1 p2 p3 u9 := by
  unfold RF_L_sum_b1
  exact hu
def S_L_sum_b1  (p1 : Int32) (p2 : Int32) (p3 : Int32) : Prop := S_X3_sum_b1 p1 p2 p3
set_option maxHeartbeats 4000000 in
set_option maxRecDepth 100000 in
theorem c_L_sum_b1 (l : Launch) (hl0 : l.stackTraces = false) (D : va_G) (cR cI cJ cZ : ClassId) (t0 : Nat) (sv : Nat → Nat) (ax ar ao : Nat) (ad : Nat → Nat) (aw : Nat) (vrd : Int32) (vtr : Int32) (vsd : Int32) (vrn : Int32) (vom : Bool) (voh : Int64) (vol : Int64) (vop : Int32) (voe : Bool) (vow : Int32) (vok : Int64) (vos : Int32) (vso : Nat → Int32) (vmi : Nat → Bool) (vco : Nat → Int64) (vex : Nat → Int32) (vou : Nat → Int64) (p1 : Int32) (p2 : Int32) (p3 : Int32) (u : Int32) (hu : u = F_L_sum_b1 p1 p2 p3) (hs : S_L_sum_b1 p1 p2 p3) : XL l D (xty cR cI cJ cZ) t0 sv yL_sum cL_sum 6 (some .int) [(0, 12, 15, 13)] rm_L_sum 3 [.ref ax, .int p1, .int p2, .int p3, .ref aw] (some (.int u)) (xw cR ax ar ao ad vrd vtr vsd vrn vom voh vol vop voe vow vok vos vso vmi vco vex ++ [(aw, .inl (cJ, 1, .inr (.inl vou)))]) (xw cR ax ar ao ad vrd vtr vsd vrn vom voh vol vop voe vow vok vos vso vmi vco vex ++ [(aw, .inl (cJ, 1, .inr (.inl vou)))]) := by
  refine XL.of (by decide) (Nat.le_of_ble_eq_true rfl) ?_
  intro p e s m args below meth c A Q F htab hK hP hD hA hY hS hQ ls hl
  have hSt := hY.1
  obtain ⟨hx, hb, hr, hts, hown, hlocks, hml⟩ := F
  have hCF : CallFix p m c cL_sum 6 s args gW RL := ⟨hx, hb, hml, hown, hts⟩
  unfold S_L_sum_b1 at hs
  have hu := rF_L_sum_b1 p1 p2 p3 hu
  unfold RF_L_sum_b1 at hu
  obtain ⟨H, eH⟩ : ∃ y9 : Heap, y9 = s.heap := ⟨_, rfl⟩
  obtain ⟨locs, eL⟩ : ∃ y9 : List Loc, y9 = [] := ⟨_, rfl⟩
  rw [← eL] at hS ⊢
  have hP : va_P D vwCl (xw cR ax ar ao ad vrd vtr vsd vrn vom voh vol vop voe vow vok vos vso vmi vco vex ++ [(aw, .inl (cJ, 1, .inr (.inl vou)))]) H := by rw [eH]; exact hP
  have hS : va_S A s.heap H locs := by rw [eH]; exact hS
  suffices goal9 : W p l e rm_L_sum s m args below meth c H locs 0 0 Q (F0 m 0 ls []) from by rw [← eH]; exact goal9
  have hl : lv_has ls 6 [(0, .ref ax), (1, .int p1), (2, .int p2), (3, .int p3), (4, .ref aw)] := hl
  refine lv_aload hx hb dL_sum_0 (lv_at hl 4 rfl) ?_
  refine lv_iconst (v := 0) hx hb dL_sum_2 (by decide) ?_
  refine lv_aload_n hx hb dL_sum_3 rfl (lv_at hl 0 rfl) ?_
  refine lv_iload_n hx hb dL_sum_4 rfl (lv_at hl 1 rfl) ?_
  refine lv_iload_n hx hb dL_sum_5 rfl (lv_at hl 2 rfl) ?_
  refine lv_iload_n hx hb dL_sum_6 rfl (lv_at hl 3 rfl) ?_
  have h_101 := hs
  refine y_Vcat (As := [.int p1, .int p2, .int p3]) (rest := [.int 0, .ref aw]) (wf := [(aw, .inl (cJ, 1, .inr (.inl vou)))]) hCF (c_X3_sum_b1 l hl0 D cR cI cJ cZ t0 sv ax ar ao ad vrd vtr vsd vrn vom voh vol vop voe vow vok vos vso vmi vco vex p1 p2 p3 h_101) (y_cwV 3 hts (inW_14 _ (List.mem_of_getElem? (i := 13) rfl)) (inW_14 _ (List.mem_of_getElem? (i := 14) rfl)) (inW_14 _ (List.mem_of_getElem? (i := 15) rfl)) (inW_1 _ (List.mem_of_getElem? (i := 25) rfl)) (inW_8 _ (List.mem_of_getElem? (i := 25) rfl)) rfl rfl (by decide +kernel) ⟨Nat.le_of_ble_eq_true rfl, Nat.le_of_ble_eq_true rfl⟩) hK hP hD hS hA hY 0 rfl rfl rfl hl.1 rfl (Nat.le_of_ble_eq_true rfl) dL_sum_7 ⟨Nat.le_of_ble_eq_true rfl, Nat.le_of_ble_eq_true rfl⟩ [] ⟨0, 12, 15, 13⟩ [] (by rw [htab]; rfl) (fun z hz => by cases hz) (by decide) (by decide) (inW_13 _ (List.mem_of_getElem? (i := 10) rfl)) yc_IO (fun H locs q9 hP hD hS => ?_)
  have hP : va_P D vwCl (xw cR ax ar ao ad vrd vtr vsd vrn vom voh vol vop voe vow vok vos vso vmi vco vex ++ [(aw, .inl (cJ, 1, .inr (.inl vou)))]) H := hP
  have hD : va_D A (xw cR ax ar ao ad vrd vtr vsd vrn vom voh vol vop voe vow vok vos vso vmi vco vex ++ [(aw, .inl (cJ, 1, .inr (.inl vou)))]) := hD
  show W p l e _ s m args below meth c H locs 3 18 Q (F0 m 15 ls [.ref q9])
  refine lv_astore (lv' := [(5, .ref q9), (0, .ref ax), (1, .int p1), (2, .int p2), (3, .int p3), (4, .ref aw)]) hx hb dL_sum_15 hl (by decide) rfl (fun ls hl => ?_)
  refine lv_iconst (v := 1) hx hb dL_sum_17 (by decide) ?_
  have e9 := Eq.symm hu; subst e9
  exact z_iret hx hb hr hlocks hQ hK hP hD hS rfl (Nat.le_of_ble_eq_true rfl) (Nat.le_of_ble_eq_true rfl) rfl dL_sum_18

def F_L_sum_b2  (p1 : Int32) (p2 : Int32) (p3 : Int32) : Int32 := 1
def RF_L_sum_b2  (p1 : Int32) (p2 : Int32) (p3 : Int32) (u9 : Int32) : Prop := u9 = 1
theorem rF_L_sum_b2  (p1 : Int32) (p2 : Int32) (p3 : Int32) {u9 : Int32} (hu : u9 = F_L_sum_b2 p1 p2 p3) : RF_L_sum_b2 p1 p2 p3 u9 := by
  unfold RF_L_sum_b2
  exact hu
def S_L_sum_b2  (p1 : Int32) (p2 : Int32) (p3 : Int32) : Prop := S_X3_sum_b2 p1 p2 p3
set_option maxHeartbeats 4000000 in
set_option maxRecDepth 100000 in
theorem c_L_sum_b2 (l : Launch) (hl0 : l.stackTraces = false) (D : va_G) (cR cI cJ cZ : ClassId) (t0 : Nat) (sv : Nat → Nat) (ax ar ao : Nat) (ad : Nat → Nat) (aw : Nat) (vrd : Int32) (vtr : Int32) (vsd : Int32) (vrn : Int32) (vom : Bool) (voh : Int64) (vol : Int64) (vop : Int32) (voe : Bool) (vow : Int32) (vok : Int64) (vos : Int32) (vso : Nat → Int32) (vmi : Nat → Bool) (vco : Nat → Int64) (vex : Nat → Int32) (vou : Nat → Int64) (p1 : Int32) (p2 : Int32) (p3 : Int32) (u : Int32) (hu : u = F_L_sum_b2 p1 p2 p3) (hs : S_L_sum_b2 p1 p2 p3) : XL l D (xty cR cI cJ cZ) t0 sv yL_sum cL_sum 6 (some .int) [(0, 12, 15, 13)] rm_L_sum 3 [.ref ax, .int p1, .int p2, .int p3, .ref aw] (some (.int u)) (xw cR ax ar ao ad vrd vtr vsd vrn vom voh vol vop voe vow vok vos vso vmi vco vex ++ [(aw, .inl (cJ, 1, .inr (.inl vou)))]) (xw cR ax ar ao ad vrd vtr vsd vrn vom voh vol vop voe vow vok vos vso vmi vco vex ++ [(aw, .inl (cJ, 1, .inr (.inl vou)))]) := by
  refine XL.of (by decide) (Nat.le_of_ble_eq_true rfl) ?_
  intro p e s m args below meth c A Q F htab hK hP hD hA hY hS hQ ls hl
  have hSt := hY.1
  obtain ⟨hx, hb, hr, hts, hown, hlocks, hml⟩ := F
  have hCF : CallFix p m c cL_sum 6 s args gW RL := ⟨hx, hb, hml, hown, hts⟩
  unfold S_L_sum_b2 at hs
  have hu := rF_L_sum_b2 p1 p2 p3 hu
  unfold RF_L_sum_b2 at hu
  obtain ⟨H, eH⟩ : ∃ y9 : Heap, y9 = s.heap := ⟨_, rfl⟩
  obtain ⟨locs, eL⟩ : ∃ y9 : List Loc, y9 = [] := ⟨_, rfl⟩
  rw [← eL] at hS ⊢
  have hP : va_P D vwCl (xw cR ax ar ao ad vrd vtr vsd vrn vom voh vol vop voe vow vok vos vso vmi vco vex ++ [(aw, .inl (cJ, 1, .inr (.inl vou)))]) H := by rw [eH]; exact hP
  have hS : va_S A s.heap H locs := by rw [eH]; exact hS
  suffices goal9 : W p l e rm_L_sum s m args below meth c H locs 0 0 Q (F0 m 0 ls []) from by rw [← eH]; exact goal9
  have hl : lv_has ls 6 [(0, .ref ax), (1, .int p1), (2, .int p2), (3, .int p3), (4, .ref aw)] := hl
  refine lv_aload hx hb dL_sum_0 (lv_at hl 4 rfl) ?_
  refine lv_iconst (v := 0) hx hb dL_sum_2 (by decide) ?_
  refine lv_aload_n hx hb dL_sum_3 rfl (lv_at hl 0 rfl) ?_
  refine lv_iload_n hx hb dL_sum_4 rfl (lv_at hl 1 rfl) ?_
  refine lv_iload_n hx hb dL_sum_5 rfl (lv_at hl 2 rfl) ?_
  refine lv_iload_n hx hb dL_sum_6 rfl (lv_at hl 3 rfl) ?_
  have h_101 := hs
  refine y_Vcat (As := [.int p1, .int p2, .int p3]) (rest := [.int 0, .ref aw]) (wf := [(aw, .inl (cJ, 1, .inr (.inl vou)))]) hCF (c_X3_sum_b2 l hl0 D cR cI cJ cZ t0 sv ax ar ao ad vrd vtr vsd vrn vom voh vol vop voe vow vok vos vso vmi vco vex p1 p2 p3 h_101) (y_cwV 3 hts (inW_14 _ (List.mem_of_getElem? (i := 13) rfl)) (inW_14 _ (List.mem_of_getElem? (i := 14) rfl)) (inW_14 _ (List.mem_of_getElem? (i := 15) rfl)) (inW_1 _ (List.mem_of_getElem? (i := 25) rfl)) (inW_8 _ (List.mem_of_getElem? (i := 25) rfl)) rfl rfl (by decide +kernel) ⟨Nat.le_of_ble_eq_true rfl, Nat.le_of_ble_eq_true rfl⟩) hK hP hD hS hA hY 0 rfl rfl rfl hl.1 rfl (Nat.le_of_ble_eq_true rfl) dL_sum_7 ⟨Nat.le_of_ble_eq_true rfl, Nat.le_of_ble_eq_true rfl⟩ [] ⟨0, 12, 15, 13⟩ [] (by rw [htab]; rfl) (fun z hz => by cases hz) (by decide) (by decide) (inW_13 _ (List.mem_of_getElem? (i := 10) rfl)) yc_IO (fun H locs q9 hP hD hS => ?_)
  have hP : va_P D vwCl (xw cR ax ar ao ad vrd vtr vsd vrn vom voh vol vop voe vow vok vos vso vmi vco vex ++ [(aw, .inl (cJ, 1, .inr (.inl vou)))]) H := hP
  have hD : va_D A (xw cR ax ar ao ad vrd vtr vsd vrn vom voh vol vop voe vow vok vos vso vmi vco vex ++ [(aw, .inl (cJ, 1, .inr (.inl vou)))]) := hD
  show W p l e _ s m args below meth c H locs 3 18 Q (F0 m 15 ls [.ref q9])
  refine lv_astore (lv' := [(5, .ref q9), (0, .ref ax), (1, .int p1), (2, .int p2), (3, .int p3), (4, .ref aw)]) hx hb dL_sum_15 hl (by decide) rfl (fun ls hl => ?_)
  refine lv_iconst (v := 1) hx hb dL_sum_17 (by decide) ?_
  have e9 := Eq.symm hu; subst e9
  exact z_iret hx hb hr hlocks hQ hK hP hD hS rfl (Nat.le_of_ble_eq_true rfl) (Nat.le_of_ble_eq_true rfl) rfl dL_sum_18
