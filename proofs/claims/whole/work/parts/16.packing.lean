def F_X2_three  (p0 : Int32) (p1 : Int32) (p2 : Int32) : Int32 := ((p0 * 100) + (p1 * 10)) + p2
def RF_X2_three  (p0 : Int32) (p1 : Int32) (p2 : Int32) (u9 : Int32) : Prop := u9 = ((p0 * 100) + (p1 * 10)) + p2
theorem rF_X2_three  (p0 : Int32) (p1 : Int32) (p2 : Int32) {u9 : Int32} (hu : u9 = F_X2_three p0 p1 p2) : RF_X2_three p0 p1 p2 u9 := by
  unfold RF_X2_three
  exact hu
def rm_X2_three : Room := { frames := 0, cells := 0, slots := 0, locals := 0 }
set_option maxHeartbeats 4000000 in
set_option maxRecDepth 100000 in
theorem c_X2_three (l : Launch) (D : va_G) (cR cI cJ cZ : ClassId) (t0 : Nat) (w : va_W) (p0 : Int32) (p1 : Int32) (p2 : Int32) (u : Int32) (hu : u = F_X2_three p0 p1 p2) : XM l D (xty cR cI cJ cZ) t0 yX2_three cX2_three 3 (some .int) rm_X2_three [.int p0, .int p1, .int p2] (some (.int u)) (w) (w) := by
  refine XM.of (by decide) (Nat.le_of_ble_eq_true rfl) ?_
  intro p e s m args below meth c A Q F hK hP hD hA hSt hS hQ ls hl
  obtain ⟨hx, hb, hr, hts, hown, hlocks, hml⟩ := F
  have hCF : CallFix p m c cX2_three 3 s args gW RX2 := ⟨hx, hb, hml, hown, hts⟩
  have hu := rF_X2_three p0 p1 p2 hu
  unfold RF_X2_three at hu
  obtain ⟨H, eH⟩ : ∃ y9 : Heap, y9 = s.heap := ⟨_, rfl⟩
  obtain ⟨locs, eL⟩ : ∃ y9 : List Loc, y9 = [] := ⟨_, rfl⟩
  rw [← eL] at hS ⊢
  have hP : va_P D vwCl (w) H := by rw [eH]; exact hP
  have hS : va_S A s.heap H locs := by rw [eH]; exact hS
  suffices goal9 : W p l e rm_X2_three s m args below meth c H locs 0 0 Q (F0 m 0 ls []) from by rw [← eH]; exact goal9
  have hl : lv_has ls 3 [(0, .int p0), (1, .int p1), (2, .int p2)] := hl
  refine lv_iload_n hx hb dX2_three_0 rfl (lv_at hl 0 rfl) ?_
  refine lv_bipush (v := 100) hx hb dX2_three_1 (by decide) ?_
  refine lv_imul hx hb dX2_three_3 ?_
  refine lv_iload_n hx hb dX2_three_4 rfl (lv_at hl 1 rfl) ?_
  refine lv_bipush (v := 10) hx hb dX2_three_5 (by decide) ?_
  refine lv_imul hx hb dX2_three_7 ?_
  refine lv_iadd hx hb dX2_three_8 ?_
  refine lv_iload_n hx hb dX2_three_9 rfl (lv_at hl 2 rfl) ?_
  refine lv_iadd hx hb dX2_three_10 ?_
  have e9 := Eq.symm hu; subst e9
  exact x_iret hx hb hr hlocks hQ hK hP hD hS rfl rfl dX2_three_11

def F_X2_digitsOfGreatGroup  (p0 : Int32) (p1 : Int32) (p2 : Int32) : Int32 := (if jshr p1 1 = 0 then F_X2_three (8 ||| (p0 &&& 1)) (8 ||| (p1 &&& 1)) ((p0 &&& 6) ||| p2) else (if jshr p1 1 = 1 then F_X2_three (8 ||| (p0 &&& 1)) ((p0 &&& 6) ||| (p1 &&& 1)) (8 ||| p2) else (if jshr p1 1 = 2 then F_X2_three p0 (8 ||| (p1 &&& 1)) (8 ||| p2) else F_X2_three (8 ||| (p0 &&& 1)) (8 ||| (p1 &&& 1)) (8 ||| p2))))
def RF_X2_digitsOfGreatGroup  (p0 : Int32) (p1 : Int32) (p2 : Int32) (u9 : Int32) : Prop := (if jshr p1 1 = 0 then u9 = F_X2_three (8 ||| (p0 &&& 1)) (8 ||| (p1 &&& 1)) ((p0 &&& 6) ||| p2) else (if jshr p1 1 = 1 then u9 = F_X2_three (8 ||| (p0 &&& 1)) ((p0 &&& 6) ||| (p1 &&& 1)) (8 ||| p2) else (if jshr p1 1 = 2 then u9 = F_X2_three p0 (8 ||| (p1 &&& 1)) (8 ||| p2) else u9 = F_X2_three (8 ||| (p0 &&& 1)) (8 ||| (p1 &&& 1)) (8 ||| p2))))
theorem rF_X2_digitsOfGreatGroup  (p0 : Int32) (p1 : Int32) (p2 : Int32) {u9 : Int32} (hu : u9 = F_X2_digitsOfGreatGroup p0 p1 p2) : RF_X2_digitsOfGreatGroup p0 p1 p2 u9 := by
  unfold RF_X2_digitsOfGreatGroup
  refine ite_P (fun c_101 => ?_) (fun c_101 => ?_)
  · have hu := hu.trans (if_pos c_101)
    exact hu
  have hu := hu.trans (if_neg c_101)
  refine ite_P (fun c_102 => ?_) (fun c_102 => ?_)
  · have hu := hu.trans (if_pos c_102)
    exact hu
  have hu := hu.trans (if_neg c_102)
  refine ite_P (fun c_103 => ?_) (fun c_103 => ?_)
  · have hu := hu.trans (if_pos c_103)
    exact hu
  have hu := hu.trans (if_neg c_103)
  exact hu
def rm_X2_digitsOfGreatGroup : Room := { frames := 1, cells := 0, slots := 0, locals := 22 }
set_option maxHeartbeats 4000000 in
set_option maxRecDepth 100000 in
theorem c_X2_digitsOfGreatGroup (l : Launch) (D : va_G) (cR cI cJ cZ : ClassId) (t0 : Nat) (w : va_W) (p0 : Int32) (p1 : Int32) (p2 : Int32) (u : Int32) (hu : u = F_X2_digitsOfGreatGroup p0 p1 p2) : XM l D (xty cR cI cJ cZ) t0 yX2_digitsOfGreatGroup cX2_digitsOfGreatGroup 3 (some .int) rm_X2_digitsOfGreatGroup [.int p0, .int p1, .int p2] (some (.int u)) (w) (w) := by
  refine XM.of (by decide) (Nat.le_of_ble_eq_true rfl) ?_
  intro p e s m args below meth c A Q F hK hP hD hA hSt hS hQ ls hl
  obtain ⟨hx, hb, hr, hts, hown, hlocks, hml⟩ := F
  have hCF : CallFix p m c cX2_digitsOfGreatGroup 3 s args gW RX2 := ⟨hx, hb, hml, hown, hts⟩
  have hu := rF_X2_digitsOfGreatGroup p0 p1 p2 hu
  unfold RF_X2_digitsOfGreatGroup at hu
  obtain ⟨H, eH⟩ : ∃ y9 : Heap, y9 = s.heap := ⟨_, rfl⟩
  obtain ⟨locs, eL⟩ : ∃ y9 : List Loc, y9 = [] := ⟨_, rfl⟩
  rw [← eL] at hS ⊢
  have hP : va_P D vwCl (w) H := by rw [eH]; exact hP
  have hS : va_S A s.heap H locs := by rw [eH]; exact hS
  suffices goal9 : W p l e rm_X2_digitsOfGreatGroup s m args below meth c H locs 0 0 Q (F0 m 0 ls []) from by rw [← eH]; exact goal9
  have hl : lv_has ls 3 [(0, .int p0), (1, .int p1), (2, .int p2)] := hl
  refine lv_iload_n hx hb dX2_digitsOfGreatGroup_0 rfl (lv_at hl 1 rfl) ?_
  refine lv_iconst (v := 1) hx hb dX2_digitsOfGreatGroup_1 (by decide) ?_
  refine x_ishr hx hb dX2_digitsOfGreatGroup_2 ?_
  by_cases c_101 : jshr p1 1 = 0
  · rw [if_pos c_101] at hu
    refine lv_tableIn (tgt := 28) hx hb dX2_digitsOfGreatGroup_3 (by rw [c_101]; decide) (by rw [c_101]; decide) (by rw [c_101]; rfl) (by decide) ?_
    refine lv_bipush (v := 8) hx hb dX2_digitsOfGreatGroup_28 (by decide) ?_
    refine lv_iload_n hx hb dX2_digitsOfGreatGroup_30 rfl (lv_at hl 0 rfl) ?_
    refine lv_iconst (v := 1) hx hb dX2_digitsOfGreatGroup_31 (by decide) ?_
    refine lv_iand hx hb dX2_digitsOfGreatGroup_32 ?_
    refine lv_ior hx hb dX2_digitsOfGreatGroup_33 ?_
    refine lv_bipush (v := 8) hx hb dX2_digitsOfGreatGroup_34 (by decide) ?_
    refine lv_iload_n hx hb dX2_digitsOfGreatGroup_36 rfl (lv_at hl 1 rfl) ?_
    refine lv_iconst (v := 1) hx hb dX2_digitsOfGreatGroup_37 (by decide) ?_
    refine lv_iand hx hb dX2_digitsOfGreatGroup_38 ?_
    refine lv_ior hx hb dX2_digitsOfGreatGroup_39 ?_
    refine lv_iload_n hx hb dX2_digitsOfGreatGroup_40 rfl (lv_at hl 0 rfl) ?_
    refine lv_bipush (v := 6) hx hb dX2_digitsOfGreatGroup_41 (by decide) ?_
    refine lv_iand hx hb dX2_digitsOfGreatGroup_43 ?_
    refine lv_iload_n hx hb dX2_digitsOfGreatGroup_44 rfl (lv_at hl 2 rfl) ?_
    refine lv_ior hx hb dX2_digitsOfGreatGroup_45 ?_
    refine x_S (As := [.int (8 ||| (p0 &&& 1)), .int (8 ||| (p1 &&& 1)), .int ((p0 &&& 6) ||| p2)]) (rest := []) hCF (c_X2_three l D cR cI cJ cZ t0 (w) (8 ||| (p0 &&& 1)) (8 ||| (p1 &&& 1)) ((p0 &&& 6) ||| p2) _ rfl) (x_cwS 3 hts (inW_3 _ (List.mem_of_getElem? (i := 38) rfl)) (inW_3 _ (List.mem_of_getElem? (i := 39) rfl)) (inW_3 _ (List.mem_of_getElem? (i := 5) rfl)) (inW_4 _ (List.mem_of_getElem? (i := 0) rfl)) rfl rfl (by decide +kernel) ⟨Nat.le_of_ble_eq_true rfl, Nat.le_of_ble_eq_true rfl⟩) hK hP hD hS hA hSt rfl hl.1 rfl (Nat.le_of_ble_eq_true rfl) dX2_digitsOfGreatGroup_46 ⟨Nat.le_of_ble_eq_true rfl, Nat.le_of_ble_eq_true rfl⟩ (fun H locs hP hD hS => ?_)
    show W p l e _ s m args below meth c H locs 0 0 Q (F0 m 49 ls (.int (F_X2_three (8 ||| (p0 &&& 1)) (8 ||| (p1 &&& 1)) ((p0 &&& 6) ||| p2)) :: []))
    have e9 := Eq.symm hu; subst e9
    exact x_iret hx hb hr hlocks hQ hK hP hD hS rfl rfl dX2_digitsOfGreatGroup_49
  rw [if_neg c_101] at hu
  by_cases c_102 : jshr p1 1 = 1
  · rw [if_pos c_102] at hu
    refine lv_tableIn (tgt := 50) hx hb dX2_digitsOfGreatGroup_3 (by rw [c_102]; decide) (by rw [c_102]; decide) (by rw [c_102]; rfl) (by decide) ?_
    refine lv_bipush (v := 8) hx hb dX2_digitsOfGreatGroup_50 (by decide) ?_
    refine lv_iload_n hx hb dX2_digitsOfGreatGroup_52 rfl (lv_at hl 0 rfl) ?_
    refine lv_iconst (v := 1) hx hb dX2_digitsOfGreatGroup_53 (by decide) ?_
    refine lv_iand hx hb dX2_digitsOfGreatGroup_54 ?_
    refine lv_ior hx hb dX2_digitsOfGreatGroup_55 ?_
    refine lv_iload_n hx hb dX2_digitsOfGreatGroup_56 rfl (lv_at hl 0 rfl) ?_
    refine lv_bipush (v := 6) hx hb dX2_digitsOfGreatGroup_57 (by decide) ?_
    refine lv_iand hx hb dX2_digitsOfGreatGroup_59 ?_
    refine lv_iload_n hx hb dX2_digitsOfGreatGroup_60 rfl (lv_at hl 1 rfl) ?_
    refine lv_iconst (v := 1) hx hb dX2_digitsOfGreatGroup_61 (by decide) ?_
    refine lv_iand hx hb dX2_digitsOfGreatGroup_62 ?_
    refine lv_ior hx hb dX2_digitsOfGreatGroup_63 ?_
    refine lv_bipush (v := 8) hx hb dX2_digitsOfGreatGroup_64 (by decide) ?_
    refine lv_iload_n hx hb dX2_digitsOfGreatGroup_66 rfl (lv_at hl 2 rfl) ?_
    refine lv_ior hx hb dX2_digitsOfGreatGroup_67 ?_
    refine x_S (As := [.int (8 ||| (p0 &&& 1)), .int ((p0 &&& 6) ||| (p1 &&& 1)), .int (8 ||| p2)]) (rest := []) hCF (c_X2_three l D cR cI cJ cZ t0 (w) (8 ||| (p0 &&& 1)) ((p0 &&& 6) ||| (p1 &&& 1)) (8 ||| p2) _ rfl) (x_cwS 3 hts (inW_3 _ (List.mem_of_getElem? (i := 38) rfl)) (inW_3 _ (List.mem_of_getElem? (i := 39) rfl)) (inW_3 _ (List.mem_of_getElem? (i := 5) rfl)) (inW_4 _ (List.mem_of_getElem? (i := 0) rfl)) rfl rfl (by decide +kernel) ⟨Nat.le_of_ble_eq_true rfl, Nat.le_of_ble_eq_true rfl⟩) hK hP hD hS hA hSt rfl hl.1 rfl (Nat.le_of_ble_eq_true rfl) dX2_digitsOfGreatGroup_68 ⟨Nat.le_of_ble_eq_true rfl, Nat.le_of_ble_eq_true rfl⟩ (fun H locs hP hD hS => ?_)
    show W p l e _ s m args below meth c H locs 0 0 Q (F0 m 71 ls (.int (F_X2_three (8 ||| (p0 &&& 1)) ((p0 &&& 6) ||| (p1 &&& 1)) (8 ||| p2)) :: []))
    have e9 := Eq.symm hu; subst e9
    exact x_iret hx hb hr hlocks hQ hK hP hD hS rfl rfl dX2_digitsOfGreatGroup_71
  rw [if_neg c_102] at hu
  by_cases c_103 : jshr p1 1 = 2
  · rw [if_pos c_103] at hu
    refine lv_tableIn (tgt := 72) hx hb dX2_digitsOfGreatGroup_3 (by rw [c_103]; decide) (by rw [c_103]; decide) (by rw [c_103]; rfl) (by decide) ?_
    refine lv_iload_n hx hb dX2_digitsOfGreatGroup_72 rfl (lv_at hl 0 rfl) ?_
    refine lv_bipush (v := 8) hx hb dX2_digitsOfGreatGroup_73 (by decide) ?_
    refine lv_iload_n hx hb dX2_digitsOfGreatGroup_75 rfl (lv_at hl 1 rfl) ?_
    refine lv_iconst (v := 1) hx hb dX2_digitsOfGreatGroup_76 (by decide) ?_
    refine lv_iand hx hb dX2_digitsOfGreatGroup_77 ?_
    refine lv_ior hx hb dX2_digitsOfGreatGroup_78 ?_
    refine lv_bipush (v := 8) hx hb dX2_digitsOfGreatGroup_79 (by decide) ?_
    refine lv_iload_n hx hb dX2_digitsOfGreatGroup_81 rfl (lv_at hl 2 rfl) ?_
    refine lv_ior hx hb dX2_digitsOfGreatGroup_82 ?_
    refine x_S (As := [.int p0, .int (8 ||| (p1 &&& 1)), .int (8 ||| p2)]) (rest := []) hCF (c_X2_three l D cR cI cJ cZ t0 (w) p0 (8 ||| (p1 &&& 1)) (8 ||| p2) _ rfl) (x_cwS 3 hts (inW_3 _ (List.mem_of_getElem? (i := 38) rfl)) (inW_3 _ (List.mem_of_getElem? (i := 39) rfl)) (inW_3 _ (List.mem_of_getElem? (i := 5) rfl)) (inW_4 _ (List.mem_of_getElem? (i := 0) rfl)) rfl rfl (by decide +kernel) ⟨Nat.le_of_ble_eq_true rfl, Nat.le_of_ble_eq_true rfl⟩) hK hP hD hS hA hSt rfl hl.1 rfl (Nat.le_of_ble_eq_true rfl) dX2_digitsOfGreatGroup_83 ⟨Nat.le_of_ble_eq_true rfl, Nat.le_of_ble_eq_true rfl⟩ (fun H locs hP hD hS => ?_)
    show W p l e _ s m args below meth c H locs 0 0 Q (F0 m 86 ls (.int (F_X2_three p0 (8 ||| (p1 &&& 1)) (8 ||| p2)) :: []))
    have e9 := Eq.symm hu; subst e9
    exact x_iret hx hb hr hlocks hQ hK hP hD hS rfl rfl dX2_digitsOfGreatGroup_86
  rw [if_neg c_103] at hu
  refine lv_tableOut (tgt := 87) hx hb dX2_digitsOfGreatGroup_3 (by have kc_101 := lv_neT c_101 (a := 0) (by decide); have kc_102 := lv_neT c_102 (a := 1) (by decide); have kc_103 := lv_neT c_103 (a := 2) (by decide); omega) (by decide) ?_
  refine lv_bipush (v := 8) hx hb dX2_digitsOfGreatGroup_87 (by decide) ?_
  refine lv_iload_n hx hb dX2_digitsOfGreatGroup_89 rfl (lv_at hl 0 rfl) ?_
  refine lv_iconst (v := 1) hx hb dX2_digitsOfGreatGroup_90 (by decide) ?_
  refine lv_iand hx hb dX2_digitsOfGreatGroup_91 ?_
  refine lv_ior hx hb dX2_digitsOfGreatGroup_92 ?_
  refine lv_bipush (v := 8) hx hb dX2_digitsOfGreatGroup_93 (by decide) ?_
  refine lv_iload_n hx hb dX2_digitsOfGreatGroup_95 rfl (lv_at hl 1 rfl) ?_
  refine lv_iconst (v := 1) hx hb dX2_digitsOfGreatGroup_96 (by decide) ?_
  refine lv_iand hx hb dX2_digitsOfGreatGroup_97 ?_
  refine lv_ior hx hb dX2_digitsOfGreatGroup_98 ?_
  refine lv_bipush (v := 8) hx hb dX2_digitsOfGreatGroup_99 (by decide) ?_
  refine lv_iload_n hx hb dX2_digitsOfGreatGroup_101 rfl (lv_at hl 2 rfl) ?_
  refine lv_ior hx hb dX2_digitsOfGreatGroup_102 ?_
  refine x_S (As := [.int (8 ||| (p0 &&& 1)), .int (8 ||| (p1 &&& 1)), .int (8 ||| p2)]) (rest := []) hCF (c_X2_three l D cR cI cJ cZ t0 (w) (8 ||| (p0 &&& 1)) (8 ||| (p1 &&& 1)) (8 ||| p2) _ rfl) (x_cwS 3 hts (inW_3 _ (List.mem_of_getElem? (i := 38) rfl)) (inW_3 _ (List.mem_of_getElem? (i := 39) rfl)) (inW_3 _ (List.mem_of_getElem? (i := 5) rfl)) (inW_4 _ (List.mem_of_getElem? (i := 0) rfl)) rfl rfl (by decide +kernel) ⟨Nat.le_of_ble_eq_true rfl, Nat.le_of_ble_eq_true rfl⟩) hK hP hD hS hA hSt rfl hl.1 rfl (Nat.le_of_ble_eq_true rfl) dX2_digitsOfGreatGroup_103 ⟨Nat.le_of_ble_eq_true rfl, Nat.le_of_ble_eq_true rfl⟩ (fun H locs hP hD hS => ?_)
  show W p l e _ s m args below meth c H locs 0 0 Q (F0 m 106 ls (.int (F_X2_three (8 ||| (p0 &&& 1)) (8 ||| (p1 &&& 1)) (8 ||| p2)) :: []))
  have e9 := Eq.symm hu; subst e9
  exact x_iret hx hb hr hlocks hQ hK hP hD hS rfl rfl dX2_digitsOfGreatGroup_106

def F_X2_digitsOfGroup  (p0 : Int32) : Int32 := (bnd ((jshr p0 7) &&& 7) (fun n101 : Int32 => (bnd ((jshr p0 4) &&& 7) (fun n102 : Int32 => (bnd (p0 &&& 1) (fun n103 : Int32 => (if p0 &&& 8 = 0 then F_X2_three n101 n102 (p0 &&& 7) else (if (jshr p0 1) &&& 3 = 0 then F_X2_three n101 n102 (8 ||| n103) else (if (jshr p0 1) &&& 3 = 1 then F_X2_three n101 (8 ||| (n102 &&& 1)) ((n102 &&& 6) ||| n103) else (if (jshr p0 1) &&& 3 = 2 then F_X2_three (8 ||| (n101 &&& 1)) n102 ((n101 &&& 6) ||| n103) else F_X2_digitsOfGreatGroup n101 n102 n103))))))))))
def RF_X2_digitsOfGroup  (p0 : Int32) (u9 : Int32) : Prop := (∀ n101 : Int32, n101 = (jshr p0 7) &&& 7 → (∀ n102 : Int32, n102 = (jshr p0 4) &&& 7 → (∀ n103 : Int32, n103 = p0 &&& 1 → (if p0 &&& 8 = 0 then u9 = F_X2_three n101 n102 (p0 &&& 7) else (if (jshr p0 1) &&& 3 = 0 then u9 = F_X2_three n101 n102 (8 ||| n103) else (if (jshr p0 1) &&& 3 = 1 then u9 = F_X2_three n101 (8 ||| (n102 &&& 1)) ((n102 &&& 6) ||| n103) else (if (jshr p0 1) &&& 3 = 2 then u9 = F_X2_three (8 ||| (n101 &&& 1)) n102 ((n101 &&& 6) ||| n103) else u9 = F_X2_digitsOfGreatGroup n101 n102 n103)))))))
theorem rF_X2_digitsOfGroup  (p0 : Int32) {u9 : Int32} (hu : u9 = F_X2_digitsOfGroup p0) : RF_X2_digitsOfGroup p0 u9 := by
  unfold RF_X2_digitsOfGroup
  intro n101 en101
  have hu := bnd_n hu en101
  intro n102 en102
  have hu := bnd_n hu en102
  intro n103 en103
  have hu := bnd_n hu en103
  refine ite_P (fun c_104 => ?_) (fun c_104 => ?_)
  · have hu := hu.trans (if_pos c_104)
    exact hu
  · have hu := hu.trans (if_neg c_104)
    refine ite_P (fun c_105 => ?_) (fun c_105 => ?_)
    · have hu := hu.trans (if_pos c_105)
      exact hu
    have hu := hu.trans (if_neg c_105)
    refine ite_P (fun c_106 => ?_) (fun c_106 => ?_)
    · have hu := hu.trans (if_pos c_106)
      exact hu
    have hu := hu.trans (if_neg c_106)
    refine ite_P (fun c_107 => ?_) (fun c_107 => ?_)
    · have hu := hu.trans (if_pos c_107)
      exact hu
    have hu := hu.trans (if_neg c_107)
    exact hu
def rm_X2_digitsOfGroup : Room := { frames := 2, cells := 0, slots := 0, locals := 44 }
set_option maxHeartbeats 4000000 in
set_option maxRecDepth 100000 in
theorem c_X2_digitsOfGroup (l : Launch) (D : va_G) (cR cI cJ cZ : ClassId) (t0 : Nat) (w : va_W) (p0 : Int32) (u : Int32) (hu : u = F_X2_digitsOfGroup p0) : XM l D (xty cR cI cJ cZ) t0 yX2_digitsOfGroup cX2_digitsOfGroup 4 (some .int) rm_X2_digitsOfGroup [.int p0] (some (.int u)) (w) (w) := by
  refine XM.of (by decide) (Nat.le_of_ble_eq_true rfl) ?_
  intro p e s m args below meth c A Q F hK hP hD hA hSt hS hQ ls hl
  obtain ⟨hx, hb, hr, hts, hown, hlocks, hml⟩ := F
  have hCF : CallFix p m c cX2_digitsOfGroup 4 s args gW RX2 := ⟨hx, hb, hml, hown, hts⟩
  have hu := rF_X2_digitsOfGroup p0 hu
  unfold RF_X2_digitsOfGroup at hu
  obtain ⟨H, eH⟩ : ∃ y9 : Heap, y9 = s.heap := ⟨_, rfl⟩
  obtain ⟨locs, eL⟩ : ∃ y9 : List Loc, y9 = [] := ⟨_, rfl⟩
  rw [← eL] at hS ⊢
  have hP : va_P D vwCl (w) H := by rw [eH]; exact hP
  have hS : va_S A s.heap H locs := by rw [eH]; exact hS
  suffices goal9 : W p l e rm_X2_digitsOfGroup s m args below meth c H locs 0 0 Q (F0 m 0 ls []) from by rw [← eH]; exact goal9
  have hl : lv_has ls 4 [(0, .int p0)] := hl
  refine lv_iload_n hx hb dX2_digitsOfGroup_0 rfl (lv_at hl 0 rfl) ?_
  refine lv_bipush (v := 7) hx hb dX2_digitsOfGroup_1 (by decide) ?_
  refine x_ishr hx hb dX2_digitsOfGroup_3 ?_
  refine lv_bipush (v := 7) hx hb dX2_digitsOfGroup_4 (by decide) ?_
  refine lv_iand hx hb dX2_digitsOfGroup_6 ?_
  refine lv_topi (fun n101 en101 => ?_)
  have hu := hu _ en101
  refine lv_istore_n (lv' := [(1, .int n101), (0, .int p0)]) hx hb dX2_digitsOfGroup_7 rfl hl (by decide) rfl (fun ls hl => ?_)
  refine lv_iload_n hx hb dX2_digitsOfGroup_8 rfl (lv_at hl 1 rfl) ?_
  refine lv_iconst (v := 4) hx hb dX2_digitsOfGroup_9 (by decide) ?_
  refine x_ishr hx hb dX2_digitsOfGroup_10 ?_
  refine lv_bipush (v := 7) hx hb dX2_digitsOfGroup_11 (by decide) ?_
  refine lv_iand hx hb dX2_digitsOfGroup_13 ?_
  refine lv_topi (fun n102 en102 => ?_)
  have hu := hu _ en102
  refine lv_istore_n (lv' := [(2, .int n102), (1, .int n101), (0, .int p0)]) hx hb dX2_digitsOfGroup_14 rfl hl (by decide) rfl (fun ls hl => ?_)
  refine lv_iload_n hx hb dX2_digitsOfGroup_15 rfl (lv_at hl 2 rfl) ?_
  refine lv_iconst (v := 1) hx hb dX2_digitsOfGroup_16 (by decide) ?_
  refine lv_iand hx hb dX2_digitsOfGroup_17 ?_
  refine lv_topi (fun n103 en103 => ?_)
  have hu := hu _ en103
  refine lv_istore_n (lv' := [(3, .int n103), (2, .int n102), (1, .int n101), (0, .int p0)]) hx hb dX2_digitsOfGroup_18 rfl hl (by decide) rfl (fun ls hl => ?_)
  refine lv_iload_n hx hb dX2_digitsOfGroup_19 rfl (lv_at hl 3 rfl) ?_
  refine lv_bipush (v := 8) hx hb dX2_digitsOfGroup_20 (by decide) ?_
  refine lv_iand hx hb dX2_digitsOfGroup_22 ?_
  refine lv_if_ne (tgt := 36) hx hb dX2_digitsOfGroup_23 (by decide) (fun c_104 => ?_) (fun c_104 => ?_)
  · rw [if_neg c_104] at hu
    refine lv_iload_n hx hb dX2_digitsOfGroup_36 rfl (lv_at hl 3 rfl) ?_
    refine lv_iconst (v := 1) hx hb dX2_digitsOfGroup_37 (by decide) ?_
    refine x_ishr hx hb dX2_digitsOfGroup_38 ?_
    refine lv_iconst (v := 3) hx hb dX2_digitsOfGroup_39 (by decide) ?_
    refine lv_iand hx hb dX2_digitsOfGroup_40 ?_
    by_cases c_105 : (jshr p0 1) &&& 3 = 0
    · rw [if_pos c_105] at hu
      refine lv_tableIn (tgt := 68) hx hb dX2_digitsOfGroup_41 (by rw [c_105]; decide) (by rw [c_105]; decide) (by rw [c_105]; rfl) (by decide) ?_
      refine lv_iload_n hx hb dX2_digitsOfGroup_68 rfl (lv_at hl 2 rfl) ?_
      refine lv_iload_n hx hb dX2_digitsOfGroup_69 rfl (lv_at hl 1 rfl) ?_
      refine lv_bipush (v := 8) hx hb dX2_digitsOfGroup_70 (by decide) ?_
      refine lv_iload_n hx hb dX2_digitsOfGroup_72 rfl (lv_at hl 0 rfl) ?_
      refine lv_ior hx hb dX2_digitsOfGroup_73 ?_
      refine x_S (As := [.int n101, .int n102, .int (8 ||| n103)]) (rest := []) hCF (c_X2_three l D cR cI cJ cZ t0 (w) n101 n102 (8 ||| n103) _ rfl) (x_cwS 3 hts (inW_3 _ (List.mem_of_getElem? (i := 38) rfl)) (inW_3 _ (List.mem_of_getElem? (i := 39) rfl)) (inW_3 _ (List.mem_of_getElem? (i := 5) rfl)) (inW_4 _ (List.mem_of_getElem? (i := 0) rfl)) rfl rfl (by decide +kernel) ⟨Nat.le_of_ble_eq_true rfl, Nat.le_of_ble_eq_true rfl⟩) hK hP hD hS hA hSt rfl hl.1 rfl (Nat.le_of_ble_eq_true rfl) dX2_digitsOfGroup_74 ⟨Nat.le_of_ble_eq_true rfl, Nat.le_of_ble_eq_true rfl⟩ (fun H locs hP hD hS => ?_)
      show W p l e _ s m args below meth c H locs 0 0 Q (F0 m 77 ls (.int (F_X2_three n101 n102 (8 ||| n103)) :: []))
      have e9 := Eq.symm hu; subst e9
      exact x_iret hx hb hr hlocks hQ hK hP hD hS rfl rfl dX2_digitsOfGroup_77
    rw [if_neg c_105] at hu
    by_cases c_106 : (jshr p0 1) &&& 3 = 1
    · rw [if_pos c_106] at hu
      refine lv_tableIn (tgt := 78) hx hb dX2_digitsOfGroup_41 (by rw [c_106]; decide) (by rw [c_106]; decide) (by rw [c_106]; rfl) (by decide) ?_
      refine lv_iload_n hx hb dX2_digitsOfGroup_78 rfl (lv_at hl 2 rfl) ?_
      refine lv_bipush (v := 8) hx hb dX2_digitsOfGroup_79 (by decide) ?_
      refine lv_iload_n hx hb dX2_digitsOfGroup_81 rfl (lv_at hl 1 rfl) ?_
      refine lv_iconst (v := 1) hx hb dX2_digitsOfGroup_82 (by decide) ?_
      refine lv_iand hx hb dX2_digitsOfGroup_83 ?_
      refine lv_ior hx hb dX2_digitsOfGroup_84 ?_
      refine lv_iload_n hx hb dX2_digitsOfGroup_85 rfl (lv_at hl 1 rfl) ?_
      refine lv_bipush (v := 6) hx hb dX2_digitsOfGroup_86 (by decide) ?_
      refine lv_iand hx hb dX2_digitsOfGroup_88 ?_
      refine lv_iload_n hx hb dX2_digitsOfGroup_89 rfl (lv_at hl 0 rfl) ?_
      refine lv_ior hx hb dX2_digitsOfGroup_90 ?_
      refine x_S (As := [.int n101, .int (8 ||| (n102 &&& 1)), .int ((n102 &&& 6) ||| n103)]) (rest := []) hCF (c_X2_three l D cR cI cJ cZ t0 (w) n101 (8 ||| (n102 &&& 1)) ((n102 &&& 6) ||| n103) _ rfl) (x_cwS 3 hts (inW_3 _ (List.mem_of_getElem? (i := 38) rfl)) (inW_3 _ (List.mem_of_getElem? (i := 39) rfl)) (inW_3 _ (List.mem_of_getElem? (i := 5) rfl)) (inW_4 _ (List.mem_of_getElem? (i := 0) rfl)) rfl rfl (by decide +kernel) ⟨Nat.le_of_ble_eq_true rfl, Nat.le_of_ble_eq_true rfl⟩) hK hP hD hS hA hSt rfl hl.1 rfl (Nat.le_of_ble_eq_true rfl) dX2_digitsOfGroup_91 ⟨Nat.le_of_ble_eq_true rfl, Nat.le_of_ble_eq_true rfl⟩ (fun H locs hP hD hS => ?_)
      show W p l e _ s m args below meth c H locs 0 0 Q (F0 m 94 ls (.int (F_X2_three n101 (8 ||| (n102 &&& 1)) ((n102 &&& 6) ||| n103)) :: []))
      have e9 := Eq.symm hu; subst e9
      exact x_iret hx hb hr hlocks hQ hK hP hD hS rfl rfl dX2_digitsOfGroup_94
    rw [if_neg c_106] at hu
    by_cases c_107 : (jshr p0 1) &&& 3 = 2
    · rw [if_pos c_107] at hu
      refine lv_tableIn (tgt := 95) hx hb dX2_digitsOfGroup_41 (by rw [c_107]; decide) (by rw [c_107]; decide) (by rw [c_107]; rfl) (by decide) ?_
      refine lv_bipush (v := 8) hx hb dX2_digitsOfGroup_95 (by decide) ?_
      refine lv_iload_n hx hb dX2_digitsOfGroup_97 rfl (lv_at hl 2 rfl) ?_
      refine lv_iconst (v := 1) hx hb dX2_digitsOfGroup_98 (by decide) ?_
      refine lv_iand hx hb dX2_digitsOfGroup_99 ?_
      refine lv_ior hx hb dX2_digitsOfGroup_100 ?_
      refine lv_iload_n hx hb dX2_digitsOfGroup_101 rfl (lv_at hl 1 rfl) ?_
      refine lv_iload_n hx hb dX2_digitsOfGroup_102 rfl (lv_at hl 2 rfl) ?_
      refine lv_bipush (v := 6) hx hb dX2_digitsOfGroup_103 (by decide) ?_
      refine lv_iand hx hb dX2_digitsOfGroup_105 ?_
      refine lv_iload_n hx hb dX2_digitsOfGroup_106 rfl (lv_at hl 0 rfl) ?_
      refine lv_ior hx hb dX2_digitsOfGroup_107 ?_
      refine x_S (As := [.int (8 ||| (n101 &&& 1)), .int n102, .int ((n101 &&& 6) ||| n103)]) (rest := []) hCF (c_X2_three l D cR cI cJ cZ t0 (w) (8 ||| (n101 &&& 1)) n102 ((n101 &&& 6) ||| n103) _ rfl) (x_cwS 3 hts (inW_3 _ (List.mem_of_getElem? (i := 38) rfl)) (inW_3 _ (List.mem_of_getElem? (i := 39) rfl)) (inW_3 _ (List.mem_of_getElem? (i := 5) rfl)) (inW_4 _ (List.mem_of_getElem? (i := 0) rfl)) rfl rfl (by decide +kernel) ⟨Nat.le_of_ble_eq_true rfl, Nat.le_of_ble_eq_true rfl⟩) hK hP hD hS hA hSt rfl hl.1 rfl (Nat.le_of_ble_eq_true rfl) dX2_digitsOfGroup_108 ⟨Nat.le_of_ble_eq_true rfl, Nat.le_of_ble_eq_true rfl⟩ (fun H locs hP hD hS => ?_)
      show W p l e _ s m args below meth c H locs 0 0 Q (F0 m 111 ls (.int (F_X2_three (8 ||| (n101 &&& 1)) n102 ((n101 &&& 6) ||| n103)) :: []))
      have e9 := Eq.symm hu; subst e9
      exact x_iret hx hb hr hlocks hQ hK hP hD hS rfl rfl dX2_digitsOfGroup_111
    rw [if_neg c_107] at hu
    refine lv_tableOut (tgt := 112) hx hb dX2_digitsOfGroup_41 (by have kc_105 := lv_neT c_105 (a := 0) (by decide); have kc_106 := lv_neT c_106 (a := 1) (by decide); have kc_107 := lv_neT c_107 (a := 2) (by decide); omega) (by decide) ?_
    refine lv_iload_n hx hb dX2_digitsOfGroup_112 rfl (lv_at hl 2 rfl) ?_
    refine lv_iload_n hx hb dX2_digitsOfGroup_113 rfl (lv_at hl 1 rfl) ?_
    refine lv_iload_n hx hb dX2_digitsOfGroup_114 rfl (lv_at hl 0 rfl) ?_
    refine x_S (As := [.int n101, .int n102, .int n103]) (rest := []) hCF (c_X2_digitsOfGreatGroup l D cR cI cJ cZ t0 (w) n101 n102 n103 _ rfl) (x_cwS 3 hts (inW_4 _ (List.mem_of_getElem? (i := 1) rfl)) (inW_4 _ (List.mem_of_getElem? (i := 2) rfl)) (inW_3 _ (List.mem_of_getElem? (i := 5) rfl)) (inW_4 _ (List.mem_of_getElem? (i := 3) rfl)) rfl rfl (by decide +kernel) ⟨Nat.le_of_ble_eq_true rfl, Nat.le_of_ble_eq_true rfl⟩) hK hP hD hS hA hSt rfl hl.1 rfl (Nat.le_of_ble_eq_true rfl) dX2_digitsOfGroup_115 ⟨Nat.le_of_ble_eq_true rfl, Nat.le_of_ble_eq_true rfl⟩ (fun H locs hP hD hS => ?_)
    show W p l e _ s m args below meth c H locs 0 0 Q (F0 m 118 ls (.int (F_X2_digitsOfGreatGroup n101 n102 n103) :: []))
    have e9 := Eq.symm hu; subst e9
    exact x_iret hx hb hr hlocks hQ hK hP hD hS rfl rfl dX2_digitsOfGroup_118
  · rw [if_pos c_104] at hu
    refine lv_iload_n hx hb dX2_digitsOfGroup_26 rfl (lv_at hl 2 rfl) ?_
    refine lv_iload_n hx hb dX2_digitsOfGroup_27 rfl (lv_at hl 1 rfl) ?_
    refine lv_iload_n hx hb dX2_digitsOfGroup_28 rfl (lv_at hl 3 rfl) ?_
    refine lv_bipush (v := 7) hx hb dX2_digitsOfGroup_29 (by decide) ?_
    refine lv_iand hx hb dX2_digitsOfGroup_31 ?_
    refine x_S (As := [.int n101, .int n102, .int (p0 &&& 7)]) (rest := []) hCF (c_X2_three l D cR cI cJ cZ t0 (w) n101 n102 (p0 &&& 7) _ rfl) (x_cwS 3 hts (inW_3 _ (List.mem_of_getElem? (i := 38) rfl)) (inW_3 _ (List.mem_of_getElem? (i := 39) rfl)) (inW_3 _ (List.mem_of_getElem? (i := 5) rfl)) (inW_4 _ (List.mem_of_getElem? (i := 0) rfl)) rfl rfl (by decide +kernel) ⟨Nat.le_of_ble_eq_true rfl, Nat.le_of_ble_eq_true rfl⟩) hK hP hD hS hA hSt rfl hl.1 rfl (Nat.le_of_ble_eq_true rfl) dX2_digitsOfGroup_32 ⟨Nat.le_of_ble_eq_true rfl, Nat.le_of_ble_eq_true rfl⟩ (fun H locs hP hD hS => ?_)
    show W p l e _ s m args below meth c H locs 0 0 Q (F0 m 35 ls (.int (F_X2_three n101 n102 (p0 &&& 7)) :: []))
    have e9 := Eq.symm hu; subst e9
    exact x_iret hx hb hr hlocks hQ hK hP hD hS rfl rfl dX2_digitsOfGroup_35

def F_X2_groupOf  (p0 : Int32) (p1 : Int32) (p2 : Int32) : Int32 := (bnd (((jshl (jshr p0 3) 2) ||| (jshl (jshr p1 3) 1)) ||| (jshr p2 3)) (fun n101 : Int32 => (bnd (jshl (p0 &&& 1) 7) (fun n102 : Int32 => (bnd (jshl (p1 &&& 1) 4) (fun n103 : Int32 => (bnd (p2 &&& 1) (fun n104 : Int32 => (if n101 = 0 then ((jshl p0 7) ||| (jshl p1 4)) ||| p2 else (if n101 = 1 then (((jshl p0 7) ||| (jshl p1 4)) ||| 8) ||| n104 else (if n101 = 2 then ((((jshl p0 7) ||| (jshl (jshr p2 1) 5)) ||| n103) ||| 10) ||| n104 else (if n101 = 3 then ((((jshl p0 7) ||| 64) ||| n103) ||| 14) ||| n104 else (if n101 = 4 then ((((jshl (jshr p2 1) 8) ||| n102) ||| (jshl p1 4)) ||| 12) ||| n104 else (if n101 = 5 then (((((jshl (jshr p1 1) 8) ||| n102) ||| 32) ||| n103) ||| 14) ||| n104 else (if n101 = 6 then ((((jshl (jshr p2 1) 8) ||| n102) ||| n103) ||| 14) ||| n104 else (((n102 ||| 96) ||| n103) ||| 14) ||| n104)))))))))))))))
def RF_X2_groupOf  (p0 : Int32) (p1 : Int32) (p2 : Int32) (u9 : Int32) : Prop := (∀ n101 : Int32, n101 = ((jshl (jshr p0 3) 2) ||| (jshl (jshr p1 3) 1)) ||| (jshr p2 3) → (∀ n102 : Int32, n102 = jshl (p0 &&& 1) 7 → (∀ n103 : Int32, n103 = jshl (p1 &&& 1) 4 → (∀ n104 : Int32, n104 = p2 &&& 1 → (if n101 = 0 then u9 = ((jshl p0 7) ||| (jshl p1 4)) ||| p2 else (if n101 = 1 then u9 = (((jshl p0 7) ||| (jshl p1 4)) ||| 8) ||| n104 else (if n101 = 2 then u9 = ((((jshl p0 7) ||| (jshl (jshr p2 1) 5)) ||| n103) ||| 10) ||| n104 else (if n101 = 3 then u9 = ((((jshl p0 7) ||| 64) ||| n103) ||| 14) ||| n104 else (if n101 = 4 then u9 = ((((jshl (jshr p2 1) 8) ||| n102) ||| (jshl p1 4)) ||| 12) ||| n104 else (if n101 = 5 then u9 = (((((jshl (jshr p1 1) 8) ||| n102) ||| 32) ||| n103) ||| 14) ||| n104 else (if n101 = 6 then u9 = ((((jshl (jshr p2 1) 8) ||| n102) ||| n103) ||| 14) ||| n104 else u9 = (((n102 ||| 96) ||| n103) ||| 14) ||| n104)))))))))))
theorem rF_X2_groupOf  (p0 : Int32) (p1 : Int32) (p2 : Int32) {u9 : Int32} (hu : u9 = F_X2_groupOf p0 p1 p2) : RF_X2_groupOf p0 p1 p2 u9 := by
  unfold RF_X2_groupOf
  intro n101 en101
  have hu := bnd_n hu en101
  intro n102 en102
  have hu := bnd_n hu en102
  intro n103 en103
  have hu := bnd_n hu en103
  intro n104 en104
  have hu := bnd_n hu en104
  refine ite_P (fun c_105 => ?_) (fun c_105 => ?_)
  · have hu := hu.trans (if_pos c_105)
    exact hu
  have hu := hu.trans (if_neg c_105)
  refine ite_P (fun c_106 => ?_) (fun c_106 => ?_)
  · have hu := hu.trans (if_pos c_106)
    exact hu
  have hu := hu.trans (if_neg c_106)
  refine ite_P (fun c_107 => ?_) (fun c_107 => ?_)
  · have hu := hu.trans (if_pos c_107)
    exact hu
  have hu := hu.trans (if_neg c_107)
  refine ite_P (fun c_108 => ?_) (fun c_108 => ?_)
  · have hu := hu.trans (if_pos c_108)
    exact hu
  have hu := hu.trans (if_neg c_108)
  refine ite_P (fun c_109 => ?_) (fun c_109 => ?_)
  · have hu := hu.trans (if_pos c_109)
    exact hu
  have hu := hu.trans (if_neg c_109)
  refine ite_P (fun c_110 => ?_) (fun c_110 => ?_)
  · have hu := hu.trans (if_pos c_110)
    exact hu
  have hu := hu.trans (if_neg c_110)
  refine ite_P (fun c_111 => ?_) (fun c_111 => ?_)
  · have hu := hu.trans (if_pos c_111)
    exact hu
  have hu := hu.trans (if_neg c_111)
  exact hu
def rm_X2_groupOf : Room := { frames := 0, cells := 0, slots := 0, locals := 0 }
set_option maxHeartbeats 4000000 in
set_option maxRecDepth 100000 in
theorem c_X2_groupOf (l : Launch) (D : va_G) (cR cI cJ cZ : ClassId) (t0 : Nat) (w : va_W) (p0 : Int32) (p1 : Int32) (p2 : Int32) (u : Int32) (hu : u = F_X2_groupOf p0 p1 p2) : XM l D (xty cR cI cJ cZ) t0 yX2_groupOf cX2_groupOf 7 (some .int) rm_X2_groupOf [.int p0, .int p1, .int p2] (some (.int u)) (w) (w) := by
  refine XM.of (by decide) (Nat.le_of_ble_eq_true rfl) ?_
  intro p e s m args below meth c A Q F hK hP hD hA hSt hS hQ ls hl
  obtain ⟨hx, hb, hr, hts, hown, hlocks, hml⟩ := F
  have hCF : CallFix p m c cX2_groupOf 7 s args gW RX2 := ⟨hx, hb, hml, hown, hts⟩
  have hu := rF_X2_groupOf p0 p1 p2 hu
  unfold RF_X2_groupOf at hu
  obtain ⟨H, eH⟩ : ∃ y9 : Heap, y9 = s.heap := ⟨_, rfl⟩
  obtain ⟨locs, eL⟩ : ∃ y9 : List Loc, y9 = [] := ⟨_, rfl⟩
  rw [← eL] at hS ⊢
  have hP : va_P D vwCl (w) H := by rw [eH]; exact hP
  have hS : va_S A s.heap H locs := by rw [eH]; exact hS
  suffices goal9 : W p l e rm_X2_groupOf s m args below meth c H locs 0 0 Q (F0 m 0 ls []) from by rw [← eH]; exact goal9
  have hl : lv_has ls 7 [(0, .int p0), (1, .int p1), (2, .int p2)] := hl
  refine lv_iload_n hx hb dX2_groupOf_0 rfl (lv_at hl 0 rfl) ?_
  refine lv_iconst (v := 3) hx hb dX2_groupOf_1 (by decide) ?_
  refine x_ishr hx hb dX2_groupOf_2 ?_
  refine lv_iconst (v := 2) hx hb dX2_groupOf_3 (by decide) ?_
  refine x_ishl hx hb dX2_groupOf_4 ?_
  refine lv_iload_n hx hb dX2_groupOf_5 rfl (lv_at hl 1 rfl) ?_
  refine lv_iconst (v := 3) hx hb dX2_groupOf_6 (by decide) ?_
  refine x_ishr hx hb dX2_groupOf_7 ?_
  refine lv_iconst (v := 1) hx hb dX2_groupOf_8 (by decide) ?_
  refine x_ishl hx hb dX2_groupOf_9 ?_
  refine lv_ior hx hb dX2_groupOf_10 ?_
  refine lv_iload_n hx hb dX2_groupOf_11 rfl (lv_at hl 2 rfl) ?_
  refine lv_iconst (v := 3) hx hb dX2_groupOf_12 (by decide) ?_
  refine x_ishr hx hb dX2_groupOf_13 ?_
  refine lv_ior hx hb dX2_groupOf_14 ?_
  refine lv_topi (fun n101 en101 => ?_)
  have hu := hu _ en101
  refine lv_istore_n (lv' := [(3, .int n101), (0, .int p0), (1, .int p1), (2, .int p2)]) hx hb dX2_groupOf_15 rfl hl (by decide) rfl (fun ls hl => ?_)
  refine lv_iload_n hx hb dX2_groupOf_16 rfl (lv_at hl 1 rfl) ?_
  refine lv_iconst (v := 1) hx hb dX2_groupOf_17 (by decide) ?_
  refine lv_iand hx hb dX2_groupOf_18 ?_
  refine lv_bipush (v := 7) hx hb dX2_groupOf_19 (by decide) ?_
  refine x_ishl hx hb dX2_groupOf_21 ?_
  refine lv_topi (fun n102 en102 => ?_)
  have hu := hu _ en102
  refine lv_istore (lv' := [(4, .int n102), (3, .int n101), (0, .int p0), (1, .int p1), (2, .int p2)]) hx hb dX2_groupOf_22 hl (by decide) rfl (fun ls hl => ?_)
  refine lv_iload_n hx hb dX2_groupOf_24 rfl (lv_at hl 3 rfl) ?_
  refine lv_iconst (v := 1) hx hb dX2_groupOf_25 (by decide) ?_
  refine lv_iand hx hb dX2_groupOf_26 ?_
  refine lv_iconst (v := 4) hx hb dX2_groupOf_27 (by decide) ?_
  refine x_ishl hx hb dX2_groupOf_28 ?_
  refine lv_topi (fun n103 en103 => ?_)
  have hu := hu _ en103
  refine lv_istore (lv' := [(5, .int n103), (4, .int n102), (3, .int n101), (0, .int p0), (1, .int p1), (2, .int p2)]) hx hb dX2_groupOf_29 hl (by decide) rfl (fun ls hl => ?_)
  refine lv_iload_n hx hb dX2_groupOf_31 rfl (lv_at hl 5 rfl) ?_
  refine lv_iconst (v := 1) hx hb dX2_groupOf_32 (by decide) ?_
  refine lv_iand hx hb dX2_groupOf_33 ?_
  refine lv_topi (fun n104 en104 => ?_)
  have hu := hu _ en104
  refine lv_istore (lv' := [(6, .int n104), (5, .int n103), (4, .int n102), (3, .int n101), (0, .int p0), (1, .int p1), (2, .int p2)]) hx hb dX2_groupOf_34 hl (by decide) rfl (fun ls hl => ?_)
  refine lv_iload_n hx hb dX2_groupOf_36 rfl (lv_at hl 3 rfl) ?_
  by_cases c_105 : n101 = 0
  · rw [if_pos c_105] at hu
    refine lv_tableIn (tgt := 80) hx hb dX2_groupOf_37 (by rw [c_105]; decide) (by rw [c_105]; decide) (by rw [c_105]; rfl) (by decide) ?_
    refine lv_iload_n hx hb dX2_groupOf_80 rfl (lv_at hl 4 rfl) ?_
    refine lv_bipush (v := 7) hx hb dX2_groupOf_81 (by decide) ?_
    refine x_ishl hx hb dX2_groupOf_83 ?_
    refine lv_iload_n hx hb dX2_groupOf_84 rfl (lv_at hl 5 rfl) ?_
    refine lv_iconst (v := 4) hx hb dX2_groupOf_85 (by decide) ?_
    refine x_ishl hx hb dX2_groupOf_86 ?_
    refine lv_ior hx hb dX2_groupOf_87 ?_
    refine lv_iload_n hx hb dX2_groupOf_88 rfl (lv_at hl 6 rfl) ?_
    refine lv_ior hx hb dX2_groupOf_89 ?_
    have e9 := Eq.symm hu; subst e9
    exact x_iret hx hb hr hlocks hQ hK hP hD hS rfl rfl dX2_groupOf_90
  rw [if_neg c_105] at hu
  by_cases c_106 : n101 = 1
  · rw [if_pos c_106] at hu
    refine lv_tableIn (tgt := 91) hx hb dX2_groupOf_37 (by rw [c_106]; decide) (by rw [c_106]; decide) (by rw [c_106]; rfl) (by decide) ?_
    refine lv_iload_n hx hb dX2_groupOf_91 rfl (lv_at hl 4 rfl) ?_
    refine lv_bipush (v := 7) hx hb dX2_groupOf_92 (by decide) ?_
    refine x_ishl hx hb dX2_groupOf_94 ?_
    refine lv_iload_n hx hb dX2_groupOf_95 rfl (lv_at hl 5 rfl) ?_
    refine lv_iconst (v := 4) hx hb dX2_groupOf_96 (by decide) ?_
    refine x_ishl hx hb dX2_groupOf_97 ?_
    refine lv_ior hx hb dX2_groupOf_98 ?_
    refine lv_bipush (v := 8) hx hb dX2_groupOf_99 (by decide) ?_
    refine lv_ior hx hb dX2_groupOf_101 ?_
    refine lv_iload hx hb dX2_groupOf_102 (lv_at hl 0 rfl) ?_
    refine lv_ior hx hb dX2_groupOf_104 ?_
    have e9 := Eq.symm hu; subst e9
    exact x_iret hx hb hr hlocks hQ hK hP hD hS rfl rfl dX2_groupOf_105
  rw [if_neg c_106] at hu
  by_cases c_107 : n101 = 2
  · rw [if_pos c_107] at hu
    refine lv_tableIn (tgt := 106) hx hb dX2_groupOf_37 (by rw [c_107]; decide) (by rw [c_107]; decide) (by rw [c_107]; rfl) (by decide) ?_
    refine lv_iload_n hx hb dX2_groupOf_106 rfl (lv_at hl 4 rfl) ?_
    refine lv_bipush (v := 7) hx hb dX2_groupOf_107 (by decide) ?_
    refine x_ishl hx hb dX2_groupOf_109 ?_
    refine lv_iload_n hx hb dX2_groupOf_110 rfl (lv_at hl 6 rfl) ?_
    refine lv_iconst (v := 1) hx hb dX2_groupOf_111 (by decide) ?_
    refine x_ishr hx hb dX2_groupOf_112 ?_
    refine lv_iconst (v := 5) hx hb dX2_groupOf_113 (by decide) ?_
    refine x_ishl hx hb dX2_groupOf_114 ?_
    refine lv_ior hx hb dX2_groupOf_115 ?_
    refine lv_iload hx hb dX2_groupOf_116 (lv_at hl 1 rfl) ?_
    refine lv_ior hx hb dX2_groupOf_118 ?_
    refine lv_bipush (v := 10) hx hb dX2_groupOf_119 (by decide) ?_
    refine lv_ior hx hb dX2_groupOf_121 ?_
    refine lv_iload hx hb dX2_groupOf_122 (lv_at hl 0 rfl) ?_
    refine lv_ior hx hb dX2_groupOf_124 ?_
    have e9 := Eq.symm hu; subst e9
    exact x_iret hx hb hr hlocks hQ hK hP hD hS rfl rfl dX2_groupOf_125
  rw [if_neg c_107] at hu
  by_cases c_108 : n101 = 3
  · rw [if_pos c_108] at hu
    refine lv_tableIn (tgt := 126) hx hb dX2_groupOf_37 (by rw [c_108]; decide) (by rw [c_108]; decide) (by rw [c_108]; rfl) (by decide) ?_
    refine lv_iload_n hx hb dX2_groupOf_126 rfl (lv_at hl 4 rfl) ?_
    refine lv_bipush (v := 7) hx hb dX2_groupOf_127 (by decide) ?_
    refine x_ishl hx hb dX2_groupOf_129 ?_
    refine lv_bipush (v := 64) hx hb dX2_groupOf_130 (by decide) ?_
    refine lv_ior hx hb dX2_groupOf_132 ?_
    refine lv_iload hx hb dX2_groupOf_133 (lv_at hl 1 rfl) ?_
    refine lv_ior hx hb dX2_groupOf_135 ?_
    refine lv_bipush (v := 14) hx hb dX2_groupOf_136 (by decide) ?_
    refine lv_ior hx hb dX2_groupOf_138 ?_
    refine lv_iload hx hb dX2_groupOf_139 (lv_at hl 0 rfl) ?_
    refine lv_ior hx hb dX2_groupOf_141 ?_
    have e9 := Eq.symm hu; subst e9
    exact x_iret hx hb hr hlocks hQ hK hP hD hS rfl rfl dX2_groupOf_142
  rw [if_neg c_108] at hu
  by_cases c_109 : n101 = 4
  · rw [if_pos c_109] at hu
    refine lv_tableIn (tgt := 143) hx hb dX2_groupOf_37 (by rw [c_109]; decide) (by rw [c_109]; decide) (by rw [c_109]; rfl) (by decide) ?_
    refine lv_iload_n hx hb dX2_groupOf_143 rfl (lv_at hl 6 rfl) ?_
    refine lv_iconst (v := 1) hx hb dX2_groupOf_144 (by decide) ?_
    refine x_ishr hx hb dX2_groupOf_145 ?_
    refine lv_bipush (v := 8) hx hb dX2_groupOf_146 (by decide) ?_
    refine x_ishl hx hb dX2_groupOf_148 ?_
    refine lv_iload hx hb dX2_groupOf_149 (lv_at hl 2 rfl) ?_
    refine lv_ior hx hb dX2_groupOf_151 ?_
    refine lv_iload_n hx hb dX2_groupOf_152 rfl (lv_at hl 5 rfl) ?_
    refine lv_iconst (v := 4) hx hb dX2_groupOf_153 (by decide) ?_
    refine x_ishl hx hb dX2_groupOf_154 ?_
    refine lv_ior hx hb dX2_groupOf_155 ?_
    refine lv_bipush (v := 12) hx hb dX2_groupOf_156 (by decide) ?_
    refine lv_ior hx hb dX2_groupOf_158 ?_
    refine lv_iload hx hb dX2_groupOf_159 (lv_at hl 0 rfl) ?_
    refine lv_ior hx hb dX2_groupOf_161 ?_
    have e9 := Eq.symm hu; subst e9
    exact x_iret hx hb hr hlocks hQ hK hP hD hS rfl rfl dX2_groupOf_162
  rw [if_neg c_109] at hu
  by_cases c_110 : n101 = 5
  · rw [if_pos c_110] at hu
    refine lv_tableIn (tgt := 163) hx hb dX2_groupOf_37 (by rw [c_110]; decide) (by rw [c_110]; decide) (by rw [c_110]; rfl) (by decide) ?_
    refine lv_iload_n hx hb dX2_groupOf_163 rfl (lv_at hl 5 rfl) ?_
    refine lv_iconst (v := 1) hx hb dX2_groupOf_164 (by decide) ?_
    refine x_ishr hx hb dX2_groupOf_165 ?_
    refine lv_bipush (v := 8) hx hb dX2_groupOf_166 (by decide) ?_
    refine x_ishl hx hb dX2_groupOf_168 ?_
    refine lv_iload hx hb dX2_groupOf_169 (lv_at hl 2 rfl) ?_
    refine lv_ior hx hb dX2_groupOf_171 ?_
    refine lv_bipush (v := 32) hx hb dX2_groupOf_172 (by decide) ?_
    refine lv_ior hx hb dX2_groupOf_174 ?_
    refine lv_iload hx hb dX2_groupOf_175 (lv_at hl 1 rfl) ?_
    refine lv_ior hx hb dX2_groupOf_177 ?_
    refine lv_bipush (v := 14) hx hb dX2_groupOf_178 (by decide) ?_
    refine lv_ior hx hb dX2_groupOf_180 ?_
    refine lv_iload hx hb dX2_groupOf_181 (lv_at hl 0 rfl) ?_
    refine lv_ior hx hb dX2_groupOf_183 ?_
    have e9 := Eq.symm hu; subst e9
    exact x_iret hx hb hr hlocks hQ hK hP hD hS rfl rfl dX2_groupOf_184
  rw [if_neg c_110] at hu
  by_cases c_111 : n101 = 6
  · rw [if_pos c_111] at hu
    refine lv_tableIn (tgt := 185) hx hb dX2_groupOf_37 (by rw [c_111]; decide) (by rw [c_111]; decide) (by rw [c_111]; rfl) (by decide) ?_
    refine lv_iload_n hx hb dX2_groupOf_185 rfl (lv_at hl 6 rfl) ?_
    refine lv_iconst (v := 1) hx hb dX2_groupOf_186 (by decide) ?_
    refine x_ishr hx hb dX2_groupOf_187 ?_
    refine lv_bipush (v := 8) hx hb dX2_groupOf_188 (by decide) ?_
    refine x_ishl hx hb dX2_groupOf_190 ?_
    refine lv_iload hx hb dX2_groupOf_191 (lv_at hl 2 rfl) ?_
    refine lv_ior hx hb dX2_groupOf_193 ?_
    refine lv_iload hx hb dX2_groupOf_194 (lv_at hl 1 rfl) ?_
    refine lv_ior hx hb dX2_groupOf_196 ?_
    refine lv_bipush (v := 14) hx hb dX2_groupOf_197 (by decide) ?_
    refine lv_ior hx hb dX2_groupOf_199 ?_
    refine lv_iload hx hb dX2_groupOf_200 (lv_at hl 0 rfl) ?_
    refine lv_ior hx hb dX2_groupOf_202 ?_
    have e9 := Eq.symm hu; subst e9
    exact x_iret hx hb hr hlocks hQ hK hP hD hS rfl rfl dX2_groupOf_203
  rw [if_neg c_111] at hu
  refine lv_tableOut (tgt := 204) hx hb dX2_groupOf_37 (by have kc_105 := lv_neT c_105 (a := 0) (by decide); have kc_106 := lv_neT c_106 (a := 1) (by decide); have kc_107 := lv_neT c_107 (a := 2) (by decide); have kc_108 := lv_neT c_108 (a := 3) (by decide); have kc_109 := lv_neT c_109 (a := 4) (by decide); have kc_110 := lv_neT c_110 (a := 5) (by decide); have kc_111 := lv_neT c_111 (a := 6) (by decide); omega) (by decide) ?_
  refine lv_iload hx hb dX2_groupOf_204 (lv_at hl 2 rfl) ?_
  refine lv_bipush (v := 96) hx hb dX2_groupOf_206 (by decide) ?_
  refine lv_ior hx hb dX2_groupOf_208 ?_
  refine lv_iload hx hb dX2_groupOf_209 (lv_at hl 1 rfl) ?_
  refine lv_ior hx hb dX2_groupOf_211 ?_
  refine lv_bipush (v := 14) hx hb dX2_groupOf_212 (by decide) ?_
  refine lv_ior hx hb dX2_groupOf_214 ?_
  refine lv_iload hx hb dX2_groupOf_215 (lv_at hl 0 rfl) ?_
  refine lv_ior hx hb dX2_groupOf_217 ?_
  have e9 := Eq.symm hu; subst e9
  exact x_iret hx hb hr hlocks hQ hK hP hD hS rfl rfl dX2_groupOf_218

def F_X2_binaryWord  (p0 : Int64) (p1 : Int64) : Int64 := (if 9007199254740992 ≤ p0 then (6917529027641081856 ||| (jshlL p1 51)) ||| (p0 - 9007199254740992) else (jshlL p1 53) ||| p0)
def RF_X2_binaryWord  (p0 : Int64) (p1 : Int64) (u9 : Int64) : Prop := (if 9007199254740992 ≤ p0 then u9 = (6917529027641081856 ||| (jshlL p1 51)) ||| (p0 - 9007199254740992) else u9 = (jshlL p1 53) ||| p0)
theorem rF_X2_binaryWord  (p0 : Int64) (p1 : Int64) {u9 : Int64} (hu : u9 = F_X2_binaryWord p0 p1) : RF_X2_binaryWord p0 p1 u9 := by
  unfold RF_X2_binaryWord
  refine ite_P (fun c_101 => ?_) (fun c_101 => ?_)
  · have hu := hu.trans (if_pos c_101)
    exact hu
  · have hu := hu.trans (if_neg c_101)
    exact hu
def rm_X2_binaryWord : Room := { frames := 0, cells := 0, slots := 0, locals := 0 }
set_option maxHeartbeats 4000000 in
set_option maxRecDepth 100000 in
theorem c_X2_binaryWord (l : Launch) (D : va_G) (cR cI cJ cZ : ClassId) (t0 : Nat) (w : va_W) (p0 : Int64) (p1 : Int64) (u : Int64) (hu : u = F_X2_binaryWord p0 p1) : XM l D (xty cR cI cJ cZ) t0 yX2_binaryWord cX2_binaryWord 4 (some .long) rm_X2_binaryWord [.long p0, .long p1] (some (.long u)) (w) (w) := by
  refine XM.of (by decide) (Nat.le_of_ble_eq_true rfl) ?_
  intro p e s m args below meth c A Q F hK hP hD hA hSt hS hQ ls hl
  obtain ⟨hx, hb, hr, hts, hown, hlocks, hml⟩ := F
  have hCF : CallFix p m c cX2_binaryWord 4 s args gW RX2 := ⟨hx, hb, hml, hown, hts⟩
  have hu := rF_X2_binaryWord p0 p1 hu
  unfold RF_X2_binaryWord at hu
  obtain ⟨H, eH⟩ : ∃ y9 : Heap, y9 = s.heap := ⟨_, rfl⟩
  obtain ⟨locs, eL⟩ : ∃ y9 : List Loc, y9 = [] := ⟨_, rfl⟩
  rw [← eL] at hS ⊢
  have hP : va_P D vwCl (w) H := by rw [eH]; exact hP
  have hS : va_S A s.heap H locs := by rw [eH]; exact hS
  suffices goal9 : W p l e rm_X2_binaryWord s m args below meth c H locs 0 0 Q (F0 m 0 ls []) from by rw [← eH]; exact goal9
  have hl : lv_has ls 4 [(0, .long p0), (2, .long p1)] := hl
  refine lv_lload_n hx hb dX2_binaryWord_0 rfl (lv_at hl 0 rfl) ?_
  refine lv_ldc2 (v := 9007199254740992) hx hb hown (hts (.constantLong RX2 41 (9007199254740992)) (inW_3 _ (List.mem_of_getElem? (i := 19) rfl))) dX2_binaryWord_1 ?_
  refine xl_ge (tgt := 15) hx hb dX2_binaryWord_4 dX2_binaryWord_5 (by decide) (fun c_101 => ?_) (fun c_101 => ?_)
  · rw [if_pos c_101] at hu
    refine lv_ldc2 (v := 6917529027641081856) hx hb hown (hts (.constantLong RX2 43 (6917529027641081856)) (inW_3 _ (List.mem_of_getElem? (i := 10) rfl))) dX2_binaryWord_15 ?_
    refine lv_lload_n hx hb dX2_binaryWord_18 rfl (lv_at hl 1 rfl) ?_
    refine lv_bipush (v := 51) hx hb dX2_binaryWord_19 (by decide) ?_
    refine x_lshl hx hb dX2_binaryWord_21 ?_
    refine lv_lor hx hb dX2_binaryWord_22 ?_
    refine lv_lload_n hx hb dX2_binaryWord_23 rfl (lv_at hl 0 rfl) ?_
    refine lv_ldc2 (v := 9007199254740992) hx hb hown (hts (.constantLong RX2 41 (9007199254740992)) (inW_3 _ (List.mem_of_getElem? (i := 19) rfl))) dX2_binaryWord_24 ?_
    refine lv_lsub hx hb dX2_binaryWord_27 ?_
    refine lv_lor hx hb dX2_binaryWord_28 ?_
    have e9 := Eq.symm hu; subst e9
    exact x_lret hx hb hr hlocks hQ hK hP hD hS rfl rfl dX2_binaryWord_29
  · rw [if_neg c_101] at hu
    refine lv_lload_n hx hb dX2_binaryWord_8 rfl (lv_at hl 1 rfl) ?_
    refine lv_bipush (v := 53) hx hb dX2_binaryWord_9 (by decide) ?_
    refine x_lshl hx hb dX2_binaryWord_11 ?_
    refine lv_lload_n hx hb dX2_binaryWord_12 rfl (lv_at hl 0 rfl) ?_
    refine lv_lor hx hb dX2_binaryWord_13 ?_
    have e9 := Eq.symm hu; subst e9
    exact x_lret hx hb hr hlocks hQ hK hP hD hS rfl rfl dX2_binaryWord_14

def B_X2_digitWord_74 (p0 : Int64) (t_74 : Int32 × Int64) : Int32 × Int64 := (if 5 ≤ t_74.1 then t_74 else (bnd ((jremL (p0 / (F_X3_tenTo (3 * t_74.1))) 1000).toInt32) (fun n112 : Int32 => (bnd (t_74.2 ||| (jshlL ((F_X2_groupOf (n112 / 100) (jrem (n112 / 10) 10) (jrem n112 10)).toInt64) (10 * t_74.1))) (fun n114 : Int64 => (bnd (t_74.1 + 1) (fun n115 : Int32 => (n115, n114))))))))
def G_X2_digitWord_74 (p0 : Int64) (t_74 : Int32 × Int64) : Bool := (if 5 ≤ t_74.1 then false else (bnd ((jremL (p0 / (F_X3_tenTo (3 * t_74.1))) 1000).toInt32) (fun n112 : Int32 => (bnd (t_74.2 ||| (jshlL ((F_X2_groupOf (n112 / 100) (jrem (n112 / 10) 10) (jrem n112 10)).toInt64) (10 * t_74.1))) (fun n114 : Int64 => (bnd (t_74.1 + 1) (fun n115 : Int32 => true)))))))
def RB_X2_digitWord_74 (p0 : Int64) (t_74 : Int32 × Int64) (u9 : Int32 × Int64) : Prop := (if 5 ≤ t_74.1 then True else (∀ n112 : Int32, n112 = (jremL (p0 / (F_X3_tenTo (3 * t_74.1))) 1000).toInt32 → (∀ n114 : Int64, n114 = t_74.2 ||| (jshlL ((F_X2_groupOf (n112 / 100) (jrem (n112 / 10) 10) (jrem n112 10)).toInt64) (10 * t_74.1)) → (∀ n115 : Int32, n115 = t_74.1 + 1 → u9 = (n115, n114)))))
def RG_X2_digitWord_74 (p0 : Int64) (t_74 : Int32 × Int64) (u9 : Bool) : Prop := (if 5 ≤ t_74.1 then u9 = false else u9 = true)
theorem rB_X2_digitWord_74 (p0 : Int64) (t_74 : Int32 × Int64) {u9 : Int32 × Int64} (hu : u9 = B_X2_digitWord_74 p0 t_74) : RB_X2_digitWord_74 p0 t_74 u9 := by
  unfold RB_X2_digitWord_74
  refine ite_P (fun c_108 => ?_) (fun c_108 => ?_)
  · have hu := hu.trans (if_pos c_108)
    trivial
  · have hu := hu.trans (if_neg c_108)
    intro n112 en112
    have hu := bnd_n hu en112
    intro n114 en114
    have hu := bnd_n hu en114
    intro n115 en115
    have hu := bnd_n hu en115
    exact hu
theorem rG_X2_digitWord_74 (p0 : Int64) (t_74 : Int32 × Int64) {u9 : Bool} (hu : u9 = G_X2_digitWord_74 p0 t_74) : RG_X2_digitWord_74 p0 t_74 u9 := by
  unfold RG_X2_digitWord_74
  refine ite_P (fun c_108 => ?_) (fun c_108 => ?_)
  · have hu := hu.trans (if_pos c_108)
    exact hu
  · have hu := hu.trans (if_neg c_108)
    exact hu
def SB_X2_digitWord_74 (p0 : Int64) (t_74 : Int32 × Int64) : Prop := (if 5 ≤ t_74.1 then True else (S_X3_tenTo (3 * t_74.1)) ∧ ¬ (F_X3_tenTo (3 * t_74.1)) = 0)
def Z_X2_digitWord_J_106 (n101 : Int64) (n102 : Int64) : Int64 := (if 8 ≤ n101 then (6917529027641081856 ||| (jshlL n102 59)) ||| (jshlL (n101 - 8) 58) else (jshlL n102 61) ||| (jshlL n101 58))
def RZ_X2_digitWord_J_106 (n101 : Int64) (n102 : Int64) (u9 : Int64) : Prop := (if 8 ≤ n101 then u9 = (6917529027641081856 ||| (jshlL n102 59)) ||| (jshlL (n101 - 8) 58) else u9 = (jshlL n102 61) ||| (jshlL n101 58))
theorem rZ_X2_digitWord_J_106 (n101 : Int64) (n102 : Int64) {u9 : Int64} (hu : u9 = Z_X2_digitWord_J_106 n101 n102) : RZ_X2_digitWord_J_106 n101 n102 u9 := by
  unfold RZ_X2_digitWord_J_106
  refine ite_P (fun c_103 => ?_) (fun c_103 => ?_)
  · have hu := hu.trans (if_pos c_103)
    exact hu
  · have hu := hu.trans (if_neg c_103)
    exact hu
def F_X2_digitWord  (p0 : Int64) (p1 : Int64) : Int64 := (bnd (p0 / 1000000000000000) (fun n101 : Int64 => (bnd (p1 / 256) (fun n102 : Int64 => (bnd (Z_X2_digitWord_J_106 n101 n102) (fun z105 : Int64 => (bnd (z105 ||| (jshlL (p1 &&& 255) 50)) (fun n107 : Int64 => (bnd (wl (G_X2_digitWord_74 p0) (B_X2_digitWord_74 p0) 6 (0, n107)) (fun z116 : Int32 × Int64 => z116.2))))))))))
def RF_X2_digitWord  (p0 : Int64) (p1 : Int64) (u9 : Int64) : Prop := (∀ n101 : Int64, n101 = p0 / 1000000000000000 → (∀ n102 : Int64, n102 = p1 / 256 → (∀ z105 : Int64, z105 = Z_X2_digitWord_J_106 n101 n102 → (∀ n107 : Int64, n107 = z105 ||| (jshlL (p1 &&& 255) 50) → (∀ z116 : Int32 × Int64, z116 = wl (G_X2_digitWord_74 p0) (B_X2_digitWord_74 p0) 6 (0, n107) → u9 = z116.2)))))
theorem rF_X2_digitWord  (p0 : Int64) (p1 : Int64) {u9 : Int64} (hu : u9 = F_X2_digitWord p0 p1) : RF_X2_digitWord p0 p1 u9 := by
  unfold RF_X2_digitWord
  intro n101 en101
  have hu := bnd_n hu en101
  intro n102 en102
  have hu := bnd_n hu en102
  intro z105 ez105
  have hu := bnd_n hu ez105
  intro n107 en107
  have hu := bnd_n hu en107
  intro z116 ez116
  have hu := bnd_n hu ez116
  exact hu
def S_X2_digitWord  (p0 : Int64) (p1 : Int64) : Prop := (∀ n101 : Int64, n101 = p0 / 1000000000000000 → (∀ n102 : Int64, n102 = p1 / 256 → (∀ z105 : Int64, z105 = Z_X2_digitWord_J_106 n101 n102 → (∀ n107 : Int64, n107 = z105 ||| (jshlL (p1 &&& 255) 50) → (∀ j : Nat, j < nW (G_X2_digitWord_74 p0) (B_X2_digitWord_74 p0) 6 (0, n107) → SB_X2_digitWord_74 p0 (itn (B_X2_digitWord_74 p0) j (0, n107))) ∧ G_X2_digitWord_74 p0 (wl (G_X2_digitWord_74 p0) (B_X2_digitWord_74 p0) 6 (0, n107)) = false))))
def rm_X2_digitWord : Room := { frames := 1, cells := 0, slots := 0, locals := 26 }
set_option maxHeartbeats 4000000 in
set_option maxRecDepth 100000 in
theorem c_X2_digitWord (l : Launch) (D : va_G) (cR cI cJ cZ : ClassId) (t0 : Nat) (w : va_W) (p0 : Int64) (p1 : Int64) (u : Int64) (hu : u = F_X2_digitWord p0 p1) (hs : S_X2_digitWord p0 p1) : XM l D (xty cR cI cJ cZ) t0 yX2_digitWord cX2_digitWord 12 (some .long) rm_X2_digitWord [.long p0, .long p1] (some (.long u)) (w) (w) := by
  refine XM.of (by decide) (Nat.le_of_ble_eq_true rfl) ?_
  intro p e s m args below meth c A Q F hK hP hD hA hSt hS hQ ls hl
  obtain ⟨hx, hb, hr, hts, hown, hlocks, hml⟩ := F
  have hCF : CallFix p m c cX2_digitWord 12 s args gW RX2 := ⟨hx, hb, hml, hown, hts⟩
  unfold S_X2_digitWord at hs
  have hu := rF_X2_digitWord p0 p1 hu
  unfold RF_X2_digitWord at hu
  obtain ⟨H, eH⟩ : ∃ y9 : Heap, y9 = s.heap := ⟨_, rfl⟩
  obtain ⟨locs, eL⟩ : ∃ y9 : List Loc, y9 = [] := ⟨_, rfl⟩
  rw [← eL] at hS ⊢
  have hP : va_P D vwCl (w) H := by rw [eH]; exact hP
  have hS : va_S A s.heap H locs := by rw [eH]; exact hS
  suffices goal9 : W p l e rm_X2_digitWord s m args below meth c H locs 0 0 Q (F0 m 0 ls []) from by rw [← eH]; exact goal9
  have hl : lv_has ls 12 [(0, .long p0), (2, .long p1)] := hl
  refine lv_lload_n hx hb dX2_digitWord_0 rfl (lv_at hl 0 rfl) ?_
  refine lv_ldc2 (v := 1000000000000000) hx hb hown (hts (.constantLong RX2 45 (1000000000000000)) (inW_3 _ (List.mem_of_getElem? (i := 7) rfl))) dX2_digitWord_1 ?_
  refine lv_ldiv hx hb dX2_digitWord_4 (by decide) ?_
  refine lv_topl (fun n101 en101 => ?_)
  have hs := hs _ en101
  have hu := hu _ en101
  refine lv_lstore (lv' := [(4, .long n101), (0, .long p0), (2, .long p1)]) hx hb dX2_digitWord_5 hl (by decide) rfl (fun ls hl => ?_)
  refine lv_lload_n hx hb dX2_digitWord_7 rfl (lv_at hl 2 rfl) ?_
  refine lv_ldc2 (v := 256) hx hb hown (hts (.constantLong RX2 47 (256)) (inW_3 _ (List.mem_of_getElem? (i := 8) rfl))) dX2_digitWord_8 ?_
  refine lv_ldiv hx hb dX2_digitWord_11 (by decide) ?_
  refine lv_topl (fun n102 en102 => ?_)
  have hs := hs _ en102
  have hu := hu _ en102
  refine lv_lstore (lv' := [(6, .long n102), (4, .long n101), (0, .long p0), (2, .long p1)]) hx hb dX2_digitWord_12 hl (by decide) rfl (fun ls hl => ?_)
  refine lv_lload hx hb dX2_digitWord_14 (lv_at hl 1 rfl) ?_
  refine lv_ldc2 (v := 8) hx hb hown (hts (.constantLong RX2 49 (8)) (inW_3 _ (List.mem_of_getElem? (i := 9) rfl))) dX2_digitWord_16 ?_
  have J_106 : (∀ z105 : Int64, z105 = Z_X2_digitWord_J_106 n101 n102 → ∀ (H : Heap) (locs : List Loc), va_P D vwCl (w) H → va_D A (w) → va_S A s.heap H locs → ∀ ls : Array Slot, lv_has ls 12 [(0, .long p0), (2, .long p1)] → W p l e rm_X2_digitWord s m args below meth c H locs 0 0 Q (F0 m 56 ls [.long z105])) := by
    intro z105 ez105 H locs hP hD hS ls hl
    have hs := hs _ ez105
    have hu := hu _ ez105
    refine lv_lstore (lv' := [(8, .long z105), (0, .long p0), (2, .long p1)]) hx hb dX2_digitWord_56 hl (by decide) rfl (fun ls hl => ?_)
    refine lv_lload hx hb dX2_digitWord_58 (lv_at hl 0 rfl) ?_
    refine lv_lload_n hx hb dX2_digitWord_60 rfl (lv_at hl 2 rfl) ?_
    refine lv_ldc2 (v := 255) hx hb hown (hts (.constantLong RX2 51 (255)) (inW_3 _ (List.mem_of_getElem? (i := 11) rfl))) dX2_digitWord_61 ?_
    refine lv_land hx hb dX2_digitWord_64 ?_
    refine lv_bipush (v := 50) hx hb dX2_digitWord_65 (by decide) ?_
    refine x_lshl hx hb dX2_digitWord_67 ?_
    refine lv_lor hx hb dX2_digitWord_68 ?_
    refine lv_topl (fun n107 en107 => ?_)
    have hs := hs _ en107
    have hu := hu _ en107
    refine lv_lstore (lv' := [(8, .long n107), (0, .long p0), (2, .long p1)]) hx hb dX2_digitWord_69 hl (by decide) rfl (fun ls hl => ?_)
    refine lv_iconst (v := 0) hx hb dX2_digitWord_71 (by decide) ?_
    refine lv_istore (lv' := [(10, .int 0), (8, .long n107), (0, .long p0), (2, .long p1)]) hx hb dX2_digitWord_72 hl (by decide) rfl (fun ls hl => ?_)
    have L_121 : ∀ (n9 : Nat) (t_74 : Int32 × Int64), (∀ j : Nat, j < n9 → G_X2_digitWord_74 p0 (itn (B_X2_digitWord_74 p0) j t_74) = true) → (∀ j : Nat, j < n9 → SB_X2_digitWord_74 p0 (itn (B_X2_digitWord_74 p0) j t_74)) → (∀ (H : Heap) (locs : List Loc), va_P D vwCl (w) H → va_D A (w) → va_S A s.heap H locs → ∀ ls : Array Slot, lv_has ls 12 [(0, .long p0), (8, .long ((itn (B_X2_digitWord_74 p0) n9 t_74).2)), (10, .int ((itn (B_X2_digitWord_74 p0) n9 t_74).1))] → W p l e rm_X2_digitWord s m args below meth c H locs 0 0 Q (F0 m 74 ls [])) → ∀ (H : Heap) (locs : List Loc), va_P D vwCl (w) H → va_D A (w) → va_S A s.heap H locs → ∀ ls : Array Slot, lv_has ls 12 [(0, .long p0), (8, .long t_74.2), (10, .int t_74.1)] → W p l e rm_X2_digitWord s m args below meth c H locs 0 0 Q (F0 m 74 ls []) := by
      intro n9
      induction n9 with
      | zero => exact fun _ _ _ k9 => k9
      | succ n9 ih9 =>
        intro t_74 hG9 hs9 k9 H locs hP hD hS ls hl
        have hG0 : G_X2_digitWord_74 p0 t_74 = true := hG9 0 (Nat.succ_pos n9)
        have hg := rG_X2_digitWord_74 p0 t_74 (Eq.symm hG0)
        unfold RG_X2_digitWord_74 at hg
        obtain ⟨t9, et9⟩ : ∃ y9 : Int32 × Int64, y9 = (B_X2_digitWord_74 p0) t_74 := ⟨_, rfl⟩
        have hb9 := rB_X2_digitWord_74 p0 t_74 et9
        unfold RB_X2_digitWord_74 at hb9
        have hs : SB_X2_digitWord_74 p0 t_74 := hs9 0 (Nat.succ_pos n9)
        unfold SB_X2_digitWord_74 at hs
        refine lv_iload hx hb dX2_digitWord_74 (lv_at hl 2 rfl) ?_
        refine lv_iconst (v := 5) hx hb dX2_digitWord_76 (by decide) ?_
        refine lv_icmp_ge (tgt := 135) hx hb dX2_digitWord_77 (by decide) (fun c_108 => ?_) (fun c_108 => ?_)
        · rw [if_pos c_108] at hg
          exact absurd hg (by decide)
        · rw [if_neg c_108] at hs
          rw [if_neg c_108] at hg
          rw [if_neg c_108] at hb9
          refine lv_lload_n hx hb dX2_digitWord_80 rfl (lv_at hl 0 rfl) ?_
          refine lv_iconst (v := 3) hx hb dX2_digitWord_81 (by decide) ?_
          refine lv_iload hx hb dX2_digitWord_82 (lv_at hl 2 rfl) ?_
          refine lv_imul hx hb dX2_digitWord_84 ?_
          obtain ⟨h_109, hs⟩ := hs
          refine x_SN (As := [.int (3 * t_74.1)]) (rest := [.long p0]) hCF (c_X3_tenTo l D cR cI cJ cZ t0 (w) (3 * t_74.1) _ rfl h_109) (x_cwN 1 hts hSt.2.2.2.2 (inW_2 _ (List.mem_of_getElem? (i := 9) rfl)) (inW_1 _ (List.mem_of_getElem? (i := 25) rfl)) (inW_2 _ (List.mem_of_getElem? (i := 10) rfl)) rfl rfl (by decide +kernel) ⟨Nat.le_of_ble_eq_true rfl, Nat.le_of_ble_eq_true rfl⟩) hK hP hD hS hA hSt rfl hl.1 rfl (Nat.le_of_ble_eq_true rfl) dX2_digitWord_85 ⟨Nat.le_of_ble_eq_true rfl, Nat.le_of_ble_eq_true rfl⟩ (fun H locs hP hD hS => ?_)
          show W p l e _ s m args below meth c H locs 0 0 Q (F0 m 88 ls (.long (F_X3_tenTo (3 * t_74.1)) :: [.long p0]))
          have h_111 := hs
          refine lv_ldiv hx hb dX2_digitWord_88 h_111 ?_
          refine lv_ldc2 (v := 1000) hx hb hown (hts (.constantLong RX2 57 (1000)) (inW_3 _ (List.mem_of_getElem? (i := 12) rfl))) dX2_digitWord_89 ?_
          refine x_lrem hx hb dX2_digitWord_92 (by decide) ?_
          refine x_l2i hx hb dX2_digitWord_93 ?_
          refine lv_topi (fun n112 en112 => ?_)
          have hb9 := hb9 _ en112
          refine lv_istore (lv' := [(11, .int n112), (0, .long p0), (8, .long t_74.2), (10, .int t_74.1)]) hx hb dX2_digitWord_94 hl (by decide) rfl (fun ls hl => ?_)
          refine lv_lload hx hb dX2_digitWord_96 (lv_at hl 2 rfl) ?_
          refine lv_iload hx hb dX2_digitWord_98 (lv_at hl 0 rfl) ?_
          refine lv_bipush (v := 100) hx hb dX2_digitWord_100 (by decide) ?_
          refine lv_idiv hx hb dX2_digitWord_102 (by decide) ?_
          refine lv_iload hx hb dX2_digitWord_103 (lv_at hl 0 rfl) ?_
          refine lv_bipush (v := 10) hx hb dX2_digitWord_105 (by decide) ?_
          refine lv_idiv hx hb dX2_digitWord_107 (by decide) ?_
          refine lv_bipush (v := 10) hx hb dX2_digitWord_108 (by decide) ?_
          refine x_irem hx hb dX2_digitWord_110 (by decide) ?_
          refine lv_iload hx hb dX2_digitWord_111 (lv_at hl 0 rfl) ?_
          refine lv_bipush (v := 10) hx hb dX2_digitWord_113 (by decide) ?_
          refine x_irem hx hb dX2_digitWord_115 (by decide) ?_
          refine x_S (As := [.int (n112 / 100), .int (jrem (n112 / 10) 10), .int (jrem n112 10)]) (rest := [.long t_74.2]) hCF (c_X2_groupOf l D cR cI cJ cZ t0 (w) (n112 / 100) (jrem (n112 / 10) 10) (jrem n112 10) _ rfl) (x_cwS 3 hts (inW_3 _ (List.mem_of_getElem? (i := 13) rfl)) (inW_3 _ (List.mem_of_getElem? (i := 14) rfl)) (inW_3 _ (List.mem_of_getElem? (i := 5) rfl)) (inW_3 _ (List.mem_of_getElem? (i := 15) rfl)) rfl rfl (by decide +kernel) ⟨Nat.le_of_ble_eq_true rfl, Nat.le_of_ble_eq_true rfl⟩) hK hP hD hS hA hSt rfl hl.1 rfl (Nat.le_of_ble_eq_true rfl) dX2_digitWord_116 ⟨Nat.le_of_ble_eq_true rfl, Nat.le_of_ble_eq_true rfl⟩ (fun H locs hP hD hS => ?_)
          show W p l e _ s m args below meth c H locs 0 0 Q (F0 m 119 ls (.int (F_X2_groupOf (n112 / 100) (jrem (n112 / 10) 10) (jrem n112 10)) :: [.long t_74.2]))
          refine x_i2l hx hb dX2_digitWord_119 ?_
          refine lv_bipush (v := 10) hx hb dX2_digitWord_120 (by decide) ?_
          refine lv_iload hx hb dX2_digitWord_122 (lv_at hl 3 rfl) ?_
          refine lv_imul hx hb dX2_digitWord_124 ?_
          refine x_lshl hx hb dX2_digitWord_125 ?_
          refine lv_lor hx hb dX2_digitWord_126 ?_
          refine lv_topl (fun n114 en114 => ?_)
          have hb9 := hb9 _ en114
          refine lv_lstore (lv' := [(8, .long n114), (11, .int n112), (0, .long p0), (10, .int t_74.1)]) hx hb dX2_digitWord_127 hl (by decide) rfl (fun ls hl => ?_)
          obtain ⟨n115, en115⟩ : ∃ y9 : Int32, y9 = t_74.1 + 1 := ⟨_, rfl⟩
          have hb9 := hb9 _ en115
          refine lv_iinc (v := n115) (lv' := [(10, .int n115), (8, .long n114), (11, .int n112), (0, .long p0)]) hx hb dX2_digitWord_129 hl (k := 3) rfl (by rw [en115]; rfl) (by decide) rfl (fun ls hl => ?_)
          refine lv_goto (tgt := 74) hx hb dX2_digitWord_132 (by decide) ?_
          have e9 := Eq.symm hb9; subst e9
          have key9 := ih9 ((B_X2_digitWord_74 p0) t_74) (fun j hj => hG9 (j + 1) (Nat.succ_lt_succ hj)) (fun j hj => hs9 (j + 1) (Nat.succ_lt_succ hj)) k9
          rw [← et9] at key9
          exact key9 H locs hP hD hS ls (lv_sub hl [3, 1, 0] rfl)
    obtain ⟨hsL, hG1⟩ := hs
    refine L_121 (nW (G_X2_digitWord_74 p0) (B_X2_digitWord_74 p0) 6 (0, n107)) (0, n107) (nW_lt _ _ _ _) hsL (fun H locs hP hD hS ls hl => ?_) H locs hP hD hS ls (lv_sub hl [2, 1, 0] rfl)
    obtain ⟨z116, ez116⟩ : ∃ y9 : Int32 × Int64, y9 = wl (G_X2_digitWord_74 p0) (B_X2_digitWord_74 p0) 6 (0, n107) := ⟨_, rfl⟩
    have e9 : z116 = itn (B_X2_digitWord_74 p0) (nW (G_X2_digitWord_74 p0) (B_X2_digitWord_74 p0) 6 (0, n107)) (0, n107) := ez116
    try rw [← e9] at hP
    try rw [← e9] at hD
    try rw [← e9] at hl
    rw [← ez116] at hG1
    clear e9
    have hg := rG_X2_digitWord_74 p0 z116 (Eq.symm hG1)
    unfold RG_X2_digitWord_74 at hg
    have hu := hu _ ez116
    refine lv_iload hx hb dX2_digitWord_74 (lv_at hl 2 rfl) ?_
    refine lv_iconst (v := 5) hx hb dX2_digitWord_76 (by decide) ?_
    have J_120 : ∀ (H : Heap) (locs : List Loc), va_P D vwCl (w) H → va_D A (w) → va_S A s.heap H locs → ∀ ls : Array Slot, lv_has ls 12 [(8, .long z116.2)] → W p l e rm_X2_digitWord s m args below meth c H locs 0 0 Q (F0 m 135 ls []) := by
      intro H locs hP hD hS ls hl
      refine lv_lload hx hb dX2_digitWord_135 (lv_at hl 0 rfl) ?_
      have e9 := Eq.symm hu; subst e9
      exact x_lret hx hb hr hlocks hQ hK hP hD hS rfl rfl dX2_digitWord_137
    refine lv_icmp_ge (tgt := 135) hx hb dX2_digitWord_77 (by decide) (fun c_118 => ?_) (fun c_118 => ?_)
    · rw [if_pos c_118] at hg
      exact J_120 H locs hP hD hS ls (lv_sub hl [1] rfl)
    · rw [if_neg c_118] at hg
      exact absurd hg (by decide)
  obtain ⟨z9, ez9⟩ : ∃ y9 : Int64, y9 = Z_X2_digitWord_J_106 n101 n102 := ⟨_, rfl⟩
  have hz := rZ_X2_digitWord_J_106 n101 n102 ez9
  unfold RZ_X2_digitWord_J_106 at hz
  refine xl_ge (tgt := 37) hx hb dX2_digitWord_19 dX2_digitWord_20 (by decide) (fun c_103 => ?_) (fun c_103 => ?_)
  · rw [if_pos c_103] at hz
    refine lv_ldc2 (v := 6917529027641081856) hx hb hown (hts (.constantLong RX2 43 (6917529027641081856)) (inW_3 _ (List.mem_of_getElem? (i := 10) rfl))) dX2_digitWord_37 ?_
    refine lv_lload hx hb dX2_digitWord_40 (lv_at hl 0 rfl) ?_
    refine lv_bipush (v := 59) hx hb dX2_digitWord_42 (by decide) ?_
    refine x_lshl hx hb dX2_digitWord_44 ?_
    refine lv_lor hx hb dX2_digitWord_45 ?_
    refine lv_lload hx hb dX2_digitWord_46 (lv_at hl 1 rfl) ?_
    refine lv_ldc2 (v := 8) hx hb hown (hts (.constantLong RX2 49 (8)) (inW_3 _ (List.mem_of_getElem? (i := 9) rfl))) dX2_digitWord_48 ?_
    refine lv_lsub hx hb dX2_digitWord_51 ?_
    refine lv_bipush (v := 58) hx hb dX2_digitWord_52 (by decide) ?_
    refine x_lshl hx hb dX2_digitWord_54 ?_
    refine lv_lor hx hb dX2_digitWord_55 ?_
    have e9 := Eq.symm hz; subst e9
    exact J_106 _ ez9 H locs hP hD hS ls (lv_sub hl [2, 3] rfl)
  · rw [if_neg c_103] at hz
    refine lv_lload hx hb dX2_digitWord_23 (lv_at hl 0 rfl) ?_
    refine lv_bipush (v := 61) hx hb dX2_digitWord_25 (by decide) ?_
    refine x_lshl hx hb dX2_digitWord_27 ?_
    refine lv_lload hx hb dX2_digitWord_28 (lv_at hl 1 rfl) ?_
    refine lv_bipush (v := 58) hx hb dX2_digitWord_30 (by decide) ?_
    refine x_lshl hx hb dX2_digitWord_32 ?_
    refine lv_lor hx hb dX2_digitWord_33 ?_
    refine lv_goto (tgt := 56) hx hb dX2_digitWord_34 (by decide) ?_
    have e9 := Eq.symm hz; subst e9
    exact J_106 _ ez9 H locs hP hD hS ls (lv_sub hl [2, 3] rfl)

def Z_X2_wordOf_J_114 (vco : Nat → Int64) (i1 : Nat) (p1 : Bool) (n107 : Int64) : Int64 := (if p1 = true then F_X2_digitWord (vco i1) n107 else F_X2_binaryWord (vco i1) n107)
def RZ_X2_wordOf_J_114 (vco : Nat → Int64) (i1 : Nat) (p1 : Bool) (n107 : Int64) (u9 : Int64) : Prop := (if p1 = true then u9 = F_X2_digitWord (vco i1) n107 else u9 = F_X2_binaryWord (vco i1) n107)
theorem rZ_X2_wordOf_J_114 (vco : Nat → Int64) (i1 : Nat) (p1 : Bool) (n107 : Int64) {u9 : Int64} (hu : u9 = Z_X2_wordOf_J_114 vco i1 p1 n107) : RZ_X2_wordOf_J_114 vco i1 p1 n107 u9 := by
  unfold RZ_X2_wordOf_J_114
  refine ite_P (fun c_108 => ?_) (fun c_108 => ?_)
  · have hu := hu.trans (if_pos c_108)
    exact hu
  · have hu := hu.trans (if_neg c_108)
    exact hu
def Z_X2_wordOf_J_104 (vmi : Nat → Bool) (i1 : Nat) : Int64 := (if vmi i1 = true then (-9223372036854775808) else 0)
def RZ_X2_wordOf_J_104 (vmi : Nat → Bool) (i1 : Nat) (u9 : Int64) : Prop := (if vmi i1 = true then u9 = (-9223372036854775808) else u9 = 0)
theorem rZ_X2_wordOf_J_104 (vmi : Nat → Bool) (i1 : Nat) {u9 : Int64} (hu : u9 = Z_X2_wordOf_J_104 vmi i1) : RZ_X2_wordOf_J_104 vmi i1 u9 := by
  unfold RZ_X2_wordOf_J_104
  refine ite_P (fun c_101 => ?_) (fun c_101 => ?_)
  · have hu := hu.trans (if_pos c_101)
    exact hu
  · have hu := hu.trans (if_neg c_101)
    exact hu
def F_X2_wordOf (vso : Nat → Int32) (vmi : Nat → Bool) (vco : Nat → Int64) (vex : Nat → Int32) (i1 : Nat) (p1 : Bool) : Int64 := (bnd (Z_X2_wordOf_J_104 vmi i1) (fun z103 : Int64 => (if vso i1 = 1 then z103 ||| 8646911284551352320 else (if vso i1 = 2 then 8935141660703064064 else (bnd (((vex i1) - (-398)).toInt64) (fun n107 : Int64 => (bnd (Z_X2_wordOf_J_114 vco i1 p1 n107) (fun z113 : Int64 => z103 ||| z113))))))))
def RF_X2_wordOf (vso : Nat → Int32) (vmi : Nat → Bool) (vco : Nat → Int64) (vex : Nat → Int32) (i1 : Nat) (p1 : Bool) (u9 : Int64) : Prop := (∀ z103 : Int64, z103 = Z_X2_wordOf_J_104 vmi i1 → (if vso i1 = 1 then u9 = z103 ||| 8646911284551352320 else (if vso i1 = 2 then u9 = 8935141660703064064 else (∀ n107 : Int64, n107 = ((vex i1) - (-398)).toInt64 → (∀ z113 : Int64, z113 = Z_X2_wordOf_J_114 vco i1 p1 n107 → u9 = z103 ||| z113)))))
theorem rF_X2_wordOf (vso : Nat → Int32) (vmi : Nat → Bool) (vco : Nat → Int64) (vex : Nat → Int32) (i1 : Nat) (p1 : Bool) {u9 : Int64} (hu : u9 = F_X2_wordOf vso vmi vco vex i1 p1) : RF_X2_wordOf vso vmi vco vex i1 p1 u9 := by
  unfold RF_X2_wordOf
  intro z103 ez103
  have hu := bnd_n hu ez103
  refine ite_P (fun c_105 => ?_) (fun c_105 => ?_)
  · have hu := hu.trans (if_pos c_105)
    exact hu
  · have hu := hu.trans (if_neg c_105)
    refine ite_P (fun c_106 => ?_) (fun c_106 => ?_)
    · have hu := hu.trans (if_pos c_106)
      exact hu
    · have hu := hu.trans (if_neg c_106)
      intro n107 en107
      have hu := bnd_n hu en107
      intro z113 ez113
      have hu := bnd_n hu ez113
      exact hu
def S_X2_wordOf (vso : Nat → Int32) (vmi : Nat → Bool) (vco : Nat → Int64) (vex : Nat → Int32) (i1 : Nat) (p1 : Bool) : Prop := (∀ z103 : Int64, z103 = Z_X2_wordOf_J_104 vmi i1 → (if vso i1 = 1 then True else (if vso i1 = 2 then True else (∀ n107 : Int64, n107 = ((vex i1) - (-398)).toInt64 → (if p1 = true then S_X2_digitWord (vco i1) n107 else True)))))
def rm_X2_wordOf : Room := { frames := 2, cells := 0, slots := 0, locals := 57 }
set_option maxHeartbeats 4000000 in
set_option maxRecDepth 100000 in
theorem c_X2_wordOf (l : Launch) (D : va_G) (cR cI cJ cZ : ClassId) (t0 : Nat) (ax ar ao : Nat) (ad : Nat → Nat) (vrd : Int32) (vtr : Int32) (vsd : Int32) (vrn : Int32) (vom : Bool) (voh : Int64) (vol : Int64) (vop : Int32) (voe : Bool) (vow : Int32) (vok : Int64) (vos : Int32) (vso : Nat → Int32) (vmi : Nat → Bool) (vco : Nat → Int64) (vex : Nat → Int32) (i1 : Nat) (p1 : Bool) (u : Int64) (hu : u = F_X2_wordOf vso vmi vco vex i1 p1) (hs : S_X2_wordOf vso vmi vco vex i1 p1) (hb1 : i1 < 9) : XM l D (xty cR cI cJ cZ) t0 yX2_wordOf cX2_wordOf 6 (some .long) rm_X2_wordOf [.ref (ad i1), .int (bI p1)] (some (.long u)) (xw cR ax ar ao ad vrd vtr vsd vrn vom voh vol vop voe vow vok vos vso vmi vco vex) (xw cR ax ar ao ad vrd vtr vsd vrn vom voh vol vop voe vow vok vos vso vmi vco vex) := by
  refine XM.of (by decide) (Nat.le_of_ble_eq_true rfl) ?_
  intro p e s m args below meth c A Q F hK hP hD hA hSt hS hQ ls hl
  obtain ⟨hx, hb, hr, hts, hown, hlocks, hml⟩ := F
  have hCF : CallFix p m c cX2_wordOf 6 s args gW RX2 := ⟨hx, hb, hml, hown, hts⟩
  unfold S_X2_wordOf at hs
  have hu := rF_X2_wordOf vso vmi vco vex i1 p1 hu
  unfold RF_X2_wordOf at hu
  obtain ⟨H, eH⟩ : ∃ y9 : Heap, y9 = s.heap := ⟨_, rfl⟩
  obtain ⟨locs, eL⟩ : ∃ y9 : List Loc, y9 = [] := ⟨_, rfl⟩
  rw [← eL] at hS ⊢
  have hP : va_P D vwCl (xw cR ax ar ao ad vrd vtr vsd vrn vom voh vol vop voe vow vok vos vso vmi vco vex) H := by rw [eH]; exact hP
  have hS : va_S A s.heap H locs := by rw [eH]; exact hS
  suffices goal9 : W p l e rm_X2_wordOf s m args below meth c H locs 0 0 Q (F0 m 0 ls []) from by rw [← eH]; exact goal9
  have hl : lv_has ls 6 [(0, .ref (ad i1)), (1, .int (bI p1))] := hl
  have hi0 : ∀ w ∈ wsX00, w ∈ gW := inW_X0
  refine lv_aload_n hx hb dX2_wordOf_0 rfl (lv_at hl 0 rfl) ?_
  refine g_mi (i := i1) hx hb hts hi0 hown hK hP hb1 (hts (.fieldLink RX2 9 "DecimalWords$Datum" "minus" "Z") (inW_2 _ (List.mem_of_getElem? (i := 36) rfl))) dX2_wordOf_1 ?_
  have J_104 : (∀ z103 : Int64, z103 = Z_X2_wordOf_J_104 vmi i1 → ∀ (H : Heap) (locs : List Loc), va_P D vwCl (xw cR ax ar ao ad vrd vtr vsd vrn vom voh vol vop voe vow vok vos vso vmi vco vex) H → va_D A (xw cR ax ar ao ad vrd vtr vsd vrn vom voh vol vop voe vow vok vos vso vmi vco vex) → va_S A s.heap H locs → ∀ ls : Array Slot, lv_has ls 6 [(0, .ref (ad i1)), (1, .int (bI p1))] → W p l e rm_X2_wordOf s m args below meth c H locs 0 0 Q (F0 m 14 ls [.long z103])) := by
    intro z103 ez103 H locs hP hD hS ls hl
    have hs := hs _ ez103
    have hu := hu _ ez103
    refine lv_lstore_n (lv' := [(2, .long z103), (0, .ref (ad i1)), (1, .int (bI p1))]) hx hb dX2_wordOf_14 rfl hl (by decide) rfl (fun ls hl => ?_)
    refine lv_aload_n hx hb dX2_wordOf_15 rfl (lv_at hl 1 rfl) ?_
    refine g_so (i := i1) hx hb hts hi0 hown hK hP hb1 (hts (.fieldLink RX2 17 "DecimalWords$Datum" "sort" "I") (inW_2 _ (List.mem_of_getElem? (i := 38) rfl))) dX2_wordOf_16 ?_
    refine lv_iconst (v := 1) hx hb dX2_wordOf_19 (by decide) ?_
    refine lv_icmp_ne (tgt := 29) hx hb dX2_wordOf_20 (by decide) (fun c_105 => ?_) (fun c_105 => ?_)
    · rw [if_neg c_105] at hs
      rw [if_neg c_105] at hu
      refine lv_aload_n hx hb dX2_wordOf_29 rfl (lv_at hl 1 rfl) ?_
      refine g_so (i := i1) hx hb hts hi0 hown hK hP hb1 (hts (.fieldLink RX2 17 "DecimalWords$Datum" "sort" "I") (inW_2 _ (List.mem_of_getElem? (i := 38) rfl))) dX2_wordOf_30 ?_
      refine lv_iconst (v := 2) hx hb dX2_wordOf_33 (by decide) ?_
      refine lv_icmp_ne (tgt := 41) hx hb dX2_wordOf_34 (by decide) (fun c_106 => ?_) (fun c_106 => ?_)
      · rw [if_neg c_106] at hs
        rw [if_neg c_106] at hu
        refine lv_aload_n hx hb dX2_wordOf_41 rfl (lv_at hl 1 rfl) ?_
        refine g_ex (i := i1) hx hb hts hi0 hown hK hP hb1 (hts (.fieldLink RX2 27 "DecimalWords$Datum" "exponent" "I") (inW_3 _ (List.mem_of_getElem? (i := 1) rfl))) dX2_wordOf_42 ?_
        refine lv_sipush (v := (-398)) hx hb dX2_wordOf_45 (by decide) ?_
        refine lv_isub hx hb dX2_wordOf_48 ?_
        refine x_i2l hx hb dX2_wordOf_49 ?_
        refine lv_topl (fun n107 en107 => ?_)
        have hs := hs _ en107
        have hu := hu _ en107
        refine lv_lstore (lv' := [(4, .long n107), (2, .long z103), (0, .ref (ad i1)), (1, .int (bI p1))]) hx hb dX2_wordOf_50 hl (by decide) rfl (fun ls hl => ?_)
        refine lv_lload_n hx hb dX2_wordOf_52 rfl (lv_at hl 1 rfl) ?_
        refine lv_iload_n hx hb dX2_wordOf_53 rfl (lv_at hl 3 rfl) ?_
        have J_114 : (∀ z113 : Int64, z113 = Z_X2_wordOf_J_114 vco i1 p1 n107 → ∀ (H : Heap) (locs : List Loc), va_P D vwCl (xw cR ax ar ao ad vrd vtr vsd vrn vom voh vol vop voe vow vok vos vso vmi vco vex) H → va_D A (xw cR ax ar ao ad vrd vtr vsd vrn vom voh vol vop voe vow vok vos vso vmi vco vex) → va_S A s.heap H locs → ∀ ls : Array Slot, lv_has ls 6 [] → W p l e rm_X2_wordOf s m args below meth c H locs 0 0 Q (F0 m 78 ls [.long z113, .long z103])) := by
          intro z113 ez113 H locs hP hD hS ls hl
          have hu := hu _ ez113
          refine lv_lor hx hb dX2_wordOf_78 ?_
          have e9 := Eq.symm hu; subst e9
          exact x_lret hx hb hr hlocks hQ hK hP hD hS rfl rfl dX2_wordOf_79
        obtain ⟨z9, ez9⟩ : ∃ y9 : Int64, y9 = Z_X2_wordOf_J_114 vco i1 p1 n107 := ⟨_, rfl⟩
        have hz := rZ_X2_wordOf_J_114 vco i1 p1 n107 ez9
        unfold RZ_X2_wordOf_J_114 at hz
        refine xb_eq (tgt := 69) hx hb dX2_wordOf_54 (by decide) (fun c_108 => ?_) (fun c_108 => ?_)
        · rw [if_neg c_108] at hz
          refine lv_aload_n hx hb dX2_wordOf_69 rfl (lv_at hl 2 rfl) ?_
          refine g_co (i := i1) hx hb hts hi0 hown hK hP hb1 (hts (.fieldLink RX2 30 "DecimalWords$Datum" "coefficient" "J") (inW_3 _ (List.mem_of_getElem? (i := 2) rfl))) dX2_wordOf_70 ?_
          refine lv_lload hx hb dX2_wordOf_73 (lv_at hl 0 rfl) ?_
          refine x_S (As := [.long (vco i1), .long n107]) (rest := [.long z103]) hCF (c_X2_binaryWord l D cR cI cJ cZ t0 (xw cR ax ar ao ad vrd vtr vsd vrn vom voh vol vop voe vow vok vos vso vmi vco vex) (vco i1) n107 _ rfl) (x_cwS 2 hts (inW_3 _ (List.mem_of_getElem? (i := 16) rfl)) (inW_3 _ (List.mem_of_getElem? (i := 17) rfl)) (inW_3 _ (List.mem_of_getElem? (i := 5) rfl)) (inW_3 _ (List.mem_of_getElem? (i := 18) rfl)) rfl rfl (by decide +kernel) ⟨Nat.le_of_ble_eq_true rfl, Nat.le_of_ble_eq_true rfl⟩) hK hP hD hS hA hSt rfl hl.1 rfl (Nat.le_of_ble_eq_true rfl) dX2_wordOf_75 ⟨Nat.le_of_ble_eq_true rfl, Nat.le_of_ble_eq_true rfl⟩ (fun H locs hP hD hS => ?_)
          show W p l e _ s m args below meth c H locs 0 0 Q (F0 m 78 ls (.long (F_X2_binaryWord (vco i1) n107) :: [.long z103]))
          have e9 := Eq.symm hz; subst e9
          exact J_114 _ ez9 H locs hP hD hS ls (lv_sub hl [] rfl)
        · rw [if_pos c_108] at hs
          rw [if_pos c_108] at hz
          refine lv_aload_n hx hb dX2_wordOf_57 rfl (lv_at hl 2 rfl) ?_
          refine g_co (i := i1) hx hb hts hi0 hown hK hP hb1 (hts (.fieldLink RX2 30 "DecimalWords$Datum" "coefficient" "J") (inW_3 _ (List.mem_of_getElem? (i := 2) rfl))) dX2_wordOf_58 ?_
          refine lv_lload hx hb dX2_wordOf_61 (lv_at hl 0 rfl) ?_
          have h_110 := hs
          refine x_S (As := [.long (vco i1), .long n107]) (rest := [.long z103]) hCF (c_X2_digitWord l D cR cI cJ cZ t0 (xw cR ax ar ao ad vrd vtr vsd vrn vom voh vol vop voe vow vok vos vso vmi vco vex) (vco i1) n107 _ rfl h_110) (x_cwS 2 hts (inW_3 _ (List.mem_of_getElem? (i := 3) rfl)) (inW_3 _ (List.mem_of_getElem? (i := 4) rfl)) (inW_3 _ (List.mem_of_getElem? (i := 5) rfl)) (inW_3 _ (List.mem_of_getElem? (i := 6) rfl)) rfl rfl (by decide +kernel) ⟨Nat.le_of_ble_eq_true rfl, Nat.le_of_ble_eq_true rfl⟩) hK hP hD hS hA hSt rfl hl.1 rfl (Nat.le_of_ble_eq_true rfl) dX2_wordOf_63 ⟨Nat.le_of_ble_eq_true rfl, Nat.le_of_ble_eq_true rfl⟩ (fun H locs hP hD hS => ?_)
          show W p l e _ s m args below meth c H locs 0 0 Q (F0 m 66 ls (.long (F_X2_digitWord (vco i1) n107) :: [.long z103]))
          refine lv_goto (tgt := 78) hx hb dX2_wordOf_66 (by decide) ?_
          have e9 := Eq.symm hz; subst e9
          exact J_114 _ ez9 H locs hP hD hS ls (lv_sub hl [] rfl)
      · rw [if_pos c_106] at hu
        refine lv_ldc2 (v := 8935141660703064064) hx hb hown (hts (.constantLong RX2 25 (8935141660703064064)) (inW_3 _ (List.mem_of_getElem? (i := 0) rfl))) dX2_wordOf_37 ?_
        have e9 := Eq.symm hu; subst e9
        exact x_lret hx hb hr hlocks hQ hK hP hD hS rfl rfl dX2_wordOf_40
    · rw [if_pos c_105] at hu
      refine lv_lload_n hx hb dX2_wordOf_23 rfl (lv_at hl 0 rfl) ?_
      refine lv_ldc2 (v := 8646911284551352320) hx hb hown (hts (.constantLong RX2 23 (8646911284551352320)) (inW_2 _ (List.mem_of_getElem? (i := 39) rfl))) dX2_wordOf_24 ?_
      refine lv_lor hx hb dX2_wordOf_27 ?_
      have e9 := Eq.symm hu; subst e9
      exact x_lret hx hb hr hlocks hQ hK hP hD hS rfl rfl dX2_wordOf_28
  obtain ⟨z9, ez9⟩ : ∃ y9 : Int64, y9 = Z_X2_wordOf_J_104 vmi i1 := ⟨_, rfl⟩
  have hz := rZ_X2_wordOf_J_104 vmi i1 ez9
  unfold RZ_X2_wordOf_J_104 at hz
  refine xb_eq (tgt := 13) hx hb dX2_wordOf_4 (by decide) (fun c_101 => ?_) (fun c_101 => ?_)
  · rw [if_neg c_101] at hz
    refine lv_lconst (v := 0) hx hb dX2_wordOf_13 (by decide) ?_
    have e9 := Eq.symm hz; subst e9
    exact J_104 _ ez9 H locs hP hD hS ls (lv_sub hl [0, 1] rfl)
  · rw [if_pos c_101] at hz
    refine lv_ldc2 (v := (-9223372036854775808)) hx hb hown (hts (.constantLong RX2 15 (-9223372036854775808)) (inW_2 _ (List.mem_of_getElem? (i := 37) rfl))) dX2_wordOf_7 ?_
    refine lv_goto (tgt := 14) hx hb dX2_wordOf_10 (by decide) ?_
    have e9 := Eq.symm hz; subst e9
    exact J_104 _ ez9 H locs hP hD hS ls (lv_sub hl [0, 1] rfl)

def Z_X2_readBinary_J_117 (z112 : Int64) : Int64 := (if 10000000000000000 ≤ z112 then 0 else z112)
def RZ_X2_readBinary_J_117 (z112 : Int64) (u9 : Int64) : Prop := (if 10000000000000000 ≤ z112 then u9 = 0 else u9 = z112)
theorem rZ_X2_readBinary_J_117 (z112 : Int64) {u9 : Int64} (hu : u9 = Z_X2_readBinary_J_117 z112) : RZ_X2_readBinary_J_117 z112 u9 := by
  unfold RZ_X2_readBinary_J_117
  refine ite_P (fun c_114 => ?_) (fun c_114 => ?_)
  · have hu := hu.trans (if_pos c_114)
    exact hu
  · have hu := hu.trans (if_neg c_114)
    exact hu
def Z_X2_readBinary_J_113 (p2 : Int64) (z103 : Bool) : Int64 := (if z103 = true then 9007199254740992 ||| (p2 &&& 2251799813685247) else p2 &&& 9007199254740991)
def RZ_X2_readBinary_J_113 (p2 : Int64) (z103 : Bool) (u9 : Int64) : Prop := (if z103 = true then u9 = 9007199254740992 ||| (p2 &&& 2251799813685247) else u9 = p2 &&& 9007199254740991)
theorem rZ_X2_readBinary_J_113 (p2 : Int64) (z103 : Bool) {u9 : Int64} (hu : u9 = Z_X2_readBinary_J_113 p2 z103) : RZ_X2_readBinary_J_113 p2 z103 u9 := by
  unfold RZ_X2_readBinary_J_113
  refine ite_P (fun c_110 => ?_) (fun c_110 => ?_)
  · have hu := hu.trans (if_pos c_110)
    exact hu
  · have hu := hu.trans (if_neg c_110)
    exact hu
def Z_X2_readBinary_J_108 (z103 : Bool) : Int32 := (if z103 = true then 51 else 53)
def RZ_X2_readBinary_J_108 (z103 : Bool) (u9 : Int32) : Prop := (if z103 = true then u9 = 51 else u9 = 53)
theorem rZ_X2_readBinary_J_108 (z103 : Bool) {u9 : Int32} (hu : u9 = Z_X2_readBinary_J_108 z103) : RZ_X2_readBinary_J_108 z103 u9 := by
  unfold RZ_X2_readBinary_J_108
  refine ite_P (fun c_105 => ?_) (fun c_105 => ?_)
  · have hu := hu.trans (if_pos c_105)
    exact hu
  · have hu := hu.trans (if_neg c_105)
    exact hu
def Z_X2_readBinary_J_104 (p2 : Int64) : Bool := (if p2 &&& 6917529027641081856 = 6917529027641081856 then true else false)
def RZ_X2_readBinary_J_104 (p2 : Int64) (u9 : Bool) : Prop := (if p2 &&& 6917529027641081856 = 6917529027641081856 then u9 = true else u9 = false)
theorem rZ_X2_readBinary_J_104 (p2 : Int64) {u9 : Bool} (hu : u9 = Z_X2_readBinary_J_104 p2) : RZ_X2_readBinary_J_104 p2 u9 := by
  unfold RZ_X2_readBinary_J_104
  refine ite_P (fun c_101 => ?_) (fun c_101 => ?_)
  · have hu := hu.trans (if_pos c_101)
    exact hu
  · have hu := hu.trans (if_neg c_101)
    exact hu
def F_X2_readBinary (vso : Nat → Int32) (vmi : Nat → Bool) (vco : Nat → Int64) (vex : Nat → Int32) (i1 : Nat) (p1 : Bool) (p2 : Int64) : (Nat → Int32) × (Nat → Bool) × (Nat → Int64) × (Nat → Int32) := (bnd (Z_X2_readBinary_J_104 p2) (fun z103 : Bool => (bnd (Z_X2_readBinary_J_108 z103) (fun z107 : Int32 => (bnd (((jushrL p2 z107) &&& 1023).toInt32) (fun n109 : Int32 => (bnd (Z_X2_readBinary_J_113 p2 z103) (fun z112 : Int64 => (bnd (Z_X2_readBinary_J_117 z112) (fun z116 : Int64 => (bnd (F_X0_setFinite vso vmi vco vex i1 p1 z116 (n109 + (-398))) (fun u118 : (Nat → Int32) × (Nat → Bool) × (Nat → Int64) × (Nat → Int32) => (u118.1, u118.2.1, u118.2.2.1, u118.2.2.2)))))))))))))
def RF_X2_readBinary (vso : Nat → Int32) (vmi : Nat → Bool) (vco : Nat → Int64) (vex : Nat → Int32) (i1 : Nat) (p1 : Bool) (p2 : Int64) (u9 : (Nat → Int32) × (Nat → Bool) × (Nat → Int64) × (Nat → Int32)) : Prop := (∀ z103 : Bool, z103 = Z_X2_readBinary_J_104 p2 → (∀ z107 : Int32, z107 = Z_X2_readBinary_J_108 z103 → (∀ n109 : Int32, n109 = ((jushrL p2 z107) &&& 1023).toInt32 → (∀ z112 : Int64, z112 = Z_X2_readBinary_J_113 p2 z103 → (∀ z116 : Int64, z116 = Z_X2_readBinary_J_117 z112 → (∀ u118 : (Nat → Int32) × (Nat → Bool) × (Nat → Int64) × (Nat → Int32), u118 = F_X0_setFinite vso vmi vco vex i1 p1 z116 (n109 + (-398)) → u9 = (u118.1, u118.2.1, u118.2.2.1, u118.2.2.2)))))))
theorem rF_X2_readBinary (vso : Nat → Int32) (vmi : Nat → Bool) (vco : Nat → Int64) (vex : Nat → Int32) (i1 : Nat) (p1 : Bool) (p2 : Int64) {u9 : (Nat → Int32) × (Nat → Bool) × (Nat → Int64) × (Nat → Int32)} (hu : u9 = F_X2_readBinary vso vmi vco vex i1 p1 p2) : RF_X2_readBinary vso vmi vco vex i1 p1 p2 u9 := by
  unfold RF_X2_readBinary
  intro z103 ez103
  have hu := bnd_n hu ez103
  intro z107 ez107
  have hu := bnd_n hu ez107
  intro n109 en109
  have hu := bnd_n hu en109
  intro z112 ez112
  have hu := bnd_n hu ez112
  intro z116 ez116
  have hu := bnd_n hu ez116
  intro u118 eu118
  have hu := bnd_n hu eu118
  exact hu
def rm_X2_readBinary : Room := { frames := 1, cells := 0, slots := 0, locals := 24 }
set_option maxHeartbeats 4000000 in
set_option maxRecDepth 100000 in
theorem c_X2_readBinary (l : Launch) (D : va_G) (cR cI cJ cZ : ClassId) (t0 : Nat) (ax ar ao : Nat) (ad : Nat → Nat) (vrd : Int32) (vtr : Int32) (vsd : Int32) (vrn : Int32) (vom : Bool) (voh : Int64) (vol : Int64) (vop : Int32) (voe : Bool) (vow : Int32) (vok : Int64) (vos : Int32) (vso : Nat → Int32) (vmi : Nat → Bool) (vco : Nat → Int64) (vex : Nat → Int32) (i1 : Nat) (p1 : Bool) (p2 : Int64) (u : (Nat → Int32) × (Nat → Bool) × (Nat → Int64) × (Nat → Int32)) (hu : u = F_X2_readBinary vso vmi vco vex i1 p1 p2) (hb1 : i1 < 9) : XM l D (xty cR cI cJ cZ) t0 yX2_readBinary cX2_readBinary 8 none rm_X2_readBinary [.ref (ad i1), .int (bI p1), .long p2] none (xw cR ax ar ao ad vrd vtr vsd vrn vom voh vol vop voe vow vok vos vso vmi vco vex) (xw cR ax ar ao ad vrd vtr vsd vrn vom voh vol vop voe vow vok vos u.1 u.2.1 u.2.2.1 u.2.2.2) := by
  refine XM.of (by decide) (Nat.le_of_ble_eq_true rfl) ?_
  intro p e s m args below meth c A Q F hK hP hD hA hSt hS hQ ls hl
  obtain ⟨hx, hb, hr, hts, hown, hlocks, hml⟩ := F
  have hCF : CallFix p m c cX2_readBinary 8 s args gW RX2 := ⟨hx, hb, hml, hown, hts⟩
  have hu := rF_X2_readBinary vso vmi vco vex i1 p1 p2 hu
  unfold RF_X2_readBinary at hu
  obtain ⟨H, eH⟩ : ∃ y9 : Heap, y9 = s.heap := ⟨_, rfl⟩
  obtain ⟨locs, eL⟩ : ∃ y9 : List Loc, y9 = [] := ⟨_, rfl⟩
  rw [← eL] at hS ⊢
  have hP : va_P D vwCl (xw cR ax ar ao ad vrd vtr vsd vrn vom voh vol vop voe vow vok vos vso vmi vco vex) H := by rw [eH]; exact hP
  have hS : va_S A s.heap H locs := by rw [eH]; exact hS
  suffices goal9 : W p l e rm_X2_readBinary s m args below meth c H locs 0 0 Q (F0 m 0 ls []) from by rw [← eH]; exact goal9
  have hl : lv_has ls 8 [(0, .ref (ad i1)), (1, .int (bI p1)), (2, .long p2)] := hl
  refine lv_lload_n hx hb dX2_readBinary_0 rfl (lv_at hl 2 rfl) ?_
  refine lv_ldc2 (v := 6917529027641081856) hx hb hown (hts (.constantLong RX2 43 (6917529027641081856)) (inW_3 _ (List.mem_of_getElem? (i := 10) rfl))) dX2_readBinary_1 ?_
  refine lv_land hx hb dX2_readBinary_4 ?_
  refine lv_ldc2 (v := 6917529027641081856) hx hb hown (hts (.constantLong RX2 43 (6917529027641081856)) (inW_3 _ (List.mem_of_getElem? (i := 10) rfl))) dX2_readBinary_5 ?_
  have J_104 : (∀ z103 : Bool, z103 = Z_X2_readBinary_J_104 p2 → ∀ (H : Heap) (locs : List Loc), va_P D vwCl (xw cR ax ar ao ad vrd vtr vsd vrn vom voh vol vop voe vow vok vos vso vmi vco vex) H → va_D A (xw cR ax ar ao ad vrd vtr vsd vrn vom voh vol vop voe vow vok vos vso vmi vco vex) → va_S A s.heap H locs → ∀ ls : Array Slot, lv_has ls 8 [(0, .ref (ad i1)), (1, .int (bI p1)), (2, .long p2)] → W p l e rm_X2_readBinary s m args below meth c H locs 0 0 Q (F0 m 17 ls [.int (bI z103)])) := by
    intro z103 ez103 H locs hP hD hS ls hl
    have hu := hu _ ez103
    refine lv_istore (lv' := [(4, .int (bI z103)), (0, .ref (ad i1)), (1, .int (bI p1)), (2, .long p2)]) hx hb dX2_readBinary_17 hl (by decide) rfl (fun ls hl => ?_)
    refine lv_lload_n hx hb dX2_readBinary_19 rfl (lv_at hl 3 rfl) ?_
    refine lv_iload hx hb dX2_readBinary_20 (lv_at hl 0 rfl) ?_
    have J_108 : (∀ z107 : Int32, z107 = Z_X2_readBinary_J_108 z103 → ∀ (H : Heap) (locs : List Loc), va_P D vwCl (xw cR ax ar ao ad vrd vtr vsd vrn vom voh vol vop voe vow vok vos vso vmi vco vex) H → va_D A (xw cR ax ar ao ad vrd vtr vsd vrn vom voh vol vop voe vow vok vos vso vmi vco vex) → va_S A s.heap H locs → ∀ ls : Array Slot, lv_has ls 8 [(0, .ref (ad i1)), (1, .int (bI p1)), (2, .long p2), (4, .int (bI z103))] → W p l e rm_X2_readBinary s m args below meth c H locs 0 0 Q (F0 m 32 ls [.int z107, .long p2])) := by
      intro z107 ez107 H locs hP hD hS ls hl
      have hu := hu _ ez107
      refine x_lushr hx hb dX2_readBinary_32 ?_
      refine lv_ldc2 (v := 1023) hx hb hown (hts (.constantLong RX2 81 (1023)) (inW_3 _ (List.mem_of_getElem? (i := 34) rfl))) dX2_readBinary_33 ?_
      refine lv_land hx hb dX2_readBinary_36 ?_
      refine x_l2i hx hb dX2_readBinary_37 ?_
      refine lv_topi (fun n109 en109 => ?_)
      have hu := hu _ en109
      refine lv_istore (lv' := [(5, .int n109), (0, .ref (ad i1)), (1, .int (bI p1)), (2, .long p2), (4, .int (bI z103))]) hx hb dX2_readBinary_38 hl (by decide) rfl (fun ls hl => ?_)
      refine lv_iload hx hb dX2_readBinary_40 (lv_at hl 4 rfl) ?_
      have J_113 : (∀ z112 : Int64, z112 = Z_X2_readBinary_J_113 p2 z103 → ∀ (H : Heap) (locs : List Loc), va_P D vwCl (xw cR ax ar ao ad vrd vtr vsd vrn vom voh vol vop voe vow vok vos vso vmi vco vex) H → va_D A (xw cR ax ar ao ad vrd vtr vsd vrn vom voh vol vop voe vow vok vos vso vmi vco vex) → va_S A s.heap H locs → ∀ ls : Array Slot, lv_has ls 8 [(0, .ref (ad i1)), (1, .int (bI p1)), (5, .int n109)] → W p l e rm_X2_readBinary s m args below meth c H locs 0 0 Q (F0 m 62 ls [.long z112])) := by
        intro z112 ez112 H locs hP hD hS ls hl
        have hu := hu _ ez112
        refine lv_lstore (lv' := [(6, .long z112), (0, .ref (ad i1)), (1, .int (bI p1)), (5, .int n109)]) hx hb dX2_readBinary_62 hl (by decide) rfl (fun ls hl => ?_)
        refine lv_aload_n hx hb dX2_readBinary_64 rfl (lv_at hl 1 rfl) ?_
        refine lv_iload_n hx hb dX2_readBinary_65 rfl (lv_at hl 2 rfl) ?_
        refine lv_lload hx hb dX2_readBinary_66 (lv_at hl 0 rfl) ?_
        refine lv_ldc2 (v := 10000000000000000) hx hb hown (hts (.constantLong RX2 87 (10000000000000000)) (inW_4 _ (List.mem_of_getElem? (i := 12) rfl))) dX2_readBinary_68 ?_
        have J_117 : (∀ z116 : Int64, z116 = Z_X2_readBinary_J_117 z112 → ∀ (H : Heap) (locs : List Loc), va_P D vwCl (xw cR ax ar ao ad vrd vtr vsd vrn vom voh vol vop voe vow vok vos vso vmi vco vex) H → va_D A (xw cR ax ar ao ad vrd vtr vsd vrn vom voh vol vop voe vow vok vos vso vmi vco vex) → va_S A s.heap H locs → ∀ ls : Array Slot, lv_has ls 8 [(5, .int n109)] → W p l e rm_X2_readBinary s m args below meth c H locs 0 0 Q (F0 m 81 ls [.long z116, .int (bI p1), .ref (ad i1)])) := by
          intro z116 ez116 H locs hP hD hS ls hl
          have hu := hu _ ez116
          refine lv_iload hx hb dX2_readBinary_81 (lv_at hl 0 rfl) ?_
          refine lv_sipush (v := (-398)) hx hb dX2_readBinary_83 (by decide) ?_
          refine lv_iadd hx hb dX2_readBinary_86 ?_
          obtain ⟨u118, eu118⟩ : ∃ y9 : (Nat → Int32) × (Nat → Bool) × (Nat → Int64) × (Nat → Int32), y9 = F_X0_setFinite vso vmi vco vex i1 p1 z116 (n109 + (-398)) := ⟨_, rfl⟩
          have hu := hu _ eu118
          refine x_V (As := [.int (bI p1), .long z116, .int (n109 + (-398))]) (rest := []) hCF (c_X0_setFinite l D cR cI cJ cZ t0 ax ar ao ad vrd vtr vsd vrn vom voh vol vop voe vow vok vos vso vmi vco vex i1 p1 z116 (n109 + (-398)) u118 eu118 hb1) (x_cwV 3 hts (inW_4 _ (List.mem_of_getElem? (i := 4) rfl)) (inW_4 _ (List.mem_of_getElem? (i := 5) rfl)) (inW_4 _ (List.mem_of_getElem? (i := 6) rfl)) (inW_1 _ (List.mem_of_getElem? (i := 16) rfl)) (inW_1 _ (List.mem_of_getElem? (i := 3) rfl)) rfl rfl (by decide +kernel) ⟨Nat.le_of_ble_eq_true rfl, Nat.le_of_ble_eq_true rfl⟩) hK hP hD hS hA hSt (3 + i1) (xw_dat hb1) rfl rfl hl.1 rfl (Nat.le_of_ble_eq_true rfl) dX2_readBinary_87 ⟨Nat.le_of_ble_eq_true rfl, Nat.le_of_ble_eq_true rfl⟩ (fun H locs hP hD hS => ?_)
          show W p l e _ s m args below meth c H locs 0 0 Q (F0 m 90 ls [])
          have e9 := Eq.symm hu; subst e9
          exact x_vret hx hb hr hlocks hQ hK hP hD hS rfl dX2_readBinary_90
        obtain ⟨z9, ez9⟩ : ∃ y9 : Int64, y9 = Z_X2_readBinary_J_117 z112 := ⟨_, rfl⟩
        have hz := rZ_X2_readBinary_J_117 z112 ez9
        unfold RZ_X2_readBinary_J_117 at hz
        refine xl_ge (tgt := 80) hx hb dX2_readBinary_71 dX2_readBinary_72 (by decide) (fun c_114 => ?_) (fun c_114 => ?_)
        · rw [if_pos c_114] at hz
          refine lv_lconst (v := 0) hx hb dX2_readBinary_80 (by decide) ?_
          have e9 := Eq.symm hz; subst e9
          exact J_117 _ ez9 H locs hP hD hS ls (lv_sub hl [3] rfl)
        · rw [if_neg c_114] at hz
          refine lv_lload hx hb dX2_readBinary_75 (lv_at hl 0 rfl) ?_
          refine lv_goto (tgt := 81) hx hb dX2_readBinary_77 (by decide) ?_
          have e9 := Eq.symm hz; subst e9
          exact J_117 _ ez9 H locs hP hD hS ls (lv_sub hl [3] rfl)
      obtain ⟨z9, ez9⟩ : ∃ y9 : Int64, y9 = Z_X2_readBinary_J_113 p2 z103 := ⟨_, rfl⟩
      have hz := rZ_X2_readBinary_J_113 p2 z103 ez9
      unfold RZ_X2_readBinary_J_113 at hz
      refine xb_eq (tgt := 57) hx hb dX2_readBinary_42 (by decide) (fun c_110 => ?_) (fun c_110 => ?_)
      · rw [if_neg c_110] at hz
        refine lv_lload_n hx hb dX2_readBinary_57 rfl (lv_at hl 3 rfl) ?_
        refine lv_ldc2 (v := 9007199254740991) hx hb hown (hts (.constantLong RX2 85 (9007199254740991)) (inW_4 _ (List.mem_of_getElem? (i := 11) rfl))) dX2_readBinary_58 ?_
        refine lv_land hx hb dX2_readBinary_61 ?_
        have e9 := Eq.symm hz; subst e9
        exact J_113 _ ez9 H locs hP hD hS ls (lv_sub hl [1, 2, 0] rfl)
      · rw [if_pos c_110] at hz
        refine lv_ldc2 (v := 9007199254740992) hx hb hown (hts (.constantLong RX2 41 (9007199254740992)) (inW_3 _ (List.mem_of_getElem? (i := 19) rfl))) dX2_readBinary_45 ?_
        refine lv_lload_n hx hb dX2_readBinary_48 rfl (lv_at hl 3 rfl) ?_
        refine lv_ldc2 (v := 2251799813685247) hx hb hown (hts (.constantLong RX2 83 (2251799813685247)) (inW_4 _ (List.mem_of_getElem? (i := 10) rfl))) dX2_readBinary_49 ?_
        refine lv_land hx hb dX2_readBinary_52 ?_
        refine lv_lor hx hb dX2_readBinary_53 ?_
        refine lv_goto (tgt := 62) hx hb dX2_readBinary_54 (by decide) ?_
        have e9 := Eq.symm hz; subst e9
        exact J_113 _ ez9 H locs hP hD hS ls (lv_sub hl [1, 2, 0] rfl)
    obtain ⟨z9, ez9⟩ : ∃ y9 : Int32, y9 = Z_X2_readBinary_J_108 z103 := ⟨_, rfl⟩
    have hz := rZ_X2_readBinary_J_108 z103 ez9
    unfold RZ_X2_readBinary_J_108 at hz
    refine xb_eq (tgt := 30) hx hb dX2_readBinary_22 (by decide) (fun c_105 => ?_) (fun c_105 => ?_)
    · rw [if_neg c_105] at hz
      refine lv_bipush (v := 53) hx hb dX2_readBinary_30 (by decide) ?_
      have e9 := Eq.symm hz; subst e9
      exact J_108 _ ez9 H locs hP hD hS ls (lv_sub hl [1, 2, 3, 0] rfl)
    · rw [if_pos c_105] at hz
      refine lv_bipush (v := 51) hx hb dX2_readBinary_25 (by decide) ?_
      refine lv_goto (tgt := 32) hx hb dX2_readBinary_27 (by decide) ?_
      have e9 := Eq.symm hz; subst e9
      exact J_108 _ ez9 H locs hP hD hS ls (lv_sub hl [1, 2, 3, 0] rfl)
  obtain ⟨z9, ez9⟩ : ∃ y9 : Bool, y9 = Z_X2_readBinary_J_104 p2 := ⟨_, rfl⟩
  have hz := rZ_X2_readBinary_J_104 p2 ez9
  unfold RZ_X2_readBinary_J_104 at hz
  refine xl_ne (tgt := 16) hx hb dX2_readBinary_8 dX2_readBinary_9 (by decide) (fun c_101 => ?_) (fun c_101 => ?_)
  · rw [if_neg c_101] at hz
    refine lv_iconst (v := 0) hx hb dX2_readBinary_16 (by decide) ?_
    have e9 := Eq.symm hz; subst e9
    exact J_104 _ ez9 H locs hP hD hS ls (lv_sub hl [0, 1, 2] rfl)
  · rw [if_pos c_101] at hz
    refine lv_iconst (v := 1) hx hb dX2_readBinary_12 (by decide) ?_
    refine lv_goto (tgt := 17) hx hb dX2_readBinary_13 (by decide) ?_
    have e9 := Eq.symm hz; subst e9
    exact J_104 _ ez9 H locs hP hD hS ls (lv_sub hl [0, 1, 2] rfl)

def B_X2_readDigits_71 (p2 : Int64) (t_71 : Int64 × Int32) : Int64 × Int32 := (if t_71.2 < 0 then t_71 else (bnd ((t_71.1 * 1000) + ((F_X2_digitsOfGroup (((jushrL p2 (10 * t_71.2)) &&& 1023).toInt32)).toInt64)) (fun n116 : Int64 => (bnd (t_71.2 + (-1)) (fun n117 : Int32 => (n116, n117))))))
def G_X2_readDigits_71 (p2 : Int64) (t_71 : Int64 × Int32) : Bool := (if t_71.2 < 0 then false else (bnd ((t_71.1 * 1000) + ((F_X2_digitsOfGroup (((jushrL p2 (10 * t_71.2)) &&& 1023).toInt32)).toInt64)) (fun n116 : Int64 => (bnd (t_71.2 + (-1)) (fun n117 : Int32 => true)))))
def RB_X2_readDigits_71 (p2 : Int64) (t_71 : Int64 × Int32) (u9 : Int64 × Int32) : Prop := (if t_71.2 < 0 then True else (∀ n116 : Int64, n116 = (t_71.1 * 1000) + ((F_X2_digitsOfGroup (((jushrL p2 (10 * t_71.2)) &&& 1023).toInt32)).toInt64) → (∀ n117 : Int32, n117 = t_71.2 + (-1) → u9 = (n116, n117))))
def RG_X2_readDigits_71 (p2 : Int64) (t_71 : Int64 × Int32) (u9 : Bool) : Prop := (if t_71.2 < 0 then u9 = false else u9 = true)
theorem rB_X2_readDigits_71 (p2 : Int64) (t_71 : Int64 × Int32) {u9 : Int64 × Int32} (hu : u9 = B_X2_readDigits_71 p2 t_71) : RB_X2_readDigits_71 p2 t_71 u9 := by
  unfold RB_X2_readDigits_71
  refine ite_P (fun c_114 => ?_) (fun c_114 => ?_)
  · have hu := hu.trans (if_pos c_114)
    trivial
  · have hu := hu.trans (if_neg c_114)
    intro n116 en116
    have hu := bnd_n hu en116
    intro n117 en117
    have hu := bnd_n hu en117
    exact hu
theorem rG_X2_readDigits_71 (p2 : Int64) (t_71 : Int64 × Int32) {u9 : Bool} (hu : u9 = G_X2_readDigits_71 p2 t_71) : RG_X2_readDigits_71 p2 t_71 u9 := by
  unfold RG_X2_readDigits_71
  refine ite_P (fun c_114 => ?_) (fun c_114 => ?_)
  · have hu := hu.trans (if_pos c_114)
    exact hu
  · have hu := hu.trans (if_neg c_114)
    exact hu
def Z_X2_readDigits_J_113 (p2 : Int64) (z103 : Bool) : Int64 := (if z103 = true then 8 ||| ((jushrL p2 58) &&& 1) else (jushrL p2 58) &&& 7)
def RZ_X2_readDigits_J_113 (p2 : Int64) (z103 : Bool) (u9 : Int64) : Prop := (if z103 = true then u9 = 8 ||| ((jushrL p2 58) &&& 1) else u9 = (jushrL p2 58) &&& 7)
theorem rZ_X2_readDigits_J_113 (p2 : Int64) (z103 : Bool) {u9 : Int64} (hu : u9 = Z_X2_readDigits_J_113 p2 z103) : RZ_X2_readDigits_J_113 p2 z103 u9 := by
  unfold RZ_X2_readDigits_J_113
  refine ite_P (fun c_110 => ?_) (fun c_110 => ?_)
  · have hu := hu.trans (if_pos c_110)
    exact hu
  · have hu := hu.trans (if_neg c_110)
    exact hu
def Z_X2_readDigits_J_108 (z103 : Bool) : Int32 := (if z103 = true then 59 else 61)
def RZ_X2_readDigits_J_108 (z103 : Bool) (u9 : Int32) : Prop := (if z103 = true then u9 = 59 else u9 = 61)
theorem rZ_X2_readDigits_J_108 (z103 : Bool) {u9 : Int32} (hu : u9 = Z_X2_readDigits_J_108 z103) : RZ_X2_readDigits_J_108 z103 u9 := by
  unfold RZ_X2_readDigits_J_108
  refine ite_P (fun c_105 => ?_) (fun c_105 => ?_)
  · have hu := hu.trans (if_pos c_105)
    exact hu
  · have hu := hu.trans (if_neg c_105)
    exact hu
def Z_X2_readDigits_J_104 (p2 : Int64) : Bool := (if p2 &&& 6917529027641081856 = 6917529027641081856 then true else false)
def RZ_X2_readDigits_J_104 (p2 : Int64) (u9 : Bool) : Prop := (if p2 &&& 6917529027641081856 = 6917529027641081856 then u9 = true else u9 = false)
theorem rZ_X2_readDigits_J_104 (p2 : Int64) {u9 : Bool} (hu : u9 = Z_X2_readDigits_J_104 p2) : RZ_X2_readDigits_J_104 p2 u9 := by
  unfold RZ_X2_readDigits_J_104
  refine ite_P (fun c_101 => ?_) (fun c_101 => ?_)
  · have hu := hu.trans (if_pos c_101)
    exact hu
  · have hu := hu.trans (if_neg c_101)
    exact hu
def F_X2_readDigits (vso : Nat → Int32) (vmi : Nat → Bool) (vco : Nat → Int64) (vex : Nat → Int32) (i1 : Nat) (p1 : Bool) (p2 : Int64) : (Nat → Int32) × (Nat → Bool) × (Nat → Int64) × (Nat → Int32) := (bnd (Z_X2_readDigits_J_104 p2) (fun z103 : Bool => (bnd (Z_X2_readDigits_J_108 z103) (fun z107 : Int32 => (bnd (((jushrL p2 z107) &&& 3).toInt32) (fun n109 : Int32 => (bnd (Z_X2_readDigits_J_113 p2 z103) (fun z112 : Int64 => (bnd (wl (G_X2_readDigits_71 p2) (B_X2_readDigits_71 p2) 6 (z112, 4)) (fun z118 : Int64 × Int32 => (bnd ((n109 * 256) + (((jushrL p2 50) &&& 255).toInt32)) (fun n123 : Int32 => (bnd (F_X0_setFinite vso vmi vco vex i1 p1 z118.1 (n123 + (-398))) (fun u124 : (Nat → Int32) × (Nat → Bool) × (Nat → Int64) × (Nat → Int32) => (u124.1, u124.2.1, u124.2.2.1, u124.2.2.2)))))))))))))))
def RF_X2_readDigits (vso : Nat → Int32) (vmi : Nat → Bool) (vco : Nat → Int64) (vex : Nat → Int32) (i1 : Nat) (p1 : Bool) (p2 : Int64) (u9 : (Nat → Int32) × (Nat → Bool) × (Nat → Int64) × (Nat → Int32)) : Prop := (∀ z103 : Bool, z103 = Z_X2_readDigits_J_104 p2 → (∀ z107 : Int32, z107 = Z_X2_readDigits_J_108 z103 → (∀ n109 : Int32, n109 = ((jushrL p2 z107) &&& 3).toInt32 → (∀ z112 : Int64, z112 = Z_X2_readDigits_J_113 p2 z103 → (∀ z118 : Int64 × Int32, z118 = wl (G_X2_readDigits_71 p2) (B_X2_readDigits_71 p2) 6 (z112, 4) → (∀ n123 : Int32, n123 = (n109 * 256) + (((jushrL p2 50) &&& 255).toInt32) → (∀ u124 : (Nat → Int32) × (Nat → Bool) × (Nat → Int64) × (Nat → Int32), u124 = F_X0_setFinite vso vmi vco vex i1 p1 z118.1 (n123 + (-398)) → u9 = (u124.1, u124.2.1, u124.2.2.1, u124.2.2.2))))))))
theorem rF_X2_readDigits (vso : Nat → Int32) (vmi : Nat → Bool) (vco : Nat → Int64) (vex : Nat → Int32) (i1 : Nat) (p1 : Bool) (p2 : Int64) {u9 : (Nat → Int32) × (Nat → Bool) × (Nat → Int64) × (Nat → Int32)} (hu : u9 = F_X2_readDigits vso vmi vco vex i1 p1 p2) : RF_X2_readDigits vso vmi vco vex i1 p1 p2 u9 := by
  unfold RF_X2_readDigits
  intro z103 ez103
  have hu := bnd_n hu ez103
  intro z107 ez107
  have hu := bnd_n hu ez107
  intro n109 en109
  have hu := bnd_n hu en109
  intro z112 ez112
  have hu := bnd_n hu ez112
  intro z118 ez118
  have hu := bnd_n hu ez118
  intro n123 en123
  have hu := bnd_n hu en123
  intro u124 eu124
  have hu := bnd_n hu eu124
  exact hu
def S_X2_readDigits (vso : Nat → Int32) (vmi : Nat → Bool) (vco : Nat → Int64) (vex : Nat → Int32) (i1 : Nat) (p1 : Bool) (p2 : Int64) : Prop := (∀ z103 : Bool, z103 = Z_X2_readDigits_J_104 p2 → (∀ z107 : Int32, z107 = Z_X2_readDigits_J_108 z103 → (∀ n109 : Int32, n109 = ((jushrL p2 z107) &&& 3).toInt32 → (∀ z112 : Int64, z112 = Z_X2_readDigits_J_113 p2 z103 → G_X2_readDigits_71 p2 (wl (G_X2_readDigits_71 p2) (B_X2_readDigits_71 p2) 6 (z112, 4)) = false))))
def rm_X2_readDigits : Room := { frames := 3, cells := 0, slots := 0, locals := 67 }
set_option maxHeartbeats 4000000 in
set_option maxRecDepth 100000 in
theorem c_X2_readDigits (l : Launch) (D : va_G) (cR cI cJ cZ : ClassId) (t0 : Nat) (ax ar ao : Nat) (ad : Nat → Nat) (vrd : Int32) (vtr : Int32) (vsd : Int32) (vrn : Int32) (vom : Bool) (voh : Int64) (vol : Int64) (vop : Int32) (voe : Bool) (vow : Int32) (vok : Int64) (vos : Int32) (vso : Nat → Int32) (vmi : Nat → Bool) (vco : Nat → Int64) (vex : Nat → Int32) (i1 : Nat) (p1 : Bool) (p2 : Int64) (u : (Nat → Int32) × (Nat → Bool) × (Nat → Int64) × (Nat → Int32)) (hu : u = F_X2_readDigits vso vmi vco vex i1 p1 p2) (hs : S_X2_readDigits vso vmi vco vex i1 p1 p2) (hb1 : i1 < 9) : XM l D (xty cR cI cJ cZ) t0 yX2_readDigits cX2_readDigits 9 none rm_X2_readDigits [.ref (ad i1), .int (bI p1), .long p2] none (xw cR ax ar ao ad vrd vtr vsd vrn vom voh vol vop voe vow vok vos vso vmi vco vex) (xw cR ax ar ao ad vrd vtr vsd vrn vom voh vol vop voe vow vok vos u.1 u.2.1 u.2.2.1 u.2.2.2) := by
  refine XM.of (by decide) (Nat.le_of_ble_eq_true rfl) ?_
  intro p e s m args below meth c A Q F hK hP hD hA hSt hS hQ ls hl
  obtain ⟨hx, hb, hr, hts, hown, hlocks, hml⟩ := F
  have hCF : CallFix p m c cX2_readDigits 9 s args gW RX2 := ⟨hx, hb, hml, hown, hts⟩
  unfold S_X2_readDigits at hs
  have hu := rF_X2_readDigits vso vmi vco vex i1 p1 p2 hu
  unfold RF_X2_readDigits at hu
  obtain ⟨H, eH⟩ : ∃ y9 : Heap, y9 = s.heap := ⟨_, rfl⟩
  obtain ⟨locs, eL⟩ : ∃ y9 : List Loc, y9 = [] := ⟨_, rfl⟩
  rw [← eL] at hS ⊢
  have hP : va_P D vwCl (xw cR ax ar ao ad vrd vtr vsd vrn vom voh vol vop voe vow vok vos vso vmi vco vex) H := by rw [eH]; exact hP
  have hS : va_S A s.heap H locs := by rw [eH]; exact hS
  suffices goal9 : W p l e rm_X2_readDigits s m args below meth c H locs 0 0 Q (F0 m 0 ls []) from by rw [← eH]; exact goal9
  have hl : lv_has ls 9 [(0, .ref (ad i1)), (1, .int (bI p1)), (2, .long p2)] := hl
  refine lv_lload_n hx hb dX2_readDigits_0 rfl (lv_at hl 2 rfl) ?_
  refine lv_ldc2 (v := 6917529027641081856) hx hb hown (hts (.constantLong RX2 43 (6917529027641081856)) (inW_3 _ (List.mem_of_getElem? (i := 10) rfl))) dX2_readDigits_1 ?_
  refine lv_land hx hb dX2_readDigits_4 ?_
  refine lv_ldc2 (v := 6917529027641081856) hx hb hown (hts (.constantLong RX2 43 (6917529027641081856)) (inW_3 _ (List.mem_of_getElem? (i := 10) rfl))) dX2_readDigits_5 ?_
  have J_104 : (∀ z103 : Bool, z103 = Z_X2_readDigits_J_104 p2 → ∀ (H : Heap) (locs : List Loc), va_P D vwCl (xw cR ax ar ao ad vrd vtr vsd vrn vom voh vol vop voe vow vok vos vso vmi vco vex) H → va_D A (xw cR ax ar ao ad vrd vtr vsd vrn vom voh vol vop voe vow vok vos vso vmi vco vex) → va_S A s.heap H locs → ∀ ls : Array Slot, lv_has ls 9 [(0, .ref (ad i1)), (1, .int (bI p1)), (2, .long p2)] → W p l e rm_X2_readDigits s m args below meth c H locs 0 0 Q (F0 m 17 ls [.int (bI z103)])) := by
    intro z103 ez103 H locs hP hD hS ls hl
    have hs := hs _ ez103
    have hu := hu _ ez103
    refine lv_istore (lv' := [(4, .int (bI z103)), (0, .ref (ad i1)), (1, .int (bI p1)), (2, .long p2)]) hx hb dX2_readDigits_17 hl (by decide) rfl (fun ls hl => ?_)
    refine lv_lload_n hx hb dX2_readDigits_19 rfl (lv_at hl 3 rfl) ?_
    refine lv_iload hx hb dX2_readDigits_20 (lv_at hl 0 rfl) ?_
    have J_108 : (∀ z107 : Int32, z107 = Z_X2_readDigits_J_108 z103 → ∀ (H : Heap) (locs : List Loc), va_P D vwCl (xw cR ax ar ao ad vrd vtr vsd vrn vom voh vol vop voe vow vok vos vso vmi vco vex) H → va_D A (xw cR ax ar ao ad vrd vtr vsd vrn vom voh vol vop voe vow vok vos vso vmi vco vex) → va_S A s.heap H locs → ∀ ls : Array Slot, lv_has ls 9 [(0, .ref (ad i1)), (1, .int (bI p1)), (2, .long p2), (4, .int (bI z103))] → W p l e rm_X2_readDigits s m args below meth c H locs 0 0 Q (F0 m 32 ls [.int z107, .long p2])) := by
      intro z107 ez107 H locs hP hD hS ls hl
      have hs := hs _ ez107
      have hu := hu _ ez107
      refine x_lushr hx hb dX2_readDigits_32 ?_
      refine lv_ldc2 (v := 3) hx hb hown (hts (.constantLong RX2 93 (3)) (inW_3 _ (List.mem_of_getElem? (i := 32) rfl))) dX2_readDigits_33 ?_
      refine lv_land hx hb dX2_readDigits_36 ?_
      refine x_l2i hx hb dX2_readDigits_37 ?_
      refine lv_topi (fun n109 en109 => ?_)
      have hs := hs _ en109
      have hu := hu _ en109
      refine lv_istore (lv' := [(5, .int n109), (0, .ref (ad i1)), (1, .int (bI p1)), (2, .long p2), (4, .int (bI z103))]) hx hb dX2_readDigits_38 hl (by decide) rfl (fun ls hl => ?_)
      refine lv_iload hx hb dX2_readDigits_40 (lv_at hl 4 rfl) ?_
      have J_113 : (∀ z112 : Int64, z112 = Z_X2_readDigits_J_113 p2 z103 → ∀ (H : Heap) (locs : List Loc), va_P D vwCl (xw cR ax ar ao ad vrd vtr vsd vrn vom voh vol vop voe vow vok vos vso vmi vco vex) H → va_D A (xw cR ax ar ao ad vrd vtr vsd vrn vom voh vol vop voe vow vok vos vso vmi vco vex) → va_S A s.heap H locs → ∀ ls : Array Slot, lv_has ls 9 [(0, .ref (ad i1)), (1, .int (bI p1)), (2, .long p2), (5, .int n109)] → W p l e rm_X2_readDigits s m args below meth c H locs 0 0 Q (F0 m 66 ls [.long z112])) := by
        intro z112 ez112 H locs hP hD hS ls hl
        have hs := hs _ ez112
        have hu := hu _ ez112
        refine lv_lstore (lv' := [(6, .long z112), (0, .ref (ad i1)), (1, .int (bI p1)), (2, .long p2), (5, .int n109)]) hx hb dX2_readDigits_66 hl (by decide) rfl (fun ls hl => ?_)
        refine lv_iconst (v := 4) hx hb dX2_readDigits_68 (by decide) ?_
        refine lv_istore (lv' := [(8, .int 4), (6, .long z112), (0, .ref (ad i1)), (1, .int (bI p1)), (2, .long p2), (5, .int n109)]) hx hb dX2_readDigits_69 hl (by decide) rfl (fun ls hl => ?_)
        have L_126 : ∀ (n9 : Nat) (t_71 : Int64 × Int32), (∀ j : Nat, j < n9 → G_X2_readDigits_71 p2 (itn (B_X2_readDigits_71 p2) j t_71) = true) → (∀ (H : Heap) (locs : List Loc), va_P D vwCl (xw cR ax ar ao ad vrd vtr vsd vrn vom voh vol vop voe vow vok vos vso vmi vco vex) H → va_D A (xw cR ax ar ao ad vrd vtr vsd vrn vom voh vol vop voe vow vok vos vso vmi vco vex) → va_S A s.heap H locs → ∀ ls : Array Slot, lv_has ls 9 [(0, .ref (ad i1)), (1, .int (bI p1)), (2, .long p2), (5, .int n109), (6, .long ((itn (B_X2_readDigits_71 p2) n9 t_71).1)), (8, .int ((itn (B_X2_readDigits_71 p2) n9 t_71).2))] → W p l e rm_X2_readDigits s m args below meth c H locs 0 0 Q (F0 m 71 ls [])) → ∀ (H : Heap) (locs : List Loc), va_P D vwCl (xw cR ax ar ao ad vrd vtr vsd vrn vom voh vol vop voe vow vok vos vso vmi vco vex) H → va_D A (xw cR ax ar ao ad vrd vtr vsd vrn vom voh vol vop voe vow vok vos vso vmi vco vex) → va_S A s.heap H locs → ∀ ls : Array Slot, lv_has ls 9 [(0, .ref (ad i1)), (1, .int (bI p1)), (2, .long p2), (5, .int n109), (6, .long t_71.1), (8, .int t_71.2)] → W p l e rm_X2_readDigits s m args below meth c H locs 0 0 Q (F0 m 71 ls []) := by
          intro n9
          induction n9 with
          | zero => exact fun _ _ k9 => k9
          | succ n9 ih9 =>
            intro t_71 hG9 k9 H locs hP hD hS ls hl
            have hG0 : G_X2_readDigits_71 p2 t_71 = true := hG9 0 (Nat.succ_pos n9)
            have hg := rG_X2_readDigits_71 p2 t_71 (Eq.symm hG0)
            unfold RG_X2_readDigits_71 at hg
            obtain ⟨t9, et9⟩ : ∃ y9 : Int64 × Int32, y9 = (B_X2_readDigits_71 p2) t_71 := ⟨_, rfl⟩
            have hb9 := rB_X2_readDigits_71 p2 t_71 et9
            unfold RB_X2_readDigits_71 at hb9
            refine lv_iload hx hb dX2_readDigits_71 (lv_at hl 5 rfl) ?_
            refine lv_if_lt (tgt := 107) hx hb dX2_readDigits_73 (by decide) (fun c_114 => ?_) (fun c_114 => ?_)
            · rw [if_pos c_114] at hg
              exact absurd hg (by decide)
            · rw [if_neg c_114] at hg
              rw [if_neg c_114] at hb9
              refine lv_lload hx hb dX2_readDigits_76 (lv_at hl 4 rfl) ?_
              refine lv_ldc2 (v := 1000) hx hb hown (hts (.constantLong RX2 57 (1000)) (inW_3 _ (List.mem_of_getElem? (i := 12) rfl))) dX2_readDigits_78 ?_
              refine lv_lmul hx hb dX2_readDigits_81 ?_
              refine lv_lload_n hx hb dX2_readDigits_82 rfl (lv_at hl 2 rfl) ?_
              refine lv_bipush (v := 10) hx hb dX2_readDigits_83 (by decide) ?_
              refine lv_iload hx hb dX2_readDigits_85 (lv_at hl 5 rfl) ?_
              refine lv_imul hx hb dX2_readDigits_87 ?_
              refine x_lushr hx hb dX2_readDigits_88 ?_
              refine lv_ldc2 (v := 1023) hx hb hown (hts (.constantLong RX2 81 (1023)) (inW_3 _ (List.mem_of_getElem? (i := 34) rfl))) dX2_readDigits_89 ?_
              refine lv_land hx hb dX2_readDigits_92 ?_
              refine x_l2i hx hb dX2_readDigits_93 ?_
              refine x_S (As := [.int (((jushrL p2 (10 * t_71.2)) &&& 1023).toInt32)]) (rest := [.long (t_71.1 * 1000)]) hCF (c_X2_digitsOfGroup l D cR cI cJ cZ t0 (xw cR ax ar ao ad vrd vtr vsd vrn vom voh vol vop voe vow vok vos vso vmi vco vex) (((jushrL p2 (10 * t_71.2)) &&& 1023).toInt32) _ rfl) (x_cwS 1 hts (inW_3 _ (List.mem_of_getElem? (i := 35) rfl)) (inW_3 _ (List.mem_of_getElem? (i := 36) rfl)) (inW_3 _ (List.mem_of_getElem? (i := 5) rfl)) (inW_3 _ (List.mem_of_getElem? (i := 37) rfl)) rfl rfl (by decide +kernel) ⟨Nat.le_of_ble_eq_true rfl, Nat.le_of_ble_eq_true rfl⟩) hK hP hD hS hA hSt rfl hl.1 rfl (Nat.le_of_ble_eq_true rfl) dX2_readDigits_94 ⟨Nat.le_of_ble_eq_true rfl, Nat.le_of_ble_eq_true rfl⟩ (fun H locs hP hD hS => ?_)
              show W p l e _ s m args below meth c H locs 0 0 Q (F0 m 97 ls (.int (F_X2_digitsOfGroup (((jushrL p2 (10 * t_71.2)) &&& 1023).toInt32)) :: [.long (t_71.1 * 1000)]))
              refine x_i2l hx hb dX2_readDigits_97 ?_
              refine lv_ladd hx hb dX2_readDigits_98 ?_
              refine lv_topl (fun n116 en116 => ?_)
              have hb9 := hb9 _ en116
              refine lv_lstore (lv' := [(6, .long n116), (0, .ref (ad i1)), (1, .int (bI p1)), (2, .long p2), (5, .int n109), (8, .int t_71.2)]) hx hb dX2_readDigits_99 hl (by decide) rfl (fun ls hl => ?_)
              obtain ⟨n117, en117⟩ : ∃ y9 : Int32, y9 = t_71.2 + (-1) := ⟨_, rfl⟩
              have hb9 := hb9 _ en117
              refine lv_iinc (v := n117) (lv' := [(8, .int n117), (6, .long n116), (0, .ref (ad i1)), (1, .int (bI p1)), (2, .long p2), (5, .int n109)]) hx hb dX2_readDigits_101 hl (k := 5) rfl (by rw [en117]; rfl) (by decide) rfl (fun ls hl => ?_)
              refine lv_goto (tgt := 71) hx hb dX2_readDigits_104 (by decide) ?_
              have e9 := Eq.symm hb9; subst e9
              have key9 := ih9 ((B_X2_readDigits_71 p2) t_71) (fun j hj => hG9 (j + 1) (Nat.succ_lt_succ hj)) k9
              rw [← et9] at key9
              exact key9 H locs hP hD hS ls (lv_sub hl [2, 3, 4, 5, 1, 0] rfl)
        have hG1 := hs
        refine L_126 (nW (G_X2_readDigits_71 p2) (B_X2_readDigits_71 p2) 6 (z112, 4)) (z112, 4) (nW_lt _ _ _ _) (fun H locs hP hD hS ls hl => ?_) H locs hP hD hS ls (lv_sub hl [2, 3, 4, 5, 1, 0] rfl)
        obtain ⟨z118, ez118⟩ : ∃ y9 : Int64 × Int32, y9 = wl (G_X2_readDigits_71 p2) (B_X2_readDigits_71 p2) 6 (z112, 4) := ⟨_, rfl⟩
        have e9 : z118 = itn (B_X2_readDigits_71 p2) (nW (G_X2_readDigits_71 p2) (B_X2_readDigits_71 p2) 6 (z112, 4)) (z112, 4) := ez118
        try rw [← e9] at hP
        try rw [← e9] at hD
        try rw [← e9] at hl
        rw [← ez118] at hG1
        clear e9
        have hg := rG_X2_readDigits_71 p2 z118 (Eq.symm hG1)
        unfold RG_X2_readDigits_71 at hg
        have hu := hu _ ez118
        refine lv_iload hx hb dX2_readDigits_71 (lv_at hl 5 rfl) ?_
        have J_122 : ∀ (H : Heap) (locs : List Loc), va_P D vwCl (xw cR ax ar ao ad vrd vtr vsd vrn vom voh vol vop voe vow vok vos vso vmi vco vex) H → va_D A (xw cR ax ar ao ad vrd vtr vsd vrn vom voh vol vop voe vow vok vos vso vmi vco vex) → va_S A s.heap H locs → ∀ ls : Array Slot, lv_has ls 9 [(0, .ref (ad i1)), (1, .int (bI p1)), (2, .long p2), (5, .int n109), (6, .long z118.1)] → W p l e rm_X2_readDigits s m args below meth c H locs 0 0 Q (F0 m 107 ls []) := by
          intro H locs hP hD hS ls hl
          refine lv_iload hx hb dX2_readDigits_107 (lv_at hl 3 rfl) ?_
          refine lv_sipush (v := 256) hx hb dX2_readDigits_109 (by decide) ?_
          refine lv_imul hx hb dX2_readDigits_112 ?_
          refine lv_lload_n hx hb dX2_readDigits_113 rfl (lv_at hl 2 rfl) ?_
          refine lv_bipush (v := 50) hx hb dX2_readDigits_114 (by decide) ?_
          refine x_lushr hx hb dX2_readDigits_116 ?_
          refine lv_ldc2 (v := 255) hx hb hown (hts (.constantLong RX2 51 (255)) (inW_3 _ (List.mem_of_getElem? (i := 11) rfl))) dX2_readDigits_117 ?_
          refine lv_land hx hb dX2_readDigits_120 ?_
          refine x_l2i hx hb dX2_readDigits_121 ?_
          refine lv_iadd hx hb dX2_readDigits_122 ?_
          refine lv_topi (fun n123 en123 => ?_)
          have hu := hu _ en123
          refine lv_istore (lv' := [(8, .int n123), (0, .ref (ad i1)), (1, .int (bI p1)), (2, .long p2), (5, .int n109), (6, .long z118.1)]) hx hb dX2_readDigits_123 hl (by decide) rfl (fun ls hl => ?_)
          refine lv_aload_n hx hb dX2_readDigits_125 rfl (lv_at hl 1 rfl) ?_
          refine lv_iload_n hx hb dX2_readDigits_126 rfl (lv_at hl 2 rfl) ?_
          refine lv_lload hx hb dX2_readDigits_127 (lv_at hl 5 rfl) ?_
          refine lv_iload hx hb dX2_readDigits_129 (lv_at hl 0 rfl) ?_
          refine lv_sipush (v := (-398)) hx hb dX2_readDigits_131 (by decide) ?_
          refine lv_iadd hx hb dX2_readDigits_134 ?_
          obtain ⟨u124, eu124⟩ : ∃ y9 : (Nat → Int32) × (Nat → Bool) × (Nat → Int64) × (Nat → Int32), y9 = F_X0_setFinite vso vmi vco vex i1 p1 z118.1 (n123 + (-398)) := ⟨_, rfl⟩
          have hu := hu _ eu124
          refine x_V (As := [.int (bI p1), .long z118.1, .int (n123 + (-398))]) (rest := []) hCF (c_X0_setFinite l D cR cI cJ cZ t0 ax ar ao ad vrd vtr vsd vrn vom voh vol vop voe vow vok vos vso vmi vco vex i1 p1 z118.1 (n123 + (-398)) u124 eu124 hb1) (x_cwV 3 hts (inW_4 _ (List.mem_of_getElem? (i := 4) rfl)) (inW_4 _ (List.mem_of_getElem? (i := 5) rfl)) (inW_4 _ (List.mem_of_getElem? (i := 6) rfl)) (inW_1 _ (List.mem_of_getElem? (i := 16) rfl)) (inW_1 _ (List.mem_of_getElem? (i := 3) rfl)) rfl rfl (by decide +kernel) ⟨Nat.le_of_ble_eq_true rfl, Nat.le_of_ble_eq_true rfl⟩) hK hP hD hS hA hSt (3 + i1) (xw_dat hb1) rfl rfl hl.1 rfl (Nat.le_of_ble_eq_true rfl) dX2_readDigits_135 ⟨Nat.le_of_ble_eq_true rfl, Nat.le_of_ble_eq_true rfl⟩ (fun H locs hP hD hS => ?_)
          show W p l e _ s m args below meth c H locs 0 0 Q (F0 m 138 ls [])
          have e9 := Eq.symm hu; subst e9
          exact x_vret hx hb hr hlocks hQ hK hP hD hS rfl dX2_readDigits_138
        refine lv_if_lt (tgt := 107) hx hb dX2_readDigits_73 (by decide) (fun c_120 => ?_) (fun c_120 => ?_)
        · rw [if_pos c_120] at hg
          exact J_122 H locs hP hD hS ls (lv_sub hl [0, 1, 2, 3, 4] rfl)
        · rw [if_neg c_120] at hg
          exact absurd hg (by decide)
      obtain ⟨z9, ez9⟩ : ∃ y9 : Int64, y9 = Z_X2_readDigits_J_113 p2 z103 := ⟨_, rfl⟩
      have hz := rZ_X2_readDigits_J_113 p2 z103 ez9
      unfold RZ_X2_readDigits_J_113 at hz
      refine xb_eq (tgt := 58) hx hb dX2_readDigits_42 (by decide) (fun c_110 => ?_) (fun c_110 => ?_)
      · rw [if_neg c_110] at hz
        refine lv_lload_n hx hb dX2_readDigits_58 rfl (lv_at hl 3 rfl) ?_
        refine lv_bipush (v := 58) hx hb dX2_readDigits_59 (by decide) ?_
        refine x_lushr hx hb dX2_readDigits_61 ?_
        refine lv_ldc2 (v := 7) hx hb hown (hts (.constantLong RX2 95 (7)) (inW_3 _ (List.mem_of_getElem? (i := 33) rfl))) dX2_readDigits_62 ?_
        refine lv_land hx hb dX2_readDigits_65 ?_
        have e9 := Eq.symm hz; subst e9
        exact J_113 _ ez9 H locs hP hD hS ls (lv_sub hl [1, 2, 3, 0] rfl)
      · rw [if_pos c_110] at hz
        refine lv_ldc2 (v := 8) hx hb hown (hts (.constantLong RX2 49 (8)) (inW_3 _ (List.mem_of_getElem? (i := 9) rfl))) dX2_readDigits_45 ?_
        refine lv_lload_n hx hb dX2_readDigits_48 rfl (lv_at hl 3 rfl) ?_
        refine lv_bipush (v := 58) hx hb dX2_readDigits_49 (by decide) ?_
        refine x_lushr hx hb dX2_readDigits_51 ?_
        refine lv_lconst (v := 1) hx hb dX2_readDigits_52 (by decide) ?_
        refine lv_land hx hb dX2_readDigits_53 ?_
        refine lv_lor hx hb dX2_readDigits_54 ?_
        refine lv_goto (tgt := 66) hx hb dX2_readDigits_55 (by decide) ?_
        have e9 := Eq.symm hz; subst e9
        exact J_113 _ ez9 H locs hP hD hS ls (lv_sub hl [1, 2, 3, 0] rfl)
    obtain ⟨z9, ez9⟩ : ∃ y9 : Int32, y9 = Z_X2_readDigits_J_108 z103 := ⟨_, rfl⟩
    have hz := rZ_X2_readDigits_J_108 z103 ez9
    unfold RZ_X2_readDigits_J_108 at hz
    refine xb_eq (tgt := 30) hx hb dX2_readDigits_22 (by decide) (fun c_105 => ?_) (fun c_105 => ?_)
    · rw [if_neg c_105] at hz
      refine lv_bipush (v := 61) hx hb dX2_readDigits_30 (by decide) ?_
      have e9 := Eq.symm hz; subst e9
      exact J_108 _ ez9 H locs hP hD hS ls (lv_sub hl [1, 2, 3, 0] rfl)
    · rw [if_pos c_105] at hz
      refine lv_bipush (v := 59) hx hb dX2_readDigits_25 (by decide) ?_
      refine lv_goto (tgt := 32) hx hb dX2_readDigits_27 (by decide) ?_
      have e9 := Eq.symm hz; subst e9
      exact J_108 _ ez9 H locs hP hD hS ls (lv_sub hl [1, 2, 3, 0] rfl)
  obtain ⟨z9, ez9⟩ : ∃ y9 : Bool, y9 = Z_X2_readDigits_J_104 p2 := ⟨_, rfl⟩
  have hz := rZ_X2_readDigits_J_104 p2 ez9
  unfold RZ_X2_readDigits_J_104 at hz
  refine xl_ne (tgt := 16) hx hb dX2_readDigits_8 dX2_readDigits_9 (by decide) (fun c_101 => ?_) (fun c_101 => ?_)
  · rw [if_neg c_101] at hz
    refine lv_iconst (v := 0) hx hb dX2_readDigits_16 (by decide) ?_
    have e9 := Eq.symm hz; subst e9
    exact J_104 _ ez9 H locs hP hD hS ls (lv_sub hl [0, 1, 2] rfl)
  · rw [if_pos c_101] at hz
    refine lv_iconst (v := 1) hx hb dX2_readDigits_12 (by decide) ?_
    refine lv_goto (tgt := 17) hx hb dX2_readDigits_13 (by decide) ?_
    have e9 := Eq.symm hz; subst e9
    exact J_104 _ ez9 H locs hP hD hS ls (lv_sub hl [0, 1, 2] rfl)

def Z_X2_read_J_104 (p2 : Int64) : Bool := (if 0 ≤ p2 then false else true)
def RZ_X2_read_J_104 (p2 : Int64) (u9 : Bool) : Prop := (if 0 ≤ p2 then u9 = false else u9 = true)
theorem rZ_X2_read_J_104 (p2 : Int64) {u9 : Bool} (hu : u9 = Z_X2_read_J_104 p2) : RZ_X2_read_J_104 p2 u9 := by
  unfold RZ_X2_read_J_104
  refine ite_P (fun c_101 => ?_) (fun c_101 => ?_)
  · have hu := hu.trans (if_pos c_101)
    exact hu
  · have hu := hu.trans (if_neg c_101)
    exact hu
def F_X2_read (vso : Nat → Int32) (vmi : Nat → Bool) (vco : Nat → Int64) (vex : Nat → Int32) (i1 : Nat) (p1 : Bool) (p2 : Int64) : (Nat → Int32) × (Nat → Bool) × (Nat → Int64) × (Nat → Int32) := (bnd (Z_X2_read_J_104 p2) (fun z103 : Bool => (bnd ((jushrL p2 58) &&& 31) (fun n105 : Int64 => (if n105 = 30 then (bnd (F_X0_setInfinity vso vmi vco vex i1 z103) (fun u116 : (Nat → Int32) × (Nat → Bool) × (Nat → Int64) × (Nat → Int32) => (u116.1, u116.2.1, u116.2.2.1, u116.2.2.2))) else (if n105 = 31 then (bnd (F_X0_setNothing vso vmi vco vex i1) (fun u114 : (Nat → Int32) × (Nat → Bool) × (Nat → Int64) × (Nat → Int32) => (u114.1, u114.2.1, u114.2.2.1, u114.2.2.2))) else (if p1 = true then (bnd (F_X2_readDigits vso vmi vco vex i1 z103 p2) (fun u112 : (Nat → Int32) × (Nat → Bool) × (Nat → Int64) × (Nat → Int32) => (u112.1, u112.2.1, u112.2.2.1, u112.2.2.2))) else (bnd (F_X2_readBinary vso vmi vco vex i1 z103 p2) (fun u109 : (Nat → Int32) × (Nat → Bool) × (Nat → Int64) × (Nat → Int32) => (u109.1, u109.2.1, u109.2.2.1, u109.2.2.2))))))))))
def RF_X2_read (vso : Nat → Int32) (vmi : Nat → Bool) (vco : Nat → Int64) (vex : Nat → Int32) (i1 : Nat) (p1 : Bool) (p2 : Int64) (u9 : (Nat → Int32) × (Nat → Bool) × (Nat → Int64) × (Nat → Int32)) : Prop := (∀ z103 : Bool, z103 = Z_X2_read_J_104 p2 → (∀ n105 : Int64, n105 = (jushrL p2 58) &&& 31 → (if n105 = 30 then (∀ u116 : (Nat → Int32) × (Nat → Bool) × (Nat → Int64) × (Nat → Int32), u116 = F_X0_setInfinity vso vmi vco vex i1 z103 → u9 = (u116.1, u116.2.1, u116.2.2.1, u116.2.2.2)) else (if n105 = 31 then (∀ u114 : (Nat → Int32) × (Nat → Bool) × (Nat → Int64) × (Nat → Int32), u114 = F_X0_setNothing vso vmi vco vex i1 → u9 = (u114.1, u114.2.1, u114.2.2.1, u114.2.2.2)) else (if p1 = true then (∀ u112 : (Nat → Int32) × (Nat → Bool) × (Nat → Int64) × (Nat → Int32), u112 = F_X2_readDigits vso vmi vco vex i1 z103 p2 → u9 = (u112.1, u112.2.1, u112.2.2.1, u112.2.2.2)) else (∀ u109 : (Nat → Int32) × (Nat → Bool) × (Nat → Int64) × (Nat → Int32), u109 = F_X2_readBinary vso vmi vco vex i1 z103 p2 → u9 = (u109.1, u109.2.1, u109.2.2.1, u109.2.2.2)))))))
theorem rF_X2_read (vso : Nat → Int32) (vmi : Nat → Bool) (vco : Nat → Int64) (vex : Nat → Int32) (i1 : Nat) (p1 : Bool) (p2 : Int64) {u9 : (Nat → Int32) × (Nat → Bool) × (Nat → Int64) × (Nat → Int32)} (hu : u9 = F_X2_read vso vmi vco vex i1 p1 p2) : RF_X2_read vso vmi vco vex i1 p1 p2 u9 := by
  unfold RF_X2_read
  intro z103 ez103
  have hu := bnd_n hu ez103
  intro n105 en105
  have hu := bnd_n hu en105
  refine ite_P (fun c_106 => ?_) (fun c_106 => ?_)
  · have hu := hu.trans (if_pos c_106)
    intro u116 eu116
    have hu := bnd_n hu eu116
    exact hu
  · have hu := hu.trans (if_neg c_106)
    refine ite_P (fun c_107 => ?_) (fun c_107 => ?_)
    · have hu := hu.trans (if_pos c_107)
      intro u114 eu114
      have hu := bnd_n hu eu114
      exact hu
    · have hu := hu.trans (if_neg c_107)
      refine ite_P (fun c_108 => ?_) (fun c_108 => ?_)
      · have hu := hu.trans (if_pos c_108)
        intro u112 eu112
        have hu := bnd_n hu eu112
        exact hu
      · have hu := hu.trans (if_neg c_108)
        intro u109 eu109
        have hu := bnd_n hu eu109
        exact hu
def S_X2_read (vso : Nat → Int32) (vmi : Nat → Bool) (vco : Nat → Int64) (vex : Nat → Int32) (i1 : Nat) (p1 : Bool) (p2 : Int64) : Prop := (∀ z103 : Bool, z103 = Z_X2_read_J_104 p2 → (∀ n105 : Int64, n105 = (jushrL p2 58) &&& 31 → (if n105 = 30 then True else (if n105 = 31 then True else (if p1 = true then S_X2_readDigits vso vmi vco vex i1 z103 p2 else True)))))
def rm_X2_read : Room := { frames := 4, cells := 0, slots := 0, locals := 95 }
set_option maxHeartbeats 4000000 in
set_option maxRecDepth 100000 in
theorem c_X2_read (l : Launch) (D : va_G) (cR cI cJ cZ : ClassId) (t0 : Nat) (ax ar ao : Nat) (ad : Nat → Nat) (vrd : Int32) (vtr : Int32) (vsd : Int32) (vrn : Int32) (vom : Bool) (voh : Int64) (vol : Int64) (vop : Int32) (voe : Bool) (vow : Int32) (vok : Int64) (vos : Int32) (vso : Nat → Int32) (vmi : Nat → Bool) (vco : Nat → Int64) (vex : Nat → Int32) (i1 : Nat) (p1 : Bool) (p2 : Int64) (u : (Nat → Int32) × (Nat → Bool) × (Nat → Int64) × (Nat → Int32)) (hu : u = F_X2_read vso vmi vco vex i1 p1 p2) (hs : S_X2_read vso vmi vco vex i1 p1 p2) (hb1 : i1 < 9) : XM l D (xty cR cI cJ cZ) t0 yX2_read cX2_read 7 none rm_X2_read [.ref (ad i1), .int (bI p1), .long p2] none (xw cR ax ar ao ad vrd vtr vsd vrn vom voh vol vop voe vow vok vos vso vmi vco vex) (xw cR ax ar ao ad vrd vtr vsd vrn vom voh vol vop voe vow vok vos u.1 u.2.1 u.2.2.1 u.2.2.2) := by
  refine XM.of (by decide) (Nat.le_of_ble_eq_true rfl) ?_
  intro p e s m args below meth c A Q F hK hP hD hA hSt hS hQ ls hl
  obtain ⟨hx, hb, hr, hts, hown, hlocks, hml⟩ := F
  have hCF : CallFix p m c cX2_read 7 s args gW RX2 := ⟨hx, hb, hml, hown, hts⟩
  unfold S_X2_read at hs
  have hu := rF_X2_read vso vmi vco vex i1 p1 p2 hu
  unfold RF_X2_read at hu
  obtain ⟨H, eH⟩ : ∃ y9 : Heap, y9 = s.heap := ⟨_, rfl⟩
  obtain ⟨locs, eL⟩ : ∃ y9 : List Loc, y9 = [] := ⟨_, rfl⟩
  rw [← eL] at hS ⊢
  have hP : va_P D vwCl (xw cR ax ar ao ad vrd vtr vsd vrn vom voh vol vop voe vow vok vos vso vmi vco vex) H := by rw [eH]; exact hP
  have hS : va_S A s.heap H locs := by rw [eH]; exact hS
  suffices goal9 : W p l e rm_X2_read s m args below meth c H locs 0 0 Q (F0 m 0 ls []) from by rw [← eH]; exact goal9
  have hl : lv_has ls 7 [(0, .ref (ad i1)), (1, .int (bI p1)), (2, .long p2)] := hl
  refine lv_lload_n hx hb dX2_read_0 rfl (lv_at hl 2 rfl) ?_
  refine lv_lconst (v := 0) hx hb dX2_read_1 (by decide) ?_
  have J_104 : (∀ z103 : Bool, z103 = Z_X2_read_J_104 p2 → ∀ (H : Heap) (locs : List Loc), va_P D vwCl (xw cR ax ar ao ad vrd vtr vsd vrn vom voh vol vop voe vow vok vos vso vmi vco vex) H → va_D A (xw cR ax ar ao ad vrd vtr vsd vrn vom voh vol vop voe vow vok vos vso vmi vco vex) → va_S A s.heap H locs → ∀ ls : Array Slot, lv_has ls 7 [(0, .ref (ad i1)), (1, .int (bI p1)), (2, .long p2)] → W p l e rm_X2_read s m args below meth c H locs 0 0 Q (F0 m 11 ls [.int (bI z103)])) := by
    intro z103 ez103 H locs hP hD hS ls hl
    have hs := hs _ ez103
    have hu := hu _ ez103
    refine lv_istore (lv' := [(4, .int (bI z103)), (0, .ref (ad i1)), (1, .int (bI p1)), (2, .long p2)]) hx hb dX2_read_11 hl (by decide) rfl (fun ls hl => ?_)
    refine lv_lload_n hx hb dX2_read_13 rfl (lv_at hl 3 rfl) ?_
    refine lv_bipush (v := 58) hx hb dX2_read_14 (by decide) ?_
    refine x_lushr hx hb dX2_read_16 ?_
    refine lv_ldc2 (v := 31) hx hb hown (hts (.constantLong RX2 63 (31)) (inW_3 _ (List.mem_of_getElem? (i := 21) rfl))) dX2_read_17 ?_
    refine lv_land hx hb dX2_read_20 ?_
    refine lv_topl (fun n105 en105 => ?_)
    have hs := hs _ en105
    have hu := hu _ en105
    refine lv_lstore (lv' := [(5, .long n105), (4, .int (bI z103)), (0, .ref (ad i1)), (1, .int (bI p1)), (2, .long p2)]) hx hb dX2_read_21 hl (by decide) rfl (fun ls hl => ?_)
    refine lv_lload hx hb dX2_read_23 (lv_at hl 0 rfl) ?_
    refine lv_ldc2 (v := 30) hx hb hown (hts (.constantLong RX2 65 (30)) (inW_3 _ (List.mem_of_getElem? (i := 22) rfl))) dX2_read_25 ?_
    refine xl_ne (tgt := 41) hx hb dX2_read_28 dX2_read_29 (by decide) (fun c_106 => ?_) (fun c_106 => ?_)
    · rw [if_neg c_106] at hs
      rw [if_neg c_106] at hu
      refine lv_lload hx hb dX2_read_41 (lv_at hl 0 rfl) ?_
      refine lv_ldc2 (v := 31) hx hb hown (hts (.constantLong RX2 63 (31)) (inW_3 _ (List.mem_of_getElem? (i := 21) rfl))) dX2_read_43 ?_
      refine xl_ne (tgt := 57) hx hb dX2_read_46 dX2_read_47 (by decide) (fun c_107 => ?_) (fun c_107 => ?_)
      · rw [if_neg c_107] at hs
        rw [if_neg c_107] at hu
        refine lv_iload_n hx hb dX2_read_57 rfl (lv_at hl 3 rfl) ?_
        refine xb_eq (tgt := 71) hx hb dX2_read_58 (by decide) (fun c_108 => ?_) (fun c_108 => ?_)
        · rw [if_neg c_108] at hu
          refine lv_aload_n hx hb dX2_read_71 rfl (lv_at hl 2 rfl) ?_
          refine lv_iload hx hb dX2_read_72 (lv_at hl 1 rfl) ?_
          refine lv_lload_n hx hb dX2_read_74 rfl (lv_at hl 4 rfl) ?_
          obtain ⟨u109, eu109⟩ : ∃ y9 : (Nat → Int32) × (Nat → Bool) × (Nat → Int64) × (Nat → Int32), y9 = F_X2_readBinary vso vmi vco vex i1 z103 p2 := ⟨_, rfl⟩
          have hu := hu _ eu109
          refine x_S (As := [.ref (ad i1), .int (bI z103), .long p2]) (rest := []) hCF (c_X2_readBinary l D cR cI cJ cZ t0 ax ar ao ad vrd vtr vsd vrn vom voh vol vop voe vow vok vos vso vmi vco vex i1 z103 p2 u109 eu109 hb1) (x_cwS 3 hts (inW_4 _ (List.mem_of_getElem? (i := 7) rfl)) (inW_4 _ (List.mem_of_getElem? (i := 8) rfl)) (inW_3 _ (List.mem_of_getElem? (i := 5) rfl)) (inW_4 _ (List.mem_of_getElem? (i := 9) rfl)) rfl rfl (by decide +kernel) ⟨Nat.le_of_ble_eq_true rfl, Nat.le_of_ble_eq_true rfl⟩) hK hP hD hS hA hSt rfl hl.1 rfl (Nat.le_of_ble_eq_true rfl) dX2_read_75 ⟨Nat.le_of_ble_eq_true rfl, Nat.le_of_ble_eq_true rfl⟩ (fun H locs hP hD hS => ?_)
          show W p l e _ s m args below meth c H locs 0 0 Q (F0 m 78 ls [])
          have e9 := Eq.symm hu; subst e9
          exact x_vret hx hb hr hlocks hQ hK hP hD hS rfl dX2_read_78
        · rw [if_pos c_108] at hs
          rw [if_pos c_108] at hu
          refine lv_aload_n hx hb dX2_read_61 rfl (lv_at hl 2 rfl) ?_
          refine lv_iload hx hb dX2_read_62 (lv_at hl 1 rfl) ?_
          refine lv_lload_n hx hb dX2_read_64 rfl (lv_at hl 4 rfl) ?_
          have h_111 := hs
          obtain ⟨u112, eu112⟩ : ∃ y9 : (Nat → Int32) × (Nat → Bool) × (Nat → Int64) × (Nat → Int32), y9 = F_X2_readDigits vso vmi vco vex i1 z103 p2 := ⟨_, rfl⟩
          have hu := hu _ eu112
          refine x_S (As := [.ref (ad i1), .int (bI z103), .long p2]) (rest := []) hCF (c_X2_readDigits l D cR cI cJ cZ t0 ax ar ao ad vrd vtr vsd vrn vom voh vol vop voe vow vok vos vso vmi vco vex i1 z103 p2 u112 eu112 h_111 hb1) (x_cwS 3 hts (inW_3 _ (List.mem_of_getElem? (i := 29) rfl)) (inW_3 _ (List.mem_of_getElem? (i := 30) rfl)) (inW_3 _ (List.mem_of_getElem? (i := 5) rfl)) (inW_3 _ (List.mem_of_getElem? (i := 31) rfl)) rfl rfl (by decide +kernel) ⟨Nat.le_of_ble_eq_true rfl, Nat.le_of_ble_eq_true rfl⟩) hK hP hD hS hA hSt rfl hl.1 rfl (Nat.le_of_ble_eq_true rfl) dX2_read_65 ⟨Nat.le_of_ble_eq_true rfl, Nat.le_of_ble_eq_true rfl⟩ (fun H locs hP hD hS => ?_)
          show W p l e _ s m args below meth c H locs 0 0 Q (F0 m 68 ls [])
          refine lv_goto (tgt := 78) hx hb dX2_read_68 (by decide) ?_
          have e9 := Eq.symm hu; subst e9
          exact x_vret hx hb hr hlocks hQ hK hP hD hS rfl dX2_read_78
      · rw [if_pos c_107] at hu
        refine lv_aload_n hx hb dX2_read_50 rfl (lv_at hl 2 rfl) ?_
        obtain ⟨u114, eu114⟩ : ∃ y9 : (Nat → Int32) × (Nat → Bool) × (Nat → Int64) × (Nat → Int32), y9 = F_X0_setNothing vso vmi vco vex i1 := ⟨_, rfl⟩
        have hu := hu _ eu114
        refine x_V (As := []) (rest := []) hCF (c_X0_setNothing l D cR cI cJ cZ t0 ax ar ao ad vrd vtr vsd vrn vom voh vol vop voe vow vok vos vso vmi vco vex i1 u114 eu114 hb1) (x_cwV 0 hts (inW_3 _ (List.mem_of_getElem? (i := 26) rfl)) (inW_3 _ (List.mem_of_getElem? (i := 27) rfl)) (inW_3 _ (List.mem_of_getElem? (i := 28) rfl)) (inW_1 _ (List.mem_of_getElem? (i := 16) rfl)) (inW_1 _ (List.mem_of_getElem? (i := 9) rfl)) rfl rfl (by decide +kernel) ⟨Nat.le_of_ble_eq_true rfl, Nat.le_of_ble_eq_true rfl⟩) hK hP hD hS hA hSt (3 + i1) (xw_dat hb1) rfl rfl hl.1 rfl (Nat.le_of_ble_eq_true rfl) dX2_read_51 ⟨Nat.le_of_ble_eq_true rfl, Nat.le_of_ble_eq_true rfl⟩ (fun H locs hP hD hS => ?_)
        show W p l e _ s m args below meth c H locs 0 0 Q (F0 m 54 ls [])
        refine lv_goto (tgt := 78) hx hb dX2_read_54 (by decide) ?_
        have e9 := Eq.symm hu; subst e9
        exact x_vret hx hb hr hlocks hQ hK hP hD hS rfl dX2_read_78
    · rw [if_pos c_106] at hu
      refine lv_aload_n hx hb dX2_read_32 rfl (lv_at hl 2 rfl) ?_
      refine lv_iload hx hb dX2_read_33 (lv_at hl 1 rfl) ?_
      obtain ⟨u116, eu116⟩ : ∃ y9 : (Nat → Int32) × (Nat → Bool) × (Nat → Int64) × (Nat → Int32), y9 = F_X0_setInfinity vso vmi vco vex i1 z103 := ⟨_, rfl⟩
      have hu := hu _ eu116
      refine x_V (As := [.int (bI z103)]) (rest := []) hCF (c_X0_setInfinity l D cR cI cJ cZ t0 ax ar ao ad vrd vtr vsd vrn vom voh vol vop voe vow vok vos vso vmi vco vex i1 z103 u116 eu116 hb1) (x_cwV 1 hts (inW_3 _ (List.mem_of_getElem? (i := 23) rfl)) (inW_3 _ (List.mem_of_getElem? (i := 24) rfl)) (inW_3 _ (List.mem_of_getElem? (i := 25) rfl)) (inW_1 _ (List.mem_of_getElem? (i := 16) rfl)) (inW_1 _ (List.mem_of_getElem? (i := 8) rfl)) rfl rfl (by decide +kernel) ⟨Nat.le_of_ble_eq_true rfl, Nat.le_of_ble_eq_true rfl⟩) hK hP hD hS hA hSt (3 + i1) (xw_dat hb1) rfl rfl hl.1 rfl (Nat.le_of_ble_eq_true rfl) dX2_read_35 ⟨Nat.le_of_ble_eq_true rfl, Nat.le_of_ble_eq_true rfl⟩ (fun H locs hP hD hS => ?_)
      show W p l e _ s m args below meth c H locs 0 0 Q (F0 m 38 ls [])
      refine lv_goto (tgt := 78) hx hb dX2_read_38 (by decide) ?_
      have e9 := Eq.symm hu; subst e9
      exact x_vret hx hb hr hlocks hQ hK hP hD hS rfl dX2_read_78
  obtain ⟨z9, ez9⟩ : ∃ y9 : Bool, y9 = Z_X2_read_J_104 p2 := ⟨_, rfl⟩
  have hz := rZ_X2_read_J_104 p2 ez9
  unfold RZ_X2_read_J_104 at hz
  refine xl_ge (tgt := 10) hx hb dX2_read_2 dX2_read_3 (by decide) (fun c_101 => ?_) (fun c_101 => ?_)
  · rw [if_pos c_101] at hz
    refine lv_iconst (v := 0) hx hb dX2_read_10 (by decide) ?_
    have e9 := Eq.symm hz; subst e9
    exact J_104 _ ez9 H locs hP hD hS ls (lv_sub hl [0, 1, 2] rfl)
  · rw [if_neg c_101] at hz
    refine lv_iconst (v := 1) hx hb dX2_read_6 (by decide) ?_
    refine lv_goto (tgt := 11) hx hb dX2_read_7 (by decide) ?_
    have e9 := Eq.symm hz; subst e9
    exact J_104 _ ez9 H locs hP hD hS ls (lv_sub hl [0, 1, 2] rfl)

def F_X3_flags (vsd : Int32)  : Int32 := vsd
def RF_X3_flags (vsd : Int32)  (u9 : Int32) : Prop := u9 = vsd
theorem rF_X3_flags (vsd : Int32)  {u9 : Int32} (hu : u9 = F_X3_flags vsd) : RF_X3_flags vsd u9 := by
  unfold RF_X3_flags
  exact hu
def rm_X3_flags : Room := { frames := 0, cells := 0, slots := 0, locals := 0 }
set_option maxHeartbeats 4000000 in
set_option maxRecDepth 100000 in
theorem c_X3_flags (l : Launch) (D : va_G) (cR cI cJ cZ : ClassId) (t0 : Nat) (ax ar ao : Nat) (ad : Nat → Nat) (vrd : Int32) (vtr : Int32) (vsd : Int32) (vrn : Int32) (vom : Bool) (voh : Int64) (vol : Int64) (vop : Int32) (voe : Bool) (vow : Int32) (vok : Int64) (vos : Int32) (vso : Nat → Int32) (vmi : Nat → Bool) (vco : Nat → Int64) (vex : Nat → Int32)  (u : Int32) (hu : u = F_X3_flags vsd) : XM l D (xty cR cI cJ cZ) t0 yX3_flags cX3_flags 1 (some .int) rm_X3_flags [.ref ax] (some (.int u)) (xw cR ax ar ao ad vrd vtr vsd vrn vom voh vol vop voe vow vok vos vso vmi vco vex) (xw cR ax ar ao ad vrd vtr vsd vrn vom voh vol vop voe vow vok vos vso vmi vco vex) := by
  refine XM.of (by decide) (Nat.le_of_ble_eq_true rfl) ?_
  intro p e s m args below meth c A Q F hK hP hD hA hSt hS hQ ls hl
  obtain ⟨hx, hb, hr, hts, hown, hlocks, hml⟩ := F
  have hCF : CallFix p m c cX3_flags 1 s args gW RX3 := ⟨hx, hb, hml, hown, hts⟩
  have hu := rF_X3_flags vsd hu
  unfold RF_X3_flags at hu
  obtain ⟨H, eH⟩ : ∃ y9 : Heap, y9 = s.heap := ⟨_, rfl⟩
  obtain ⟨locs, eL⟩ : ∃ y9 : List Loc, y9 = [] := ⟨_, rfl⟩
  rw [← eL] at hS ⊢
  have hP : va_P D vwCl (xw cR ax ar ao ad vrd vtr vsd vrn vom voh vol vop voe vow vok vos vso vmi vco vex) H := by rw [eH]; exact hP
  have hS : va_S A s.heap H locs := by rw [eH]; exact hS
  suffices goal9 : W p l e rm_X3_flags s m args below meth c H locs 0 0 Q (F0 m 0 ls []) from by rw [← eH]; exact goal9
  have hl : lv_has ls 1 [(0, .ref ax)] := hl
  have hi3 : ∀ w ∈ wsX30, w ∈ gW := inW_X3
  refine lv_aload_n hx hb dX3_flags_0 rfl (lv_at hl 0 rfl) ?_
  refine va_get (D := D) (ci := 4) (v := .int vsd) (C := RX3) (T := TX3) (N := 7) hx hb hts hi3 hown hK hP 0 rfl rfl 5 (by decide) (hts (.fieldLink RX3 34 "DecimalWords" "standing" "I") (inW_4 _ (List.mem_of_getElem? (i := 24) rfl))) (fun _ h9 => h9) rfl dX3_flags_1 ?_
  have e9 := Eq.symm hu; subst e9
  exact x_iret hx hb hr hlocks hQ hK hP hD hS rfl rfl dX3_flags_4

def F_X3_lower   : Int32 := 0
def RF_X3_lower   (u9 : Int32) : Prop := u9 = 0
theorem rF_X3_lower   {u9 : Int32} (hu : u9 = F_X3_lower ) : RF_X3_lower  u9 := by
  unfold RF_X3_lower
  exact hu
def rm_X3_lower : Room := { frames := 0, cells := 0, slots := 0, locals := 0 }
set_option maxHeartbeats 4000000 in
set_option maxRecDepth 100000 in
theorem c_X3_lower (l : Launch) (D : va_G) (cR cI cJ cZ : ClassId) (t0 : Nat) (ax ar ao : Nat) (ad : Nat → Nat) (vrd : Int32) (vtr : Int32) (vsd : Int32) (vrn : Int32) (vom : Bool) (voh : Int64) (vol : Int64) (vop : Int32) (voe : Bool) (vow : Int32) (vok : Int64) (vos : Int32) (vso : Nat → Int32) (vmi : Nat → Bool) (vco : Nat → Int64) (vex : Nat → Int32)  (u : Int32) (hu : u = F_X3_lower ) : XM l D (xty cR cI cJ cZ) t0 yX3_lower cX3_lower 1 none rm_X3_lower [.ref ax] none (xw cR ax ar ao ad vrd vtr vsd vrn vom voh vol vop voe vow vok vos vso vmi vco vex) (xw cR ax ar ao ad vrd vtr u vrn vom voh vol vop voe vow vok vos vso vmi vco vex) := by
  refine XM.of (by decide) (Nat.le_of_ble_eq_true rfl) ?_
  intro p e s m args below meth c A Q F hK hP hD hA hSt hS hQ ls hl
  obtain ⟨hx, hb, hr, hts, hown, hlocks, hml⟩ := F
  have hCF : CallFix p m c cX3_lower 1 s args gW RX3 := ⟨hx, hb, hml, hown, hts⟩
  have hu := rF_X3_lower  hu
  unfold RF_X3_lower at hu
  obtain ⟨H, eH⟩ : ∃ y9 : Heap, y9 = s.heap := ⟨_, rfl⟩
  obtain ⟨locs, eL⟩ : ∃ y9 : List Loc, y9 = [] := ⟨_, rfl⟩
  rw [← eL] at hS ⊢
  have hP : va_P D vwCl (xw cR ax ar ao ad vrd vtr vsd vrn vom voh vol vop voe vow vok vos vso vmi vco vex) H := by rw [eH]; exact hP
  have hS : va_S A s.heap H locs := by rw [eH]; exact hS
  suffices goal9 : W p l e rm_X3_lower s m args below meth c H locs 0 0 Q (F0 m 0 ls []) from by rw [← eH]; exact goal9
  have hl : lv_has ls 1 [(0, .ref ax)] := hl
  have hi3 : ∀ w ∈ wsX30, w ∈ gW := inW_X3
  refine lv_aload_n hx hb dX3_lower_0 rfl (lv_at hl 0 rfl) ?_
  refine lv_iconst (v := 0) hx hb dX3_lower_1 (by decide) ?_
  refine va_put (D := D) (ci := 4) (v := .int 0) (ty := .int) (C := RX3) (T := TX3) (N := 7) hx hb hts hi3 tyX3 tyX3_ok nmX3 hown hK hP hD hS 0 rfl rfl 5 (by decide) (hts (.fieldLink RX3 34 "DecimalWords" "standing" "I") (inW_4 _ (List.mem_of_getElem? (i := 24) rfl))) (fun _ h9 => h9) rfl (by decide +kernel) rfl rfl (Nat.le_of_ble_eq_true rfl) dX3_lower_2 (fun H locs hP hD hS => ?_)
  have hP : va_P D vwCl (xw cR ax ar ao ad vrd vtr 0 vrn vom voh vol vop voe vow vok vos vso vmi vco vex) H := hP
  have hD : va_D A (xw cR ax ar ao ad vrd vtr 0 vrn vom voh vol vop voe vow vok vos vso vmi vco vex) := hD
  have e9 := Eq.symm hu; subst e9
  exact x_vret hx hb hr hlocks hQ hK hP hD hS rfl dX3_lower_5
