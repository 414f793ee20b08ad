def Z_X3_tenTo_J_105 (p0 : Int32) : Int32 := (if 16 ≤ p0 then 16 else p0)
def RZ_X3_tenTo_J_105 (p0 : Int32) (u9 : Int32) : Prop := (if 16 ≤ p0 then u9 = 16 else u9 = p0)
theorem rZ_X3_tenTo_J_105 (p0 : Int32) {u9 : Int32} (hu : u9 = Z_X3_tenTo_J_105 p0) : RZ_X3_tenTo_J_105 p0 u9 := by
  unfold RZ_X3_tenTo_J_105
  refine ite_P (fun c_102 => ?_) (fun c_102 => ?_)
  · have hu := hu.trans (if_pos c_102)
    exact hu
  · have hu := hu.trans (if_neg c_102)
    exact hu
def F_X3_tenTo  (p0 : Int32) : Int64 := (if 0 ≤ p0 then (bnd (Z_X3_tenTo_J_105 p0) (fun z104 : Int32 => tensL z104.toNatClampNeg)) else 1)
def RF_X3_tenTo  (p0 : Int32) (u9 : Int64) : Prop := (if 0 ≤ p0 then (∀ z104 : Int32, z104 = Z_X3_tenTo_J_105 p0 → u9 = tensL z104.toNatClampNeg) else u9 = 1)
theorem rF_X3_tenTo  (p0 : Int32) {u9 : Int64} (hu : u9 = F_X3_tenTo p0) : RF_X3_tenTo p0 u9 := by
  unfold RF_X3_tenTo
  refine ite_P (fun c_101 => ?_) (fun c_101 => ?_)
  · have hu := hu.trans (if_pos c_101)
    intro z104 ez104
    have hu := bnd_n hu ez104
    exact hu
  · have hu := hu.trans (if_neg c_101)
    exact hu
def S_X3_tenTo  (p0 : Int32) : Prop := (if 0 ≤ p0 then (∀ z104 : Int32, z104 = Z_X3_tenTo_J_105 p0 → vp_in z104 17) else True)
def rm_X3_tenTo : Room := { frames := 0, cells := 0, slots := 0, locals := 0 }
set_option maxHeartbeats 4000000 in
set_option maxRecDepth 100000 in
theorem c_X3_tenTo (l : Launch) (D : va_G) (cR cI cJ cZ : ClassId) (t0 : Nat) (w : va_W) (p0 : Int32) (u : Int64) (hu : u = F_X3_tenTo p0) (hs : S_X3_tenTo p0) : XM l D (xty cR cI cJ cZ) t0 yX3_tenTo cX3_tenTo 1 (some .long) rm_X3_tenTo [.int p0] (some (.long u)) (w) (w) := by
  refine XM.of (by decide) (Nat.le_of_ble_eq_true rfl) ?_
  intro p e s m args below meth c A Q F hK hP hD hA hSt hS hQ ls hl
  obtain ⟨hx, hb, hr, hts, hown, hlocks, hml⟩ := F
  have hCF : CallFix p m c cX3_tenTo 1 s args gW RX3 := ⟨hx, hb, hml, hown, hts⟩
  unfold S_X3_tenTo at hs
  have hu := rF_X3_tenTo p0 hu
  unfold RF_X3_tenTo at hu
  obtain ⟨H, eH⟩ : ∃ y9 : Heap, y9 = s.heap := ⟨_, rfl⟩
  obtain ⟨locs, eL⟩ : ∃ y9 : List Loc, y9 = [] := ⟨_, rfl⟩
  rw [← eL] at hS ⊢
  have hP : va_P D vwCl (w) H := by rw [eH]; exact hP
  have hS : va_S A s.heap H locs := by rw [eH]; exact hS
  suffices goal9 : W p l e rm_X3_tenTo s m args below meth c H locs 0 0 Q (F0 m 0 ls []) from by rw [← eH]; exact goal9
  have hl : lv_has ls 1 [(0, .int p0)] := hl
  refine lv_iload_n hx hb dX3_tenTo_0 rfl (lv_at hl 0 rfl) ?_
  refine lv_if_ge (tgt := 6) hx hb dX3_tenTo_1 (by decide) (fun c_101 => ?_) (fun c_101 => ?_)
  · rw [if_pos c_101] at hs
    rw [if_pos c_101] at hu
    refine va_gets hx hb hSt.1 hS hown (hts (.fieldLink RX3 260 "DecimalWords" "TENS" "[J") (inW_1 _ (List.mem_of_getElem? (i := 27) rfl))) (fun _ h9 => h9) dX3_tenTo_6 ?_
    refine lv_iload_n hx hb dX3_tenTo_9 rfl (lv_at hl 0 rfl) ?_
    refine lv_bipush (v := 16) hx hb dX3_tenTo_10 (by decide) ?_
    have J_105 : (∀ z104 : Int32, z104 = Z_X3_tenTo_J_105 p0 → ∀ (H : Heap) (locs : List Loc), va_P D vwCl (w) H → va_D A (w) → va_S A s.heap H locs → ∀ ls : Array Slot, lv_has ls 1 [] → W p l e rm_X3_tenTo s m args below meth c H locs 0 0 Q (F0 m 21 ls [.int z104, .ref t0])) := by
      intro z104 ez104 H locs hP hD hS ls hl
      have hs := hs _ ez104
      have hu := hu _ ez104
      have h_106 := hs
      refine va_tl hx hb hSt.2.1 hS h_106 rfl dX3_tenTo_21 ?_
      have e9 := Eq.symm hu; subst e9
      exact x_lret hx hb hr hlocks hQ hK hP hD hS rfl rfl dX3_tenTo_22
    obtain ⟨z9, ez9⟩ : ∃ y9 : Int32, y9 = Z_X3_tenTo_J_105 p0 := ⟨_, rfl⟩
    have hz := rZ_X3_tenTo_J_105 p0 ez9
    unfold RZ_X3_tenTo_J_105 at hz
    refine lv_icmp_ge (tgt := 19) hx hb dX3_tenTo_12 (by decide) (fun c_102 => ?_) (fun c_102 => ?_)
    · rw [if_pos c_102] at hz
      refine lv_bipush (v := 16) hx hb dX3_tenTo_19 (by decide) ?_
      have e9 := Eq.symm hz; subst e9
      exact J_105 _ ez9 H locs hP hD hS ls (lv_sub hl [] rfl)
    · rw [if_neg c_102] at hz
      refine lv_iload_n hx hb dX3_tenTo_15 rfl (lv_at hl 0 rfl) ?_
      refine lv_goto (tgt := 21) hx hb dX3_tenTo_16 (by decide) ?_
      have e9 := Eq.symm hz; subst e9
      exact J_105 _ ez9 H locs hP hD hS ls (lv_sub hl [] rfl)
  · rw [if_neg c_101] at hu
    refine lv_lconst (v := 1) hx hb dX3_tenTo_4 (by decide) ?_
    have e9 := Eq.symm hu; subst e9
    exact x_lret hx hb hr hlocks hQ hK hP hD hS rfl rfl dX3_tenTo_5

def F_X3_orderOf  (p0 : Int64) (p1 : Int64) : Int32 := (if p0 = p1 then 0 else (if p1 ≤ p0 then 1 else (-1)))
def RF_X3_orderOf  (p0 : Int64) (p1 : Int64) (u9 : Int32) : Prop := (if p0 = p1 then u9 = 0 else (if p1 ≤ p0 then u9 = 1 else u9 = (-1)))
theorem rF_X3_orderOf  (p0 : Int64) (p1 : Int64) {u9 : Int32} (hu : u9 = F_X3_orderOf p0 p1) : RF_X3_orderOf p0 p1 u9 := by
  unfold RF_X3_orderOf
  refine ite_P (fun c_101 => ?_) (fun c_101 => ?_)
  · have hu := hu.trans (if_pos c_101)
    exact hu
  · have hu := hu.trans (if_neg c_101)
    refine ite_P (fun c_102 => ?_) (fun c_102 => ?_)
    · have hu := hu.trans (if_pos c_102)
      exact hu
    · have hu := hu.trans (if_neg c_102)
      exact hu
def rm_X3_orderOf : Room := { frames := 0, cells := 0, slots := 0, locals := 0 }
set_option maxHeartbeats 4000000 in
set_option maxRecDepth 100000 in
theorem c_X3_orderOf (l : Launch) (D : va_G) (cR cI cJ cZ : ClassId) (t0 : Nat) (w : va_W) (p0 : Int64) (p1 : Int64) (u : Int32) (hu : u = F_X3_orderOf p0 p1) : XM l D (xty cR cI cJ cZ) t0 yX3_orderOf cX3_orderOf 4 (some .int) rm_X3_orderOf [.long p0, .long p1] (some (.int u)) (w) (w) := by
  refine XM.of (by decide) (Nat.le_of_ble_eq_true rfl) ?_
  intro p e s m args below meth c A Q F hK hP hD hA hSt hS hQ ls hl
  obtain ⟨hx, hb, hr, hts, hown, hlocks, hml⟩ := F
  have hCF : CallFix p m c cX3_orderOf 4 s args gW RX3 := ⟨hx, hb, hml, hown, hts⟩
  have hu := rF_X3_orderOf p0 p1 hu
  unfold RF_X3_orderOf at hu
  obtain ⟨H, eH⟩ : ∃ y9 : Heap, y9 = s.heap := ⟨_, rfl⟩
  obtain ⟨locs, eL⟩ : ∃ y9 : List Loc, y9 = [] := ⟨_, rfl⟩
  rw [← eL] at hS ⊢
  have hP : va_P D vwCl (w) H := by rw [eH]; exact hP
  have hS : va_S A s.heap H locs := by rw [eH]; exact hS
  suffices goal9 : W p l e rm_X3_orderOf s m args below meth c H locs 0 0 Q (F0 m 0 ls []) from by rw [← eH]; exact goal9
  have hl : lv_has ls 4 [(0, .long p0), (2, .long p1)] := hl
  refine lv_lload_n hx hb dX3_orderOf_0 rfl (lv_at hl 0 rfl) ?_
  refine lv_lload_n hx hb dX3_orderOf_1 rfl (lv_at hl 1 rfl) ?_
  refine xl_ne (tgt := 8) hx hb dX3_orderOf_2 dX3_orderOf_3 (by decide) (fun c_101 => ?_) (fun c_101 => ?_)
  · rw [if_neg c_101] at hu
    refine lv_lload_n hx hb dX3_orderOf_8 rfl (lv_at hl 0 rfl) ?_
    refine lv_lload_n hx hb dX3_orderOf_9 rfl (lv_at hl 1 rfl) ?_
    refine xl_ge (tgt := 18) hx hb dX3_orderOf_10 dX3_orderOf_11 (by decide) (fun c_102 => ?_) (fun c_102 => ?_)
    · rw [if_pos c_102] at hu
      refine lv_iconst (v := 1) hx hb dX3_orderOf_18 (by decide) ?_
      have e9 := Eq.symm hu; subst e9
      exact x_iret hx hb hr hlocks hQ hK hP hD hS rfl rfl dX3_orderOf_19
    · rw [if_neg c_102] at hu
      refine lv_iconst (v := (-1)) hx hb dX3_orderOf_14 (by decide) ?_
      refine lv_goto (tgt := 19) hx hb dX3_orderOf_15 (by decide) ?_
      have e9 := Eq.symm hu; subst e9
      exact x_iret hx hb hr hlocks hQ hK hP hD hS rfl rfl dX3_orderOf_19
  · rw [if_pos c_101] at hu
    refine lv_iconst (v := 0) hx hb dX3_orderOf_6 (by decide) ?_
    have e9 := Eq.symm hu; subst e9
    exact x_iret hx hb hr hlocks hQ hK hP hD hS rfl rfl dX3_orderOf_7

def B_X3_digitsOf_2 (p0 : Int64) (t_2 : Int32) : Int32 := (if 16 ≤ t_2 then t_2 else (if tensL t_2.toNatClampNeg ≤ p0 then (bnd (t_2 + 1) (fun n104 : Int32 => n104)) else t_2))
def G_X3_digitsOf_2 (p0 : Int64) (t_2 : Int32) : Bool := (if 16 ≤ t_2 then false else (if tensL t_2.toNatClampNeg ≤ p0 then (bnd (t_2 + 1) (fun n104 : Int32 => true)) else false))
def RB_X3_digitsOf_2 (p0 : Int64) (t_2 : Int32) (u9 : Int32) : Prop := (if 16 ≤ t_2 then True else (if tensL t_2.toNatClampNeg ≤ p0 then (∀ n104 : Int32, n104 = t_2 + 1 → u9 = n104) else True))
def RG_X3_digitsOf_2 (p0 : Int64) (t_2 : Int32) (u9 : Bool) : Prop := (if 16 ≤ t_2 then u9 = false else (if tensL t_2.toNatClampNeg ≤ p0 then u9 = true else u9 = false))
theorem rB_X3_digitsOf_2 (p0 : Int64) (t_2 : Int32) {u9 : Int32} (hu : u9 = B_X3_digitsOf_2 p0 t_2) : RB_X3_digitsOf_2 p0 t_2 u9 := by
  unfold RB_X3_digitsOf_2
  refine ite_P (fun c_101 => ?_) (fun c_101 => ?_)
  · have hu := hu.trans (if_pos c_101)
    trivial
  · have hu := hu.trans (if_neg c_101)
    refine ite_P (fun c_103 => ?_) (fun c_103 => ?_)
    · have hu := hu.trans (if_pos c_103)
      intro n104 en104
      have hu := bnd_n hu en104
      exact hu
    · have hu := hu.trans (if_neg c_103)
      trivial
theorem rG_X3_digitsOf_2 (p0 : Int64) (t_2 : Int32) {u9 : Bool} (hu : u9 = G_X3_digitsOf_2 p0 t_2) : RG_X3_digitsOf_2 p0 t_2 u9 := by
  unfold RG_X3_digitsOf_2
  refine ite_P (fun c_101 => ?_) (fun c_101 => ?_)
  · have hu := hu.trans (if_pos c_101)
    exact hu
  · have hu := hu.trans (if_neg c_101)
    refine ite_P (fun c_103 => ?_) (fun c_103 => ?_)
    · have hu := hu.trans (if_pos c_103)
      exact hu
    · have hu := hu.trans (if_neg c_103)
      exact hu
def SB_X3_digitsOf_2 (p0 : Int64) (t_2 : Int32) : Prop := (if 16 ≤ t_2 then True else vp_in t_2 17)
def F_X3_digitsOf  (p0 : Int64) : Int32 := (bnd (wl (G_X3_digitsOf_2 p0) (B_X3_digitsOf_2 p0) 17 0) (fun z105 : Int32 => (if 16 ≤ z105 then 16 else (if tensL z105.toNatClampNeg ≤ p0 then default else z105))))
def RF_X3_digitsOf  (p0 : Int64) (u9 : Int32) : Prop := (∀ z105 : Int32, z105 = wl (G_X3_digitsOf_2 p0) (B_X3_digitsOf_2 p0) 17 0 → (if 16 ≤ z105 then u9 = 16 else (if tensL z105.toNatClampNeg ≤ p0 then True else u9 = z105)))
theorem rF_X3_digitsOf  (p0 : Int64) {u9 : Int32} (hu : u9 = F_X3_digitsOf p0) : RF_X3_digitsOf p0 u9 := by
  unfold RF_X3_digitsOf
  intro z105 ez105
  have hu := bnd_n hu ez105
  refine ite_P (fun c_107 => ?_) (fun c_107 => ?_)
  · have hu := hu.trans (if_pos c_107)
    exact hu
  · have hu := hu.trans (if_neg c_107)
    refine ite_P (fun c_109 => ?_) (fun c_109 => ?_)
    · have hu := hu.trans (if_pos c_109)
      trivial
    · have hu := hu.trans (if_neg c_109)
      exact hu
def S_X3_digitsOf  (p0 : Int64) : Prop := (∀ j : Nat, j < nW (G_X3_digitsOf_2 p0) (B_X3_digitsOf_2 p0) 17 0 → SB_X3_digitsOf_2 p0 (itn (B_X3_digitsOf_2 p0) j 0)) ∧ G_X3_digitsOf_2 p0 (wl (G_X3_digitsOf_2 p0) (B_X3_digitsOf_2 p0) 17 0) = false ∧ (∀ z105 : Int32, z105 = wl (G_X3_digitsOf_2 p0) (B_X3_digitsOf_2 p0) 17 0 → (if 16 ≤ z105 then True else vp_in z105 17))
def rm_X3_digitsOf : Room := { frames := 0, cells := 0, slots := 0, locals := 0 }
set_option maxHeartbeats 4000000 in
set_option maxRecDepth 100000 in
theorem c_X3_digitsOf (l : Launch) (D : va_G) (cR cI cJ cZ : ClassId) (t0 : Nat) (w : va_W) (p0 : Int64) (u : Int32) (hu : u = F_X3_digitsOf p0) (hs : S_X3_digitsOf p0) : XM l D (xty cR cI cJ cZ) t0 yX3_digitsOf cX3_digitsOf 3 (some .int) rm_X3_digitsOf [.long p0] (some (.int u)) (w) (w) := by
  refine XM.of (by decide) (Nat.le_of_ble_eq_true rfl) ?_
  intro p e s m args below meth c A Q F hK hP hD hA hSt hS hQ ls hl
  obtain ⟨hx, hb, hr, hts, hown, hlocks, hml⟩ := F
  have hCF : CallFix p m c cX3_digitsOf 3 s args gW RX3 := ⟨hx, hb, hml, hown, hts⟩
  unfold S_X3_digitsOf at hs
  have hu := rF_X3_digitsOf p0 hu
  unfold RF_X3_digitsOf at hu
  obtain ⟨H, eH⟩ : ∃ y9 : Heap, y9 = s.heap := ⟨_, rfl⟩
  obtain ⟨locs, eL⟩ : ∃ y9 : List Loc, y9 = [] := ⟨_, rfl⟩
  rw [← eL] at hS ⊢
  have hP : va_P D vwCl (w) H := by rw [eH]; exact hP
  have hS : va_S A s.heap H locs := by rw [eH]; exact hS
  suffices goal9 : W p l e rm_X3_digitsOf s m args below meth c H locs 0 0 Q (F0 m 0 ls []) from by rw [← eH]; exact goal9
  have hl : lv_has ls 3 [(0, .long p0)] := hl
  refine lv_iconst (v := 0) hx hb dX3_digitsOf_0 (by decide) ?_
  refine lv_istore_n (lv' := [(2, .int 0), (0, .long p0)]) hx hb dX3_digitsOf_1 rfl hl (by decide) rfl (fun ls hl => ?_)
  have L_110 : ∀ (n9 : Nat) (t_2 : Int32), (∀ j : Nat, j < n9 → G_X3_digitsOf_2 p0 (itn (B_X3_digitsOf_2 p0) j t_2) = true) → (∀ j : Nat, j < n9 → SB_X3_digitsOf_2 p0 (itn (B_X3_digitsOf_2 p0) j t_2)) → (∀ (H : Heap) (locs : List Loc), va_P D vwCl (w) H → va_D A (w) → va_S A s.heap H locs → ∀ ls : Array Slot, lv_has ls 3 [(0, .long p0), (2, .int (itn (B_X3_digitsOf_2 p0) n9 t_2))] → W p l e rm_X3_digitsOf s m args below meth c H locs 0 0 Q (F0 m 2 ls [])) → ∀ (H : Heap) (locs : List Loc), va_P D vwCl (w) H → va_D A (w) → va_S A s.heap H locs → ∀ ls : Array Slot, lv_has ls 3 [(0, .long p0), (2, .int t_2)] → W p l e rm_X3_digitsOf s m args below meth c H locs 0 0 Q (F0 m 2 ls []) := by
    intro n9
    induction n9 with
    | zero => exact fun _ _ _ k9 => k9
    | succ n9 ih9 =>
      intro t_2 hG9 hs9 k9 H locs hP hD hS ls hl
      have hG0 : G_X3_digitsOf_2 p0 t_2 = true := hG9 0 (Nat.succ_pos n9)
      have hg := rG_X3_digitsOf_2 p0 t_2 (Eq.symm hG0)
      unfold RG_X3_digitsOf_2 at hg
      obtain ⟨t9, et9⟩ : ∃ y9 : Int32, y9 = (B_X3_digitsOf_2 p0) t_2 := ⟨_, rfl⟩
      have hb9 := rB_X3_digitsOf_2 p0 t_2 et9
      unfold RB_X3_digitsOf_2 at hb9
      have hs : SB_X3_digitsOf_2 p0 t_2 := hs9 0 (Nat.succ_pos n9)
      unfold SB_X3_digitsOf_2 at hs
      refine lv_iload_n hx hb dX3_digitsOf_2 rfl (lv_at hl 1 rfl) ?_
      refine lv_bipush (v := 16) hx hb dX3_digitsOf_3 (by decide) ?_
      refine lv_icmp_ge (tgt := 26) hx hb dX3_digitsOf_5 (by decide) (fun c_101 => ?_) (fun c_101 => ?_)
      · rw [if_pos c_101] at hg
        exact absurd hg (by decide)
      · rw [if_neg c_101] at hs
        rw [if_neg c_101] at hg
        rw [if_neg c_101] at hb9
        refine lv_lload_n hx hb dX3_digitsOf_8 rfl (lv_at hl 0 rfl) ?_
        refine va_gets hx hb hSt.1 hS hown (hts (.fieldLink RX3 260 "DecimalWords" "TENS" "[J") (inW_1 _ (List.mem_of_getElem? (i := 27) rfl))) (fun _ h9 => h9) dX3_digitsOf_9 ?_
        refine lv_iload_n hx hb dX3_digitsOf_12 rfl (lv_at hl 1 rfl) ?_
        have h_102 := hs
        refine va_tl hx hb hSt.2.1 hS h_102 rfl dX3_digitsOf_13 ?_
        refine xl_ge (tgt := 20) hx hb dX3_digitsOf_14 dX3_digitsOf_15 (by decide) (fun c_103 => ?_) (fun c_103 => ?_)
        · rw [if_pos c_103] at hg
          rw [if_pos c_103] at hb9
          obtain ⟨n104, en104⟩ : ∃ y9 : Int32, y9 = t_2 + 1 := ⟨_, rfl⟩
          have hb9 := hb9 _ en104
          refine lv_iinc (v := n104) (lv' := [(2, .int n104), (0, .long p0)]) hx hb dX3_digitsOf_20 hl (k := 1) rfl (by rw [en104]; rfl) (by decide) rfl (fun ls hl => ?_)
          refine lv_goto (tgt := 2) hx hb dX3_digitsOf_23 (by decide) ?_
          have e9 := Eq.symm hb9; subst e9
          have key9 := ih9 ((B_X3_digitsOf_2 p0) t_2) (fun j hj => hG9 (j + 1) (Nat.succ_lt_succ hj)) (fun j hj => hs9 (j + 1) (Nat.succ_lt_succ hj)) k9
          rw [← et9] at key9
          exact key9 H locs hP hD hS ls (lv_sub hl [1, 0] rfl)
        · rw [if_neg c_103] at hg
          exact absurd hg (by decide)
  obtain ⟨hsL, hG1, hs⟩ := hs
  refine L_110 (nW (G_X3_digitsOf_2 p0) (B_X3_digitsOf_2 p0) 17 0) 0 (nW_lt _ _ _ _) hsL (fun H locs hP hD hS ls hl => ?_) H locs hP hD hS ls (lv_sub hl [1, 0] rfl)
  obtain ⟨z105, ez105⟩ : ∃ y9 : Int32, y9 = wl (G_X3_digitsOf_2 p0) (B_X3_digitsOf_2 p0) 17 0 := ⟨_, rfl⟩
  have e9 : z105 = itn (B_X3_digitsOf_2 p0) (nW (G_X3_digitsOf_2 p0) (B_X3_digitsOf_2 p0) 17 0) 0 := ez105
  try rw [← e9] at hP
  try rw [← e9] at hD
  try rw [← e9] at hl
  rw [← ez105] at hG1
  clear e9
  have hg := rG_X3_digitsOf_2 p0 z105 (Eq.symm hG1)
  unfold RG_X3_digitsOf_2 at hg
  have hs := hs _ ez105
  have hu := hu _ ez105
  refine lv_iload_n hx hb dX3_digitsOf_2 rfl (lv_at hl 1 rfl) ?_
  refine lv_bipush (v := 16) hx hb dX3_digitsOf_3 (by decide) ?_
  refine lv_icmp_ge (tgt := 26) hx hb dX3_digitsOf_5 (by decide) (fun c_107 => ?_) (fun c_107 => ?_)
  · rw [if_pos c_107] at hu
    rw [if_pos c_107] at hg
    refine lv_bipush (v := 16) hx hb dX3_digitsOf_26 (by decide) ?_
    have e9 := Eq.symm hu; subst e9
    exact x_iret hx hb hr hlocks hQ hK hP hD hS rfl rfl dX3_digitsOf_28
  · rw [if_neg c_107] at hs
    rw [if_neg c_107] at hu
    rw [if_neg c_107] at hg
    refine lv_lload_n hx hb dX3_digitsOf_8 rfl (lv_at hl 0 rfl) ?_
    refine va_gets hx hb hSt.1 hS hown (hts (.fieldLink RX3 260 "DecimalWords" "TENS" "[J") (inW_1 _ (List.mem_of_getElem? (i := 27) rfl))) (fun _ h9 => h9) dX3_digitsOf_9 ?_
    refine lv_iload_n hx hb dX3_digitsOf_12 rfl (lv_at hl 1 rfl) ?_
    have h_108 := hs
    refine va_tl hx hb hSt.2.1 hS h_108 rfl dX3_digitsOf_13 ?_
    refine xl_ge (tgt := 20) hx hb dX3_digitsOf_14 dX3_digitsOf_15 (by decide) (fun c_109 => ?_) (fun c_109 => ?_)
    · rw [if_pos c_109] at hg
      exact absurd hg (by decide)
    · rw [if_neg c_109] at hu
      rw [if_neg c_109] at hg
      refine lv_iload_n hx hb dX3_digitsOf_18 rfl (lv_at hl 1 rfl) ?_
      have e9 := Eq.symm hu; subst e9
      exact x_iret hx hb hr hlocks hQ hK hP hD hS rfl rfl dX3_digitsOf_19
