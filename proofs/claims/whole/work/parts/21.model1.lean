def F_X4_thrown (vth : Int32)  : Int32 := vth
def RF_X4_thrown (vth : Int32)  (u9 : Int32) : Prop := u9 = vth
theorem rF_X4_thrown (vth : Int32)  {u9 : Int32} (hu : u9 = F_X4_thrown vth) : RF_X4_thrown vth u9 := by
  unfold RF_X4_thrown
  exact hu
def rm_X4_thrown : Room := { frames := 0, cells := 0, slots := 0, locals := 0 }
set_option maxHeartbeats 4000000 in
set_option maxRecDepth 100000 in
theorem c_X4_thrown (l : Launch) (D : va_G) (cR cI cJ cZ : ClassId) (t0 : Nat) (am ak an ac ae ag aq : Nat) (vth : Int32) (vmo : Int32) (vfg : Int32) (vtp : Int32) (vkd : Int32) (vng : Bool) (vcc : Int64) (vqq : Int32) (vrs : Int32) (vct : Int32) (vun : Int32) (vre : Bool) (vks : Nat → Int32) (vms : Nat → Bool) (vcs : Nat → Int64) (ves : Nat → Int32) (vdg : Nat → Int32) (vog : Nat → Int32)  (u : Int32) (hu : u = F_X4_thrown vth) : XM l D (xty cR cI cJ cZ) t0 yX4_thrown cX4_thrown 1 (some .int) rm_X4_thrown [.ref am] (some (.int u)) (mw cI cJ cZ am ak an ac ae ag aq vth vmo vfg vtp vkd vng vcc vqq vrs vct vun vre vks vms vcs ves vdg vog) (mw cI cJ cZ am ak an ac ae ag aq vth vmo vfg vtp vkd vng vcc vqq vrs vct vun vre vks vms vcs ves vdg vog) := by
  refine XM.of (by decide) (Nat.le_of_ble_eq_true rfl) ?_
  intro p e s m args below meth c A Q F hK hP hD hA hSt hS hQ ls hl
  obtain ⟨hx, hb, hr, hts, hown, hlocks, hml⟩ := F
  have hCF : CallFix p m c cX4_thrown 1 s args gW RX4 := ⟨hx, hb, hml, hown, hts⟩
  have hu := rF_X4_thrown vth hu
  unfold RF_X4_thrown at hu
  obtain ⟨H, eH⟩ : ∃ y9 : Heap, y9 = s.heap := ⟨_, rfl⟩
  obtain ⟨locs, eL⟩ : ∃ y9 : List Loc, y9 = [] := ⟨_, rfl⟩
  rw [← eL] at hS ⊢
  have hP : va_P D vwCl (mw cI cJ cZ am ak an ac ae ag aq vth vmo vfg vtp vkd vng vcc vqq vrs vct vun vre vks vms vcs ves vdg vog) H := by rw [eH]; exact hP
  have hS : va_S A s.heap H locs := by rw [eH]; exact hS
  suffices goal9 : W p l e rm_X4_thrown s m args below meth c H locs 0 0 Q (F0 m 0 ls []) from by rw [← eH]; exact goal9
  have hl : lv_has ls 1 [(0, .ref am)] := hl
  have hi4 : ∀ w ∈ wsX40, w ∈ gW := inW_X4
  refine lv_aload_n hx hb dX4_thrown_0 rfl (lv_at hl 0 rfl) ?_
  refine va_get (D := D) (ci := 5) (v := .int vth) (C := RX4) (T := TX4) (N := 18) hx hb hts hi4 hown hK hP 0 rfl rfl 0 (by decide) (hts (.fieldLink RX4 30 "DecimalWordsModel" "thrown" "I") (inW_8 _ (List.mem_of_getElem? (i := 38) rfl))) (fun _ h9 => h9) rfl dX4_thrown_1 ?_
  have e9 := Eq.symm hu; subst e9
  exact x_iret hx hb hr hlocks hQ hK hP hD hS rfl rfl dX4_thrown_4

def B_X4_clear_2  (t_2 : Int32 × (Nat → Int32)) : Int32 × (Nat → Int32) := (if 900 ≤ t_2.1 then t_2 else (bnd (va_up t_2.2 t_2.1.toNatClampNeg 0) (fun w103 : Nat → Int32 => (bnd (t_2.1 + 1) (fun n105 : Int32 => (n105, w103))))))
def G_X4_clear_2  (t_2 : Int32 × (Nat → Int32)) : Bool := (if 900 ≤ t_2.1 then false else (bnd (va_up t_2.2 t_2.1.toNatClampNeg 0) (fun w103 : Nat → Int32 => (bnd (t_2.1 + 1) (fun n105 : Int32 => true)))))
def RB_X4_clear_2  (t_2 : Int32 × (Nat → Int32)) (u9 : Int32 × (Nat → Int32)) : Prop := (if 900 ≤ t_2.1 then True else (∀ w103 : Nat → Int32, w103 = va_up t_2.2 t_2.1.toNatClampNeg 0 → (∀ n105 : Int32, n105 = t_2.1 + 1 → u9 = (n105, w103))))
def RG_X4_clear_2  (t_2 : Int32 × (Nat → Int32)) (u9 : Bool) : Prop := (if 900 ≤ t_2.1 then u9 = false else u9 = true)
theorem rB_X4_clear_2  (t_2 : Int32 × (Nat → Int32)) {u9 : Int32 × (Nat → Int32)} (hu : u9 = B_X4_clear_2  t_2) : RB_X4_clear_2  t_2 u9 := by
  unfold RB_X4_clear_2
  refine ite_P (fun c_101 => ?_) (fun c_101 => ?_)
  · have hu := hu.trans (if_pos c_101)
    trivial
  · have hu := hu.trans (if_neg c_101)
    intro w103 ew103
    have hu := bnd_n hu ew103
    intro n105 en105
    have hu := bnd_n hu en105
    exact hu
theorem rG_X4_clear_2  (t_2 : Int32 × (Nat → Int32)) {u9 : Bool} (hu : u9 = G_X4_clear_2  t_2) : RG_X4_clear_2  t_2 u9 := by
  unfold RG_X4_clear_2
  refine ite_P (fun c_101 => ?_) (fun c_101 => ?_)
  · have hu := hu.trans (if_pos c_101)
    exact hu
  · have hu := hu.trans (if_neg c_101)
    exact hu
def SB_X4_clear_2  (t_2 : Int32 × (Nat → Int32)) : Prop := (if 900 ≤ t_2.1 then True else vp_in t_2.1 900)
def F_X4_clear (vdg : Nat → Int32)  : (Nat → Int32) := (bnd (wl (G_X4_clear_2) (B_X4_clear_2) 901 (0, vdg)) (fun z106 : Int32 × (Nat → Int32) => (if 900 ≤ z106.1 then z106.2 else default)))
def RF_X4_clear (vdg : Nat → Int32)  (u9 : (Nat → Int32)) : Prop := (∀ z106 : Int32 × (Nat → Int32), z106 = wl (G_X4_clear_2) (B_X4_clear_2) 901 (0, vdg) → (if 900 ≤ z106.1 then u9 = z106.2 else True))
theorem rF_X4_clear (vdg : Nat → Int32)  {u9 : (Nat → Int32)} (hu : u9 = F_X4_clear vdg) : RF_X4_clear vdg u9 := by
  unfold RF_X4_clear
  intro z106 ez106
  have hu := bnd_n hu ez106
  refine ite_P (fun c_108 => ?_) (fun c_108 => ?_)
  · have hu := hu.trans (if_pos c_108)
    exact hu
  · have hu := hu.trans (if_neg c_108)
    trivial
def S_X4_clear (vdg : Nat → Int32)  : Prop := (∀ j : Nat, j < nW (G_X4_clear_2) (B_X4_clear_2) 901 (0, vdg) → SB_X4_clear_2  (itn (B_X4_clear_2) j (0, vdg))) ∧ G_X4_clear_2  (wl (G_X4_clear_2) (B_X4_clear_2) 901 (0, vdg)) = false
def rm_X4_clear : Room := { frames := 0, cells := 0, slots := 0, locals := 0 }
set_option maxHeartbeats 4000000 in
set_option maxRecDepth 100000 in
theorem c_X4_clear (l : Launch) (D : va_G) (cR cI cJ cZ : ClassId) (t0 : Nat) (am ak an ac ae ag aq : Nat) (vth : Int32) (vmo : Int32) (vfg : Int32) (vtp : Int32) (vkd : Int32) (vng : Bool) (vcc : Int64) (vqq : Int32) (vrs : Int32) (vct : Int32) (vun : Int32) (vre : Bool) (vks : Nat → Int32) (vms : Nat → Bool) (vcs : Nat → Int64) (ves : Nat → Int32) (vdg : Nat → Int32) (vog : Nat → Int32)  (u : (Nat → Int32)) (hu : u = F_X4_clear vdg) (hs : S_X4_clear vdg) : XM l D (xty cR cI cJ cZ) t0 yX4_clear cX4_clear 2 none rm_X4_clear [.ref am] none (mw cI cJ cZ am ak an ac ae ag aq vth vmo vfg vtp vkd vng vcc vqq vrs vct vun vre vks vms vcs ves vdg vog) (mw cI cJ cZ am ak an ac ae ag aq vth vmo vfg vtp vkd vng vcc vqq vrs vct vun vre vks vms vcs ves u vog) := by
  refine XM.of (by decide) (Nat.le_of_ble_eq_true rfl) ?_
  intro p e s m args below meth c A Q F hK hP hD hA hSt hS hQ ls hl
  obtain ⟨hx, hb, hr, hts, hown, hlocks, hml⟩ := F
  have hCF : CallFix p m c cX4_clear 2 s args gW RX4 := ⟨hx, hb, hml, hown, hts⟩
  unfold S_X4_clear at hs
  have hu := rF_X4_clear vdg hu
  unfold RF_X4_clear at hu
  obtain ⟨H, eH⟩ : ∃ y9 : Heap, y9 = s.heap := ⟨_, rfl⟩
  obtain ⟨locs, eL⟩ : ∃ y9 : List Loc, y9 = [] := ⟨_, rfl⟩
  rw [← eL] at hS ⊢
  have hP : va_P D vwCl (mw cI cJ cZ am ak an ac ae ag aq vth vmo vfg vtp vkd vng vcc vqq vrs vct vun vre vks vms vcs ves vdg vog) H := by rw [eH]; exact hP
  have hS : va_S A s.heap H locs := by rw [eH]; exact hS
  suffices goal9 : W p l e rm_X4_clear s m args below meth c H locs 0 0 Q (F0 m 0 ls []) from by rw [← eH]; exact goal9
  have hl : lv_has ls 2 [(0, .ref am)] := hl
  have hi4 : ∀ w ∈ wsX40, w ∈ gW := inW_X4
  refine lv_iconst (v := 0) hx hb dX4_clear_0 (by decide) ?_
  refine lv_istore_n (lv' := [(1, .int 0), (0, .ref am)]) hx hb dX4_clear_1 rfl hl (by decide) rfl (fun ls hl => ?_)
  have L_109 : ∀ (n9 : Nat) (t_2 : Int32 × (Nat → Int32)), (∀ j : Nat, j < n9 → G_X4_clear_2  (itn (B_X4_clear_2) j t_2) = true) → (∀ j : Nat, j < n9 → SB_X4_clear_2  (itn (B_X4_clear_2) j t_2)) → (∀ (H : Heap) (locs : List Loc), va_P D vwCl (mw cI cJ cZ am ak an ac ae ag aq vth vmo vfg vtp vkd vng vcc vqq vrs vct vun vre vks vms vcs ves ((itn (B_X4_clear_2) n9 t_2).2) vog) H → va_D A (mw cI cJ cZ am ak an ac ae ag aq vth vmo vfg vtp vkd vng vcc vqq vrs vct vun vre vks vms vcs ves ((itn (B_X4_clear_2) n9 t_2).2) vog) → va_S A s.heap H locs → ∀ ls : Array Slot, lv_has ls 2 [(0, .ref am), (1, .int ((itn (B_X4_clear_2) n9 t_2).1))] → W p l e rm_X4_clear s m args below meth c H locs 0 0 Q (F0 m 2 ls [])) → ∀ (H : Heap) (locs : List Loc), va_P D vwCl (mw cI cJ cZ am ak an ac ae ag aq vth vmo vfg vtp vkd vng vcc vqq vrs vct vun vre vks vms vcs ves t_2.2 vog) H → va_D A (mw cI cJ cZ am ak an ac ae ag aq vth vmo vfg vtp vkd vng vcc vqq vrs vct vun vre vks vms vcs ves t_2.2 vog) → va_S A s.heap H locs → ∀ ls : Array Slot, lv_has ls 2 [(0, .ref am), (1, .int t_2.1)] → W p l e rm_X4_clear s m args below meth c H locs 0 0 Q (F0 m 2 ls []) := by
    intro n9
    induction n9 with
    | zero => exact fun _ _ _ k9 => k9
    | succ n9 ih9 =>
      intro t_2 hG9 hs9 k9 H locs hP hD hS ls hl
      have hG0 : G_X4_clear_2  t_2 = true := hG9 0 (Nat.succ_pos n9)
      have hg := rG_X4_clear_2  t_2 (Eq.symm hG0)
      unfold RG_X4_clear_2 at hg
      obtain ⟨t9, et9⟩ : ∃ y9 : Int32 × (Nat → Int32), y9 = (B_X4_clear_2) t_2 := ⟨_, rfl⟩
      have hb9 := rB_X4_clear_2  t_2 et9
      unfold RB_X4_clear_2 at hb9
      have hs : SB_X4_clear_2  t_2 := hs9 0 (Nat.succ_pos n9)
      unfold SB_X4_clear_2 at hs
      refine lv_iload_n hx hb dX4_clear_2 rfl (lv_at hl 1 rfl) ?_
      refine lv_sipush (v := 900) hx hb dX4_clear_3 (by decide) ?_
      refine lv_icmp_ge (tgt := 22) hx hb dX4_clear_6 (by decide) (fun c_101 => ?_) (fun c_101 => ?_)
      · rw [if_pos c_101] at hg
        exact absurd hg (by decide)
      · rw [if_neg c_101] at hs
        rw [if_neg c_101] at hg
        rw [if_neg c_101] at hb9
        refine lv_aload_n hx hb dX4_clear_9 rfl (lv_at hl 0 rfl) ?_
        refine va_get (D := D) (ci := 5) (v := .ref ag) (C := RX4) (T := TX4) (N := 18) hx hb hts hi4 hown hK hP 0 rfl rfl 14 (by decide) (hts (.fieldLink RX4 24 "DecimalWordsModel" "digits" "[I") (inW_8 _ (List.mem_of_getElem? (i := 35) rfl))) (fun _ h9 => h9) rfl dX4_clear_10 ?_
        refine lv_iload_n hx hb dX4_clear_13 rfl (lv_at hl 1 rfl) ?_
        refine lv_iconst (v := 0) hx hb dX4_clear_14 (by decide) ?_
        have h_102 := hs
        refine va_iast hx hb hK hP hD hS 5 1 rfl rfl h_102 dX4_clear_15 (fun H locs hP hD hS => ?_)
        obtain ⟨w103, ew103⟩ : ∃ y9 : Nat → Int32, y9 = va_up t_2.2 t_2.1.toNatClampNeg 0 := ⟨_, rfl⟩
        have hb9 := hb9 _ ew103
        have hP : va_P D vwCl (mw cI cJ cZ am ak an ac ae ag aq vth vmo vfg vtp vkd vng vcc vqq vrs vct vun vre vks vms vcs ves w103 vog) H := by rw [ew103]; exact hP
        have hD : va_D A (mw cI cJ cZ am ak an ac ae ag aq vth vmo vfg vtp vkd vng vcc vqq vrs vct vun vre vks vms vcs ves w103 vog) := by rw [ew103]; exact hD
        obtain ⟨n105, en105⟩ : ∃ y9 : Int32, y9 = t_2.1 + 1 := ⟨_, rfl⟩
        have hb9 := hb9 _ en105
        refine lv_iinc (v := n105) (lv' := [(1, .int n105), (0, .ref am)]) hx hb dX4_clear_16 hl (k := 1) rfl (by rw [en105]; rfl) (by decide) rfl (fun ls hl => ?_)
        refine lv_goto (tgt := 2) hx hb dX4_clear_19 (by decide) ?_
        have e9 := Eq.symm hb9; subst e9
        have key9 := ih9 ((B_X4_clear_2) t_2) (fun j hj => hG9 (j + 1) (Nat.succ_lt_succ hj)) (fun j hj => hs9 (j + 1) (Nat.succ_lt_succ hj)) k9
        rw [← et9] at key9
        exact key9 H locs hP hD hS ls (lv_sub hl [1, 0] rfl)
  obtain ⟨hsL, hG1⟩ := hs
  refine L_109 (nW (G_X4_clear_2) (B_X4_clear_2) 901 (0, vdg)) (0, vdg) (nW_lt _ _ _ _) hsL (fun H locs hP hD hS ls hl => ?_) H locs hP hD hS ls (lv_sub hl [1, 0] rfl)
  obtain ⟨z106, ez106⟩ : ∃ y9 : Int32 × (Nat → Int32), y9 = wl (G_X4_clear_2) (B_X4_clear_2) 901 (0, vdg) := ⟨_, rfl⟩
  have e9 : z106 = itn (B_X4_clear_2) (nW (G_X4_clear_2) (B_X4_clear_2) 901 (0, vdg)) (0, vdg) := ez106
  try rw [← e9] at hP
  try rw [← e9] at hD
  try rw [← e9] at hl
  rw [← ez106] at hG1
  clear e9
  have hg := rG_X4_clear_2  z106 (Eq.symm hG1)
  unfold RG_X4_clear_2 at hg
  have hu := hu _ ez106
  refine lv_iload_n hx hb dX4_clear_2 rfl (lv_at hl 1 rfl) ?_
  refine lv_sipush (v := 900) hx hb dX4_clear_3 (by decide) ?_
  refine lv_icmp_ge (tgt := 22) hx hb dX4_clear_6 (by decide) (fun c_108 => ?_) (fun c_108 => ?_)
  · rw [if_pos c_108] at hu
    rw [if_pos c_108] at hg
    have e9 := Eq.symm hu; subst e9
    exact x_vret hx hb hr hlocks hQ hK hP hD hS rfl dX4_clear_22
  · rw [if_neg c_108] at hg
    exact absurd hg (by decide)

def B_X4_lay_10  (t_10 : Int64 × Int32 × (Nat → Int32)) : Int64 × Int32 × (Nat → Int32) := (if t_10.1 ≤ 0 then t_10 else (bnd ((jremL t_10.1 10).toInt32) (fun f105 : Int32 => (bnd (va_up t_10.2.2 t_10.2.1.toNatClampNeg f105) (fun w107 : Nat → Int32 => (bnd (t_10.1 / 10) (fun n109 : Int64 => (bnd (t_10.2.1 + 1) (fun n110 : Int32 => (n109, n110, w107))))))))))
def G_X4_lay_10  (t_10 : Int64 × Int32 × (Nat → Int32)) : Bool := (if t_10.1 ≤ 0 then false else (bnd ((jremL t_10.1 10).toInt32) (fun f105 : Int32 => (bnd (va_up t_10.2.2 t_10.2.1.toNatClampNeg f105) (fun w107 : Nat → Int32 => (bnd (t_10.1 / 10) (fun n109 : Int64 => (bnd (t_10.2.1 + 1) (fun n110 : Int32 => true)))))))))
def RB_X4_lay_10  (t_10 : Int64 × Int32 × (Nat → Int32)) (u9 : Int64 × Int32 × (Nat → Int32)) : Prop := (if t_10.1 ≤ 0 then True else (∀ f105 : Int32, f105 = (jremL t_10.1 10).toInt32 → (∀ w107 : Nat → Int32, w107 = va_up t_10.2.2 t_10.2.1.toNatClampNeg f105 → (∀ n109 : Int64, n109 = t_10.1 / 10 → (∀ n110 : Int32, n110 = t_10.2.1 + 1 → u9 = (n109, n110, w107))))))
def RG_X4_lay_10  (t_10 : Int64 × Int32 × (Nat → Int32)) (u9 : Bool) : Prop := (if t_10.1 ≤ 0 then u9 = false else u9 = true)
theorem rB_X4_lay_10  (t_10 : Int64 × Int32 × (Nat → Int32)) {u9 : Int64 × Int32 × (Nat → Int32)} (hu : u9 = B_X4_lay_10  t_10) : RB_X4_lay_10  t_10 u9 := by
  unfold RB_X4_lay_10
  refine ite_P (fun c_104 => ?_) (fun c_104 => ?_)
  · have hu := hu.trans (if_pos c_104)
    trivial
  · have hu := hu.trans (if_neg c_104)
    intro f105 ef105
    have hu := bnd_n hu ef105
    intro w107 ew107
    have hu := bnd_n hu ew107
    intro n109 en109
    have hu := bnd_n hu en109
    intro n110 en110
    have hu := bnd_n hu en110
    exact hu
theorem rG_X4_lay_10  (t_10 : Int64 × Int32 × (Nat → Int32)) {u9 : Bool} (hu : u9 = G_X4_lay_10  t_10) : RG_X4_lay_10  t_10 u9 := by
  unfold RG_X4_lay_10
  refine ite_P (fun c_104 => ?_) (fun c_104 => ?_)
  · have hu := hu.trans (if_pos c_104)
    exact hu
  · have hu := hu.trans (if_neg c_104)
    exact hu
def SB_X4_lay_10  (t_10 : Int64 × Int32 × (Nat → Int32)) : Prop := (if t_10.1 ≤ 0 then True else (∀ f105 : Int32, f105 = (jremL t_10.1 10).toInt32 → vp_in t_10.2.1 900))
def F_X4_lay (vdg : Nat → Int32) (p0 : Int64) (p1 : Int32) : (Nat → Int32) := (bnd (F_X4_clear vdg) (fun u102 : (Nat → Int32) => (bnd (wl (G_X4_lay_10) (B_X4_lay_10) 901 (p0, p1, u102)) (fun z111 : Int64 × Int32 × (Nat → Int32) => (if z111.1 ≤ 0 then z111.2.2 else default)))))
def RF_X4_lay (vdg : Nat → Int32) (p0 : Int64) (p1 : Int32) (u9 : (Nat → Int32)) : Prop := (∀ u102 : (Nat → Int32), u102 = F_X4_clear vdg → (∀ z111 : Int64 × Int32 × (Nat → Int32), z111 = wl (G_X4_lay_10) (B_X4_lay_10) 901 (p0, p1, u102) → (if z111.1 ≤ 0 then u9 = z111.2.2 else True)))
theorem rF_X4_lay (vdg : Nat → Int32) (p0 : Int64) (p1 : Int32) {u9 : (Nat → Int32)} (hu : u9 = F_X4_lay vdg p0 p1) : RF_X4_lay vdg p0 p1 u9 := by
  unfold RF_X4_lay
  intro u102 eu102
  have hu := bnd_n hu eu102
  intro z111 ez111
  have hu := bnd_n hu ez111
  refine ite_P (fun c_113 => ?_) (fun c_113 => ?_)
  · have hu := hu.trans (if_pos c_113)
    exact hu
  · have hu := hu.trans (if_neg c_113)
    trivial
def S_X4_lay (vdg : Nat → Int32) (p0 : Int64) (p1 : Int32) : Prop := (S_X4_clear vdg) ∧ (∀ u102 : (Nat → Int32), u102 = F_X4_clear vdg → (∀ j : Nat, j < nW (G_X4_lay_10) (B_X4_lay_10) 901 (p0, p1, u102) → SB_X4_lay_10  (itn (B_X4_lay_10) j (p0, p1, u102))) ∧ G_X4_lay_10  (wl (G_X4_lay_10) (B_X4_lay_10) 901 (p0, p1, u102)) = false)
def rm_X4_lay : Room := { frames := 1, cells := 0, slots := 0, locals := 21 }
set_option maxHeartbeats 4000000 in
set_option maxRecDepth 100000 in
theorem c_X4_lay (l : Launch) (D : va_G) (cR cI cJ cZ : ClassId) (t0 : Nat) (am ak an ac ae ag aq : Nat) (vth : Int32) (vmo : Int32) (vfg : Int32) (vtp : Int32) (vkd : Int32) (vng : Bool) (vcc : Int64) (vqq : Int32) (vrs : Int32) (vct : Int32) (vun : Int32) (vre : Bool) (vks : Nat → Int32) (vms : Nat → Bool) (vcs : Nat → Int64) (ves : Nat → Int32) (vdg : Nat → Int32) (vog : Nat → Int32) (p0 : Int64) (p1 : Int32) (u : (Nat → Int32)) (hu : u = F_X4_lay vdg p0 p1) (hs : S_X4_lay vdg p0 p1) : XM l D (xty cR cI cJ cZ) t0 yX4_lay cX4_lay 7 none rm_X4_lay [.ref am, .long p0, .int p1] none (mw cI cJ cZ am ak an ac ae ag aq vth vmo vfg vtp vkd vng vcc vqq vrs vct vun vre vks vms vcs ves vdg vog) (mw cI cJ cZ am ak an ac ae ag aq vth vmo vfg vtp vkd vng vcc vqq vrs vct vun vre vks vms vcs ves u vog) := by
  refine XM.of (by decide) (Nat.le_of_ble_eq_true rfl) ?_
  intro p e s m args below meth c A Q F hK hP hD hA hSt hS hQ ls hl
  obtain ⟨hx, hb, hr, hts, hown, hlocks, hml⟩ := F
  have hCF : CallFix p m c cX4_lay 7 s args gW RX4 := ⟨hx, hb, hml, hown, hts⟩
  unfold S_X4_lay at hs
  have hu := rF_X4_lay vdg p0 p1 hu
  unfold RF_X4_lay at hu
  obtain ⟨H, eH⟩ : ∃ y9 : Heap, y9 = s.heap := ⟨_, rfl⟩
  obtain ⟨locs, eL⟩ : ∃ y9 : List Loc, y9 = [] := ⟨_, rfl⟩
  rw [← eL] at hS ⊢
  have hP : va_P D vwCl (mw cI cJ cZ am ak an ac ae ag aq vth vmo vfg vtp vkd vng vcc vqq vrs vct vun vre vks vms vcs ves vdg vog) H := by rw [eH]; exact hP
  have hS : va_S A s.heap H locs := by rw [eH]; exact hS
  suffices goal9 : W p l e rm_X4_lay s m args below meth c H locs 0 0 Q (F0 m 0 ls []) from by rw [← eH]; exact goal9
  have hl : lv_has ls 7 [(0, .ref am), (1, .long p0), (3, .int p1)] := hl
  have hi4 : ∀ w ∈ wsX40, w ∈ gW := inW_X4
  refine lv_aload_n hx hb dX4_lay_0 rfl (lv_at hl 0 rfl) ?_
  obtain ⟨h_101, hs⟩ := hs
  obtain ⟨u102, eu102⟩ : ∃ y9 : (Nat → Int32), y9 = F_X4_clear vdg := ⟨_, rfl⟩
  have hs := hs _ eu102
  have hu := hu _ eu102
  refine x_V (As := []) (rest := []) hCF (c_X4_clear l D cR cI cJ cZ t0 am ak an ac ae ag aq vth vmo vfg vtp vkd vng vcc vqq vrs vct vun vre vks vms vcs ves vdg vog u102 eu102 h_101) (x_cwV 0 hts (inW_9 _ (List.mem_of_getElem? (i := 2) rfl)) (inW_9 _ (List.mem_of_getElem? (i := 3) rfl)) (inW_9 _ (List.mem_of_getElem? (i := 4) rfl)) (inW_9 _ (List.mem_of_getElem? (i := 5) rfl)) (inW_8 _ (List.mem_of_getElem? (i := 39) rfl)) rfl rfl (by decide +kernel) ⟨Nat.le_of_ble_eq_true rfl, Nat.le_of_ble_eq_true rfl⟩) hK hP hD hS hA hSt 0 rfl rfl rfl hl.1 rfl (Nat.le_of_ble_eq_true rfl) dX4_lay_1 ⟨Nat.le_of_ble_eq_true rfl, Nat.le_of_ble_eq_true rfl⟩ (fun H locs hP hD hS => ?_)
  show W p l e _ s m args below meth c H locs 0 0 Q (F0 m 4 ls [])
  refine lv_lload_n hx hb dX4_lay_4 rfl (lv_at hl 1 rfl) ?_
  refine lv_lstore (lv' := [(4, .long p0), (0, .ref am), (1, .long p0), (3, .int p1)]) hx hb dX4_lay_5 hl (by decide) rfl (fun ls hl => ?_)
  refine lv_iload_n hx hb dX4_lay_7 rfl (lv_at hl 3 rfl) ?_
  refine lv_istore (lv' := [(6, .int p1), (4, .long p0), (0, .ref am), (1, .long p0), (3, .int p1)]) hx hb dX4_lay_8 hl (by decide) rfl (fun ls hl => ?_)
  have L_114 : ∀ (n9 : Nat) (t_10 : Int64 × Int32 × (Nat → Int32)), (∀ j : Nat, j < n9 → G_X4_lay_10  (itn (B_X4_lay_10) j t_10) = true) → (∀ j : Nat, j < n9 → SB_X4_lay_10  (itn (B_X4_lay_10) j t_10)) → (∀ (H : Heap) (locs : List Loc), va_P D vwCl (mw cI cJ cZ am ak an ac ae ag aq vth vmo vfg vtp vkd vng vcc vqq vrs vct vun vre vks vms vcs ves ((itn (B_X4_lay_10) n9 t_10).2.2) vog) H → va_D A (mw cI cJ cZ am ak an ac ae ag aq vth vmo vfg vtp vkd vng vcc vqq vrs vct vun vre vks vms vcs ves ((itn (B_X4_lay_10) n9 t_10).2.2) vog) → va_S A s.heap H locs → ∀ ls : Array Slot, lv_has ls 7 [(0, .ref am), (4, .long ((itn (B_X4_lay_10) n9 t_10).1)), (6, .int ((itn (B_X4_lay_10) n9 t_10).2.1))] → W p l e rm_X4_lay s m args below meth c H locs 0 0 Q (F0 m 10 ls [])) → ∀ (H : Heap) (locs : List Loc), va_P D vwCl (mw cI cJ cZ am ak an ac ae ag aq vth vmo vfg vtp vkd vng vcc vqq vrs vct vun vre vks vms vcs ves t_10.2.2 vog) H → va_D A (mw cI cJ cZ am ak an ac ae ag aq vth vmo vfg vtp vkd vng vcc vqq vrs vct vun vre vks vms vcs ves t_10.2.2 vog) → va_S A s.heap H locs → ∀ ls : Array Slot, lv_has ls 7 [(0, .ref am), (4, .long t_10.1), (6, .int t_10.2.1)] → W p l e rm_X4_lay s m args below meth c H locs 0 0 Q (F0 m 10 ls []) := by
    intro n9
    induction n9 with
    | zero => exact fun _ _ _ k9 => k9
    | succ n9 ih9 =>
      intro t_10 hG9 hs9 k9 H locs hP hD hS ls hl
      have hG0 : G_X4_lay_10  t_10 = true := hG9 0 (Nat.succ_pos n9)
      have hg := rG_X4_lay_10  t_10 (Eq.symm hG0)
      unfold RG_X4_lay_10 at hg
      obtain ⟨t9, et9⟩ : ∃ y9 : Int64 × Int32 × (Nat → Int32), y9 = (B_X4_lay_10) t_10 := ⟨_, rfl⟩
      have hb9 := rB_X4_lay_10  t_10 et9
      unfold RB_X4_lay_10 at hb9
      have hs : SB_X4_lay_10  t_10 := hs9 0 (Nat.succ_pos n9)
      unfold SB_X4_lay_10 at hs
      refine lv_lload hx hb dX4_lay_10 (lv_at hl 1 rfl) ?_
      refine lv_lconst (v := 0) hx hb dX4_lay_12 (by decide) ?_
      refine xl_le (tgt := 45) hx hb dX4_lay_13 dX4_lay_14 (by decide) (fun c_104 => ?_) (fun c_104 => ?_)
      · rw [if_pos c_104] at hg
        exact absurd hg (by decide)
      · rw [if_neg c_104] at hs
        rw [if_neg c_104] at hg
        rw [if_neg c_104] at hb9
        refine lv_aload_n hx hb dX4_lay_17 rfl (lv_at hl 0 rfl) ?_
        refine va_get (D := D) (ci := 5) (v := .ref ag) (C := RX4) (T := TX4) (N := 18) hx hb hts hi4 hown hK hP 0 rfl rfl 14 (by decide) (hts (.fieldLink RX4 24 "DecimalWordsModel" "digits" "[I") (inW_8 _ (List.mem_of_getElem? (i := 35) rfl))) (fun _ h9 => h9) rfl dX4_lay_18 ?_
        refine lv_iload hx hb dX4_lay_21 (lv_at hl 2 rfl) ?_
        refine lv_lload hx hb dX4_lay_23 (lv_at hl 1 rfl) ?_
        refine lv_ldc2 (v := 10) hx hb hown (hts (.constantLong RX4 37 (10)) (inW_9 _ (List.mem_of_getElem? (i := 1) rfl))) dX4_lay_25 ?_
        refine x_lrem hx hb dX4_lay_28 (by decide) ?_
        refine x_l2i hx hb dX4_lay_29 ?_
        refine lv_topi (fun f105 ef105 => ?_)
        have hs := hs _ ef105
        have hb9 := hb9 _ ef105
        have h_106 := hs
        refine va_iast hx hb hK hP hD hS 5 1 rfl rfl h_106 dX4_lay_30 (fun H locs hP hD hS => ?_)
        obtain ⟨w107, ew107⟩ : ∃ y9 : Nat → Int32, y9 = va_up t_10.2.2 t_10.2.1.toNatClampNeg f105 := ⟨_, rfl⟩
        have hb9 := hb9 _ ew107
        have hP : va_P D vwCl (mw cI cJ cZ am ak an ac ae ag aq vth vmo vfg vtp vkd vng vcc vqq vrs vct vun vre vks vms vcs ves w107 vog) H := by rw [ew107]; exact hP
        have hD : va_D A (mw cI cJ cZ am ak an ac ae ag aq vth vmo vfg vtp vkd vng vcc vqq vrs vct vun vre vks vms vcs ves w107 vog) := by rw [ew107]; exact hD
        refine lv_lload hx hb dX4_lay_31 (lv_at hl 1 rfl) ?_
        refine lv_ldc2 (v := 10) hx hb hown (hts (.constantLong RX4 37 (10)) (inW_9 _ (List.mem_of_getElem? (i := 1) rfl))) dX4_lay_33 ?_
        refine lv_ldiv hx hb dX4_lay_36 (by decide) ?_
        refine lv_topl (fun n109 en109 => ?_)
        have hb9 := hb9 _ en109
        refine lv_lstore (lv' := [(4, .long n109), (0, .ref am), (6, .int t_10.2.1)]) hx hb dX4_lay_37 hl (by decide) rfl (fun ls hl => ?_)
        obtain ⟨n110, en110⟩ : ∃ y9 : Int32, y9 = t_10.2.1 + 1 := ⟨_, rfl⟩
        have hb9 := hb9 _ en110
        refine lv_iinc (v := n110) (lv' := [(6, .int n110), (4, .long n109), (0, .ref am)]) hx hb dX4_lay_39 hl (k := 2) rfl (by rw [en110]; rfl) (by decide) rfl (fun ls hl => ?_)
        refine lv_goto (tgt := 10) hx hb dX4_lay_42 (by decide) ?_
        have e9 := Eq.symm hb9; subst e9
        have key9 := ih9 ((B_X4_lay_10) t_10) (fun j hj => hG9 (j + 1) (Nat.succ_lt_succ hj)) (fun j hj => hs9 (j + 1) (Nat.succ_lt_succ hj)) k9
        rw [← et9] at key9
        exact key9 H locs hP hD hS ls (lv_sub hl [2, 1, 0] rfl)
  obtain ⟨hsL, hG1⟩ := hs
  refine L_114 (nW (G_X4_lay_10) (B_X4_lay_10) 901 (p0, p1, u102)) (p0, p1, u102) (nW_lt _ _ _ _) hsL (fun H locs hP hD hS ls hl => ?_) H locs hP hD hS ls (lv_sub hl [2, 1, 0] rfl)
  obtain ⟨z111, ez111⟩ : ∃ y9 : Int64 × Int32 × (Nat → Int32), y9 = wl (G_X4_lay_10) (B_X4_lay_10) 901 (p0, p1, u102) := ⟨_, rfl⟩
  have e9 : z111 = itn (B_X4_lay_10) (nW (G_X4_lay_10) (B_X4_lay_10) 901 (p0, p1, u102)) (p0, p1, u102) := ez111
  try rw [← e9] at hP
  try rw [← e9] at hD
  try rw [← e9] at hl
  rw [← ez111] at hG1
  clear e9
  have hg := rG_X4_lay_10  z111 (Eq.symm hG1)
  unfold RG_X4_lay_10 at hg
  have hu := hu _ ez111
  refine lv_lload hx hb dX4_lay_10 (lv_at hl 1 rfl) ?_
  refine lv_lconst (v := 0) hx hb dX4_lay_12 (by decide) ?_
  refine xl_le (tgt := 45) hx hb dX4_lay_13 dX4_lay_14 (by decide) (fun c_113 => ?_) (fun c_113 => ?_)
  · rw [if_pos c_113] at hu
    rw [if_pos c_113] at hg
    have e9 := Eq.symm hu; subst e9
    exact x_vret hx hb hr hlocks hQ hK hP hD hS rfl dX4_lay_45
  · rw [if_neg c_113] at hg
    exact absurd hg (by decide)

def B_X4_layOther_3  (t_3 : Int32 × (Nat → Int32)) : Int32 × (Nat → Int32) := (if 900 ≤ t_3.1 then t_3 else (bnd (va_up t_3.2 t_3.1.toNatClampNeg 0) (fun w103 : Nat → Int32 => (bnd (t_3.1 + 1) (fun n105 : Int32 => (n105, w103))))))
def G_X4_layOther_3  (t_3 : Int32 × (Nat → Int32)) : Bool := (if 900 ≤ t_3.1 then false else (bnd (va_up t_3.2 t_3.1.toNatClampNeg 0) (fun w103 : Nat → Int32 => (bnd (t_3.1 + 1) (fun n105 : Int32 => true)))))
def RB_X4_layOther_3  (t_3 : Int32 × (Nat → Int32)) (u9 : Int32 × (Nat → Int32)) : Prop := (if 900 ≤ t_3.1 then True else (∀ w103 : Nat → Int32, w103 = va_up t_3.2 t_3.1.toNatClampNeg 0 → (∀ n105 : Int32, n105 = t_3.1 + 1 → u9 = (n105, w103))))
def RG_X4_layOther_3  (t_3 : Int32 × (Nat → Int32)) (u9 : Bool) : Prop := (if 900 ≤ t_3.1 then u9 = false else u9 = true)
theorem rB_X4_layOther_3  (t_3 : Int32 × (Nat → Int32)) {u9 : Int32 × (Nat → Int32)} (hu : u9 = B_X4_layOther_3  t_3) : RB_X4_layOther_3  t_3 u9 := by
  unfold RB_X4_layOther_3
  refine ite_P (fun c_101 => ?_) (fun c_101 => ?_)
  · have hu := hu.trans (if_pos c_101)
    trivial
  · have hu := hu.trans (if_neg c_101)
    intro w103 ew103
    have hu := bnd_n hu ew103
    intro n105 en105
    have hu := bnd_n hu en105
    exact hu
theorem rG_X4_layOther_3  (t_3 : Int32 × (Nat → Int32)) {u9 : Bool} (hu : u9 = G_X4_layOther_3  t_3) : RG_X4_layOther_3  t_3 u9 := by
  unfold RG_X4_layOther_3
  refine ite_P (fun c_101 => ?_) (fun c_101 => ?_)
  · have hu := hu.trans (if_pos c_101)
    exact hu
  · have hu := hu.trans (if_neg c_101)
    exact hu
def SB_X4_layOther_3  (t_3 : Int32 × (Nat → Int32)) : Prop := (if 900 ≤ t_3.1 then True else vp_in t_3.1 900)
def B_X4_layOther_31  (t_31 : Int64 × Int32 × (Nat → Int32)) : Int64 × Int32 × (Nat → Int32) := (if t_31.1 ≤ 0 then t_31 else (bnd ((jremL t_31.1 10).toInt32) (fun f112 : Int32 => (bnd (va_up t_31.2.2 t_31.2.1.toNatClampNeg f112) (fun w114 : Nat → Int32 => (bnd (t_31.1 / 10) (fun n116 : Int64 => (bnd (t_31.2.1 + 1) (fun n117 : Int32 => (n116, n117, w114))))))))))
def G_X4_layOther_31  (t_31 : Int64 × Int32 × (Nat → Int32)) : Bool := (if t_31.1 ≤ 0 then false else (bnd ((jremL t_31.1 10).toInt32) (fun f112 : Int32 => (bnd (va_up t_31.2.2 t_31.2.1.toNatClampNeg f112) (fun w114 : Nat → Int32 => (bnd (t_31.1 / 10) (fun n116 : Int64 => (bnd (t_31.2.1 + 1) (fun n117 : Int32 => true)))))))))
def RB_X4_layOther_31  (t_31 : Int64 × Int32 × (Nat → Int32)) (u9 : Int64 × Int32 × (Nat → Int32)) : Prop := (if t_31.1 ≤ 0 then True else (∀ f112 : Int32, f112 = (jremL t_31.1 10).toInt32 → (∀ w114 : Nat → Int32, w114 = va_up t_31.2.2 t_31.2.1.toNatClampNeg f112 → (∀ n116 : Int64, n116 = t_31.1 / 10 → (∀ n117 : Int32, n117 = t_31.2.1 + 1 → u9 = (n116, n117, w114))))))
def RG_X4_layOther_31  (t_31 : Int64 × Int32 × (Nat → Int32)) (u9 : Bool) : Prop := (if t_31.1 ≤ 0 then u9 = false else u9 = true)
theorem rB_X4_layOther_31  (t_31 : Int64 × Int32 × (Nat → Int32)) {u9 : Int64 × Int32 × (Nat → Int32)} (hu : u9 = B_X4_layOther_31  t_31) : RB_X4_layOther_31  t_31 u9 := by
  unfold RB_X4_layOther_31
  refine ite_P (fun c_111 => ?_) (fun c_111 => ?_)
  · have hu := hu.trans (if_pos c_111)
    trivial
  · have hu := hu.trans (if_neg c_111)
    intro f112 ef112
    have hu := bnd_n hu ef112
    intro w114 ew114
    have hu := bnd_n hu ew114
    intro n116 en116
    have hu := bnd_n hu en116
    intro n117 en117
    have hu := bnd_n hu en117
    exact hu
theorem rG_X4_layOther_31  (t_31 : Int64 × Int32 × (Nat → Int32)) {u9 : Bool} (hu : u9 = G_X4_layOther_31  t_31) : RG_X4_layOther_31  t_31 u9 := by
  unfold RG_X4_layOther_31
  refine ite_P (fun c_111 => ?_) (fun c_111 => ?_)
  · have hu := hu.trans (if_pos c_111)
    exact hu
  · have hu := hu.trans (if_neg c_111)
    exact hu
def SB_X4_layOther_31  (t_31 : Int64 × Int32 × (Nat → Int32)) : Prop := (if t_31.1 ≤ 0 then True else (∀ f112 : Int32, f112 = (jremL t_31.1 10).toInt32 → vp_in t_31.2.1 900))
def F_X4_layOther (vog : Nat → Int32) (p0 : Int64) (p1 : Int32) : (Nat → Int32) := (bnd (wl (G_X4_layOther_3) (B_X4_layOther_3) 901 (0, vog)) (fun z106 : Int32 × (Nat → Int32) => (bnd (wl (G_X4_layOther_31) (B_X4_layOther_31) 901 (p0, p1, z106.2)) (fun z118 : Int64 × Int32 × (Nat → Int32) => (if z118.1 ≤ 0 then z118.2.2 else default)))))
def RF_X4_layOther (vog : Nat → Int32) (p0 : Int64) (p1 : Int32) (u9 : (Nat → Int32)) : Prop := (∀ z106 : Int32 × (Nat → Int32), z106 = wl (G_X4_layOther_3) (B_X4_layOther_3) 901 (0, vog) → (∀ z118 : Int64 × Int32 × (Nat → Int32), z118 = wl (G_X4_layOther_31) (B_X4_layOther_31) 901 (p0, p1, z106.2) → (if z118.1 ≤ 0 then u9 = z118.2.2 else True)))
theorem rF_X4_layOther (vog : Nat → Int32) (p0 : Int64) (p1 : Int32) {u9 : (Nat → Int32)} (hu : u9 = F_X4_layOther vog p0 p1) : RF_X4_layOther vog p0 p1 u9 := by
  unfold RF_X4_layOther
  intro z106 ez106
  have hu := bnd_n hu ez106
  intro z118 ez118
  have hu := bnd_n hu ez118
  refine ite_P (fun c_120 => ?_) (fun c_120 => ?_)
  · have hu := hu.trans (if_pos c_120)
    exact hu
  · have hu := hu.trans (if_neg c_120)
    trivial
def S_X4_layOther (vog : Nat → Int32) (p0 : Int64) (p1 : Int32) : Prop := (∀ j : Nat, j < nW (G_X4_layOther_3) (B_X4_layOther_3) 901 (0, vog) → SB_X4_layOther_3  (itn (B_X4_layOther_3) j (0, vog))) ∧ G_X4_layOther_3  (wl (G_X4_layOther_3) (B_X4_layOther_3) 901 (0, vog)) = false ∧ (∀ z106 : Int32 × (Nat → Int32), z106 = wl (G_X4_layOther_3) (B_X4_layOther_3) 901 (0, vog) → (∀ j : Nat, j < nW (G_X4_layOther_31) (B_X4_layOther_31) 901 (p0, p1, z106.2) → SB_X4_layOther_31  (itn (B_X4_layOther_31) j (p0, p1, z106.2))) ∧ G_X4_layOther_31  (wl (G_X4_layOther_31) (B_X4_layOther_31) 901 (p0, p1, z106.2)) = false)
def rm_X4_layOther : Room := { frames := 0, cells := 0, slots := 0, locals := 0 }
set_option maxHeartbeats 4000000 in
set_option maxRecDepth 100000 in
theorem c_X4_layOther (l : Launch) (D : va_G) (cR cI cJ cZ : ClassId) (t0 : Nat) (am ak an ac ae ag aq : Nat) (vth : Int32) (vmo : Int32) (vfg : Int32) (vtp : Int32) (vkd : Int32) (vng : Bool) (vcc : Int64) (vqq : Int32) (vrs : Int32) (vct : Int32) (vun : Int32) (vre : Bool) (vks : Nat → Int32) (vms : Nat → Bool) (vcs : Nat → Int64) (ves : Nat → Int32) (vdg : Nat → Int32) (vog : Nat → Int32) (p0 : Int64) (p1 : Int32) (u : (Nat → Int32)) (hu : u = F_X4_layOther vog p0 p1) (hs : S_X4_layOther vog p0 p1) : XM l D (xty cR cI cJ cZ) t0 yX4_layOther cX4_layOther 7 none rm_X4_layOther [.ref am, .long p0, .int p1] none (mw cI cJ cZ am ak an ac ae ag aq vth vmo vfg vtp vkd vng vcc vqq vrs vct vun vre vks vms vcs ves vdg vog) (mw cI cJ cZ am ak an ac ae ag aq vth vmo vfg vtp vkd vng vcc vqq vrs vct vun vre vks vms vcs ves vdg u) := by
  refine XM.of (by decide) (Nat.le_of_ble_eq_true rfl) ?_
  intro p e s m args below meth c A Q F hK hP hD hA hSt hS hQ ls hl
  obtain ⟨hx, hb, hr, hts, hown, hlocks, hml⟩ := F
  have hCF : CallFix p m c cX4_layOther 7 s args gW RX4 := ⟨hx, hb, hml, hown, hts⟩
  unfold S_X4_layOther at hs
  have hu := rF_X4_layOther vog p0 p1 hu
  unfold RF_X4_layOther at hu
  obtain ⟨H, eH⟩ : ∃ y9 : Heap, y9 = s.heap := ⟨_, rfl⟩
  obtain ⟨locs, eL⟩ : ∃ y9 : List Loc, y9 = [] := ⟨_, rfl⟩
  rw [← eL] at hS ⊢
  have hP : va_P D vwCl (mw cI cJ cZ am ak an ac ae ag aq vth vmo vfg vtp vkd vng vcc vqq vrs vct vun vre vks vms vcs ves vdg vog) H := by rw [eH]; exact hP
  have hS : va_S A s.heap H locs := by rw [eH]; exact hS
  suffices goal9 : W p l e rm_X4_layOther s m args below meth c H locs 0 0 Q (F0 m 0 ls []) from by rw [← eH]; exact goal9
  have hl : lv_has ls 7 [(0, .ref am), (1, .long p0), (3, .int p1)] := hl
  have hi4 : ∀ w ∈ wsX40, w ∈ gW := inW_X4
  refine lv_iconst (v := 0) hx hb dX4_layOther_0 (by decide) ?_
  refine lv_istore (lv' := [(4, .int 0), (0, .ref am), (1, .long p0), (3, .int p1)]) hx hb dX4_layOther_1 hl (by decide) rfl (fun ls hl => ?_)
  have L_121 : ∀ (n9 : Nat) (t_3 : Int32 × (Nat → Int32)), (∀ j : Nat, j < n9 → G_X4_layOther_3  (itn (B_X4_layOther_3) j t_3) = true) → (∀ j : Nat, j < n9 → SB_X4_layOther_3  (itn (B_X4_layOther_3) j t_3)) → (∀ (H : Heap) (locs : List Loc), va_P D vwCl (mw cI cJ cZ am ak an ac ae ag aq vth vmo vfg vtp vkd vng vcc vqq vrs vct vun vre vks vms vcs ves vdg ((itn (B_X4_layOther_3) n9 t_3).2)) H → va_D A (mw cI cJ cZ am ak an ac ae ag aq vth vmo vfg vtp vkd vng vcc vqq vrs vct vun vre vks vms vcs ves vdg ((itn (B_X4_layOther_3) n9 t_3).2)) → va_S A s.heap H locs → ∀ ls : Array Slot, lv_has ls 7 [(0, .ref am), (1, .long p0), (3, .int p1), (4, .int ((itn (B_X4_layOther_3) n9 t_3).1))] → W p l e rm_X4_layOther s m args below meth c H locs 0 0 Q (F0 m 3 ls [])) → ∀ (H : Heap) (locs : List Loc), va_P D vwCl (mw cI cJ cZ am ak an ac ae ag aq vth vmo vfg vtp vkd vng vcc vqq vrs vct vun vre vks vms vcs ves vdg t_3.2) H → va_D A (mw cI cJ cZ am ak an ac ae ag aq vth vmo vfg vtp vkd vng vcc vqq vrs vct vun vre vks vms vcs ves vdg t_3.2) → va_S A s.heap H locs → ∀ ls : Array Slot, lv_has ls 7 [(0, .ref am), (1, .long p0), (3, .int p1), (4, .int t_3.1)] → W p l e rm_X4_layOther s m args below meth c H locs 0 0 Q (F0 m 3 ls []) := by
    intro n9
    induction n9 with
    | zero => exact fun _ _ _ k9 => k9
    | succ n9 ih9 =>
      intro t_3 hG9 hs9 k9 H locs hP hD hS ls hl
      have hG0 : G_X4_layOther_3  t_3 = true := hG9 0 (Nat.succ_pos n9)
      have hg := rG_X4_layOther_3  t_3 (Eq.symm hG0)
      unfold RG_X4_layOther_3 at hg
      obtain ⟨t9, et9⟩ : ∃ y9 : Int32 × (Nat → Int32), y9 = (B_X4_layOther_3) t_3 := ⟨_, rfl⟩
      have hb9 := rB_X4_layOther_3  t_3 et9
      unfold RB_X4_layOther_3 at hb9
      have hs : SB_X4_layOther_3  t_3 := hs9 0 (Nat.succ_pos n9)
      unfold SB_X4_layOther_3 at hs
      refine lv_iload hx hb dX4_layOther_3 (lv_at hl 3 rfl) ?_
      refine lv_sipush (v := 900) hx hb dX4_layOther_5 (by decide) ?_
      refine lv_icmp_ge (tgt := 25) hx hb dX4_layOther_8 (by decide) (fun c_101 => ?_) (fun c_101 => ?_)
      · rw [if_pos c_101] at hg
        exact absurd hg (by decide)
      · rw [if_neg c_101] at hs
        rw [if_neg c_101] at hg
        rw [if_neg c_101] at hb9
        refine lv_aload_n hx hb dX4_layOther_11 rfl (lv_at hl 0 rfl) ?_
        refine va_get (D := D) (ci := 5) (v := .ref aq) (C := RX4) (T := TX4) (N := 18) hx hb hts hi4 hown hK hP 0 rfl rfl 15 (by decide) (hts (.fieldLink RX4 27 "DecimalWordsModel" "others" "[I") (inW_8 _ (List.mem_of_getElem? (i := 36) rfl))) (fun _ h9 => h9) rfl dX4_layOther_12 ?_
        refine lv_iload hx hb dX4_layOther_15 (lv_at hl 3 rfl) ?_
        refine lv_iconst (v := 0) hx hb dX4_layOther_17 (by decide) ?_
        have h_102 := hs
        refine va_iast hx hb hK hP hD hS 6 1 rfl rfl h_102 dX4_layOther_18 (fun H locs hP hD hS => ?_)
        obtain ⟨w103, ew103⟩ : ∃ y9 : Nat → Int32, y9 = va_up t_3.2 t_3.1.toNatClampNeg 0 := ⟨_, rfl⟩
        have hb9 := hb9 _ ew103
        have hP : va_P D vwCl (mw cI cJ cZ am ak an ac ae ag aq vth vmo vfg vtp vkd vng vcc vqq vrs vct vun vre vks vms vcs ves vdg w103) H := by rw [ew103]; exact hP
        have hD : va_D A (mw cI cJ cZ am ak an ac ae ag aq vth vmo vfg vtp vkd vng vcc vqq vrs vct vun vre vks vms vcs ves vdg w103) := by rw [ew103]; exact hD
        obtain ⟨n105, en105⟩ : ∃ y9 : Int32, y9 = t_3.1 + 1 := ⟨_, rfl⟩
        have hb9 := hb9 _ en105
        refine lv_iinc (v := n105) (lv' := [(4, .int n105), (0, .ref am), (1, .long p0), (3, .int p1)]) hx hb dX4_layOther_19 hl (k := 3) rfl (by rw [en105]; rfl) (by decide) rfl (fun ls hl => ?_)
        refine lv_goto (tgt := 3) hx hb dX4_layOther_22 (by decide) ?_
        have e9 := Eq.symm hb9; subst e9
        have key9 := ih9 ((B_X4_layOther_3) t_3) (fun j hj => hG9 (j + 1) (Nat.succ_lt_succ hj)) (fun j hj => hs9 (j + 1) (Nat.succ_lt_succ hj)) k9
        rw [← et9] at key9
        exact key9 H locs hP hD hS ls (lv_sub hl [1, 2, 3, 0] rfl)
  obtain ⟨hsL, hG1, hs⟩ := hs
  refine L_121 (nW (G_X4_layOther_3) (B_X4_layOther_3) 901 (0, vog)) (0, vog) (nW_lt _ _ _ _) hsL (fun H locs hP hD hS ls hl => ?_) H locs hP hD hS ls (lv_sub hl [1, 2, 3, 0] rfl)
  obtain ⟨z106, ez106⟩ : ∃ y9 : Int32 × (Nat → Int32), y9 = wl (G_X4_layOther_3) (B_X4_layOther_3) 901 (0, vog) := ⟨_, rfl⟩
  have e9 : z106 = itn (B_X4_layOther_3) (nW (G_X4_layOther_3) (B_X4_layOther_3) 901 (0, vog)) (0, vog) := ez106
  try rw [← e9] at hP
  try rw [← e9] at hD
  try rw [← e9] at hl
  rw [← ez106] at hG1
  clear e9
  have hg := rG_X4_layOther_3  z106 (Eq.symm hG1)
  unfold RG_X4_layOther_3 at hg
  have hs := hs _ ez106
  have hu := hu _ ez106
  refine lv_iload hx hb dX4_layOther_3 (lv_at hl 3 rfl) ?_
  refine lv_sipush (v := 900) hx hb dX4_layOther_5 (by decide) ?_
  have J_110 : ∀ (H : Heap) (locs : List Loc), va_P D vwCl (mw cI cJ cZ am ak an ac ae ag aq vth vmo vfg vtp vkd vng vcc vqq vrs vct vun vre vks vms vcs ves vdg z106.2) H → va_D A (mw cI cJ cZ am ak an ac ae ag aq vth vmo vfg vtp vkd vng vcc vqq vrs vct vun vre vks vms vcs ves vdg z106.2) → va_S A s.heap H locs → ∀ ls : Array Slot, lv_has ls 7 [(0, .ref am), (1, .long p0), (3, .int p1)] → W p l e rm_X4_layOther s m args below meth c H locs 0 0 Q (F0 m 25 ls []) := by
    intro H locs hP hD hS ls hl
    refine lv_lload_n hx hb dX4_layOther_25 rfl (lv_at hl 1 rfl) ?_
    refine lv_lstore (lv' := [(4, .long p0), (0, .ref am), (1, .long p0), (3, .int p1)]) hx hb dX4_layOther_26 hl (by decide) rfl (fun ls hl => ?_)
    refine lv_iload_n hx hb dX4_layOther_28 rfl (lv_at hl 3 rfl) ?_
    refine lv_istore (lv' := [(6, .int p1), (4, .long p0), (0, .ref am), (1, .long p0), (3, .int p1)]) hx hb dX4_layOther_29 hl (by decide) rfl (fun ls hl => ?_)
    have L_122 : ∀ (n9 : Nat) (t_31 : Int64 × Int32 × (Nat → Int32)), (∀ j : Nat, j < n9 → G_X4_layOther_31  (itn (B_X4_layOther_31) j t_31) = true) → (∀ j : Nat, j < n9 → SB_X4_layOther_31  (itn (B_X4_layOther_31) j t_31)) → (∀ (H : Heap) (locs : List Loc), va_P D vwCl (mw cI cJ cZ am ak an ac ae ag aq vth vmo vfg vtp vkd vng vcc vqq vrs vct vun vre vks vms vcs ves vdg ((itn (B_X4_layOther_31) n9 t_31).2.2)) H → va_D A (mw cI cJ cZ am ak an ac ae ag aq vth vmo vfg vtp vkd vng vcc vqq vrs vct vun vre vks vms vcs ves vdg ((itn (B_X4_layOther_31) n9 t_31).2.2)) → va_S A s.heap H locs → ∀ ls : Array Slot, lv_has ls 7 [(0, .ref am), (4, .long ((itn (B_X4_layOther_31) n9 t_31).1)), (6, .int ((itn (B_X4_layOther_31) n9 t_31).2.1))] → W p l e rm_X4_layOther s m args below meth c H locs 0 0 Q (F0 m 31 ls [])) → ∀ (H : Heap) (locs : List Loc), va_P D vwCl (mw cI cJ cZ am ak an ac ae ag aq vth vmo vfg vtp vkd vng vcc vqq vrs vct vun vre vks vms vcs ves vdg t_31.2.2) H → va_D A (mw cI cJ cZ am ak an ac ae ag aq vth vmo vfg vtp vkd vng vcc vqq vrs vct vun vre vks vms vcs ves vdg t_31.2.2) → va_S A s.heap H locs → ∀ ls : Array Slot, lv_has ls 7 [(0, .ref am), (4, .long t_31.1), (6, .int t_31.2.1)] → W p l e rm_X4_layOther s m args below meth c H locs 0 0 Q (F0 m 31 ls []) := by
      intro n9
      induction n9 with
      | zero => exact fun _ _ _ k9 => k9
      | succ n9 ih9 =>
        intro t_31 hG9 hs9 k9 H locs hP hD hS ls hl
        have hG0 : G_X4_layOther_31  t_31 = true := hG9 0 (Nat.succ_pos n9)
        have hg := rG_X4_layOther_31  t_31 (Eq.symm hG0)
        unfold RG_X4_layOther_31 at hg
        obtain ⟨t9, et9⟩ : ∃ y9 : Int64 × Int32 × (Nat → Int32), y9 = (B_X4_layOther_31) t_31 := ⟨_, rfl⟩
        have hb9 := rB_X4_layOther_31  t_31 et9
        unfold RB_X4_layOther_31 at hb9
        have hs : SB_X4_layOther_31  t_31 := hs9 0 (Nat.succ_pos n9)
        unfold SB_X4_layOther_31 at hs
        refine lv_lload hx hb dX4_layOther_31 (lv_at hl 1 rfl) ?_
        refine lv_lconst (v := 0) hx hb dX4_layOther_33 (by decide) ?_
        refine xl_le (tgt := 66) hx hb dX4_layOther_34 dX4_layOther_35 (by decide) (fun c_111 => ?_) (fun c_111 => ?_)
        · rw [if_pos c_111] at hg
          exact absurd hg (by decide)
        · rw [if_neg c_111] at hs
          rw [if_neg c_111] at hg
          rw [if_neg c_111] at hb9
          refine lv_aload_n hx hb dX4_layOther_38 rfl (lv_at hl 0 rfl) ?_
          refine va_get (D := D) (ci := 5) (v := .ref aq) (C := RX4) (T := TX4) (N := 18) hx hb hts hi4 hown hK hP 0 rfl rfl 15 (by decide) (hts (.fieldLink RX4 27 "DecimalWordsModel" "others" "[I") (inW_8 _ (List.mem_of_getElem? (i := 36) rfl))) (fun _ h9 => h9) rfl dX4_layOther_39 ?_
          refine lv_iload hx hb dX4_layOther_42 (lv_at hl 2 rfl) ?_
          refine lv_lload hx hb dX4_layOther_44 (lv_at hl 1 rfl) ?_
          refine lv_ldc2 (v := 10) hx hb hown (hts (.constantLong RX4 37 (10)) (inW_9 _ (List.mem_of_getElem? (i := 1) rfl))) dX4_layOther_46 ?_
          refine x_lrem hx hb dX4_layOther_49 (by decide) ?_
          refine x_l2i hx hb dX4_layOther_50 ?_
          refine lv_topi (fun f112 ef112 => ?_)
          have hs := hs _ ef112
          have hb9 := hb9 _ ef112
          have h_113 := hs
          refine va_iast hx hb hK hP hD hS 6 1 rfl rfl h_113 dX4_layOther_51 (fun H locs hP hD hS => ?_)
          obtain ⟨w114, ew114⟩ : ∃ y9 : Nat → Int32, y9 = va_up t_31.2.2 t_31.2.1.toNatClampNeg f112 := ⟨_, rfl⟩
          have hb9 := hb9 _ ew114
          have hP : va_P D vwCl (mw cI cJ cZ am ak an ac ae ag aq vth vmo vfg vtp vkd vng vcc vqq vrs vct vun vre vks vms vcs ves vdg w114) H := by rw [ew114]; exact hP
          have hD : va_D A (mw cI cJ cZ am ak an ac ae ag aq vth vmo vfg vtp vkd vng vcc vqq vrs vct vun vre vks vms vcs ves vdg w114) := by rw [ew114]; exact hD
          refine lv_lload hx hb dX4_layOther_52 (lv_at hl 1 rfl) ?_
          refine lv_ldc2 (v := 10) hx hb hown (hts (.constantLong RX4 37 (10)) (inW_9 _ (List.mem_of_getElem? (i := 1) rfl))) dX4_layOther_54 ?_
          refine lv_ldiv hx hb dX4_layOther_57 (by decide) ?_
          refine lv_topl (fun n116 en116 => ?_)
          have hb9 := hb9 _ en116
          refine lv_lstore (lv' := [(4, .long n116), (0, .ref am), (6, .int t_31.2.1)]) hx hb dX4_layOther_58 hl (by decide) rfl (fun ls hl => ?_)
          obtain ⟨n117, en117⟩ : ∃ y9 : Int32, y9 = t_31.2.1 + 1 := ⟨_, rfl⟩
          have hb9 := hb9 _ en117
          refine lv_iinc (v := n117) (lv' := [(6, .int n117), (4, .long n116), (0, .ref am)]) hx hb dX4_layOther_60 hl (k := 2) rfl (by rw [en117]; rfl) (by decide) rfl (fun ls hl => ?_)
          refine lv_goto (tgt := 31) hx hb dX4_layOther_63 (by decide) ?_
          have e9 := Eq.symm hb9; subst e9
          have key9 := ih9 ((B_X4_layOther_31) t_31) (fun j hj => hG9 (j + 1) (Nat.succ_lt_succ hj)) (fun j hj => hs9 (j + 1) (Nat.succ_lt_succ hj)) k9
          rw [← et9] at key9
          exact key9 H locs hP hD hS ls (lv_sub hl [2, 1, 0] rfl)
    obtain ⟨hsL, hG1⟩ := hs
    refine L_122 (nW (G_X4_layOther_31) (B_X4_layOther_31) 901 (p0, p1, z106.2)) (p0, p1, z106.2) (nW_lt _ _ _ _) hsL (fun H locs hP hD hS ls hl => ?_) H locs hP hD hS ls (lv_sub hl [2, 1, 0] rfl)
    obtain ⟨z118, ez118⟩ : ∃ y9 : Int64 × Int32 × (Nat → Int32), y9 = wl (G_X4_layOther_31) (B_X4_layOther_31) 901 (p0, p1, z106.2) := ⟨_, rfl⟩
    have e9 : z118 = itn (B_X4_layOther_31) (nW (G_X4_layOther_31) (B_X4_layOther_31) 901 (p0, p1, z106.2)) (p0, p1, z106.2) := ez118
    try rw [← e9] at hP
    try rw [← e9] at hD
    try rw [← e9] at hl
    rw [← ez118] at hG1
    clear e9
    have hg := rG_X4_layOther_31  z118 (Eq.symm hG1)
    unfold RG_X4_layOther_31 at hg
    have hu := hu _ ez118
    refine lv_lload hx hb dX4_layOther_31 (lv_at hl 1 rfl) ?_
    refine lv_lconst (v := 0) hx hb dX4_layOther_33 (by decide) ?_
    refine xl_le (tgt := 66) hx hb dX4_layOther_34 dX4_layOther_35 (by decide) (fun c_120 => ?_) (fun c_120 => ?_)
    · rw [if_pos c_120] at hu
      rw [if_pos c_120] at hg
      have e9 := Eq.symm hu; subst e9
      exact x_vret hx hb hr hlocks hQ hK hP hD hS rfl dX4_layOther_66
    · rw [if_neg c_120] at hg
      exact absurd hg (by decide)
  refine lv_icmp_ge (tgt := 25) hx hb dX4_layOther_8 (by decide) (fun c_108 => ?_) (fun c_108 => ?_)
  · rw [if_pos c_108] at hg
    exact J_110 H locs hP hD hS ls (lv_sub hl [0, 1, 2] rfl)
  · rw [if_neg c_108] at hg
    exact absurd hg (by decide)

def B_X4_trim_7 (vdg : Nat → Int32) (t_7 : Int32) : Int32 := (if t_7 ≤ 0 then t_7 else (if vdg (t_7 - 1).toNatClampNeg = 0 then (bnd (t_7 - 1) (fun f105 : Int32 => f105)) else t_7))
def G_X4_trim_7 (vdg : Nat → Int32) (t_7 : Int32) : Bool := (if t_7 ≤ 0 then false else (if vdg (t_7 - 1).toNatClampNeg = 0 then (bnd (t_7 - 1) (fun f105 : Int32 => true)) else false))
def RB_X4_trim_7 (vdg : Nat → Int32) (t_7 : Int32) (u9 : Int32) : Prop := (if t_7 ≤ 0 then True else (if vdg (t_7 - 1).toNatClampNeg = 0 then (∀ f105 : Int32, f105 = t_7 - 1 → u9 = f105) else True))
def RG_X4_trim_7 (vdg : Nat → Int32) (t_7 : Int32) (u9 : Bool) : Prop := (if t_7 ≤ 0 then u9 = false else (if vdg (t_7 - 1).toNatClampNeg = 0 then u9 = true else u9 = false))
theorem rB_X4_trim_7 (vdg : Nat → Int32) (t_7 : Int32) {u9 : Int32} (hu : u9 = B_X4_trim_7 vdg t_7) : RB_X4_trim_7 vdg t_7 u9 := by
  unfold RB_X4_trim_7
  refine ite_P (fun c_102 => ?_) (fun c_102 => ?_)
  · have hu := hu.trans (if_pos c_102)
    trivial
  · have hu := hu.trans (if_neg c_102)
    refine ite_P (fun c_104 => ?_) (fun c_104 => ?_)
    · have hu := hu.trans (if_pos c_104)
      intro f105 ef105
      have hu := bnd_n hu ef105
      exact hu
    · have hu := hu.trans (if_neg c_104)
      trivial
theorem rG_X4_trim_7 (vdg : Nat → Int32) (t_7 : Int32) {u9 : Bool} (hu : u9 = G_X4_trim_7 vdg t_7) : RG_X4_trim_7 vdg t_7 u9 := by
  unfold RG_X4_trim_7
  refine ite_P (fun c_102 => ?_) (fun c_102 => ?_)
  · have hu := hu.trans (if_pos c_102)
    exact hu
  · have hu := hu.trans (if_neg c_102)
    refine ite_P (fun c_104 => ?_) (fun c_104 => ?_)
    · have hu := hu.trans (if_pos c_104)
      exact hu
    · have hu := hu.trans (if_neg c_104)
      exact hu
def SB_X4_trim_7 (vdg : Nat → Int32) (t_7 : Int32) : Prop := (if t_7 ≤ 0 then True else vp_in (t_7 - 1) 900)
def F_X4_trim (vdg : Nat → Int32)  : Int32 := (bnd (wl (G_X4_trim_7 vdg) (B_X4_trim_7 vdg) 901 900) (fun z107 : Int32 => (if z107 ≤ 0 then z107 else (if vdg (z107 - 1).toNatClampNeg = 0 then default else z107))))
def RF_X4_trim (vdg : Nat → Int32)  (u9 : Int32) : Prop := (∀ z107 : Int32, z107 = wl (G_X4_trim_7 vdg) (B_X4_trim_7 vdg) 901 900 → (if z107 ≤ 0 then u9 = z107 else (if vdg (z107 - 1).toNatClampNeg = 0 then True else u9 = z107)))
theorem rF_X4_trim (vdg : Nat → Int32)  {u9 : Int32} (hu : u9 = F_X4_trim vdg) : RF_X4_trim vdg u9 := by
  unfold RF_X4_trim
  intro z107 ez107
  have hu := bnd_n hu ez107
  refine ite_P (fun c_109 => ?_) (fun c_109 => ?_)
  · have hu := hu.trans (if_pos c_109)
    exact hu
  · have hu := hu.trans (if_neg c_109)
    refine ite_P (fun c_111 => ?_) (fun c_111 => ?_)
    · have hu := hu.trans (if_pos c_111)
      trivial
    · have hu := hu.trans (if_neg c_111)
      exact hu
def S_X4_trim (vdg : Nat → Int32)  : Prop := (∀ j : Nat, j < nW (G_X4_trim_7 vdg) (B_X4_trim_7 vdg) 901 900 → SB_X4_trim_7 vdg (itn (B_X4_trim_7 vdg) j 900)) ∧ G_X4_trim_7 vdg (wl (G_X4_trim_7 vdg) (B_X4_trim_7 vdg) 901 900) = false ∧ (∀ z107 : Int32, z107 = wl (G_X4_trim_7 vdg) (B_X4_trim_7 vdg) 901 900 → (if z107 ≤ 0 then True else vp_in (z107 - 1) 900))
def rm_X4_trim : Room := { frames := 0, cells := 0, slots := 0, locals := 0 }
set_option maxHeartbeats 4000000 in
set_option maxRecDepth 100000 in
theorem c_X4_trim (l : Launch) (D : va_G) (cR cI cJ cZ : ClassId) (t0 : Nat) (am ak an ac ae ag aq : Nat) (vth : Int32) (vmo : Int32) (vfg : Int32) (vtp : Int32) (vkd : Int32) (vng : Bool) (vcc : Int64) (vqq : Int32) (vrs : Int32) (vct : Int32) (vun : Int32) (vre : Bool) (vks : Nat → Int32) (vms : Nat → Bool) (vcs : Nat → Int64) (ves : Nat → Int32) (vdg : Nat → Int32) (vog : Nat → Int32)  (u : Int32) (hu : u = F_X4_trim vdg) (hs : S_X4_trim vdg) : XM l D (xty cR cI cJ cZ) t0 yX4_trim cX4_trim 1 none rm_X4_trim [.ref am] none (mw cI cJ cZ am ak an ac ae ag aq vth vmo vfg vtp vkd vng vcc vqq vrs vct vun vre vks vms vcs ves vdg vog) (mw cI cJ cZ am ak an ac ae ag aq vth vmo vfg vtp vkd vng vcc vqq vrs u vun vre vks vms vcs ves vdg vog) := by
  refine XM.of (by decide) (Nat.le_of_ble_eq_true rfl) ?_
  intro p e s m args below meth c A Q F hK hP hD hA hSt hS hQ ls hl
  obtain ⟨hx, hb, hr, hts, hown, hlocks, hml⟩ := F
  have hCF : CallFix p m c cX4_trim 1 s args gW RX4 := ⟨hx, hb, hml, hown, hts⟩
  unfold S_X4_trim at hs
  have hu := rF_X4_trim vdg hu
  unfold RF_X4_trim at hu
  obtain ⟨H, eH⟩ : ∃ y9 : Heap, y9 = s.heap := ⟨_, rfl⟩
  obtain ⟨locs, eL⟩ : ∃ y9 : List Loc, y9 = [] := ⟨_, rfl⟩
  rw [← eL] at hS ⊢
  have hP : va_P D vwCl (mw cI cJ cZ am ak an ac ae ag aq vth vmo vfg vtp vkd vng vcc vqq vrs vct vun vre vks vms vcs ves vdg vog) H := by rw [eH]; exact hP
  have hS : va_S A s.heap H locs := by rw [eH]; exact hS
  suffices goal9 : W p l e rm_X4_trim s m args below meth c H locs 0 0 Q (F0 m 0 ls []) from by rw [← eH]; exact goal9
  have hl : lv_has ls 1 [(0, .ref am)] := hl
  have hi4 : ∀ w ∈ wsX40, w ∈ gW := inW_X4
  refine lv_aload_n hx hb dX4_trim_0 rfl (lv_at hl 0 rfl) ?_
  refine lv_sipush (v := 900) hx hb dX4_trim_1 (by decide) ?_
  refine va_put (D := D) (ci := 5) (v := .int 900) (ty := .int) (C := RX4) (T := TX4) (N := 18) hx hb hts hi4 tyX4 tyX4_ok nmX4 hown hK hP hD hS 0 rfl rfl 13 (by decide) (hts (.fieldLink RX4 39 "DecimalWordsModel" "count" "I") (inW_9 _ (List.mem_of_getElem? (i := 8) rfl))) (fun _ h9 => h9) rfl (by decide +kernel) rfl rfl (Nat.le_of_ble_eq_true rfl) dX4_trim_4 (fun H locs hP hD hS => ?_)
  have hP : va_P D vwCl (mw cI cJ cZ am ak an ac ae ag aq vth vmo vfg vtp vkd vng vcc vqq vrs 900 vun vre vks vms vcs ves vdg vog) H := hP
  have hD : va_D A (mw cI cJ cZ am ak an ac ae ag aq vth vmo vfg vtp vkd vng vcc vqq vrs 900 vun vre vks vms vcs ves vdg vog) := hD
  have L_112 : ∀ (n9 : Nat) (t_7 : Int32), (∀ j : Nat, j < n9 → G_X4_trim_7 vdg (itn (B_X4_trim_7 vdg) j t_7) = true) → (∀ j : Nat, j < n9 → SB_X4_trim_7 vdg (itn (B_X4_trim_7 vdg) j t_7)) → (∀ (H : Heap) (locs : List Loc), va_P D vwCl (mw cI cJ cZ am ak an ac ae ag aq vth vmo vfg vtp vkd vng vcc vqq vrs (itn (B_X4_trim_7 vdg) n9 t_7) vun vre vks vms vcs ves vdg vog) H → va_D A (mw cI cJ cZ am ak an ac ae ag aq vth vmo vfg vtp vkd vng vcc vqq vrs (itn (B_X4_trim_7 vdg) n9 t_7) vun vre vks vms vcs ves vdg vog) → va_S A s.heap H locs → ∀ ls : Array Slot, lv_has ls 1 [(0, .ref am)] → W p l e rm_X4_trim s m args below meth c H locs 0 0 Q (F0 m 7 ls [])) → ∀ (H : Heap) (locs : List Loc), va_P D vwCl (mw cI cJ cZ am ak an ac ae ag aq vth vmo vfg vtp vkd vng vcc vqq vrs t_7 vun vre vks vms vcs ves vdg vog) H → va_D A (mw cI cJ cZ am ak an ac ae ag aq vth vmo vfg vtp vkd vng vcc vqq vrs t_7 vun vre vks vms vcs ves vdg vog) → va_S A s.heap H locs → ∀ ls : Array Slot, lv_has ls 1 [(0, .ref am)] → W p l e rm_X4_trim s m args below meth c H locs 0 0 Q (F0 m 7 ls []) := by
    intro n9
    induction n9 with
    | zero => exact fun _ _ _ k9 => k9
    | succ n9 ih9 =>
      intro t_7 hG9 hs9 k9 H locs hP hD hS ls hl
      have hG0 : G_X4_trim_7 vdg t_7 = true := hG9 0 (Nat.succ_pos n9)
      have hg := rG_X4_trim_7 vdg t_7 (Eq.symm hG0)
      unfold RG_X4_trim_7 at hg
      obtain ⟨t9, et9⟩ : ∃ y9 : Int32, y9 = (B_X4_trim_7 vdg) t_7 := ⟨_, rfl⟩
      have hb9 := rB_X4_trim_7 vdg t_7 et9
      unfold RB_X4_trim_7 at hb9
      have hs : SB_X4_trim_7 vdg t_7 := hs9 0 (Nat.succ_pos n9)
      unfold SB_X4_trim_7 at hs
      refine lv_aload_n hx hb dX4_trim_7 rfl (lv_at hl 0 rfl) ?_
      refine va_get (D := D) (ci := 5) (v := .int t_7) (C := RX4) (T := TX4) (N := 18) hx hb hts hi4 hown hK hP 0 rfl rfl 13 (by decide) (hts (.fieldLink RX4 39 "DecimalWordsModel" "count" "I") (inW_9 _ (List.mem_of_getElem? (i := 8) rfl))) (fun _ h9 => h9) rfl dX4_trim_8 ?_
      refine lv_if_le (tgt := 41) hx hb dX4_trim_11 (by decide) (fun c_102 => ?_) (fun c_102 => ?_)
      · rw [if_pos c_102] at hg
        exact absurd hg (by decide)
      · rw [if_neg c_102] at hs
        rw [if_neg c_102] at hg
        rw [if_neg c_102] at hb9
        refine lv_aload_n hx hb dX4_trim_14 rfl (lv_at hl 0 rfl) ?_
        refine va_get (D := D) (ci := 5) (v := .ref ag) (C := RX4) (T := TX4) (N := 18) hx hb hts hi4 hown hK hP 0 rfl rfl 14 (by decide) (hts (.fieldLink RX4 24 "DecimalWordsModel" "digits" "[I") (inW_8 _ (List.mem_of_getElem? (i := 35) rfl))) (fun _ h9 => h9) rfl dX4_trim_15 ?_
        refine lv_aload_n hx hb dX4_trim_18 rfl (lv_at hl 0 rfl) ?_
        refine va_get (D := D) (ci := 5) (v := .int t_7) (C := RX4) (T := TX4) (N := 18) hx hb hts hi4 hown hK hP 0 rfl rfl 13 (by decide) (hts (.fieldLink RX4 39 "DecimalWordsModel" "count" "I") (inW_9 _ (List.mem_of_getElem? (i := 8) rfl))) (fun _ h9 => h9) rfl dX4_trim_19 ?_
        refine lv_iconst (v := 1) hx hb dX4_trim_22 (by decide) ?_
        refine lv_isub hx hb dX4_trim_23 ?_
        have h_103 := hs
        refine va_iald hx hb hK hP 5 1 rfl rfl h_103 dX4_trim_24 ?_
        refine lv_if_ne (tgt := 41) hx hb dX4_trim_25 (by decide) (fun c_104 => ?_) (fun c_104 => ?_)
        · rw [if_neg c_104] at hg
          exact absurd hg (by decide)
        · rw [if_pos c_104] at hg
          rw [if_pos c_104] at hb9
          refine lv_aload_n hx hb dX4_trim_28 rfl (lv_at hl 0 rfl) ?_
          refine lv_dup hx hb dX4_trim_29 rfl ?_
          refine va_get (D := D) (ci := 5) (v := .int t_7) (C := RX4) (T := TX4) (N := 18) hx hb hts hi4 hown hK hP 0 rfl rfl 13 (by decide) (hts (.fieldLink RX4 39 "DecimalWordsModel" "count" "I") (inW_9 _ (List.mem_of_getElem? (i := 8) rfl))) (fun _ h9 => h9) rfl dX4_trim_30 ?_
          refine lv_iconst (v := 1) hx hb dX4_trim_33 (by decide) ?_
          refine lv_isub hx hb dX4_trim_34 ?_
          refine lv_topi (fun f105 ef105 => ?_)
          have hb9 := hb9 _ ef105
          refine va_put (D := D) (ci := 5) (v := .int f105) (ty := .int) (C := RX4) (T := TX4) (N := 18) hx hb hts hi4 tyX4 tyX4_ok nmX4 hown hK hP hD hS 0 rfl rfl 13 (by decide) (hts (.fieldLink RX4 39 "DecimalWordsModel" "count" "I") (inW_9 _ (List.mem_of_getElem? (i := 8) rfl))) (fun _ h9 => h9) rfl (by decide +kernel) rfl rfl (Nat.le_of_ble_eq_true rfl) dX4_trim_35 (fun H locs hP hD hS => ?_)
          have hP : va_P D vwCl (mw cI cJ cZ am ak an ac ae ag aq vth vmo vfg vtp vkd vng vcc vqq vrs f105 vun vre vks vms vcs ves vdg vog) H := hP
          have hD : va_D A (mw cI cJ cZ am ak an ac ae ag aq vth vmo vfg vtp vkd vng vcc vqq vrs f105 vun vre vks vms vcs ves vdg vog) := hD
          refine lv_goto (tgt := 7) hx hb dX4_trim_38 (by decide) ?_
          have e9 := Eq.symm hb9; subst e9
          have key9 := ih9 ((B_X4_trim_7 vdg) t_7) (fun j hj => hG9 (j + 1) (Nat.succ_lt_succ hj)) (fun j hj => hs9 (j + 1) (Nat.succ_lt_succ hj)) k9
          rw [← et9] at key9
          exact key9 H locs hP hD hS ls (lv_sub hl [0] rfl)
  obtain ⟨hsL, hG1, hs⟩ := hs
  refine L_112 (nW (G_X4_trim_7 vdg) (B_X4_trim_7 vdg) 901 900) 900 (nW_lt _ _ _ _) hsL (fun H locs hP hD hS ls hl => ?_) H locs hP hD hS ls (lv_sub hl [0] rfl)
  obtain ⟨z107, ez107⟩ : ∃ y9 : Int32, y9 = wl (G_X4_trim_7 vdg) (B_X4_trim_7 vdg) 901 900 := ⟨_, rfl⟩
  have e9 : z107 = itn (B_X4_trim_7 vdg) (nW (G_X4_trim_7 vdg) (B_X4_trim_7 vdg) 901 900) 900 := ez107
  try rw [← e9] at hP
  try rw [← e9] at hD
  try rw [← e9] at hl
  rw [← ez107] at hG1
  clear e9
  have hg := rG_X4_trim_7 vdg z107 (Eq.symm hG1)
  unfold RG_X4_trim_7 at hg
  have hs := hs _ ez107
  have hu := hu _ ez107
  refine lv_aload_n hx hb dX4_trim_7 rfl (lv_at hl 0 rfl) ?_
  refine va_get (D := D) (ci := 5) (v := .int z107) (C := RX4) (T := TX4) (N := 18) hx hb hts hi4 hown hK hP 0 rfl rfl 13 (by decide) (hts (.fieldLink RX4 39 "DecimalWordsModel" "count" "I") (inW_9 _ (List.mem_of_getElem? (i := 8) rfl))) (fun _ h9 => h9) rfl dX4_trim_8 ?_
  refine lv_if_le (tgt := 41) hx hb dX4_trim_11 (by decide) (fun c_109 => ?_) (fun c_109 => ?_)
  · rw [if_pos c_109] at hu
    rw [if_pos c_109] at hg
    have e9 := Eq.symm hu; subst e9
    exact x_vret hx hb hr hlocks hQ hK hP hD hS rfl dX4_trim_41
  · rw [if_neg c_109] at hs
    rw [if_neg c_109] at hu
    rw [if_neg c_109] at hg
    refine lv_aload_n hx hb dX4_trim_14 rfl (lv_at hl 0 rfl) ?_
    refine va_get (D := D) (ci := 5) (v := .ref ag) (C := RX4) (T := TX4) (N := 18) hx hb hts hi4 hown hK hP 0 rfl rfl 14 (by decide) (hts (.fieldLink RX4 24 "DecimalWordsModel" "digits" "[I") (inW_8 _ (List.mem_of_getElem? (i := 35) rfl))) (fun _ h9 => h9) rfl dX4_trim_15 ?_
    refine lv_aload_n hx hb dX4_trim_18 rfl (lv_at hl 0 rfl) ?_
    refine va_get (D := D) (ci := 5) (v := .int z107) (C := RX4) (T := TX4) (N := 18) hx hb hts hi4 hown hK hP 0 rfl rfl 13 (by decide) (hts (.fieldLink RX4 39 "DecimalWordsModel" "count" "I") (inW_9 _ (List.mem_of_getElem? (i := 8) rfl))) (fun _ h9 => h9) rfl dX4_trim_19 ?_
    refine lv_iconst (v := 1) hx hb dX4_trim_22 (by decide) ?_
    refine lv_isub hx hb dX4_trim_23 ?_
    have h_110 := hs
    refine va_iald hx hb hK hP 5 1 rfl rfl h_110 dX4_trim_24 ?_
    refine lv_if_ne (tgt := 41) hx hb dX4_trim_25 (by decide) (fun c_111 => ?_) (fun c_111 => ?_)
    · rw [if_neg c_111] at hu
      rw [if_neg c_111] at hg
      have e9 := Eq.symm hu; subst e9
      exact x_vret hx hb hr hlocks hQ hK hP hD hS rfl dX4_trim_41
    · rw [if_pos c_111] at hg
      exact absurd hg (by decide)

def B_X4_whole_10 (vdg : Nat → Int32) (p0 : Int32) (t_10 : Int64 × Int32) : Int64 × Int32 := (if t_10.2 < p0 then t_10 else (bnd ((10 * t_10.1) + ((vdg t_10.2.toNatClampNeg).toInt64)) (fun n104 : Int64 => (bnd (t_10.2 + (-1)) (fun n105 : Int32 => (n104, n105))))))
def G_X4_whole_10 (vdg : Nat → Int32) (p0 : Int32) (t_10 : Int64 × Int32) : Bool := (if t_10.2 < p0 then false else (bnd ((10 * t_10.1) + ((vdg t_10.2.toNatClampNeg).toInt64)) (fun n104 : Int64 => (bnd (t_10.2 + (-1)) (fun n105 : Int32 => true)))))
def RB_X4_whole_10 (vdg : Nat → Int32) (p0 : Int32) (t_10 : Int64 × Int32) (u9 : Int64 × Int32) : Prop := (if t_10.2 < p0 then True else (∀ n104 : Int64, n104 = (10 * t_10.1) + ((vdg t_10.2.toNatClampNeg).toInt64) → (∀ n105 : Int32, n105 = t_10.2 + (-1) → u9 = (n104, n105))))
def RG_X4_whole_10 (vdg : Nat → Int32) (p0 : Int32) (t_10 : Int64 × Int32) (u9 : Bool) : Prop := (if t_10.2 < p0 then u9 = false else u9 = true)
theorem rB_X4_whole_10 (vdg : Nat → Int32) (p0 : Int32) (t_10 : Int64 × Int32) {u9 : Int64 × Int32} (hu : u9 = B_X4_whole_10 vdg p0 t_10) : RB_X4_whole_10 vdg p0 t_10 u9 := by
  unfold RB_X4_whole_10
  refine ite_P (fun c_102 => ?_) (fun c_102 => ?_)
  · have hu := hu.trans (if_pos c_102)
    trivial
  · have hu := hu.trans (if_neg c_102)
    intro n104 en104
    have hu := bnd_n hu en104
    intro n105 en105
    have hu := bnd_n hu en105
    exact hu
theorem rG_X4_whole_10 (vdg : Nat → Int32) (p0 : Int32) (t_10 : Int64 × Int32) {u9 : Bool} (hu : u9 = G_X4_whole_10 vdg p0 t_10) : RG_X4_whole_10 vdg p0 t_10 u9 := by
  unfold RG_X4_whole_10
  refine ite_P (fun c_102 => ?_) (fun c_102 => ?_)
  · have hu := hu.trans (if_pos c_102)
    exact hu
  · have hu := hu.trans (if_neg c_102)
    exact hu
def SB_X4_whole_10 (vdg : Nat → Int32) (p0 : Int32) (t_10 : Int64 × Int32) : Prop := (if t_10.2 < p0 then True else vp_in t_10.2 900)
def F_X4_whole (vct : Int32) (vdg : Nat → Int32) (p0 : Int32) : Int64 := (bnd (vct - 1) (fun n101 : Int32 => (bnd (wl (G_X4_whole_10 vdg p0) (B_X4_whole_10 vdg p0) 901 (0, n101)) (fun z106 : Int64 × Int32 => z106.1))))
def RF_X4_whole (vct : Int32) (vdg : Nat → Int32) (p0 : Int32) (u9 : Int64) : Prop := (∀ n101 : Int32, n101 = vct - 1 → (∀ z106 : Int64 × Int32, z106 = wl (G_X4_whole_10 vdg p0) (B_X4_whole_10 vdg p0) 901 (0, n101) → u9 = z106.1))
theorem rF_X4_whole (vct : Int32) (vdg : Nat → Int32) (p0 : Int32) {u9 : Int64} (hu : u9 = F_X4_whole vct vdg p0) : RF_X4_whole vct vdg p0 u9 := by
  unfold RF_X4_whole
  intro n101 en101
  have hu := bnd_n hu en101
  intro z106 ez106
  have hu := bnd_n hu ez106
  exact hu
def S_X4_whole (vct : Int32) (vdg : Nat → Int32) (p0 : Int32) : Prop := (∀ n101 : Int32, n101 = vct - 1 → (∀ j : Nat, j < nW (G_X4_whole_10 vdg p0) (B_X4_whole_10 vdg p0) 901 (0, n101) → SB_X4_whole_10 vdg p0 (itn (B_X4_whole_10 vdg p0) j (0, n101))) ∧ G_X4_whole_10 vdg p0 (wl (G_X4_whole_10 vdg p0) (B_X4_whole_10 vdg p0) 901 (0, n101)) = false)
def rm_X4_whole : Room := { frames := 0, cells := 0, slots := 0, locals := 0 }
set_option maxHeartbeats 4000000 in
set_option maxRecDepth 100000 in
theorem c_X4_whole (l : Launch) (D : va_G) (cR cI cJ cZ : ClassId) (t0 : Nat) (am ak an ac ae ag aq : Nat) (vth : Int32) (vmo : Int32) (vfg : Int32) (vtp : Int32) (vkd : Int32) (vng : Bool) (vcc : Int64) (vqq : Int32) (vrs : Int32) (vct : Int32) (vun : Int32) (vre : Bool) (vks : Nat → Int32) (vms : Nat → Bool) (vcs : Nat → Int64) (ves : Nat → Int32) (vdg : Nat → Int32) (vog : Nat → Int32) (p0 : Int32) (u : Int64) (hu : u = F_X4_whole vct vdg p0) (hs : S_X4_whole vct vdg p0) : XM l D (xty cR cI cJ cZ) t0 yX4_whole cX4_whole 5 (some .long) rm_X4_whole [.ref am, .int p0] (some (.long u)) (mw cI cJ cZ am ak an ac ae ag aq vth vmo vfg vtp vkd vng vcc vqq vrs vct vun vre vks vms vcs ves vdg vog) (mw cI cJ cZ am ak an ac ae ag aq vth vmo vfg vtp vkd vng vcc vqq vrs vct vun vre vks vms vcs ves vdg vog) := by
  refine XM.of (by decide) (Nat.le_of_ble_eq_true rfl) ?_
  intro p e s m args below meth c A Q F hK hP hD hA hSt hS hQ ls hl
  obtain ⟨hx, hb, hr, hts, hown, hlocks, hml⟩ := F
  have hCF : CallFix p m c cX4_whole 5 s args gW RX4 := ⟨hx, hb, hml, hown, hts⟩
  unfold S_X4_whole at hs
  have hu := rF_X4_whole vct vdg p0 hu
  unfold RF_X4_whole at hu
  obtain ⟨H, eH⟩ : ∃ y9 : Heap, y9 = s.heap := ⟨_, rfl⟩
  obtain ⟨locs, eL⟩ : ∃ y9 : List Loc, y9 = [] := ⟨_, rfl⟩
  rw [← eL] at hS ⊢
  have hP : va_P D vwCl (mw cI cJ cZ am ak an ac ae ag aq vth vmo vfg vtp vkd vng vcc vqq vrs vct vun vre vks vms vcs ves vdg vog) H := by rw [eH]; exact hP
  have hS : va_S A s.heap H locs := by rw [eH]; exact hS
  suffices goal9 : W p l e rm_X4_whole s m args below meth c H locs 0 0 Q (F0 m 0 ls []) from by rw [← eH]; exact goal9
  have hl : lv_has ls 5 [(0, .ref am), (1, .int p0)] := hl
  have hi4 : ∀ w ∈ wsX40, w ∈ gW := inW_X4
  refine lv_lconst (v := 0) hx hb dX4_whole_0 (by decide) ?_
  refine lv_lstore_n (lv' := [(2, .long 0), (0, .ref am), (1, .int p0)]) hx hb dX4_whole_1 rfl hl (by decide) rfl (fun ls hl => ?_)
  refine lv_aload_n hx hb dX4_whole_2 rfl (lv_at hl 1 rfl) ?_
  refine va_get (D := D) (ci := 5) (v := .int vct) (C := RX4) (T := TX4) (N := 18) hx hb hts hi4 hown hK hP 0 rfl rfl 13 (by decide) (hts (.fieldLink RX4 39 "DecimalWordsModel" "count" "I") (inW_9 _ (List.mem_of_getElem? (i := 8) rfl))) (fun _ h9 => h9) rfl dX4_whole_3 ?_
  refine lv_iconst (v := 1) hx hb dX4_whole_6 (by decide) ?_
  refine lv_isub hx hb dX4_whole_7 ?_
  refine lv_topi (fun n101 en101 => ?_)
  have hs := hs _ en101
  have hu := hu _ en101
  refine lv_istore (lv' := [(4, .int n101), (2, .long 0), (0, .ref am), (1, .int p0)]) hx hb dX4_whole_8 hl (by decide) rfl (fun ls hl => ?_)
  have L_111 : ∀ (n9 : Nat) (t_10 : Int64 × Int32), (∀ j : Nat, j < n9 → G_X4_whole_10 vdg p0 (itn (B_X4_whole_10 vdg p0) j t_10) = true) → (∀ j : Nat, j < n9 → SB_X4_whole_10 vdg p0 (itn (B_X4_whole_10 vdg p0) j t_10)) → (∀ (H : Heap) (locs : List Loc), va_P D vwCl (mw cI cJ cZ am ak an ac ae ag aq vth vmo vfg vtp vkd vng vcc vqq vrs vct vun vre vks vms vcs ves vdg vog) H → va_D A (mw cI cJ cZ am ak an ac ae ag aq vth vmo vfg vtp vkd vng vcc vqq vrs vct vun vre vks vms vcs ves vdg vog) → va_S A s.heap H locs → ∀ ls : Array Slot, lv_has ls 5 [(0, .ref am), (1, .int p0), (2, .long ((itn (B_X4_whole_10 vdg p0) n9 t_10).1)), (4, .int ((itn (B_X4_whole_10 vdg p0) n9 t_10).2))] → W p l e rm_X4_whole s m args below meth c H locs 0 0 Q (F0 m 10 ls [])) → ∀ (H : Heap) (locs : List Loc), va_P D vwCl (mw cI cJ cZ am ak an ac ae ag aq vth vmo vfg vtp vkd vng vcc vqq vrs vct vun vre vks vms vcs ves vdg vog) H → va_D A (mw cI cJ cZ am ak an ac ae ag aq vth vmo vfg vtp vkd vng vcc vqq vrs vct vun vre vks vms vcs ves vdg vog) → va_S A s.heap H locs → ∀ ls : Array Slot, lv_has ls 5 [(0, .ref am), (1, .int p0), (2, .long t_10.1), (4, .int t_10.2)] → W p l e rm_X4_whole s m args below meth c H locs 0 0 Q (F0 m 10 ls []) := by
    intro n9
    induction n9 with
    | zero => exact fun _ _ _ k9 => k9
    | succ n9 ih9 =>
      intro t_10 hG9 hs9 k9 H locs hP hD hS ls hl
      have hG0 : G_X4_whole_10 vdg p0 t_10 = true := hG9 0 (Nat.succ_pos n9)
      have hg := rG_X4_whole_10 vdg p0 t_10 (Eq.symm hG0)
      unfold RG_X4_whole_10 at hg
      obtain ⟨t9, et9⟩ : ∃ y9 : Int64 × Int32, y9 = (B_X4_whole_10 vdg p0) t_10 := ⟨_, rfl⟩
      have hb9 := rB_X4_whole_10 vdg p0 t_10 et9
      unfold RB_X4_whole_10 at hb9
      have hs : SB_X4_whole_10 vdg p0 t_10 := hs9 0 (Nat.succ_pos n9)
      unfold SB_X4_whole_10 at hs
      refine lv_iload hx hb dX4_whole_10 (lv_at hl 3 rfl) ?_
      refine lv_iload_n hx hb dX4_whole_12 rfl (lv_at hl 1 rfl) ?_
      refine lv_icmp_lt (tgt := 37) hx hb dX4_whole_13 (by decide) (fun c_102 => ?_) (fun c_102 => ?_)
      · rw [if_pos c_102] at hg
        exact absurd hg (by decide)
      · rw [if_neg c_102] at hs
        rw [if_neg c_102] at hg
        rw [if_neg c_102] at hb9
        refine lv_ldc2 (v := 10) hx hb hown (hts (.constantLong RX4 37 (10)) (inW_9 _ (List.mem_of_getElem? (i := 1) rfl))) dX4_whole_16 ?_
        refine lv_lload_n hx hb dX4_whole_19 rfl (lv_at hl 2 rfl) ?_
        refine lv_lmul hx hb dX4_whole_20 ?_
        refine lv_aload_n hx hb dX4_whole_21 rfl (lv_at hl 0 rfl) ?_
        refine va_get (D := D) (ci := 5) (v := .ref ag) (C := RX4) (T := TX4) (N := 18) hx hb hts hi4 hown hK hP 0 rfl rfl 14 (by decide) (hts (.fieldLink RX4 24 "DecimalWordsModel" "digits" "[I") (inW_8 _ (List.mem_of_getElem? (i := 35) rfl))) (fun _ h9 => h9) rfl dX4_whole_22 ?_
        refine lv_iload hx hb dX4_whole_25 (lv_at hl 3 rfl) ?_
        have h_103 := hs
        refine va_iald hx hb hK hP 5 1 rfl rfl h_103 dX4_whole_27 ?_
        refine x_i2l hx hb dX4_whole_28 ?_
        refine lv_ladd hx hb dX4_whole_29 ?_
        refine lv_topl (fun n104 en104 => ?_)
        have hb9 := hb9 _ en104
        refine lv_lstore_n (lv' := [(2, .long n104), (0, .ref am), (1, .int p0), (4, .int t_10.2)]) hx hb dX4_whole_30 rfl hl (by decide) rfl (fun ls hl => ?_)
        obtain ⟨n105, en105⟩ : ∃ y9 : Int32, y9 = t_10.2 + (-1) := ⟨_, rfl⟩
        have hb9 := hb9 _ en105
        refine lv_iinc (v := n105) (lv' := [(4, .int n105), (2, .long n104), (0, .ref am), (1, .int p0)]) hx hb dX4_whole_31 hl (k := 3) rfl (by rw [en105]; rfl) (by decide) rfl (fun ls hl => ?_)
        refine lv_goto (tgt := 10) hx hb dX4_whole_34 (by decide) ?_
        have e9 := Eq.symm hb9; subst e9
        have key9 := ih9 ((B_X4_whole_10 vdg p0) t_10) (fun j hj => hG9 (j + 1) (Nat.succ_lt_succ hj)) (fun j hj => hs9 (j + 1) (Nat.succ_lt_succ hj)) k9
        rw [← et9] at key9
        exact key9 H locs hP hD hS ls (lv_sub hl [2, 3, 1, 0] rfl)
  obtain ⟨hsL, hG1⟩ := hs
  refine L_111 (nW (G_X4_whole_10 vdg p0) (B_X4_whole_10 vdg p0) 901 (0, n101)) (0, n101) (nW_lt _ _ _ _) hsL (fun H locs hP hD hS ls hl => ?_) H locs hP hD hS ls (lv_sub hl [2, 3, 1, 0] rfl)
  obtain ⟨z106, ez106⟩ : ∃ y9 : Int64 × Int32, y9 = wl (G_X4_whole_10 vdg p0) (B_X4_whole_10 vdg p0) 901 (0, n101) := ⟨_, rfl⟩
  have e9 : z106 = itn (B_X4_whole_10 vdg p0) (nW (G_X4_whole_10 vdg p0) (B_X4_whole_10 vdg p0) 901 (0, n101)) (0, n101) := ez106
  try rw [← e9] at hP
  try rw [← e9] at hD
  try rw [← e9] at hl
  rw [← ez106] at hG1
  clear e9
  have hg := rG_X4_whole_10 vdg p0 z106 (Eq.symm hG1)
  unfold RG_X4_whole_10 at hg
  have hu := hu _ ez106
  refine lv_iload hx hb dX4_whole_10 (lv_at hl 3 rfl) ?_
  refine lv_iload_n hx hb dX4_whole_12 rfl (lv_at hl 1 rfl) ?_
  have J_110 : ∀ (H : Heap) (locs : List Loc), va_P D vwCl (mw cI cJ cZ am ak an ac ae ag aq vth vmo vfg vtp vkd vng vcc vqq vrs vct vun vre vks vms vcs ves vdg vog) H → va_D A (mw cI cJ cZ am ak an ac ae ag aq vth vmo vfg vtp vkd vng vcc vqq vrs vct vun vre vks vms vcs ves vdg vog) → va_S A s.heap H locs → ∀ ls : Array Slot, lv_has ls 5 [(2, .long z106.1)] → W p l e rm_X4_whole s m args below meth c H locs 0 0 Q (F0 m 37 ls []) := by
    intro H locs hP hD hS ls hl
    refine lv_lload_n hx hb dX4_whole_37 rfl (lv_at hl 0 rfl) ?_
    have e9 := Eq.symm hu; subst e9
    exact x_lret hx hb hr hlocks hQ hK hP hD hS rfl rfl dX4_whole_38
  refine lv_icmp_lt (tgt := 37) hx hb dX4_whole_13 (by decide) (fun c_108 => ?_) (fun c_108 => ?_)
  · rw [if_pos c_108] at hg
    exact J_110 H locs hP hD hS ls (lv_sub hl [2] rfl)
  · rw [if_neg c_108] at hg
    exact absurd hg (by decide)

def B_X4_times_6 (p1 : Int32) (t_6 : Int64 × Int32) : Int64 × Int32 := (if p1 ≤ t_6.2 then t_6 else (bnd (10 * t_6.1) (fun n102 : Int64 => (bnd (t_6.2 + 1) (fun n103 : Int32 => (n102, n103))))))
def G_X4_times_6 (p1 : Int32) (t_6 : Int64 × Int32) : Bool := (if p1 ≤ t_6.2 then false else (bnd (10 * t_6.1) (fun n102 : Int64 => (bnd (t_6.2 + 1) (fun n103 : Int32 => true)))))
def RB_X4_times_6 (p1 : Int32) (t_6 : Int64 × Int32) (u9 : Int64 × Int32) : Prop := (if p1 ≤ t_6.2 then True else (∀ n102 : Int64, n102 = 10 * t_6.1 → (∀ n103 : Int32, n103 = t_6.2 + 1 → u9 = (n102, n103))))
def RG_X4_times_6 (p1 : Int32) (t_6 : Int64 × Int32) (u9 : Bool) : Prop := (if p1 ≤ t_6.2 then u9 = false else u9 = true)
theorem rB_X4_times_6 (p1 : Int32) (t_6 : Int64 × Int32) {u9 : Int64 × Int32} (hu : u9 = B_X4_times_6 p1 t_6) : RB_X4_times_6 p1 t_6 u9 := by
  unfold RB_X4_times_6
  refine ite_P (fun c_101 => ?_) (fun c_101 => ?_)
  · have hu := hu.trans (if_pos c_101)
    trivial
  · have hu := hu.trans (if_neg c_101)
    intro n102 en102
    have hu := bnd_n hu en102
    intro n103 en103
    have hu := bnd_n hu en103
    exact hu
theorem rG_X4_times_6 (p1 : Int32) (t_6 : Int64 × Int32) {u9 : Bool} (hu : u9 = G_X4_times_6 p1 t_6) : RG_X4_times_6 p1 t_6 u9 := by
  unfold RG_X4_times_6
  refine ite_P (fun c_101 => ?_) (fun c_101 => ?_)
  · have hu := hu.trans (if_pos c_101)
    exact hu
  · have hu := hu.trans (if_neg c_101)
    exact hu
def F_X4_times  (p0 : Int64) (p1 : Int32) : Int64 := (bnd (wl (G_X4_times_6 p1) (B_X4_times_6 p1) 901 (p0, 0)) (fun z104 : Int64 × Int32 => z104.1))
def RF_X4_times  (p0 : Int64) (p1 : Int32) (u9 : Int64) : Prop := (∀ z104 : Int64 × Int32, z104 = wl (G_X4_times_6 p1) (B_X4_times_6 p1) 901 (p0, 0) → u9 = z104.1)
theorem rF_X4_times  (p0 : Int64) (p1 : Int32) {u9 : Int64} (hu : u9 = F_X4_times p0 p1) : RF_X4_times p0 p1 u9 := by
  unfold RF_X4_times
  intro z104 ez104
  have hu := bnd_n hu ez104
  exact hu
def S_X4_times  (p0 : Int64) (p1 : Int32) : Prop := G_X4_times_6 p1 (wl (G_X4_times_6 p1) (B_X4_times_6 p1) 901 (p0, 0)) = false
def rm_X4_times : Room := { frames := 0, cells := 0, slots := 0, locals := 0 }
set_option maxHeartbeats 4000000 in
set_option maxRecDepth 100000 in
theorem c_X4_times (l : Launch) (D : va_G) (cR cI cJ cZ : ClassId) (t0 : Nat) (am ak an ac ae ag aq : Nat) (vth : Int32) (vmo : Int32) (vfg : Int32) (vtp : Int32) (vkd : Int32) (vng : Bool) (vcc : Int64) (vqq : Int32) (vrs : Int32) (vct : Int32) (vun : Int32) (vre : Bool) (vks : Nat → Int32) (vms : Nat → Bool) (vcs : Nat → Int64) (ves : Nat → Int32) (vdg : Nat → Int32) (vog : Nat → Int32) (p0 : Int64) (p1 : Int32) (u : Int64) (hu : u = F_X4_times p0 p1) (hs : S_X4_times p0 p1) : XM l D (xty cR cI cJ cZ) t0 yX4_times cX4_times 7 (some .long) rm_X4_times [.ref am, .long p0, .int p1] (some (.long u)) (mw cI cJ cZ am ak an ac ae ag aq vth vmo vfg vtp vkd vng vcc vqq vrs vct vun vre vks vms vcs ves vdg vog) (mw cI cJ cZ am ak an ac ae ag aq vth vmo vfg vtp vkd vng vcc vqq vrs vct vun vre vks vms vcs ves vdg vog) := by
  refine XM.of (by decide) (Nat.le_of_ble_eq_true rfl) ?_
  intro p e s m args below meth c A Q F hK hP hD hA hSt hS hQ ls hl
  obtain ⟨hx, hb, hr, hts, hown, hlocks, hml⟩ := F
  have hCF : CallFix p m c cX4_times 7 s args gW RX4 := ⟨hx, hb, hml, hown, hts⟩
  unfold S_X4_times at hs
  have hu := rF_X4_times p0 p1 hu
  unfold RF_X4_times at hu
  obtain ⟨H, eH⟩ : ∃ y9 : Heap, y9 = s.heap := ⟨_, rfl⟩
  obtain ⟨locs, eL⟩ : ∃ y9 : List Loc, y9 = [] := ⟨_, rfl⟩
  rw [← eL] at hS ⊢
  have hP : va_P D vwCl (mw cI cJ cZ am ak an ac ae ag aq vth vmo vfg vtp vkd vng vcc vqq vrs vct vun vre vks vms vcs ves vdg vog) H := by rw [eH]; exact hP
  have hS : va_S A s.heap H locs := by rw [eH]; exact hS
  suffices goal9 : W p l e rm_X4_times s m args below meth c H locs 0 0 Q (F0 m 0 ls []) from by rw [← eH]; exact goal9
  have hl : lv_has ls 7 [(0, .ref am), (1, .long p0), (3, .int p1)] := hl
  refine lv_lload_n hx hb dX4_times_0 rfl (lv_at hl 1 rfl) ?_
  refine lv_lstore (lv' := [(4, .long p0), (0, .ref am), (1, .long p0), (3, .int p1)]) hx hb dX4_times_1 hl (by decide) rfl (fun ls hl => ?_)
  refine lv_iconst (v := 0) hx hb dX4_times_3 (by decide) ?_
  refine lv_istore (lv' := [(6, .int 0), (4, .long p0), (0, .ref am), (1, .long p0), (3, .int p1)]) hx hb dX4_times_4 hl (by decide) rfl (fun ls hl => ?_)
  have L_109 : ∀ (n9 : Nat) (t_6 : Int64 × Int32), (∀ j : Nat, j < n9 → G_X4_times_6 p1 (itn (B_X4_times_6 p1) j t_6) = true) → (∀ (H : Heap) (locs : List Loc), va_P D vwCl (mw cI cJ cZ am ak an ac ae ag aq vth vmo vfg vtp vkd vng vcc vqq vrs vct vun vre vks vms vcs ves vdg vog) H → va_D A (mw cI cJ cZ am ak an ac ae ag aq vth vmo vfg vtp vkd vng vcc vqq vrs vct vun vre vks vms vcs ves vdg vog) → va_S A s.heap H locs → ∀ ls : Array Slot, lv_has ls 7 [(3, .int p1), (4, .long ((itn (B_X4_times_6 p1) n9 t_6).1)), (6, .int ((itn (B_X4_times_6 p1) n9 t_6).2))] → W p l e rm_X4_times s m args below meth c H locs 0 0 Q (F0 m 6 ls [])) → ∀ (H : Heap) (locs : List Loc), va_P D vwCl (mw cI cJ cZ am ak an ac ae ag aq vth vmo vfg vtp vkd vng vcc vqq vrs vct vun vre vks vms vcs ves vdg vog) H → va_D A (mw cI cJ cZ am ak an ac ae ag aq vth vmo vfg vtp vkd vng vcc vqq vrs vct vun vre vks vms vcs ves vdg vog) → va_S A s.heap H locs → ∀ ls : Array Slot, lv_has ls 7 [(3, .int p1), (4, .long t_6.1), (6, .int t_6.2)] → W p l e rm_X4_times s m args below meth c H locs 0 0 Q (F0 m 6 ls []) := by
    intro n9
    induction n9 with
    | zero => exact fun _ _ k9 => k9
    | succ n9 ih9 =>
      intro t_6 hG9 k9 H locs hP hD hS ls hl
      have hG0 : G_X4_times_6 p1 t_6 = true := hG9 0 (Nat.succ_pos n9)
      have hg := rG_X4_times_6 p1 t_6 (Eq.symm hG0)
      unfold RG_X4_times_6 at hg
      obtain ⟨t9, et9⟩ : ∃ y9 : Int64 × Int32, y9 = (B_X4_times_6 p1) t_6 := ⟨_, rfl⟩
      have hb9 := rB_X4_times_6 p1 t_6 et9
      unfold RB_X4_times_6 at hb9
      refine lv_iload hx hb dX4_times_6 (lv_at hl 2 rfl) ?_
      refine lv_iload_n hx hb dX4_times_8 rfl (lv_at hl 0 rfl) ?_
      refine lv_icmp_ge (tgt := 26) hx hb dX4_times_9 (by decide) (fun c_101 => ?_) (fun c_101 => ?_)
      · rw [if_pos c_101] at hg
        exact absurd hg (by decide)
      · rw [if_neg c_101] at hg
        rw [if_neg c_101] at hb9
        refine lv_ldc2 (v := 10) hx hb hown (hts (.constantLong RX4 37 (10)) (inW_9 _ (List.mem_of_getElem? (i := 1) rfl))) dX4_times_12 ?_
        refine lv_lload hx hb dX4_times_15 (lv_at hl 1 rfl) ?_
        refine lv_lmul hx hb dX4_times_17 ?_
        refine lv_topl (fun n102 en102 => ?_)
        have hb9 := hb9 _ en102
        refine lv_lstore (lv' := [(4, .long n102), (3, .int p1), (6, .int t_6.2)]) hx hb dX4_times_18 hl (by decide) rfl (fun ls hl => ?_)
        obtain ⟨n103, en103⟩ : ∃ y9 : Int32, y9 = t_6.2 + 1 := ⟨_, rfl⟩
        have hb9 := hb9 _ en103
        refine lv_iinc (v := n103) (lv' := [(6, .int n103), (4, .long n102), (3, .int p1)]) hx hb dX4_times_20 hl (k := 2) rfl (by rw [en103]; rfl) (by decide) rfl (fun ls hl => ?_)
        refine lv_goto (tgt := 6) hx hb dX4_times_23 (by decide) ?_
        have e9 := Eq.symm hb9; subst e9
        have key9 := ih9 ((B_X4_times_6 p1) t_6) (fun j hj => hG9 (j + 1) (Nat.succ_lt_succ hj)) k9
        rw [← et9] at key9
        exact key9 H locs hP hD hS ls (lv_sub hl [2, 1, 0] rfl)
  have hG1 := hs
  refine L_109 (nW (G_X4_times_6 p1) (B_X4_times_6 p1) 901 (p0, 0)) (p0, 0) (nW_lt _ _ _ _) (fun H locs hP hD hS ls hl => ?_) H locs hP hD hS ls (lv_sub hl [4, 1, 0] rfl)
  obtain ⟨z104, ez104⟩ : ∃ y9 : Int64 × Int32, y9 = wl (G_X4_times_6 p1) (B_X4_times_6 p1) 901 (p0, 0) := ⟨_, rfl⟩
  have e9 : z104 = itn (B_X4_times_6 p1) (nW (G_X4_times_6 p1) (B_X4_times_6 p1) 901 (p0, 0)) (p0, 0) := ez104
  try rw [← e9] at hP
  try rw [← e9] at hD
  try rw [← e9] at hl
  rw [← ez104] at hG1
  clear e9
  have hg := rG_X4_times_6 p1 z104 (Eq.symm hG1)
  unfold RG_X4_times_6 at hg
  have hu := hu _ ez104
  refine lv_iload hx hb dX4_times_6 (lv_at hl 2 rfl) ?_
  refine lv_iload_n hx hb dX4_times_8 rfl (lv_at hl 0 rfl) ?_
  have J_108 : ∀ (H : Heap) (locs : List Loc), va_P D vwCl (mw cI cJ cZ am ak an ac ae ag aq vth vmo vfg vtp vkd vng vcc vqq vrs vct vun vre vks vms vcs ves vdg vog) H → va_D A (mw cI cJ cZ am ak an ac ae ag aq vth vmo vfg vtp vkd vng vcc vqq vrs vct vun vre vks vms vcs ves vdg vog) → va_S A s.heap H locs → ∀ ls : Array Slot, lv_has ls 7 [(4, .long z104.1)] → W p l e rm_X4_times s m args below meth c H locs 0 0 Q (F0 m 26 ls []) := by
    intro H locs hP hD hS ls hl
    refine lv_lload hx hb dX4_times_26 (lv_at hl 0 rfl) ?_
    have e9 := Eq.symm hu; subst e9
    exact x_lret hx hb hr hlocks hQ hK hP hD hS rfl rfl dX4_times_28
  refine lv_icmp_ge (tgt := 26) hx hb dX4_times_9 (by decide) (fun c_106 => ?_) (fun c_106 => ?_)
  · rw [if_pos c_106] at hg
    exact J_108 H locs hP hD hS ls (lv_sub hl [1] rfl)
  · rw [if_neg c_106] at hg
    exact absurd hg (by decide)

def F_X4_be  (p0 : Int32) (p1 : Bool) (p2 : Int64) (p3 : Int32) : Int32 × Bool × Int64 × Int32 := (p0, p1, p2, p3)
def RF_X4_be  (p0 : Int32) (p1 : Bool) (p2 : Int64) (p3 : Int32) (u9 : Int32 × Bool × Int64 × Int32) : Prop := u9 = (p0, p1, p2, p3)
theorem rF_X4_be  (p0 : Int32) (p1 : Bool) (p2 : Int64) (p3 : Int32) {u9 : Int32 × Bool × Int64 × Int32} (hu : u9 = F_X4_be p0 p1 p2 p3) : RF_X4_be p0 p1 p2 p3 u9 := by
  unfold RF_X4_be
  exact hu
def rm_X4_be : Room := { frames := 0, cells := 0, slots := 0, locals := 0 }
set_option maxHeartbeats 4000000 in
set_option maxRecDepth 100000 in
theorem c_X4_be (l : Launch) (D : va_G) (cR cI cJ cZ : ClassId) (t0 : Nat) (am ak an ac ae ag aq : Nat) (vth : Int32) (vmo : Int32) (vfg : Int32) (vtp : Int32) (vkd : Int32) (vng : Bool) (vcc : Int64) (vqq : Int32) (vrs : Int32) (vct : Int32) (vun : Int32) (vre : Bool) (vks : Nat → Int32) (vms : Nat → Bool) (vcs : Nat → Int64) (ves : Nat → Int32) (vdg : Nat → Int32) (vog : Nat → Int32) (p0 : Int32) (p1 : Bool) (p2 : Int64) (p3 : Int32) (u : Int32 × Bool × Int64 × Int32) (hu : u = F_X4_be p0 p1 p2 p3) : XM l D (xty cR cI cJ cZ) t0 yX4_be cX4_be 6 none rm_X4_be [.ref am, .int p0, .int (bI p1), .long p2, .int p3] none (mw cI cJ cZ am ak an ac ae ag aq vth vmo vfg vtp vkd vng vcc vqq vrs vct vun vre vks vms vcs ves vdg vog) (mw cI cJ cZ am ak an ac ae ag aq vth vmo vfg vtp u.1 u.2.1 u.2.2.1 u.2.2.2 vrs vct vun vre vks vms vcs ves vdg vog) := by
  refine XM.of (by decide) (Nat.le_of_ble_eq_true rfl) ?_
  intro p e s m args below meth c A Q F hK hP hD hA hSt hS hQ ls hl
  obtain ⟨hx, hb, hr, hts, hown, hlocks, hml⟩ := F
  have hCF : CallFix p m c cX4_be 6 s args gW RX4 := ⟨hx, hb, hml, hown, hts⟩
  have hu := rF_X4_be p0 p1 p2 p3 hu
  unfold RF_X4_be at hu
  obtain ⟨H, eH⟩ : ∃ y9 : Heap, y9 = s.heap := ⟨_, rfl⟩
  obtain ⟨locs, eL⟩ : ∃ y9 : List Loc, y9 = [] := ⟨_, rfl⟩
  rw [← eL] at hS ⊢
  have hP : va_P D vwCl (mw cI cJ cZ am ak an ac ae ag aq vth vmo vfg vtp vkd vng vcc vqq vrs vct vun vre vks vms vcs ves vdg vog) H := by rw [eH]; exact hP
  have hS : va_S A s.heap H locs := by rw [eH]; exact hS
  suffices goal9 : W p l e rm_X4_be s m args below meth c H locs 0 0 Q (F0 m 0 ls []) from by rw [← eH]; exact goal9
  have hl : lv_has ls 6 [(0, .ref am), (1, .int p0), (2, .int (bI p1)), (3, .long p2), (5, .int p3)] := hl
  have hi4 : ∀ w ∈ wsX40, w ∈ gW := inW_X4
  refine lv_aload_n hx hb dX4_be_0 rfl (lv_at hl 0 rfl) ?_
  refine lv_iload_n hx hb dX4_be_1 rfl (lv_at hl 1 rfl) ?_
  refine va_put (D := D) (ci := 5) (v := .int p0) (ty := .int) (C := RX4) (T := TX4) (N := 18) hx hb hts hi4 tyX4 tyX4_ok nmX4 hown hK hP hD hS 0 rfl rfl 8 (by decide) (hts (.fieldLink RX4 42 "DecimalWordsModel" "kind" "I") (inW_9 _ (List.mem_of_getElem? (i := 12) rfl))) (fun _ h9 => h9) rfl (by decide +kernel) rfl rfl (Nat.le_of_ble_eq_true rfl) dX4_be_2 (fun H locs hP hD hS => ?_)
  have hP : va_P D vwCl (mw cI cJ cZ am ak an ac ae ag aq vth vmo vfg vtp p0 vng vcc vqq vrs vct vun vre vks vms vcs ves vdg vog) H := hP
  have hD : va_D A (mw cI cJ cZ am ak an ac ae ag aq vth vmo vfg vtp p0 vng vcc vqq vrs vct vun vre vks vms vcs ves vdg vog) := hD
  refine lv_aload_n hx hb dX4_be_5 rfl (lv_at hl 0 rfl) ?_
  refine lv_iload_n hx hb dX4_be_6 rfl (lv_at hl 2 rfl) ?_
  refine va_put (D := D) (ci := 5) (v := .int (bI p1)) (ty := .boolean) (C := RX4) (T := TX4) (N := 18) hx hb hts hi4 tyX4 tyX4_ok nmX4 hown hK hP hD hS 0 rfl rfl 9 (by decide) (hts (.fieldLink RX4 45 "DecimalWordsModel" "negative" "Z") (inW_9 _ (List.mem_of_getElem? (i := 13) rfl))) (fun _ h9 => h9) rfl (by decide +kernel) (bI_nar p1) (bI_fit p1) (Nat.le_of_ble_eq_true rfl) dX4_be_7 (fun H locs hP hD hS => ?_)
  have hP : va_P D vwCl (mw cI cJ cZ am ak an ac ae ag aq vth vmo vfg vtp p0 p1 vcc vqq vrs vct vun vre vks vms vcs ves vdg vog) H := hP
  have hD : va_D A (mw cI cJ cZ am ak an ac ae ag aq vth vmo vfg vtp p0 p1 vcc vqq vrs vct vun vre vks vms vcs ves vdg vog) := hD
  refine lv_aload_n hx hb dX4_be_10 rfl (lv_at hl 0 rfl) ?_
  refine lv_lload_n hx hb dX4_be_11 rfl (lv_at hl 3 rfl) ?_
  refine va_put (D := D) (ci := 5) (v := .long p2) (ty := .long) (C := RX4) (T := TX4) (N := 18) hx hb hts hi4 tyX4 tyX4_ok nmX4 hown hK hP hD hS 0 rfl rfl 10 (by decide) (hts (.fieldLink RX4 49 "DecimalWordsModel" "c" "J") (inW_9 _ (List.mem_of_getElem? (i := 14) rfl))) (fun _ h9 => h9) rfl (by decide +kernel) rfl rfl (Nat.le_of_ble_eq_true rfl) dX4_be_12 (fun H locs hP hD hS => ?_)
  have hP : va_P D vwCl (mw cI cJ cZ am ak an ac ae ag aq vth vmo vfg vtp p0 p1 p2 vqq vrs vct vun vre vks vms vcs ves vdg vog) H := hP
  have hD : va_D A (mw cI cJ cZ am ak an ac ae ag aq vth vmo vfg vtp p0 p1 p2 vqq vrs vct vun vre vks vms vcs ves vdg vog) := hD
  refine lv_aload_n hx hb dX4_be_15 rfl (lv_at hl 0 rfl) ?_
  refine lv_iload hx hb dX4_be_16 (lv_at hl 4 rfl) ?_
  refine va_put (D := D) (ci := 5) (v := .int p3) (ty := .int) (C := RX4) (T := TX4) (N := 18) hx hb hts hi4 tyX4 tyX4_ok nmX4 hown hK hP hD hS 0 rfl rfl 11 (by decide) (hts (.fieldLink RX4 53 "DecimalWordsModel" "q" "I") (inW_9 _ (List.mem_of_getElem? (i := 15) rfl))) (fun _ h9 => h9) rfl (by decide +kernel) rfl rfl (Nat.le_of_ble_eq_true rfl) dX4_be_18 (fun H locs hP hD hS => ?_)
  have hP : va_P D vwCl (mw cI cJ cZ am ak an ac ae ag aq vth vmo vfg vtp p0 p1 p2 p3 vrs vct vun vre vks vms vcs ves vdg vog) H := hP
  have hD : va_D A (mw cI cJ cZ am ak an ac ae ag aq vth vmo vfg vtp p0 p1 p2 p3 vrs vct vun vre vks vms vcs ves vdg vog) := hD
  have e9 := Eq.symm hu; subst e9
  exact x_vret hx hb hr hlocks hQ hK hP hD hS rfl dX4_be_21

def F_X4_invalid (vrs : Int32)  : Int32 × Bool × Int64 × Int32 × Int32 := (bnd (vrs ||| 1) (fun f101 : Int32 => (bnd (F_X4_be (2 : Int32) false (0 : Int64) (0 : Int32)) (fun u103 : Int32 × Bool × Int64 × Int32 => (u103.1, u103.2.1, u103.2.2.1, u103.2.2.2, f101)))))
def RF_X4_invalid (vrs : Int32)  (u9 : Int32 × Bool × Int64 × Int32 × Int32) : Prop := (∀ f101 : Int32, f101 = vrs ||| 1 → (∀ u103 : Int32 × Bool × Int64 × Int32, u103 = F_X4_be (2 : Int32) false (0 : Int64) (0 : Int32) → u9 = (u103.1, u103.2.1, u103.2.2.1, u103.2.2.2, f101)))
theorem rF_X4_invalid (vrs : Int32)  {u9 : Int32 × Bool × Int64 × Int32 × Int32} (hu : u9 = F_X4_invalid vrs) : RF_X4_invalid vrs u9 := by
  unfold RF_X4_invalid
  intro f101 ef101
  have hu := bnd_n hu ef101
  intro u103 eu103
  have hu := bnd_n hu eu103
  exact hu
def rm_X4_invalid : Room := { frames := 1, cells := 0, slots := 0, locals := 25 }
set_option maxHeartbeats 4000000 in
set_option maxRecDepth 100000 in
theorem c_X4_invalid (l : Launch) (D : va_G) (cR cI cJ cZ : ClassId) (t0 : Nat) (am ak an ac ae ag aq : Nat) (vth : Int32) (vmo : Int32) (vfg : Int32) (vtp : Int32) (vkd : Int32) (vng : Bool) (vcc : Int64) (vqq : Int32) (vrs : Int32) (vct : Int32) (vun : Int32) (vre : Bool) (vks : Nat → Int32) (vms : Nat → Bool) (vcs : Nat → Int64) (ves : Nat → Int32) (vdg : Nat → Int32) (vog : Nat → Int32)  (u : Int32 × Bool × Int64 × Int32 × Int32) (hu : u = F_X4_invalid vrs) : XM l D (xty cR cI cJ cZ) t0 yX4_invalid cX4_invalid 1 none rm_X4_invalid [.ref am] none (mw cI cJ cZ am ak an ac ae ag aq vth vmo vfg vtp vkd vng vcc vqq vrs vct vun vre vks vms vcs ves vdg vog) (mw cI cJ cZ am ak an ac ae ag aq vth vmo vfg vtp u.1 u.2.1 u.2.2.1 u.2.2.2.1 u.2.2.2.2 vct vun vre vks vms vcs ves vdg vog) := by
  refine XM.of (by decide) (Nat.le_of_ble_eq_true rfl) ?_
  intro p e s m args below meth c A Q F hK hP hD hA hSt hS hQ ls hl
  obtain ⟨hx, hb, hr, hts, hown, hlocks, hml⟩ := F
  have hCF : CallFix p m c cX4_invalid 1 s args gW RX4 := ⟨hx, hb, hml, hown, hts⟩
  have hu := rF_X4_invalid vrs hu
  unfold RF_X4_invalid at hu
  obtain ⟨H, eH⟩ : ∃ y9 : Heap, y9 = s.heap := ⟨_, rfl⟩
  obtain ⟨locs, eL⟩ : ∃ y9 : List Loc, y9 = [] := ⟨_, rfl⟩
  rw [← eL] at hS ⊢
  have hP : va_P D vwCl (mw cI cJ cZ am ak an ac ae ag aq vth vmo vfg vtp vkd vng vcc vqq vrs vct vun vre vks vms vcs ves vdg vog) H := by rw [eH]; exact hP
  have hS : va_S A s.heap H locs := by rw [eH]; exact hS
  suffices goal9 : W p l e rm_X4_invalid s m args below meth c H locs 0 0 Q (F0 m 0 ls []) from by rw [← eH]; exact goal9
  have hl : lv_has ls 1 [(0, .ref am)] := hl
  have hi4 : ∀ w ∈ wsX40, w ∈ gW := inW_X4
  refine lv_aload_n hx hb dX4_invalid_0 rfl (lv_at hl 0 rfl) ?_
  refine lv_aload_n hx hb dX4_invalid_1 rfl (lv_at hl 0 rfl) ?_
  refine va_get (D := D) (ci := 5) (v := .int vrs) (C := RX4) (T := TX4) (N := 18) hx hb hts hi4 hown hK hP 0 rfl rfl 12 (by decide) (hts (.fieldLink RX4 56 "DecimalWordsModel" "raised" "I") (inW_9 _ (List.mem_of_getElem? (i := 17) rfl))) (fun _ h9 => h9) rfl dX4_invalid_2 ?_
  refine lv_iconst (v := 1) hx hb dX4_invalid_5 (by decide) ?_
  refine lv_ior hx hb dX4_invalid_6 ?_
  refine lv_topi (fun f101 ef101 => ?_)
  have hu := hu _ ef101
  refine va_put (D := D) (ci := 5) (v := .int f101) (ty := .int) (C := RX4) (T := TX4) (N := 18) hx hb hts hi4 tyX4 tyX4_ok nmX4 hown hK hP hD hS 0 rfl rfl 12 (by decide) (hts (.fieldLink RX4 56 "DecimalWordsModel" "raised" "I") (inW_9 _ (List.mem_of_getElem? (i := 17) rfl))) (fun _ h9 => h9) rfl (by decide +kernel) rfl rfl (Nat.le_of_ble_eq_true rfl) dX4_invalid_7 (fun H locs hP hD hS => ?_)
  have hP : va_P D vwCl (mw cI cJ cZ am ak an ac ae ag aq vth vmo vfg vtp vkd vng vcc vqq f101 vct vun vre vks vms vcs ves vdg vog) H := hP
  have hD : va_D A (mw cI cJ cZ am ak an ac ae ag aq vth vmo vfg vtp vkd vng vcc vqq f101 vct vun vre vks vms vcs ves vdg vog) := hD
  refine lv_aload_n hx hb dX4_invalid_10 rfl (lv_at hl 0 rfl) ?_
  refine lv_iconst (v := 2) hx hb dX4_invalid_11 (by decide) ?_
  refine lv_iconst (v := 0) hx hb dX4_invalid_12 (by decide) ?_
  refine lv_lconst (v := 0) hx hb dX4_invalid_13 (by decide) ?_
  refine lv_iconst (v := 0) hx hb dX4_invalid_14 (by decide) ?_
  obtain ⟨u103, eu103⟩ : ∃ y9 : Int32 × Bool × Int64 × Int32, y9 = F_X4_be (2 : Int32) false (0 : Int64) (0 : Int32) := ⟨_, rfl⟩
  have hu := hu _ eu103
  refine x_V (As := [.int 2, .int (bI false), .long 0, .int 0]) (rest := []) hCF (c_X4_be l D cR cI cJ cZ t0 am ak an ac ae ag aq vth vmo vfg vtp vkd vng vcc vqq f101 vct vun vre vks vms vcs ves vdg vog (2 : Int32) false (0 : Int64) (0 : Int32) u103 eu103) (x_cwV 4 hts (inW_9 _ (List.mem_of_getElem? (i := 18) rfl)) (inW_9 _ (List.mem_of_getElem? (i := 19) rfl)) (inW_9 _ (List.mem_of_getElem? (i := 20) rfl)) (inW_9 _ (List.mem_of_getElem? (i := 5) rfl)) (inW_9 _ (List.mem_of_getElem? (i := 11) rfl)) rfl rfl (by decide +kernel) ⟨Nat.le_of_ble_eq_true rfl, Nat.le_of_ble_eq_true rfl⟩) hK hP hD hS hA hSt 0 rfl rfl rfl hl.1 rfl (Nat.le_of_ble_eq_true rfl) dX4_invalid_15 ⟨Nat.le_of_ble_eq_true rfl, Nat.le_of_ble_eq_true rfl⟩ (fun H locs hP hD hS => ?_)
  show W p l e _ s m args below meth c H locs 0 0 Q (F0 m 18 ls [])
  have e9 := Eq.symm hu; subst e9
  exact x_vret hx hb hr hlocks hQ hK hP hD hS rfl dX4_invalid_18

def F_X4_between  (p0 : Int32) (p1 : Int32) (p2 : Int32) : Int32 := (if p1 ≤ p0 then (if p0 ≤ p2 then p0 else p2) else p1)
def RF_X4_between  (p0 : Int32) (p1 : Int32) (p2 : Int32) (u9 : Int32) : Prop := (if p1 ≤ p0 then (if p0 ≤ p2 then u9 = p0 else u9 = p2) else u9 = p1)
theorem rF_X4_between  (p0 : Int32) (p1 : Int32) (p2 : Int32) {u9 : Int32} (hu : u9 = F_X4_between p0 p1 p2) : RF_X4_between p0 p1 p2 u9 := by
  unfold RF_X4_between
  refine ite_P (fun c_101 => ?_) (fun c_101 => ?_)
  · have hu := hu.trans (if_pos c_101)
    refine ite_P (fun c_102 => ?_) (fun c_102 => ?_)
    · have hu := hu.trans (if_pos c_102)
      exact hu
    · have hu := hu.trans (if_neg c_102)
      exact hu
  · have hu := hu.trans (if_neg c_101)
    exact hu
def rm_X4_between : Room := { frames := 0, cells := 0, slots := 0, locals := 0 }
set_option maxHeartbeats 4000000 in
set_option maxRecDepth 100000 in
theorem c_X4_between (l : Launch) (D : va_G) (cR cI cJ cZ : ClassId) (t0 : Nat) (am ak an ac ae ag aq : Nat) (vth : Int32) (vmo : Int32) (vfg : Int32) (vtp : Int32) (vkd : Int32) (vng : Bool) (vcc : Int64) (vqq : Int32) (vrs : Int32) (vct : Int32) (vun : Int32) (vre : Bool) (vks : Nat → Int32) (vms : Nat → Bool) (vcs : Nat → Int64) (ves : Nat → Int32) (vdg : Nat → Int32) (vog : Nat → Int32) (p0 : Int32) (p1 : Int32) (p2 : Int32) (u : Int32) (hu : u = F_X4_between p0 p1 p2) : XM l D (xty cR cI cJ cZ) t0 yX4_between cX4_between 4 (some .int) rm_X4_between [.ref am, .int p0, .int p1, .int p2] (some (.int u)) (mw cI cJ cZ am ak an ac ae ag aq vth vmo vfg vtp vkd vng vcc vqq vrs vct vun vre vks vms vcs ves vdg vog) (mw cI cJ cZ am ak an ac ae ag aq vth vmo vfg vtp vkd vng vcc vqq vrs vct vun vre vks vms vcs ves vdg vog) := by
  refine XM.of (by decide) (Nat.le_of_ble_eq_true rfl) ?_
  intro p e s m args below meth c A Q F hK hP hD hA hSt hS hQ ls hl
  obtain ⟨hx, hb, hr, hts, hown, hlocks, hml⟩ := F
  have hCF : CallFix p m c cX4_between 4 s args gW RX4 := ⟨hx, hb, hml, hown, hts⟩
  have hu := rF_X4_between p0 p1 p2 hu
  unfold RF_X4_between at hu
  obtain ⟨H, eH⟩ : ∃ y9 : Heap, y9 = s.heap := ⟨_, rfl⟩
  obtain ⟨locs, eL⟩ : ∃ y9 : List Loc, y9 = [] := ⟨_, rfl⟩
  rw [← eL] at hS ⊢
  have hP : va_P D vwCl (mw cI cJ cZ am ak an ac ae ag aq vth vmo vfg vtp vkd vng vcc vqq vrs vct vun vre vks vms vcs ves vdg vog) H := by rw [eH]; exact hP
  have hS : va_S A s.heap H locs := by rw [eH]; exact hS
  suffices goal9 : W p l e rm_X4_between s m args below meth c H locs 0 0 Q (F0 m 0 ls []) from by rw [← eH]; exact goal9
  have hl : lv_has ls 4 [(0, .ref am), (1, .int p0), (2, .int p1), (3, .int p2)] := hl
  refine lv_iload_n hx hb dX4_between_0 rfl (lv_at hl 1 rfl) ?_
  refine lv_iload_n hx hb dX4_between_1 rfl (lv_at hl 2 rfl) ?_
  refine lv_icmp_ge (tgt := 9) hx hb dX4_between_2 (by decide) (fun c_101 => ?_) (fun c_101 => ?_)
  · rw [if_pos c_101] at hu
    refine lv_iload_n hx hb dX4_between_9 rfl (lv_at hl 1 rfl) ?_
    refine lv_iload_n hx hb dX4_between_10 rfl (lv_at hl 3 rfl) ?_
    refine lv_icmp_le (tgt := 18) hx hb dX4_between_11 (by decide) (fun c_102 => ?_) (fun c_102 => ?_)
    · rw [if_pos c_102] at hu
      refine lv_iload_n hx hb dX4_between_18 rfl (lv_at hl 1 rfl) ?_
      have e9 := Eq.symm hu; subst e9
      exact x_iret hx hb hr hlocks hQ hK hP hD hS rfl rfl dX4_between_19
    · rw [if_neg c_102] at hu
      refine lv_iload_n hx hb dX4_between_14 rfl (lv_at hl 3 rfl) ?_
      refine lv_goto (tgt := 19) hx hb dX4_between_15 (by decide) ?_
      have e9 := Eq.symm hu; subst e9
      exact x_iret hx hb hr hlocks hQ hK hP hD hS rfl rfl dX4_between_19
  · rw [if_neg c_101] at hu
    refine lv_iload_n hx hb dX4_between_5 rfl (lv_at hl 2 rfl) ?_
    refine lv_goto (tgt := 19) hx hb dX4_between_6 (by decide) ?_
    have e9 := Eq.symm hu; subst e9
    exact x_iret hx hb hr hlocks hQ hK hP hD hS rfl rfl dX4_between_19

def F_X4_is (vks : Nat → Int32) (p0 : Int32) (p1 : Int32) : Bool := (if vks p0.toNatClampNeg = p1 then true else false)
def RF_X4_is (vks : Nat → Int32) (p0 : Int32) (p1 : Int32) (u9 : Bool) : Prop := (if vks p0.toNatClampNeg = p1 then u9 = true else u9 = false)
theorem rF_X4_is (vks : Nat → Int32) (p0 : Int32) (p1 : Int32) {u9 : Bool} (hu : u9 = F_X4_is vks p0 p1) : RF_X4_is vks p0 p1 u9 := by
  unfold RF_X4_is
  refine ite_P (fun c_102 => ?_) (fun c_102 => ?_)
  · have hu := hu.trans (if_pos c_102)
    exact hu
  · have hu := hu.trans (if_neg c_102)
    exact hu
def S_X4_is (vks : Nat → Int32) (p0 : Int32) (p1 : Int32) : Prop := vp_in p0 8
def rm_X4_is : Room := { frames := 0, cells := 0, slots := 0, locals := 0 }
set_option maxHeartbeats 4000000 in
set_option maxRecDepth 100000 in
theorem c_X4_is (l : Launch) (D : va_G) (cR cI cJ cZ : ClassId) (t0 : Nat) (am ak an ac ae ag aq : Nat) (vth : Int32) (vmo : Int32) (vfg : Int32) (vtp : Int32) (vkd : Int32) (vng : Bool) (vcc : Int64) (vqq : Int32) (vrs : Int32) (vct : Int32) (vun : Int32) (vre : Bool) (vks : Nat → Int32) (vms : Nat → Bool) (vcs : Nat → Int64) (ves : Nat → Int32) (vdg : Nat → Int32) (vog : Nat → Int32) (p0 : Int32) (p1 : Int32) (u : Bool) (hu : u = F_X4_is vks p0 p1) (hs : S_X4_is vks p0 p1) : XM l D (xty cR cI cJ cZ) t0 yX4_is cX4_is 3 (some .boolean) rm_X4_is [.ref am, .int p0, .int p1] (some (.int (bI u))) (mw cI cJ cZ am ak an ac ae ag aq vth vmo vfg vtp vkd vng vcc vqq vrs vct vun vre vks vms vcs ves vdg vog) (mw cI cJ cZ am ak an ac ae ag aq vth vmo vfg vtp vkd vng vcc vqq vrs vct vun vre vks vms vcs ves vdg vog) := by
  refine XM.of (by decide) (Nat.le_of_ble_eq_true rfl) ?_
  intro p e s m args below meth c A Q F hK hP hD hA hSt hS hQ ls hl
  obtain ⟨hx, hb, hr, hts, hown, hlocks, hml⟩ := F
  have hCF : CallFix p m c cX4_is 3 s args gW RX4 := ⟨hx, hb, hml, hown, hts⟩
  unfold S_X4_is at hs
  have hu := rF_X4_is vks p0 p1 hu
  unfold RF_X4_is at hu
  obtain ⟨H, eH⟩ : ∃ y9 : Heap, y9 = s.heap := ⟨_, rfl⟩
  obtain ⟨locs, eL⟩ : ∃ y9 : List Loc, y9 = [] := ⟨_, rfl⟩
  rw [← eL] at hS ⊢
  have hP : va_P D vwCl (mw cI cJ cZ am ak an ac ae ag aq vth vmo vfg vtp vkd vng vcc vqq vrs vct vun vre vks vms vcs ves vdg vog) H := by rw [eH]; exact hP
  have hS : va_S A s.heap H locs := by rw [eH]; exact hS
  suffices goal9 : W p l e rm_X4_is s m args below meth c H locs 0 0 Q (F0 m 0 ls []) from by rw [← eH]; exact goal9
  have hl : lv_has ls 3 [(0, .ref am), (1, .int p0), (2, .int p1)] := hl
  have hi4 : ∀ w ∈ wsX40, w ∈ gW := inW_X4
  refine lv_aload_n hx hb dX4_is_0 rfl (lv_at hl 0 rfl) ?_
  refine va_get (D := D) (ci := 5) (v := .ref ak) (C := RX4) (T := TX4) (N := 18) hx hb hts hi4 hown hK hP 0 rfl rfl 1 (by decide) (hts (.fieldLink RX4 7 "DecimalWordsModel" "kinds" "[I") (inW_8 _ (List.mem_of_getElem? (i := 29) rfl))) (fun _ h9 => h9) rfl dX4_is_1 ?_
  refine lv_iload_n hx hb dX4_is_4 rfl (lv_at hl 1 rfl) ?_
  have h_101 := hs
  refine va_iald hx hb hK hP 1 1 rfl rfl h_101 dX4_is_5 ?_
  refine lv_iload_n hx hb dX4_is_6 rfl (lv_at hl 2 rfl) ?_
  refine lv_icmp_ne (tgt := 14) hx hb dX4_is_7 (by decide) (fun c_102 => ?_) (fun c_102 => ?_)
  · rw [if_neg c_102] at hu
    refine lv_iconst (v := 0) hx hb dX4_is_14 (by decide) ?_
    have e9 := Eq.symm hu; subst e9
    exact x_zret (v := false) hx hb hr hlocks hQ hK hP hD hS rfl rfl dX4_is_15
  · rw [if_pos c_102] at hu
    refine lv_iconst (v := 1) hx hb dX4_is_10 (by decide) ?_
    refine lv_goto (tgt := 15) hx hb dX4_is_11 (by decide) ?_
    have e9 := Eq.symm hu; subst e9
    exact x_zret (v := true) hx hb hr hlocks hQ hK hP hD hS rfl rfl dX4_is_15

def B_X4_less_4 (vdg : Nat → Int32) (vog : Nat → Int32) (t_4 : Int32) : Int32 := (if t_4 < 0 then t_4 else (if vdg t_4.toNatClampNeg = vog t_4.toNatClampNeg then (bnd (t_4 + (-1)) (fun n104 : Int32 => n104)) else t_4))
def G_X4_less_4 (vdg : Nat → Int32) (vog : Nat → Int32) (t_4 : Int32) : Bool := (if t_4 < 0 then false else (if vdg t_4.toNatClampNeg = vog t_4.toNatClampNeg then (bnd (t_4 + (-1)) (fun n104 : Int32 => true)) else false))
def RB_X4_less_4 (vdg : Nat → Int32) (vog : Nat → Int32) (t_4 : Int32) (u9 : Int32) : Prop := (if t_4 < 0 then True else (if vdg t_4.toNatClampNeg = vog t_4.toNatClampNeg then (∀ n104 : Int32, n104 = t_4 + (-1) → u9 = n104) else True))
def RG_X4_less_4 (vdg : Nat → Int32) (vog : Nat → Int32) (t_4 : Int32) (u9 : Bool) : Prop := (if t_4 < 0 then u9 = false else (if vdg t_4.toNatClampNeg = vog t_4.toNatClampNeg then u9 = true else u9 = false))
theorem rB_X4_less_4 (vdg : Nat → Int32) (vog : Nat → Int32) (t_4 : Int32) {u9 : Int32} (hu : u9 = B_X4_less_4 vdg vog t_4) : RB_X4_less_4 vdg vog t_4 u9 := by
  unfold RB_X4_less_4
  refine ite_P (fun c_101 => ?_) (fun c_101 => ?_)
  · have hu := hu.trans (if_pos c_101)
    trivial
  · have hu := hu.trans (if_neg c_101)
    refine ite_P (fun c_103 => ?_) (fun c_103 => ?_)
    · have hu := hu.trans (if_pos c_103)
      intro n104 en104
      have hu := bnd_n hu en104
      exact hu
    · have hu := hu.trans (if_neg c_103)
      trivial
theorem rG_X4_less_4 (vdg : Nat → Int32) (vog : Nat → Int32) (t_4 : Int32) {u9 : Bool} (hu : u9 = G_X4_less_4 vdg vog t_4) : RG_X4_less_4 vdg vog t_4 u9 := by
  unfold RG_X4_less_4
  refine ite_P (fun c_101 => ?_) (fun c_101 => ?_)
  · have hu := hu.trans (if_pos c_101)
    exact hu
  · have hu := hu.trans (if_neg c_101)
    refine ite_P (fun c_103 => ?_) (fun c_103 => ?_)
    · have hu := hu.trans (if_pos c_103)
      exact hu
    · have hu := hu.trans (if_neg c_103)
      exact hu
def SB_X4_less_4 (vdg : Nat → Int32) (vog : Nat → Int32) (t_4 : Int32) : Prop := (if t_4 < 0 then True else vp_in t_4 900)
def F_X4_less (vdg : Nat → Int32) (vog : Nat → Int32)  : Bool := (bnd (wl (G_X4_less_4 vdg vog) (B_X4_less_4 vdg vog) 901 899) (fun z105 : Int32 => (if z105 < 0 then false else (if vdg z105.toNatClampNeg = vog z105.toNatClampNeg then default else (if vog z105.toNatClampNeg ≤ vdg z105.toNatClampNeg then false else true)))))
def RF_X4_less (vdg : Nat → Int32) (vog : Nat → Int32)  (u9 : Bool) : Prop := (∀ z105 : Int32, z105 = wl (G_X4_less_4 vdg vog) (B_X4_less_4 vdg vog) 901 899 → (if z105 < 0 then u9 = false else (if vdg z105.toNatClampNeg = vog z105.toNatClampNeg then True else (if vog z105.toNatClampNeg ≤ vdg z105.toNatClampNeg then u9 = false else u9 = true))))
theorem rF_X4_less (vdg : Nat → Int32) (vog : Nat → Int32)  {u9 : Bool} (hu : u9 = F_X4_less vdg vog) : RF_X4_less vdg vog u9 := by
  unfold RF_X4_less
  intro z105 ez105
  have hu := bnd_n hu ez105
  refine ite_P (fun c_107 => ?_) (fun c_107 => ?_)
  · have hu := hu.trans (if_pos c_107)
    exact hu
  · have hu := hu.trans (if_neg c_107)
    refine ite_P (fun c_109 => ?_) (fun c_109 => ?_)
    · have hu := hu.trans (if_pos c_109)
      trivial
    · have hu := hu.trans (if_neg c_109)
      refine ite_P (fun c_110 => ?_) (fun c_110 => ?_)
      · have hu := hu.trans (if_pos c_110)
        exact hu
      · have hu := hu.trans (if_neg c_110)
        exact hu
def S_X4_less (vdg : Nat → Int32) (vog : Nat → Int32)  : Prop := (∀ j : Nat, j < nW (G_X4_less_4 vdg vog) (B_X4_less_4 vdg vog) 901 899 → SB_X4_less_4 vdg vog (itn (B_X4_less_4 vdg vog) j 899)) ∧ G_X4_less_4 vdg vog (wl (G_X4_less_4 vdg vog) (B_X4_less_4 vdg vog) 901 899) = false ∧ (∀ z105 : Int32, z105 = wl (G_X4_less_4 vdg vog) (B_X4_less_4 vdg vog) 901 899 → (if z105 < 0 then True else vp_in z105 900))
def rm_X4_less : Room := { frames := 0, cells := 0, slots := 0, locals := 0 }
set_option maxHeartbeats 4000000 in
set_option maxRecDepth 100000 in
theorem c_X4_less (l : Launch) (D : va_G) (cR cI cJ cZ : ClassId) (t0 : Nat) (am ak an ac ae ag aq : Nat) (vth : Int32) (vmo : Int32) (vfg : Int32) (vtp : Int32) (vkd : Int32) (vng : Bool) (vcc : Int64) (vqq : Int32) (vrs : Int32) (vct : Int32) (vun : Int32) (vre : Bool) (vks : Nat → Int32) (vms : Nat → Bool) (vcs : Nat → Int64) (ves : Nat → Int32) (vdg : Nat → Int32) (vog : Nat → Int32)  (u : Bool) (hu : u = F_X4_less vdg vog) (hs : S_X4_less vdg vog) : XM l D (xty cR cI cJ cZ) t0 yX4_less cX4_less 2 (some .boolean) rm_X4_less [.ref am] (some (.int (bI u))) (mw cI cJ cZ am ak an ac ae ag aq vth vmo vfg vtp vkd vng vcc vqq vrs vct vun vre vks vms vcs ves vdg vog) (mw cI cJ cZ am ak an ac ae ag aq vth vmo vfg vtp vkd vng vcc vqq vrs vct vun vre vks vms vcs ves vdg vog) := by
  refine XM.of (by decide) (Nat.le_of_ble_eq_true rfl) ?_
  intro p e s m args below meth c A Q F hK hP hD hA hSt hS hQ ls hl
  obtain ⟨hx, hb, hr, hts, hown, hlocks, hml⟩ := F
  have hCF : CallFix p m c cX4_less 2 s args gW RX4 := ⟨hx, hb, hml, hown, hts⟩
  unfold S_X4_less at hs
  have hu := rF_X4_less vdg vog hu
  unfold RF_X4_less at hu
  obtain ⟨H, eH⟩ : ∃ y9 : Heap, y9 = s.heap := ⟨_, rfl⟩
  obtain ⟨locs, eL⟩ : ∃ y9 : List Loc, y9 = [] := ⟨_, rfl⟩
  rw [← eL] at hS ⊢
  have hP : va_P D vwCl (mw cI cJ cZ am ak an ac ae ag aq vth vmo vfg vtp vkd vng vcc vqq vrs vct vun vre vks vms vcs ves vdg vog) H := by rw [eH]; exact hP
  have hS : va_S A s.heap H locs := by rw [eH]; exact hS
  suffices goal9 : W p l e rm_X4_less s m args below meth c H locs 0 0 Q (F0 m 0 ls []) from by rw [← eH]; exact goal9
  have hl : lv_has ls 2 [(0, .ref am)] := hl
  have hi4 : ∀ w ∈ wsX40, w ∈ gW := inW_X4
  refine lv_sipush (v := 899) hx hb dX4_less_0 (by decide) ?_
  refine lv_istore_n (lv' := [(1, .int 899), (0, .ref am)]) hx hb dX4_less_3 rfl hl (by decide) rfl (fun ls hl => ?_)
  have L_111 : ∀ (n9 : Nat) (t_4 : Int32), (∀ j : Nat, j < n9 → G_X4_less_4 vdg vog (itn (B_X4_less_4 vdg vog) j t_4) = true) → (∀ j : Nat, j < n9 → SB_X4_less_4 vdg vog (itn (B_X4_less_4 vdg vog) j t_4)) → (∀ (H : Heap) (locs : List Loc), va_P D vwCl (mw cI cJ cZ am ak an ac ae ag aq vth vmo vfg vtp vkd vng vcc vqq vrs vct vun vre vks vms vcs ves vdg vog) H → va_D A (mw cI cJ cZ am ak an ac ae ag aq vth vmo vfg vtp vkd vng vcc vqq vrs vct vun vre vks vms vcs ves vdg vog) → va_S A s.heap H locs → ∀ ls : Array Slot, lv_has ls 2 [(0, .ref am), (1, .int (itn (B_X4_less_4 vdg vog) n9 t_4))] → W p l e rm_X4_less s m args below meth c H locs 0 0 Q (F0 m 4 ls [])) → ∀ (H : Heap) (locs : List Loc), va_P D vwCl (mw cI cJ cZ am ak an ac ae ag aq vth vmo vfg vtp vkd vng vcc vqq vrs vct vun vre vks vms vcs ves vdg vog) H → va_D A (mw cI cJ cZ am ak an ac ae ag aq vth vmo vfg vtp vkd vng vcc vqq vrs vct vun vre vks vms vcs ves vdg vog) → va_S A s.heap H locs → ∀ ls : Array Slot, lv_has ls 2 [(0, .ref am), (1, .int t_4)] → W p l e rm_X4_less s m args below meth c H locs 0 0 Q (F0 m 4 ls []) := by
    intro n9
    induction n9 with
    | zero => exact fun _ _ _ k9 => k9
    | succ n9 ih9 =>
      intro t_4 hG9 hs9 k9 H locs hP hD hS ls hl
      have hG0 : G_X4_less_4 vdg vog t_4 = true := hG9 0 (Nat.succ_pos n9)
      have hg := rG_X4_less_4 vdg vog t_4 (Eq.symm hG0)
      unfold RG_X4_less_4 at hg
      obtain ⟨t9, et9⟩ : ∃ y9 : Int32, y9 = (B_X4_less_4 vdg vog) t_4 := ⟨_, rfl⟩
      have hb9 := rB_X4_less_4 vdg vog t_4 et9
      unfold RB_X4_less_4 at hb9
      have hs : SB_X4_less_4 vdg vog t_4 := hs9 0 (Nat.succ_pos n9)
      unfold SB_X4_less_4 at hs
      refine lv_iload_n hx hb dX4_less_4 rfl (lv_at hl 1 rfl) ?_
      refine lv_if_lt (tgt := 50) hx hb dX4_less_5 (by decide) (fun c_101 => ?_) (fun c_101 => ?_)
      · rw [if_pos c_101] at hg
        exact absurd hg (by decide)
      · rw [if_neg c_101] at hs
        rw [if_neg c_101] at hg
        rw [if_neg c_101] at hb9
        refine lv_aload_n hx hb dX4_less_8 rfl (lv_at hl 0 rfl) ?_
        refine va_get (D := D) (ci := 5) (v := .ref ag) (C := RX4) (T := TX4) (N := 18) hx hb hts hi4 hown hK hP 0 rfl rfl 14 (by decide) (hts (.fieldLink RX4 24 "DecimalWordsModel" "digits" "[I") (inW_8 _ (List.mem_of_getElem? (i := 35) rfl))) (fun _ h9 => h9) rfl dX4_less_9 ?_
        refine lv_iload_n hx hb dX4_less_12 rfl (lv_at hl 1 rfl) ?_
        have h_102 := hs
        refine va_iald hx hb hK hP 5 1 rfl rfl h_102 dX4_less_13 ?_
        refine lv_aload_n hx hb dX4_less_14 rfl (lv_at hl 0 rfl) ?_
        refine va_get (D := D) (ci := 5) (v := .ref aq) (C := RX4) (T := TX4) (N := 18) hx hb hts hi4 hown hK hP 0 rfl rfl 15 (by decide) (hts (.fieldLink RX4 27 "DecimalWordsModel" "others" "[I") (inW_8 _ (List.mem_of_getElem? (i := 36) rfl))) (fun _ h9 => h9) rfl dX4_less_15 ?_
        refine lv_iload_n hx hb dX4_less_18 rfl (lv_at hl 1 rfl) ?_
        refine va_iald hx hb hK hP 6 1 rfl rfl h_102 dX4_less_19 ?_
        refine lv_icmp_eq (tgt := 44) hx hb dX4_less_20 (by decide) (fun c_103 => ?_) (fun c_103 => ?_)
        · rw [if_pos c_103] at hg
          rw [if_pos c_103] at hb9
          obtain ⟨n104, en104⟩ : ∃ y9 : Int32, y9 = t_4 + (-1) := ⟨_, rfl⟩
          have hb9 := hb9 _ en104
          refine lv_iinc (v := n104) (lv' := [(1, .int n104), (0, .ref am)]) hx hb dX4_less_44 hl (k := 1) rfl (by rw [en104]; rfl) (by decide) rfl (fun ls hl => ?_)
          refine lv_goto (tgt := 4) hx hb dX4_less_47 (by decide) ?_
          have e9 := Eq.symm hb9; subst e9
          have key9 := ih9 ((B_X4_less_4 vdg vog) t_4) (fun j hj => hG9 (j + 1) (Nat.succ_lt_succ hj)) (fun j hj => hs9 (j + 1) (Nat.succ_lt_succ hj)) k9
          rw [← et9] at key9
          exact key9 H locs hP hD hS ls (lv_sub hl [1, 0] rfl)
        · rw [if_neg c_103] at hg
          exact absurd hg (by decide)
  obtain ⟨hsL, hG1, hs⟩ := hs
  refine L_111 (nW (G_X4_less_4 vdg vog) (B_X4_less_4 vdg vog) 901 899) 899 (nW_lt _ _ _ _) hsL (fun H locs hP hD hS ls hl => ?_) H locs hP hD hS ls (lv_sub hl [1, 0] rfl)
  obtain ⟨z105, ez105⟩ : ∃ y9 : Int32, y9 = wl (G_X4_less_4 vdg vog) (B_X4_less_4 vdg vog) 901 899 := ⟨_, rfl⟩
  have e9 : z105 = itn (B_X4_less_4 vdg vog) (nW (G_X4_less_4 vdg vog) (B_X4_less_4 vdg vog) 901 899) 899 := ez105
  try rw [← e9] at hP
  try rw [← e9] at hD
  try rw [← e9] at hl
  rw [← ez105] at hG1
  clear e9
  have hg := rG_X4_less_4 vdg vog z105 (Eq.symm hG1)
  unfold RG_X4_less_4 at hg
  have hs := hs _ ez105
  have hu := hu _ ez105
  refine lv_iload_n hx hb dX4_less_4 rfl (lv_at hl 1 rfl) ?_
  refine lv_if_lt (tgt := 50) hx hb dX4_less_5 (by decide) (fun c_107 => ?_) (fun c_107 => ?_)
  · rw [if_pos c_107] at hu
    rw [if_pos c_107] at hg
    refine lv_iconst (v := 0) hx hb dX4_less_50 (by decide) ?_
    have e9 := Eq.symm hu; subst e9
    exact x_zret (v := false) hx hb hr hlocks hQ hK hP hD hS rfl rfl dX4_less_51
  · rw [if_neg c_107] at hs
    rw [if_neg c_107] at hu
    rw [if_neg c_107] at hg
    refine lv_aload_n hx hb dX4_less_8 rfl (lv_at hl 0 rfl) ?_
    refine va_get (D := D) (ci := 5) (v := .ref ag) (C := RX4) (T := TX4) (N := 18) hx hb hts hi4 hown hK hP 0 rfl rfl 14 (by decide) (hts (.fieldLink RX4 24 "DecimalWordsModel" "digits" "[I") (inW_8 _ (List.mem_of_getElem? (i := 35) rfl))) (fun _ h9 => h9) rfl dX4_less_9 ?_
    refine lv_iload_n hx hb dX4_less_12 rfl (lv_at hl 1 rfl) ?_
    have h_108 := hs
    refine va_iald hx hb hK hP 5 1 rfl rfl h_108 dX4_less_13 ?_
    refine lv_aload_n hx hb dX4_less_14 rfl (lv_at hl 0 rfl) ?_
    refine va_get (D := D) (ci := 5) (v := .ref aq) (C := RX4) (T := TX4) (N := 18) hx hb hts hi4 hown hK hP 0 rfl rfl 15 (by decide) (hts (.fieldLink RX4 27 "DecimalWordsModel" "others" "[I") (inW_8 _ (List.mem_of_getElem? (i := 36) rfl))) (fun _ h9 => h9) rfl dX4_less_15 ?_
    refine lv_iload_n hx hb dX4_less_18 rfl (lv_at hl 1 rfl) ?_
    refine va_iald hx hb hK hP 6 1 rfl rfl h_108 dX4_less_19 ?_
    refine lv_icmp_eq (tgt := 44) hx hb dX4_less_20 (by decide) (fun c_109 => ?_) (fun c_109 => ?_)
    · rw [if_pos c_109] at hg
      exact absurd hg (by decide)
    · rw [if_neg c_109] at hu
      rw [if_neg c_109] at hg
      refine lv_aload_n hx hb dX4_less_23 rfl (lv_at hl 0 rfl) ?_
      refine va_get (D := D) (ci := 5) (v := .ref ag) (C := RX4) (T := TX4) (N := 18) hx hb hts hi4 hown hK hP 0 rfl rfl 14 (by decide) (hts (.fieldLink RX4 24 "DecimalWordsModel" "digits" "[I") (inW_8 _ (List.mem_of_getElem? (i := 35) rfl))) (fun _ h9 => h9) rfl dX4_less_24 ?_
      refine lv_iload_n hx hb dX4_less_27 rfl (lv_at hl 1 rfl) ?_
      refine va_iald hx hb hK hP 5 1 rfl rfl h_108 dX4_less_28 ?_
      refine lv_aload_n hx hb dX4_less_29 rfl (lv_at hl 0 rfl) ?_
      refine va_get (D := D) (ci := 5) (v := .ref aq) (C := RX4) (T := TX4) (N := 18) hx hb hts hi4 hown hK hP 0 rfl rfl 15 (by decide) (hts (.fieldLink RX4 27 "DecimalWordsModel" "others" "[I") (inW_8 _ (List.mem_of_getElem? (i := 36) rfl))) (fun _ h9 => h9) rfl dX4_less_30 ?_
      refine lv_iload_n hx hb dX4_less_33 rfl (lv_at hl 1 rfl) ?_
      refine va_iald hx hb hK hP 6 1 rfl rfl h_108 dX4_less_34 ?_
      refine lv_icmp_ge (tgt := 42) hx hb dX4_less_35 (by decide) (fun c_110 => ?_) (fun c_110 => ?_)
      · rw [if_pos c_110] at hu
        refine lv_iconst (v := 0) hx hb dX4_less_42 (by decide) ?_
        have e9 := Eq.symm hu; subst e9
        exact x_zret (v := false) hx hb hr hlocks hQ hK hP hD hS rfl rfl dX4_less_43
      · rw [if_neg c_110] at hu
        refine lv_iconst (v := 1) hx hb dX4_less_38 (by decide) ?_
        refine lv_goto (tgt := 43) hx hb dX4_less_39 (by decide) ?_
        have e9 := Eq.symm hu; subst e9
        exact x_zret (v := true) hx hb hr hlocks hQ hK hP hD hS rfl rfl dX4_less_43

def B_X4_addDigits_4 (vog : Nat → Int32) (t_4 : Int32 × Int32 × (Nat → Int32)) : Int32 × Int32 × (Nat → Int32) := (if 900 ≤ t_4.2.1 then t_4 else (bnd (((t_4.2.2 t_4.2.1.toNatClampNeg) + (vog t_4.2.1.toNatClampNeg)) + t_4.1) (fun n103 : Int32 => (bnd (jrem n103 10) (fun f104 : Int32 => (bnd (va_up t_4.2.2 t_4.2.1.toNatClampNeg f104) (fun w105 : Nat → Int32 => (bnd (n103 / 10) (fun n107 : Int32 => (bnd (t_4.2.1 + 1) (fun n108 : Int32 => (n107, n108, w105))))))))))))
def G_X4_addDigits_4 (vog : Nat → Int32) (t_4 : Int32 × Int32 × (Nat → Int32)) : Bool := (if 900 ≤ t_4.2.1 then false else (bnd (((t_4.2.2 t_4.2.1.toNatClampNeg) + (vog t_4.2.1.toNatClampNeg)) + t_4.1) (fun n103 : Int32 => (bnd (jrem n103 10) (fun f104 : Int32 => (bnd (va_up t_4.2.2 t_4.2.1.toNatClampNeg f104) (fun w105 : Nat → Int32 => (bnd (n103 / 10) (fun n107 : Int32 => (bnd (t_4.2.1 + 1) (fun n108 : Int32 => true)))))))))))
def RB_X4_addDigits_4 (vog : Nat → Int32) (t_4 : Int32 × Int32 × (Nat → Int32)) (u9 : Int32 × Int32 × (Nat → Int32)) : Prop := (if 900 ≤ t_4.2.1 then True else (∀ n103 : Int32, n103 = ((t_4.2.2 t_4.2.1.toNatClampNeg) + (vog t_4.2.1.toNatClampNeg)) + t_4.1 → (∀ f104 : Int32, f104 = jrem n103 10 → (∀ w105 : Nat → Int32, w105 = va_up t_4.2.2 t_4.2.1.toNatClampNeg f104 → (∀ n107 : Int32, n107 = n103 / 10 → (∀ n108 : Int32, n108 = t_4.2.1 + 1 → u9 = (n107, n108, w105)))))))
def RG_X4_addDigits_4 (vog : Nat → Int32) (t_4 : Int32 × Int32 × (Nat → Int32)) (u9 : Bool) : Prop := (if 900 ≤ t_4.2.1 then u9 = false else u9 = true)
theorem rB_X4_addDigits_4 (vog : Nat → Int32) (t_4 : Int32 × Int32 × (Nat → Int32)) {u9 : Int32 × Int32 × (Nat → Int32)} (hu : u9 = B_X4_addDigits_4 vog t_4) : RB_X4_addDigits_4 vog t_4 u9 := by
  unfold RB_X4_addDigits_4
  refine ite_P (fun c_101 => ?_) (fun c_101 => ?_)
  · have hu := hu.trans (if_pos c_101)
    trivial
  · have hu := hu.trans (if_neg c_101)
    intro n103 en103
    have hu := bnd_n hu en103
    intro f104 ef104
    have hu := bnd_n hu ef104
    intro w105 ew105
    have hu := bnd_n hu ew105
    intro n107 en107
    have hu := bnd_n hu en107
    intro n108 en108
    have hu := bnd_n hu en108
    exact hu
theorem rG_X4_addDigits_4 (vog : Nat → Int32) (t_4 : Int32 × Int32 × (Nat → Int32)) {u9 : Bool} (hu : u9 = G_X4_addDigits_4 vog t_4) : RG_X4_addDigits_4 vog t_4 u9 := by
  unfold RG_X4_addDigits_4
  refine ite_P (fun c_101 => ?_) (fun c_101 => ?_)
  · have hu := hu.trans (if_pos c_101)
    exact hu
  · have hu := hu.trans (if_neg c_101)
    exact hu
def SB_X4_addDigits_4 (vog : Nat → Int32) (t_4 : Int32 × Int32 × (Nat → Int32)) : Prop := (if 900 ≤ t_4.2.1 then True else vp_in t_4.2.1 900)
def F_X4_addDigits (vdg : Nat → Int32) (vog : Nat → Int32)  : (Nat → Int32) := (bnd (wl (G_X4_addDigits_4 vog) (B_X4_addDigits_4 vog) 901 (0, 0, vdg)) (fun z109 : Int32 × Int32 × (Nat → Int32) => (if 900 ≤ z109.2.1 then z109.2.2 else default)))
def RF_X4_addDigits (vdg : Nat → Int32) (vog : Nat → Int32)  (u9 : (Nat → Int32)) : Prop := (∀ z109 : Int32 × Int32 × (Nat → Int32), z109 = wl (G_X4_addDigits_4 vog) (B_X4_addDigits_4 vog) 901 (0, 0, vdg) → (if 900 ≤ z109.2.1 then u9 = z109.2.2 else True))
theorem rF_X4_addDigits (vdg : Nat → Int32) (vog : Nat → Int32)  {u9 : (Nat → Int32)} (hu : u9 = F_X4_addDigits vdg vog) : RF_X4_addDigits vdg vog u9 := by
  unfold RF_X4_addDigits
  intro z109 ez109
  have hu := bnd_n hu ez109
  refine ite_P (fun c_111 => ?_) (fun c_111 => ?_)
  · have hu := hu.trans (if_pos c_111)
    exact hu
  · have hu := hu.trans (if_neg c_111)
    trivial
def S_X4_addDigits (vdg : Nat → Int32) (vog : Nat → Int32)  : Prop := (∀ j : Nat, j < nW (G_X4_addDigits_4 vog) (B_X4_addDigits_4 vog) 901 (0, 0, vdg) → SB_X4_addDigits_4 vog (itn (B_X4_addDigits_4 vog) j (0, 0, vdg))) ∧ G_X4_addDigits_4 vog (wl (G_X4_addDigits_4 vog) (B_X4_addDigits_4 vog) 901 (0, 0, vdg)) = false
def rm_X4_addDigits : Room := { frames := 0, cells := 0, slots := 0, locals := 0 }
set_option maxHeartbeats 4000000 in
set_option maxRecDepth 100000 in
theorem c_X4_addDigits (l : Launch) (D : va_G) (cR cI cJ cZ : ClassId) (t0 : Nat) (am ak an ac ae ag aq : Nat) (vth : Int32) (vmo : Int32) (vfg : Int32) (vtp : Int32) (vkd : Int32) (vng : Bool) (vcc : Int64) (vqq : Int32) (vrs : Int32) (vct : Int32) (vun : Int32) (vre : Bool) (vks : Nat → Int32) (vms : Nat → Bool) (vcs : Nat → Int64) (ves : Nat → Int32) (vdg : Nat → Int32) (vog : Nat → Int32)  (u : (Nat → Int32)) (hu : u = F_X4_addDigits vdg vog) (hs : S_X4_addDigits vdg vog) : XM l D (xty cR cI cJ cZ) t0 yX4_addDigits cX4_addDigits 4 none rm_X4_addDigits [.ref am] none (mw cI cJ cZ am ak an ac ae ag aq vth vmo vfg vtp vkd vng vcc vqq vrs vct vun vre vks vms vcs ves vdg vog) (mw cI cJ cZ am ak an ac ae ag aq vth vmo vfg vtp vkd vng vcc vqq vrs vct vun vre vks vms vcs ves u vog) := by
  refine XM.of (by decide) (Nat.le_of_ble_eq_true rfl) ?_
  intro p e s m args below meth c A Q F hK hP hD hA hSt hS hQ ls hl
  obtain ⟨hx, hb, hr, hts, hown, hlocks, hml⟩ := F
  have hCF : CallFix p m c cX4_addDigits 4 s args gW RX4 := ⟨hx, hb, hml, hown, hts⟩
  unfold S_X4_addDigits at hs
  have hu := rF_X4_addDigits vdg vog hu
  unfold RF_X4_addDigits at hu
  obtain ⟨H, eH⟩ : ∃ y9 : Heap, y9 = s.heap := ⟨_, rfl⟩
  obtain ⟨locs, eL⟩ : ∃ y9 : List Loc, y9 = [] := ⟨_, rfl⟩
  rw [← eL] at hS ⊢
  have hP : va_P D vwCl (mw cI cJ cZ am ak an ac ae ag aq vth vmo vfg vtp vkd vng vcc vqq vrs vct vun vre vks vms vcs ves vdg vog) H := by rw [eH]; exact hP
  have hS : va_S A s.heap H locs := by rw [eH]; exact hS
  suffices goal9 : W p l e rm_X4_addDigits s m args below meth c H locs 0 0 Q (F0 m 0 ls []) from by rw [← eH]; exact goal9
  have hl : lv_has ls 4 [(0, .ref am)] := hl
  have hi4 : ∀ w ∈ wsX40, w ∈ gW := inW_X4
  refine lv_iconst (v := 0) hx hb dX4_addDigits_0 (by decide) ?_
  refine lv_istore_n (lv' := [(1, .int 0), (0, .ref am)]) hx hb dX4_addDigits_1 rfl hl (by decide) rfl (fun ls hl => ?_)
  refine lv_iconst (v := 0) hx hb dX4_addDigits_2 (by decide) ?_
  refine lv_istore_n (lv' := [(2, .int 0), (1, .int 0), (0, .ref am)]) hx hb dX4_addDigits_3 rfl hl (by decide) rfl (fun ls hl => ?_)
  have L_112 : ∀ (n9 : Nat) (t_4 : Int32 × Int32 × (Nat → Int32)), (∀ j : Nat, j < n9 → G_X4_addDigits_4 vog (itn (B_X4_addDigits_4 vog) j t_4) = true) → (∀ j : Nat, j < n9 → SB_X4_addDigits_4 vog (itn (B_X4_addDigits_4 vog) j t_4)) → (∀ (H : Heap) (locs : List Loc), va_P D vwCl (mw cI cJ cZ am ak an ac ae ag aq vth vmo vfg vtp vkd vng vcc vqq vrs vct vun vre vks vms vcs ves ((itn (B_X4_addDigits_4 vog) n9 t_4).2.2) vog) H → va_D A (mw cI cJ cZ am ak an ac ae ag aq vth vmo vfg vtp vkd vng vcc vqq vrs vct vun vre vks vms vcs ves ((itn (B_X4_addDigits_4 vog) n9 t_4).2.2) vog) → va_S A s.heap H locs → ∀ ls : Array Slot, lv_has ls 4 [(0, .ref am), (1, .int ((itn (B_X4_addDigits_4 vog) n9 t_4).1)), (2, .int ((itn (B_X4_addDigits_4 vog) n9 t_4).2.1))] → W p l e rm_X4_addDigits s m args below meth c H locs 0 0 Q (F0 m 4 ls [])) → ∀ (H : Heap) (locs : List Loc), va_P D vwCl (mw cI cJ cZ am ak an ac ae ag aq vth vmo vfg vtp vkd vng vcc vqq vrs vct vun vre vks vms vcs ves t_4.2.2 vog) H → va_D A (mw cI cJ cZ am ak an ac ae ag aq vth vmo vfg vtp vkd vng vcc vqq vrs vct vun vre vks vms vcs ves t_4.2.2 vog) → va_S A s.heap H locs → ∀ ls : Array Slot, lv_has ls 4 [(0, .ref am), (1, .int t_4.1), (2, .int t_4.2.1)] → W p l e rm_X4_addDigits s m args below meth c H locs 0 0 Q (F0 m 4 ls []) := by
    intro n9
    induction n9 with
    | zero => exact fun _ _ _ k9 => k9
    | succ n9 ih9 =>
      intro t_4 hG9 hs9 k9 H locs hP hD hS ls hl
      have hG0 : G_X4_addDigits_4 vog t_4 = true := hG9 0 (Nat.succ_pos n9)
      have hg := rG_X4_addDigits_4 vog t_4 (Eq.symm hG0)
      unfold RG_X4_addDigits_4 at hg
      obtain ⟨t9, et9⟩ : ∃ y9 : Int32 × Int32 × (Nat → Int32), y9 = (B_X4_addDigits_4 vog) t_4 := ⟨_, rfl⟩
      have hb9 := rB_X4_addDigits_4 vog t_4 et9
      unfold RB_X4_addDigits_4 at hb9
      have hs : SB_X4_addDigits_4 vog t_4 := hs9 0 (Nat.succ_pos n9)
      unfold SB_X4_addDigits_4 at hs
      refine lv_iload_n hx hb dX4_addDigits_4 rfl (lv_at hl 2 rfl) ?_
      refine lv_sipush (v := 900) hx hb dX4_addDigits_5 (by decide) ?_
      refine lv_icmp_ge (tgt := 48) hx hb dX4_addDigits_8 (by decide) (fun c_101 => ?_) (fun c_101 => ?_)
      · rw [if_pos c_101] at hg
        exact absurd hg (by decide)
      · rw [if_neg c_101] at hs
        rw [if_neg c_101] at hg
        rw [if_neg c_101] at hb9
        refine lv_aload_n hx hb dX4_addDigits_11 rfl (lv_at hl 0 rfl) ?_
        refine va_get (D := D) (ci := 5) (v := .ref ag) (C := RX4) (T := TX4) (N := 18) hx hb hts hi4 hown hK hP 0 rfl rfl 14 (by decide) (hts (.fieldLink RX4 24 "DecimalWordsModel" "digits" "[I") (inW_8 _ (List.mem_of_getElem? (i := 35) rfl))) (fun _ h9 => h9) rfl dX4_addDigits_12 ?_
        refine lv_iload_n hx hb dX4_addDigits_15 rfl (lv_at hl 2 rfl) ?_
        have h_102 := hs
        refine va_iald hx hb hK hP 5 1 rfl rfl h_102 dX4_addDigits_16 ?_
        refine lv_aload_n hx hb dX4_addDigits_17 rfl (lv_at hl 0 rfl) ?_
        refine va_get (D := D) (ci := 5) (v := .ref aq) (C := RX4) (T := TX4) (N := 18) hx hb hts hi4 hown hK hP 0 rfl rfl 15 (by decide) (hts (.fieldLink RX4 27 "DecimalWordsModel" "others" "[I") (inW_8 _ (List.mem_of_getElem? (i := 36) rfl))) (fun _ h9 => h9) rfl dX4_addDigits_18 ?_
        refine lv_iload_n hx hb dX4_addDigits_21 rfl (lv_at hl 2 rfl) ?_
        refine va_iald hx hb hK hP 6 1 rfl rfl h_102 dX4_addDigits_22 ?_
        refine lv_iadd hx hb dX4_addDigits_23 ?_
        refine lv_iload_n hx hb dX4_addDigits_24 rfl (lv_at hl 1 rfl) ?_
        refine lv_iadd hx hb dX4_addDigits_25 ?_
        refine lv_topi (fun n103 en103 => ?_)
        have hb9 := hb9 _ en103
        refine lv_istore_n (lv' := [(3, .int n103), (0, .ref am), (1, .int t_4.1), (2, .int t_4.2.1)]) hx hb dX4_addDigits_26 rfl hl (by decide) rfl (fun ls hl => ?_)
        refine lv_aload_n hx hb dX4_addDigits_27 rfl (lv_at hl 1 rfl) ?_
        refine va_get (D := D) (ci := 5) (v := .ref ag) (C := RX4) (T := TX4) (N := 18) hx hb hts hi4 hown hK hP 0 rfl rfl 14 (by decide) (hts (.fieldLink RX4 24 "DecimalWordsModel" "digits" "[I") (inW_8 _ (List.mem_of_getElem? (i := 35) rfl))) (fun _ h9 => h9) rfl dX4_addDigits_28 ?_
        refine lv_iload_n hx hb dX4_addDigits_31 rfl (lv_at hl 3 rfl) ?_
        refine lv_iload_n hx hb dX4_addDigits_32 rfl (lv_at hl 0 rfl) ?_
        refine lv_bipush (v := 10) hx hb dX4_addDigits_33 (by decide) ?_
        refine x_irem hx hb dX4_addDigits_35 (by decide) ?_
        refine lv_topi (fun f104 ef104 => ?_)
        have hb9 := hb9 _ ef104
        refine va_iast hx hb hK hP hD hS 5 1 rfl rfl h_102 dX4_addDigits_36 (fun H locs hP hD hS => ?_)
        obtain ⟨w105, ew105⟩ : ∃ y9 : Nat → Int32, y9 = va_up t_4.2.2 t_4.2.1.toNatClampNeg f104 := ⟨_, rfl⟩
        have hb9 := hb9 _ ew105
        have hP : va_P D vwCl (mw cI cJ cZ am ak an ac ae ag aq vth vmo vfg vtp vkd vng vcc vqq vrs vct vun vre vks vms vcs ves w105 vog) H := by rw [ew105]; exact hP
        have hD : va_D A (mw cI cJ cZ am ak an ac ae ag aq vth vmo vfg vtp vkd vng vcc vqq vrs vct vun vre vks vms vcs ves w105 vog) := by rw [ew105]; exact hD
        refine lv_iload_n hx hb dX4_addDigits_37 rfl (lv_at hl 0 rfl) ?_
        refine lv_bipush (v := 10) hx hb dX4_addDigits_38 (by decide) ?_
        refine lv_idiv hx hb dX4_addDigits_40 (by decide) ?_
        refine lv_topi (fun n107 en107 => ?_)
        have hb9 := hb9 _ en107
        refine lv_istore_n (lv' := [(1, .int n107), (3, .int n103), (0, .ref am), (2, .int t_4.2.1)]) hx hb dX4_addDigits_41 rfl hl (by decide) rfl (fun ls hl => ?_)
        obtain ⟨n108, en108⟩ : ∃ y9 : Int32, y9 = t_4.2.1 + 1 := ⟨_, rfl⟩
        have hb9 := hb9 _ en108
        refine lv_iinc (v := n108) (lv' := [(2, .int n108), (1, .int n107), (3, .int n103), (0, .ref am)]) hx hb dX4_addDigits_42 hl (k := 3) rfl (by rw [en108]; rfl) (by decide) rfl (fun ls hl => ?_)
        refine lv_goto (tgt := 4) hx hb dX4_addDigits_45 (by decide) ?_
        have e9 := Eq.symm hb9; subst e9
        have key9 := ih9 ((B_X4_addDigits_4 vog) t_4) (fun j hj => hG9 (j + 1) (Nat.succ_lt_succ hj)) (fun j hj => hs9 (j + 1) (Nat.succ_lt_succ hj)) k9
        rw [← et9] at key9
        exact key9 H locs hP hD hS ls (lv_sub hl [3, 1, 0] rfl)
  obtain ⟨hsL, hG1⟩ := hs
  refine L_112 (nW (G_X4_addDigits_4 vog) (B_X4_addDigits_4 vog) 901 (0, 0, vdg)) (0, 0, vdg) (nW_lt _ _ _ _) hsL (fun H locs hP hD hS ls hl => ?_) H locs hP hD hS ls (lv_sub hl [2, 1, 0] rfl)
  obtain ⟨z109, ez109⟩ : ∃ y9 : Int32 × Int32 × (Nat → Int32), y9 = wl (G_X4_addDigits_4 vog) (B_X4_addDigits_4 vog) 901 (0, 0, vdg) := ⟨_, rfl⟩
  have e9 : z109 = itn (B_X4_addDigits_4 vog) (nW (G_X4_addDigits_4 vog) (B_X4_addDigits_4 vog) 901 (0, 0, vdg)) (0, 0, vdg) := ez109
  try rw [← e9] at hP
  try rw [← e9] at hD
  try rw [← e9] at hl
  rw [← ez109] at hG1
  clear e9
  have hg := rG_X4_addDigits_4 vog z109 (Eq.symm hG1)
  unfold RG_X4_addDigits_4 at hg
  have hu := hu _ ez109
  refine lv_iload_n hx hb dX4_addDigits_4 rfl (lv_at hl 2 rfl) ?_
  refine lv_sipush (v := 900) hx hb dX4_addDigits_5 (by decide) ?_
  refine lv_icmp_ge (tgt := 48) hx hb dX4_addDigits_8 (by decide) (fun c_111 => ?_) (fun c_111 => ?_)
  · rw [if_pos c_111] at hu
    rw [if_pos c_111] at hg
    have e9 := Eq.symm hu; subst e9
    exact x_vret hx hb hr hlocks hQ hK hP hD hS rfl dX4_addDigits_48
  · rw [if_neg c_111] at hg
    exact absurd hg (by decide)

def Z_X4_subtractDigits_J_119 (n111 : Int32) : Int32 := (if 0 ≤ n111 then n111 else n111 + 10)
def RZ_X4_subtractDigits_J_119 (n111 : Int32) (u9 : Int32) : Prop := (if 0 ≤ n111 then u9 = n111 else u9 = n111 + 10)
theorem rZ_X4_subtractDigits_J_119 (n111 : Int32) {u9 : Int32} (hu : u9 = Z_X4_subtractDigits_J_119 n111) : RZ_X4_subtractDigits_J_119 n111 u9 := by
  unfold RZ_X4_subtractDigits_J_119
  refine ite_P (fun c_116 => ?_) (fun c_116 => ?_)
  · have hu := hu.trans (if_pos c_116)
    exact hu
  · have hu := hu.trans (if_neg c_116)
    exact hu
def Z_X4_subtractDigits_J_115 (n111 : Int32) : Bool := (if 0 ≤ n111 then false else true)
def RZ_X4_subtractDigits_J_115 (n111 : Int32) (u9 : Bool) : Prop := (if 0 ≤ n111 then u9 = false else u9 = true)
theorem rZ_X4_subtractDigits_J_115 (n111 : Int32) {u9 : Bool} (hu : u9 = Z_X4_subtractDigits_J_115 n111) : RZ_X4_subtractDigits_J_115 n111 u9 := by
  unfold RZ_X4_subtractDigits_J_115
  refine ite_P (fun c_112 => ?_) (fun c_112 => ?_)
  · have hu := hu.trans (if_pos c_112)
    exact hu
  · have hu := hu.trans (if_neg c_112)
    exact hu
def Z_X4_subtractDigits_J_110 (vog : Nat → Int32) (n103 : Bool) (t_9 : Bool × Int32 × (Nat → Int32)) : Int32 := (if n103 = true then (vog t_9.2.1.toNatClampNeg) - (t_9.2.2 t_9.2.1.toNatClampNeg) else (t_9.2.2 t_9.2.1.toNatClampNeg) - (vog t_9.2.1.toNatClampNeg))
def RZ_X4_subtractDigits_J_110 (vog : Nat → Int32) (n103 : Bool) (t_9 : Bool × Int32 × (Nat → Int32)) (u9 : Int32) : Prop := (if n103 = true then u9 = (vog t_9.2.1.toNatClampNeg) - (t_9.2.2 t_9.2.1.toNatClampNeg) else u9 = (t_9.2.2 t_9.2.1.toNatClampNeg) - (vog t_9.2.1.toNatClampNeg))
theorem rZ_X4_subtractDigits_J_110 (vog : Nat → Int32) (n103 : Bool) (t_9 : Bool × Int32 × (Nat → Int32)) {u9 : Int32} (hu : u9 = Z_X4_subtractDigits_J_110 vog n103 t_9) : RZ_X4_subtractDigits_J_110 vog n103 t_9 u9 := by
  unfold RZ_X4_subtractDigits_J_110
  refine ite_P (fun c_105 => ?_) (fun c_105 => ?_)
  · have hu := hu.trans (if_pos c_105)
    exact hu
  · have hu := hu.trans (if_neg c_105)
    exact hu
def B_X4_subtractDigits_9 (vog : Nat → Int32) (n103 : Bool) (t_9 : Bool × Int32 × (Nat → Int32)) : Bool × Int32 × (Nat → Int32) := (if 900 ≤ t_9.2.1 then t_9 else (bnd (Z_X4_subtractDigits_J_110 vog n103 t_9) (fun z109 : Int32 => (bnd (z109 - (bI t_9.1)) (fun n111 : Int32 => (bnd (Z_X4_subtractDigits_J_115 n111) (fun z114 : Bool => (bnd (Z_X4_subtractDigits_J_119 n111) (fun z118 : Int32 => (bnd (va_up t_9.2.2 t_9.2.1.toNatClampNeg z118) (fun w121 : Nat → Int32 => (bnd (t_9.2.1 + 1) (fun n123 : Int32 => (z114, n123, w121))))))))))))))
def G_X4_subtractDigits_9 (vog : Nat → Int32) (n103 : Bool) (t_9 : Bool × Int32 × (Nat → Int32)) : Bool := (if 900 ≤ t_9.2.1 then false else (bnd (Z_X4_subtractDigits_J_110 vog n103 t_9) (fun z109 : Int32 => (bnd (z109 - (bI t_9.1)) (fun n111 : Int32 => (bnd (Z_X4_subtractDigits_J_115 n111) (fun z114 : Bool => (bnd (Z_X4_subtractDigits_J_119 n111) (fun z118 : Int32 => (bnd (va_up t_9.2.2 t_9.2.1.toNatClampNeg z118) (fun w121 : Nat → Int32 => (bnd (t_9.2.1 + 1) (fun n123 : Int32 => true)))))))))))))
def RB_X4_subtractDigits_9 (vog : Nat → Int32) (n103 : Bool) (t_9 : Bool × Int32 × (Nat → Int32)) (u9 : Bool × Int32 × (Nat → Int32)) : Prop := (if 900 ≤ t_9.2.1 then True else (∀ z109 : Int32, z109 = Z_X4_subtractDigits_J_110 vog n103 t_9 → (∀ n111 : Int32, n111 = z109 - (bI t_9.1) → (∀ z114 : Bool, z114 = Z_X4_subtractDigits_J_115 n111 → (∀ z118 : Int32, z118 = Z_X4_subtractDigits_J_119 n111 → (∀ w121 : Nat → Int32, w121 = va_up t_9.2.2 t_9.2.1.toNatClampNeg z118 → (∀ n123 : Int32, n123 = t_9.2.1 + 1 → u9 = (z114, n123, w121))))))))
def RG_X4_subtractDigits_9 (vog : Nat → Int32) (n103 : Bool) (t_9 : Bool × Int32 × (Nat → Int32)) (u9 : Bool) : Prop := (if 900 ≤ t_9.2.1 then u9 = false else u9 = true)
theorem rB_X4_subtractDigits_9 (vog : Nat → Int32) (n103 : Bool) (t_9 : Bool × Int32 × (Nat → Int32)) {u9 : Bool × Int32 × (Nat → Int32)} (hu : u9 = B_X4_subtractDigits_9 vog n103 t_9) : RB_X4_subtractDigits_9 vog n103 t_9 u9 := by
  unfold RB_X4_subtractDigits_9
  refine ite_P (fun c_104 => ?_) (fun c_104 => ?_)
  · have hu := hu.trans (if_pos c_104)
    trivial
  · have hu := hu.trans (if_neg c_104)
    intro z109 ez109
    have hu := bnd_n hu ez109
    intro n111 en111
    have hu := bnd_n hu en111
    intro z114 ez114
    have hu := bnd_n hu ez114
    intro z118 ez118
    have hu := bnd_n hu ez118
    intro w121 ew121
    have hu := bnd_n hu ew121
    intro n123 en123
    have hu := bnd_n hu en123
    exact hu
theorem rG_X4_subtractDigits_9 (vog : Nat → Int32) (n103 : Bool) (t_9 : Bool × Int32 × (Nat → Int32)) {u9 : Bool} (hu : u9 = G_X4_subtractDigits_9 vog n103 t_9) : RG_X4_subtractDigits_9 vog n103 t_9 u9 := by
  unfold RG_X4_subtractDigits_9
  refine ite_P (fun c_104 => ?_) (fun c_104 => ?_)
  · have hu := hu.trans (if_pos c_104)
    exact hu
  · have hu := hu.trans (if_neg c_104)
    exact hu
def SB_X4_subtractDigits_9 (vog : Nat → Int32) (n103 : Bool) (t_9 : Bool × Int32 × (Nat → Int32)) : Prop := (if 900 ≤ t_9.2.1 then True else ((if n103 = true then vp_in t_9.2.1 900 else vp_in t_9.2.1 900)) ∧ (∀ z109 : Int32, z109 = Z_X4_subtractDigits_J_110 vog n103 t_9 → (∀ n111 : Int32, n111 = z109 - (bI t_9.1) → (∀ z114 : Bool, z114 = Z_X4_subtractDigits_J_115 n111 → (∀ z118 : Int32, z118 = Z_X4_subtractDigits_J_119 n111 → vp_in t_9.2.1 900)))))
def F_X4_subtractDigits (vdg : Nat → Int32) (vog : Nat → Int32)  : Bool × (Nat → Int32) := (bnd (F_X4_less vdg vog) (fun n103 : Bool => (bnd (wl (G_X4_subtractDigits_9 vog n103) (B_X4_subtractDigits_9 vog n103) 901 (false, 0, vdg)) (fun z124 : Bool × Int32 × (Nat → Int32) => (n103, z124.2.2)))))
def RF_X4_subtractDigits (vdg : Nat → Int32) (vog : Nat → Int32)  (u9 : Bool × (Nat → Int32)) : Prop := (∀ n103 : Bool, n103 = F_X4_less vdg vog → (∀ z124 : Bool × Int32 × (Nat → Int32), z124 = wl (G_X4_subtractDigits_9 vog n103) (B_X4_subtractDigits_9 vog n103) 901 (false, 0, vdg) → u9 = (n103, z124.2.2)))
theorem rF_X4_subtractDigits (vdg : Nat → Int32) (vog : Nat → Int32)  {u9 : Bool × (Nat → Int32)} (hu : u9 = F_X4_subtractDigits vdg vog) : RF_X4_subtractDigits vdg vog u9 := by
  unfold RF_X4_subtractDigits
  intro n103 en103
  have hu := bnd_n hu en103
  intro z124 ez124
  have hu := bnd_n hu ez124
  exact hu
def S_X4_subtractDigits (vdg : Nat → Int32) (vog : Nat → Int32)  : Prop := (S_X4_less vdg vog) ∧ (∀ n103 : Bool, n103 = F_X4_less vdg vog → (∀ j : Nat, j < nW (G_X4_subtractDigits_9 vog n103) (B_X4_subtractDigits_9 vog n103) 901 (false, 0, vdg) → SB_X4_subtractDigits_9 vog n103 (itn (B_X4_subtractDigits_9 vog n103) j (false, 0, vdg))) ∧ G_X4_subtractDigits_9 vog n103 (wl (G_X4_subtractDigits_9 vog n103) (B_X4_subtractDigits_9 vog n103) 901 (false, 0, vdg)) = false)
def rm_X4_subtractDigits : Room := { frames := 1, cells := 0, slots := 0, locals := 21 }
set_option maxHeartbeats 4000000 in
set_option maxRecDepth 100000 in
theorem c_X4_subtractDigits (l : Launch) (D : va_G) (cR cI cJ cZ : ClassId) (t0 : Nat) (am ak an ac ae ag aq : Nat) (vth : Int32) (vmo : Int32) (vfg : Int32) (vtp : Int32) (vkd : Int32) (vng : Bool) (vcc : Int64) (vqq : Int32) (vrs : Int32) (vct : Int32) (vun : Int32) (vre : Bool) (vks : Nat → Int32) (vms : Nat → Bool) (vcs : Nat → Int64) (ves : Nat → Int32) (vdg : Nat → Int32) (vog : Nat → Int32)  (u : Bool × (Nat → Int32)) (hu : u = F_X4_subtractDigits vdg vog) (hs : S_X4_subtractDigits vdg vog) : XM l D (xty cR cI cJ cZ) t0 yX4_subtractDigits cX4_subtractDigits 5 (some .boolean) rm_X4_subtractDigits [.ref am] (some (.int (bI u.1))) (mw cI cJ cZ am ak an ac ae ag aq vth vmo vfg vtp vkd vng vcc vqq vrs vct vun vre vks vms vcs ves vdg vog) (mw cI cJ cZ am ak an ac ae ag aq vth vmo vfg vtp vkd vng vcc vqq vrs vct vun vre vks vms vcs ves u.2 vog) := by
  refine XM.of (by decide) (Nat.le_of_ble_eq_true rfl) ?_
  intro p e s m args below meth c A Q F hK hP hD hA hSt hS hQ ls hl
  obtain ⟨hx, hb, hr, hts, hown, hlocks, hml⟩ := F
  have hCF : CallFix p m c cX4_subtractDigits 5 s args gW RX4 := ⟨hx, hb, hml, hown, hts⟩
  unfold S_X4_subtractDigits at hs
  have hu := rF_X4_subtractDigits vdg vog hu
  unfold RF_X4_subtractDigits at hu
  obtain ⟨H, eH⟩ : ∃ y9 : Heap, y9 = s.heap := ⟨_, rfl⟩
  obtain ⟨locs, eL⟩ : ∃ y9 : List Loc, y9 = [] := ⟨_, rfl⟩
  rw [← eL] at hS ⊢
  have hP : va_P D vwCl (mw cI cJ cZ am ak an ac ae ag aq vth vmo vfg vtp vkd vng vcc vqq vrs vct vun vre vks vms vcs ves vdg vog) H := by rw [eH]; exact hP
  have hS : va_S A s.heap H locs := by rw [eH]; exact hS
  suffices goal9 : W p l e rm_X4_subtractDigits s m args below meth c H locs 0 0 Q (F0 m 0 ls []) from by rw [← eH]; exact goal9
  have hl : lv_has ls 5 [(0, .ref am)] := hl
  have hi4 : ∀ w ∈ wsX40, w ∈ gW := inW_X4
  refine lv_aload_n hx hb dX4_subtractDigits_0 rfl (lv_at hl 0 rfl) ?_
  obtain ⟨h_101, hs⟩ := hs
  refine x_V (As := []) (rest := []) hCF (c_X4_less l D cR cI cJ cZ t0 am ak an ac ae ag aq vth vmo vfg vtp vkd vng vcc vqq vrs vct vun vre vks vms vcs ves vdg vog _ rfl h_101) (x_cwV 0 hts (inW_10 _ (List.mem_of_getElem? (i := 14) rfl)) (inW_10 _ (List.mem_of_getElem? (i := 15) rfl)) (inW_10 _ (List.mem_of_getElem? (i := 16) rfl)) (inW_9 _ (List.mem_of_getElem? (i := 5) rfl)) (inW_10 _ (List.mem_of_getElem? (i := 11) rfl)) rfl rfl (by decide +kernel) ⟨Nat.le_of_ble_eq_true rfl, Nat.le_of_ble_eq_true rfl⟩) hK hP hD hS hA hSt 0 rfl rfl rfl hl.1 rfl (Nat.le_of_ble_eq_true rfl) dX4_subtractDigits_1 ⟨Nat.le_of_ble_eq_true rfl, Nat.le_of_ble_eq_true rfl⟩ (fun H locs hP hD hS => ?_)
  show W p l e _ s m args below meth c H locs 0 0 Q (F0 m 4 ls (.int (bI (F_X4_less vdg vog)) :: []))
  refine x_topb (fun n103 en103 => ?_)
  have hs := hs _ en103
  have hu := hu _ en103
  refine lv_istore_n (lv' := [(1, .int (bI n103)), (0, .ref am)]) hx hb dX4_subtractDigits_4 rfl hl (by decide) rfl (fun ls hl => ?_)
  refine lv_iconst (v := 0) hx hb dX4_subtractDigits_5 (by decide) ?_
  refine lv_istore_n (lv' := [(2, .int 0), (1, .int (bI n103)), (0, .ref am)]) hx hb dX4_subtractDigits_6 rfl hl (by decide) rfl (fun ls hl => ?_)
  refine lv_iconst (v := 0) hx hb dX4_subtractDigits_7 (by decide) ?_
  refine lv_istore_n (lv' := [(3, .int 0), (2, .int 0), (1, .int (bI n103)), (0, .ref am)]) hx hb dX4_subtractDigits_8 rfl hl (by decide) rfl (fun ls hl => ?_)
  have L_129 : ∀ (n9 : Nat) (t_9 : Bool × Int32 × (Nat → Int32)), (∀ j : Nat, j < n9 → G_X4_subtractDigits_9 vog n103 (itn (B_X4_subtractDigits_9 vog n103) j t_9) = true) → (∀ j : Nat, j < n9 → SB_X4_subtractDigits_9 vog n103 (itn (B_X4_subtractDigits_9 vog n103) j t_9)) → (∀ (H : Heap) (locs : List Loc), va_P D vwCl (mw cI cJ cZ am ak an ac ae ag aq vth vmo vfg vtp vkd vng vcc vqq vrs vct vun vre vks vms vcs ves ((itn (B_X4_subtractDigits_9 vog n103) n9 t_9).2.2) vog) H → va_D A (mw cI cJ cZ am ak an ac ae ag aq vth vmo vfg vtp vkd vng vcc vqq vrs vct vun vre vks vms vcs ves ((itn (B_X4_subtractDigits_9 vog n103) n9 t_9).2.2) vog) → va_S A s.heap H locs → ∀ ls : Array Slot, lv_has ls 5 [(0, .ref am), (1, .int (bI n103)), (2, .int (bI ((itn (B_X4_subtractDigits_9 vog n103) n9 t_9).1))), (3, .int ((itn (B_X4_subtractDigits_9 vog n103) n9 t_9).2.1))] → W p l e rm_X4_subtractDigits s m args below meth c H locs 0 0 Q (F0 m 9 ls [])) → ∀ (H : Heap) (locs : List Loc), va_P D vwCl (mw cI cJ cZ am ak an ac ae ag aq vth vmo vfg vtp vkd vng vcc vqq vrs vct vun vre vks vms vcs ves t_9.2.2 vog) H → va_D A (mw cI cJ cZ am ak an ac ae ag aq vth vmo vfg vtp vkd vng vcc vqq vrs vct vun vre vks vms vcs ves t_9.2.2 vog) → va_S A s.heap H locs → ∀ ls : Array Slot, lv_has ls 5 [(0, .ref am), (1, .int (bI n103)), (2, .int (bI t_9.1)), (3, .int t_9.2.1)] → W p l e rm_X4_subtractDigits s m args below meth c H locs 0 0 Q (F0 m 9 ls []) := by
    intro n9
    induction n9 with
    | zero => exact fun _ _ _ k9 => k9
    | succ n9 ih9 =>
      intro t_9 hG9 hs9 k9 H locs hP hD hS ls hl
      have hG0 : G_X4_subtractDigits_9 vog n103 t_9 = true := hG9 0 (Nat.succ_pos n9)
      have hg := rG_X4_subtractDigits_9 vog n103 t_9 (Eq.symm hG0)
      unfold RG_X4_subtractDigits_9 at hg
      obtain ⟨t9, et9⟩ : ∃ y9 : Bool × Int32 × (Nat → Int32), y9 = (B_X4_subtractDigits_9 vog n103) t_9 := ⟨_, rfl⟩
      have hb9 := rB_X4_subtractDigits_9 vog n103 t_9 et9
      unfold RB_X4_subtractDigits_9 at hb9
      have hs : SB_X4_subtractDigits_9 vog n103 t_9 := hs9 0 (Nat.succ_pos n9)
      unfold SB_X4_subtractDigits_9 at hs
      refine lv_iload_n hx hb dX4_subtractDigits_9 rfl (lv_at hl 3 rfl) ?_
      refine lv_sipush (v := 900) hx hb dX4_subtractDigits_10 (by decide) ?_
      refine lv_icmp_ge (tgt := 91) hx hb dX4_subtractDigits_13 (by decide) (fun c_104 => ?_) (fun c_104 => ?_)
      · rw [if_pos c_104] at hg
        exact absurd hg (by decide)
      · rw [if_neg c_104] at hs
        rw [if_neg c_104] at hg
        rw [if_neg c_104] at hb9
        refine lv_iload_n hx hb dX4_subtractDigits_16 rfl (lv_at hl 1 rfl) ?_
        have J_110 : (∀ z109 : Int32, z109 = Z_X4_subtractDigits_J_110 vog n103 t_9 → ∀ (H : Heap) (locs : List Loc), va_P D vwCl (mw cI cJ cZ am ak an ac ae ag aq vth vmo vfg vtp vkd vng vcc vqq vrs vct vun vre vks vms vcs ves t_9.2.2 vog) H → va_D A (mw cI cJ cZ am ak an ac ae ag aq vth vmo vfg vtp vkd vng vcc vqq vrs vct vun vre vks vms vcs ves t_9.2.2 vog) → va_S A s.heap H locs → ∀ ls : Array Slot, lv_has ls 5 [(0, .ref am), (1, .int (bI n103)), (2, .int (bI t_9.1)), (3, .int t_9.2.1)] → W p l e rm_X4_subtractDigits s m args below meth c H locs 0 0 Q (F0 m 49 ls [.int z109])) := by
          intro z109 ez109 H locs hP hD hS ls hl
          have hs := hs.2
          have hs := hs _ ez109
          have hb9 := hb9 _ ez109
          refine lv_iload_n hx hb dX4_subtractDigits_49 rfl (lv_at hl 2 rfl) ?_
          refine lv_isub hx hb dX4_subtractDigits_50 ?_
          refine lv_topi (fun n111 en111 => ?_)
          have hs := hs _ en111
          have hb9 := hb9 _ en111
          refine lv_istore (lv' := [(4, .int n111), (0, .ref am), (1, .int (bI n103)), (2, .int (bI t_9.1)), (3, .int t_9.2.1)]) hx hb dX4_subtractDigits_51 hl (by decide) rfl (fun ls hl => ?_)
          refine lv_iload hx hb dX4_subtractDigits_53 (lv_at hl 0 rfl) ?_
          have J_115 : (∀ z114 : Bool, z114 = Z_X4_subtractDigits_J_115 n111 → ∀ (H : Heap) (locs : List Loc), va_P D vwCl (mw cI cJ cZ am ak an ac ae ag aq vth vmo vfg vtp vkd vng vcc vqq vrs vct vun vre vks vms vcs ves t_9.2.2 vog) H → va_D A (mw cI cJ cZ am ak an ac ae ag aq vth vmo vfg vtp vkd vng vcc vqq vrs vct vun vre vks vms vcs ves t_9.2.2 vog) → va_S A s.heap H locs → ∀ ls : Array Slot, lv_has ls 5 [(0, .ref am), (1, .int (bI n103)), (3, .int t_9.2.1), (4, .int n111)] → W p l e rm_X4_subtractDigits s m args below meth c H locs 0 0 Q (F0 m 63 ls [.int (bI z114)])) := by
            intro z114 ez114 H locs hP hD hS ls hl
            have hs := hs _ ez114
            have hb9 := hb9 _ ez114
            refine lv_istore_n (lv' := [(2, .int (bI z114)), (0, .ref am), (1, .int (bI n103)), (3, .int t_9.2.1), (4, .int n111)]) hx hb dX4_subtractDigits_63 rfl hl (by decide) rfl (fun ls hl => ?_)
            refine lv_aload_n hx hb dX4_subtractDigits_64 rfl (lv_at hl 1 rfl) ?_
            refine va_get (D := D) (ci := 5) (v := .ref ag) (C := RX4) (T := TX4) (N := 18) hx hb hts hi4 hown hK hP 0 rfl rfl 14 (by decide) (hts (.fieldLink RX4 24 "DecimalWordsModel" "digits" "[I") (inW_8 _ (List.mem_of_getElem? (i := 35) rfl))) (fun _ h9 => h9) rfl dX4_subtractDigits_65 ?_
            refine lv_iload_n hx hb dX4_subtractDigits_68 rfl (lv_at hl 3 rfl) ?_
            refine lv_iload hx hb dX4_subtractDigits_69 (lv_at hl 4 rfl) ?_
            have J_119 : (∀ z118 : Int32, z118 = Z_X4_subtractDigits_J_119 n111 → ∀ (H : Heap) (locs : List Loc), va_P D vwCl (mw cI cJ cZ am ak an ac ae ag aq vth vmo vfg vtp vkd vng vcc vqq vrs vct vun vre vks vms vcs ves t_9.2.2 vog) H → va_D A (mw cI cJ cZ am ak an ac ae ag aq vth vmo vfg vtp vkd vng vcc vqq vrs vct vun vre vks vms vcs ves t_9.2.2 vog) → va_S A s.heap H locs → ∀ ls : Array Slot, lv_has ls 5 [(0, .ref am), (1, .int (bI n103)), (2, .int (bI z114)), (3, .int t_9.2.1)] → W p l e rm_X4_subtractDigits s m args below meth c H locs 0 0 Q (F0 m 84 ls [.int z118, .int t_9.2.1, .ref ag])) := by
              intro z118 ez118 H locs hP hD hS ls hl
              have hs := hs _ ez118
              have hb9 := hb9 _ ez118
              have h_120 := hs
              refine va_iast hx hb hK hP hD hS 5 1 rfl rfl h_120 dX4_subtractDigits_84 (fun H locs hP hD hS => ?_)
              obtain ⟨w121, ew121⟩ : ∃ y9 : Nat → Int32, y9 = va_up t_9.2.2 t_9.2.1.toNatClampNeg z118 := ⟨_, rfl⟩
              have hb9 := hb9 _ ew121
              have hP : va_P D vwCl (mw cI cJ cZ am ak an ac ae ag aq vth vmo vfg vtp vkd vng vcc vqq vrs vct vun vre vks vms vcs ves w121 vog) H := by rw [ew121]; exact hP
              have hD : va_D A (mw cI cJ cZ am ak an ac ae ag aq vth vmo vfg vtp vkd vng vcc vqq vrs vct vun vre vks vms vcs ves w121 vog) := by rw [ew121]; exact hD
              obtain ⟨n123, en123⟩ : ∃ y9 : Int32, y9 = t_9.2.1 + 1 := ⟨_, rfl⟩
              have hb9 := hb9 _ en123
              refine lv_iinc (v := n123) (lv' := [(3, .int n123), (0, .ref am), (1, .int (bI n103)), (2, .int (bI z114))]) hx hb dX4_subtractDigits_85 hl (k := 3) rfl (by rw [en123]; rfl) (by decide) rfl (fun ls hl => ?_)
              refine lv_goto (tgt := 9) hx hb dX4_subtractDigits_88 (by decide) ?_
              have e9 := Eq.symm hb9; subst e9
              have key9 := ih9 ((B_X4_subtractDigits_9 vog n103) t_9) (fun j hj => hG9 (j + 1) (Nat.succ_lt_succ hj)) (fun j hj => hs9 (j + 1) (Nat.succ_lt_succ hj)) k9
              rw [← et9] at key9
              exact key9 H locs hP hD hS ls (lv_sub hl [1, 2, 3, 0] rfl)
            obtain ⟨z9, ez9⟩ : ∃ y9 : Int32, y9 = Z_X4_subtractDigits_J_119 n111 := ⟨_, rfl⟩
            have hz := rZ_X4_subtractDigits_J_119 n111 ez9
            unfold RZ_X4_subtractDigits_J_119 at hz
            refine lv_if_ge (tgt := 82) hx hb dX4_subtractDigits_71 (by decide) (fun c_116 => ?_) (fun c_116 => ?_)
            · rw [if_pos c_116] at hz
              refine lv_iload hx hb dX4_subtractDigits_82 (lv_at hl 4 rfl) ?_
              have e9 := Eq.symm hz; subst e9
              exact J_119 _ ez9 H locs hP hD hS ls (lv_sub hl [1, 2, 0, 3] rfl)
            · rw [if_neg c_116] at hz
              refine lv_iload hx hb dX4_subtractDigits_74 (lv_at hl 4 rfl) ?_
              refine lv_bipush (v := 10) hx hb dX4_subtractDigits_76 (by decide) ?_
              refine lv_iadd hx hb dX4_subtractDigits_78 ?_
              refine lv_goto (tgt := 84) hx hb dX4_subtractDigits_79 (by decide) ?_
              have e9 := Eq.symm hz; subst e9
              exact J_119 _ ez9 H locs hP hD hS ls (lv_sub hl [1, 2, 0, 3] rfl)
          obtain ⟨z9, ez9⟩ : ∃ y9 : Bool, y9 = Z_X4_subtractDigits_J_115 n111 := ⟨_, rfl⟩
          have hz := rZ_X4_subtractDigits_J_115 n111 ez9
          unfold RZ_X4_subtractDigits_J_115 at hz
          refine lv_if_ge (tgt := 62) hx hb dX4_subtractDigits_55 (by decide) (fun c_112 => ?_) (fun c_112 => ?_)
          · rw [if_pos c_112] at hz
            refine lv_iconst (v := 0) hx hb dX4_subtractDigits_62 (by decide) ?_
            have e9 := Eq.symm hz; subst e9
            exact J_115 _ ez9 H locs hP hD hS ls (lv_sub hl [1, 2, 4, 0] rfl)
          · rw [if_neg c_112] at hz
            refine lv_iconst (v := 1) hx hb dX4_subtractDigits_58 (by decide) ?_
            refine lv_goto (tgt := 63) hx hb dX4_subtractDigits_59 (by decide) ?_
            have e9 := Eq.symm hz; subst e9
            exact J_115 _ ez9 H locs hP hD hS ls (lv_sub hl [1, 2, 4, 0] rfl)
        have hs := hs.1
        obtain ⟨z9, ez9⟩ : ∃ y9 : Int32, y9 = Z_X4_subtractDigits_J_110 vog n103 t_9 := ⟨_, rfl⟩
        have hz := rZ_X4_subtractDigits_J_110 vog n103 t_9 ez9
        unfold RZ_X4_subtractDigits_J_110 at hz
        refine xb_eq (tgt := 36) hx hb dX4_subtractDigits_17 (by decide) (fun c_105 => ?_) (fun c_105 => ?_)
        · rw [if_neg c_105] at hs
          rw [if_neg c_105] at hz
          refine lv_aload_n hx hb dX4_subtractDigits_36 rfl (lv_at hl 0 rfl) ?_
          refine va_get (D := D) (ci := 5) (v := .ref ag) (C := RX4) (T := TX4) (N := 18) hx hb hts hi4 hown hK hP 0 rfl rfl 14 (by decide) (hts (.fieldLink RX4 24 "DecimalWordsModel" "digits" "[I") (inW_8 _ (List.mem_of_getElem? (i := 35) rfl))) (fun _ h9 => h9) rfl dX4_subtractDigits_37 ?_
          refine lv_iload_n hx hb dX4_subtractDigits_40 rfl (lv_at hl 3 rfl) ?_
          have h_106 := hs
          refine va_iald hx hb hK hP 5 1 rfl rfl h_106 dX4_subtractDigits_41 ?_
          refine lv_aload_n hx hb dX4_subtractDigits_42 rfl (lv_at hl 0 rfl) ?_
          refine va_get (D := D) (ci := 5) (v := .ref aq) (C := RX4) (T := TX4) (N := 18) hx hb hts hi4 hown hK hP 0 rfl rfl 15 (by decide) (hts (.fieldLink RX4 27 "DecimalWordsModel" "others" "[I") (inW_8 _ (List.mem_of_getElem? (i := 36) rfl))) (fun _ h9 => h9) rfl dX4_subtractDigits_43 ?_
          refine lv_iload_n hx hb dX4_subtractDigits_46 rfl (lv_at hl 3 rfl) ?_
          refine va_iald hx hb hK hP 6 1 rfl rfl h_106 dX4_subtractDigits_47 ?_
          refine lv_isub hx hb dX4_subtractDigits_48 ?_
          have e9 := Eq.symm hz; subst e9
          exact J_110 _ ez9 H locs hP hD hS ls (lv_sub hl [0, 1, 2, 3] rfl)
        · rw [if_pos c_105] at hs
          rw [if_pos c_105] at hz
          refine lv_aload_n hx hb dX4_subtractDigits_20 rfl (lv_at hl 0 rfl) ?_
          refine va_get (D := D) (ci := 5) (v := .ref aq) (C := RX4) (T := TX4) (N := 18) hx hb hts hi4 hown hK hP 0 rfl rfl 15 (by decide) (hts (.fieldLink RX4 27 "DecimalWordsModel" "others" "[I") (inW_8 _ (List.mem_of_getElem? (i := 36) rfl))) (fun _ h9 => h9) rfl dX4_subtractDigits_21 ?_
          refine lv_iload_n hx hb dX4_subtractDigits_24 rfl (lv_at hl 3 rfl) ?_
          have h_107 := hs
          refine va_iald hx hb hK hP 6 1 rfl rfl h_107 dX4_subtractDigits_25 ?_
          refine lv_aload_n hx hb dX4_subtractDigits_26 rfl (lv_at hl 0 rfl) ?_
          refine va_get (D := D) (ci := 5) (v := .ref ag) (C := RX4) (T := TX4) (N := 18) hx hb hts hi4 hown hK hP 0 rfl rfl 14 (by decide) (hts (.fieldLink RX4 24 "DecimalWordsModel" "digits" "[I") (inW_8 _ (List.mem_of_getElem? (i := 35) rfl))) (fun _ h9 => h9) rfl dX4_subtractDigits_27 ?_
          refine lv_iload_n hx hb dX4_subtractDigits_30 rfl (lv_at hl 3 rfl) ?_
          refine va_iald hx hb hK hP 5 1 rfl rfl h_107 dX4_subtractDigits_31 ?_
          refine lv_isub hx hb dX4_subtractDigits_32 ?_
          refine lv_goto (tgt := 49) hx hb dX4_subtractDigits_33 (by decide) ?_
          have e9 := Eq.symm hz; subst e9
          exact J_110 _ ez9 H locs hP hD hS ls (lv_sub hl [0, 1, 2, 3] rfl)
  obtain ⟨hsL, hG1⟩ := hs
  refine L_129 (nW (G_X4_subtractDigits_9 vog n103) (B_X4_subtractDigits_9 vog n103) 901 (false, 0, vdg)) (false, 0, vdg) (nW_lt _ _ _ _) hsL (fun H locs hP hD hS ls hl => ?_) H locs hP hD hS ls (lv_sub hl [3, 2, 1, 0] rfl)
  obtain ⟨z124, ez124⟩ : ∃ y9 : Bool × Int32 × (Nat → Int32), y9 = wl (G_X4_subtractDigits_9 vog n103) (B_X4_subtractDigits_9 vog n103) 901 (false, 0, vdg) := ⟨_, rfl⟩
  have e9 : z124 = itn (B_X4_subtractDigits_9 vog n103) (nW (G_X4_subtractDigits_9 vog n103) (B_X4_subtractDigits_9 vog n103) 901 (false, 0, vdg)) (false, 0, vdg) := ez124
  try rw [← e9] at hP
  try rw [← e9] at hD
  try rw [← e9] at hl
  rw [← ez124] at hG1
  clear e9
  have hg := rG_X4_subtractDigits_9 vog n103 z124 (Eq.symm hG1)
  unfold RG_X4_subtractDigits_9 at hg
  have hu := hu _ ez124
  refine lv_iload_n hx hb dX4_subtractDigits_9 rfl (lv_at hl 3 rfl) ?_
  refine lv_sipush (v := 900) hx hb dX4_subtractDigits_10 (by decide) ?_
  have J_128 : ∀ (H : Heap) (locs : List Loc), va_P D vwCl (mw cI cJ cZ am ak an ac ae ag aq vth vmo vfg vtp vkd vng vcc vqq vrs vct vun vre vks vms vcs ves z124.2.2 vog) H → va_D A (mw cI cJ cZ am ak an ac ae ag aq vth vmo vfg vtp vkd vng vcc vqq vrs vct vun vre vks vms vcs ves z124.2.2 vog) → va_S A s.heap H locs → ∀ ls : Array Slot, lv_has ls 5 [(1, .int (bI n103))] → W p l e rm_X4_subtractDigits s m args below meth c H locs 0 0 Q (F0 m 91 ls []) := by
    intro H locs hP hD hS ls hl
    refine lv_iload_n hx hb dX4_subtractDigits_91 rfl (lv_at hl 0 rfl) ?_
    have e9 := Eq.symm hu; subst e9
    exact x_zret (v := n103) hx hb hr hlocks hQ hK hP hD hS rfl rfl dX4_subtractDigits_92
  refine lv_icmp_ge (tgt := 91) hx hb dX4_subtractDigits_13 (by decide) (fun c_126 => ?_) (fun c_126 => ?_)
  · rw [if_pos c_126] at hg
    exact J_128 H locs hP hD hS ls (lv_sub hl [1] rfl)
  · rw [if_neg c_126] at hg
    exact absurd hg (by decide)

def B_X4_lengthOf_5  (t_5 : Int32 × Int64) : Int32 × Int64 := (if t_5.2 ≤ 0 then t_5 else (bnd (t_5.1 + 1) (fun n102 : Int32 => (bnd (t_5.2 / 10) (fun n103 : Int64 => (n102, n103))))))
def G_X4_lengthOf_5  (t_5 : Int32 × Int64) : Bool := (if t_5.2 ≤ 0 then false else (bnd (t_5.1 + 1) (fun n102 : Int32 => (bnd (t_5.2 / 10) (fun n103 : Int64 => true)))))
def RB_X4_lengthOf_5  (t_5 : Int32 × Int64) (u9 : Int32 × Int64) : Prop := (if t_5.2 ≤ 0 then True else (∀ n102 : Int32, n102 = t_5.1 + 1 → (∀ n103 : Int64, n103 = t_5.2 / 10 → u9 = (n102, n103))))
def RG_X4_lengthOf_5  (t_5 : Int32 × Int64) (u9 : Bool) : Prop := (if t_5.2 ≤ 0 then u9 = false else u9 = true)
theorem rB_X4_lengthOf_5  (t_5 : Int32 × Int64) {u9 : Int32 × Int64} (hu : u9 = B_X4_lengthOf_5  t_5) : RB_X4_lengthOf_5  t_5 u9 := by
  unfold RB_X4_lengthOf_5
  refine ite_P (fun c_101 => ?_) (fun c_101 => ?_)
  · have hu := hu.trans (if_pos c_101)
    trivial
  · have hu := hu.trans (if_neg c_101)
    intro n102 en102
    have hu := bnd_n hu en102
    intro n103 en103
    have hu := bnd_n hu en103
    exact hu
theorem rG_X4_lengthOf_5  (t_5 : Int32 × Int64) {u9 : Bool} (hu : u9 = G_X4_lengthOf_5  t_5) : RG_X4_lengthOf_5  t_5 u9 := by
  unfold RG_X4_lengthOf_5
  refine ite_P (fun c_101 => ?_) (fun c_101 => ?_)
  · have hu := hu.trans (if_pos c_101)
    exact hu
  · have hu := hu.trans (if_neg c_101)
    exact hu
def F_X4_lengthOf  (p0 : Int64) : Int32 := (bnd (wl (G_X4_lengthOf_5) (B_X4_lengthOf_5) 901 (0, p0)) (fun z104 : Int32 × Int64 => z104.1))
def RF_X4_lengthOf  (p0 : Int64) (u9 : Int32) : Prop := (∀ z104 : Int32 × Int64, z104 = wl (G_X4_lengthOf_5) (B_X4_lengthOf_5) 901 (0, p0) → u9 = z104.1)
theorem rF_X4_lengthOf  (p0 : Int64) {u9 : Int32} (hu : u9 = F_X4_lengthOf p0) : RF_X4_lengthOf p0 u9 := by
  unfold RF_X4_lengthOf
  intro z104 ez104
  have hu := bnd_n hu ez104
  exact hu
def S_X4_lengthOf  (p0 : Int64) : Prop := G_X4_lengthOf_5  (wl (G_X4_lengthOf_5) (B_X4_lengthOf_5) 901 (0, p0)) = false
def rm_X4_lengthOf : Room := { frames := 0, cells := 0, slots := 0, locals := 0 }
set_option maxHeartbeats 4000000 in
set_option maxRecDepth 100000 in
theorem c_X4_lengthOf (l : Launch) (D : va_G) (cR cI cJ cZ : ClassId) (t0 : Nat) (am ak an ac ae ag aq : Nat) (vth : Int32) (vmo : Int32) (vfg : Int32) (vtp : Int32) (vkd : Int32) (vng : Bool) (vcc : Int64) (vqq : Int32) (vrs : Int32) (vct : Int32) (vun : Int32) (vre : Bool) (vks : Nat → Int32) (vms : Nat → Bool) (vcs : Nat → Int64) (ves : Nat → Int32) (vdg : Nat → Int32) (vog : Nat → Int32) (p0 : Int64) (u : Int32) (hu : u = F_X4_lengthOf p0) (hs : S_X4_lengthOf p0) : XM l D (xty cR cI cJ cZ) t0 yX4_lengthOf cX4_lengthOf 6 (some .int) rm_X4_lengthOf [.ref am, .long p0] (some (.int u)) (mw cI cJ cZ am ak an ac ae ag aq vth vmo vfg vtp vkd vng vcc vqq vrs vct vun vre vks vms vcs ves vdg vog) (mw cI cJ cZ am ak an ac ae ag aq vth vmo vfg vtp vkd vng vcc vqq vrs vct vun vre vks vms vcs ves vdg vog) := by
  refine XM.of (by decide) (Nat.le_of_ble_eq_true rfl) ?_
  intro p e s m args below meth c A Q F hK hP hD hA hSt hS hQ ls hl
  obtain ⟨hx, hb, hr, hts, hown, hlocks, hml⟩ := F
  have hCF : CallFix p m c cX4_lengthOf 6 s args gW RX4 := ⟨hx, hb, hml, hown, hts⟩
  unfold S_X4_lengthOf at hs
  have hu := rF_X4_lengthOf p0 hu
  unfold RF_X4_lengthOf at hu
  obtain ⟨H, eH⟩ : ∃ y9 : Heap, y9 = s.heap := ⟨_, rfl⟩
  obtain ⟨locs, eL⟩ : ∃ y9 : List Loc, y9 = [] := ⟨_, rfl⟩
  rw [← eL] at hS ⊢
  have hP : va_P D vwCl (mw cI cJ cZ am ak an ac ae ag aq vth vmo vfg vtp vkd vng vcc vqq vrs vct vun vre vks vms vcs ves vdg vog) H := by rw [eH]; exact hP
  have hS : va_S A s.heap H locs := by rw [eH]; exact hS
  suffices goal9 : W p l e rm_X4_lengthOf s m args below meth c H locs 0 0 Q (F0 m 0 ls []) from by rw [← eH]; exact goal9
  have hl : lv_has ls 6 [(0, .ref am), (1, .long p0)] := hl
  refine lv_iconst (v := 0) hx hb dX4_lengthOf_0 (by decide) ?_
  refine lv_istore_n (lv' := [(3, .int 0), (0, .ref am), (1, .long p0)]) hx hb dX4_lengthOf_1 rfl hl (by decide) rfl (fun ls hl => ?_)
  refine lv_lload_n hx hb dX4_lengthOf_2 rfl (lv_at hl 2 rfl) ?_
  refine lv_lstore (lv' := [(4, .long p0), (3, .int 0), (0, .ref am), (1, .long p0)]) hx hb dX4_lengthOf_3 hl (by decide) rfl (fun ls hl => ?_)
  have L_109 : ∀ (n9 : Nat) (t_5 : Int32 × Int64), (∀ j : Nat, j < n9 → G_X4_lengthOf_5  (itn (B_X4_lengthOf_5) j t_5) = true) → (∀ (H : Heap) (locs : List Loc), va_P D vwCl (mw cI cJ cZ am ak an ac ae ag aq vth vmo vfg vtp vkd vng vcc vqq vrs vct vun vre vks vms vcs ves vdg vog) H → va_D A (mw cI cJ cZ am ak an ac ae ag aq vth vmo vfg vtp vkd vng vcc vqq vrs vct vun vre vks vms vcs ves vdg vog) → va_S A s.heap H locs → ∀ ls : Array Slot, lv_has ls 6 [(3, .int ((itn (B_X4_lengthOf_5) n9 t_5).1)), (4, .long ((itn (B_X4_lengthOf_5) n9 t_5).2))] → W p l e rm_X4_lengthOf s m args below meth c H locs 0 0 Q (F0 m 5 ls [])) → ∀ (H : Heap) (locs : List Loc), va_P D vwCl (mw cI cJ cZ am ak an ac ae ag aq vth vmo vfg vtp vkd vng vcc vqq vrs vct vun vre vks vms vcs ves vdg vog) H → va_D A (mw cI cJ cZ am ak an ac ae ag aq vth vmo vfg vtp vkd vng vcc vqq vrs vct vun vre vks vms vcs ves vdg vog) → va_S A s.heap H locs → ∀ ls : Array Slot, lv_has ls 6 [(3, .int t_5.1), (4, .long t_5.2)] → W p l e rm_X4_lengthOf s m args below meth c H locs 0 0 Q (F0 m 5 ls []) := by
    intro n9
    induction n9 with
    | zero => exact fun _ _ k9 => k9
    | succ n9 ih9 =>
      intro t_5 hG9 k9 H locs hP hD hS ls hl
      have hG0 : G_X4_lengthOf_5  t_5 = true := hG9 0 (Nat.succ_pos n9)
      have hg := rG_X4_lengthOf_5  t_5 (Eq.symm hG0)
      unfold RG_X4_lengthOf_5 at hg
      obtain ⟨t9, et9⟩ : ∃ y9 : Int32 × Int64, y9 = (B_X4_lengthOf_5) t_5 := ⟨_, rfl⟩
      have hb9 := rB_X4_lengthOf_5  t_5 et9
      unfold RB_X4_lengthOf_5 at hb9
      refine lv_lload hx hb dX4_lengthOf_5 (lv_at hl 1 rfl) ?_
      refine lv_lconst (v := 0) hx hb dX4_lengthOf_7 (by decide) ?_
      refine xl_le (tgt := 26) hx hb dX4_lengthOf_8 dX4_lengthOf_9 (by decide) (fun c_101 => ?_) (fun c_101 => ?_)
      · rw [if_pos c_101] at hg
        exact absurd hg (by decide)
      · rw [if_neg c_101] at hg
        rw [if_neg c_101] at hb9
        obtain ⟨n102, en102⟩ : ∃ y9 : Int32, y9 = t_5.1 + 1 := ⟨_, rfl⟩
        have hb9 := hb9 _ en102
        refine lv_iinc (v := n102) (lv' := [(3, .int n102), (4, .long t_5.2)]) hx hb dX4_lengthOf_12 hl (k := 0) rfl (by rw [en102]; rfl) (by decide) rfl (fun ls hl => ?_)
        refine lv_lload hx hb dX4_lengthOf_15 (lv_at hl 1 rfl) ?_
        refine lv_ldc2 (v := 10) hx hb hown (hts (.constantLong RX4 37 (10)) (inW_9 _ (List.mem_of_getElem? (i := 1) rfl))) dX4_lengthOf_17 ?_
        refine lv_ldiv hx hb dX4_lengthOf_20 (by decide) ?_
        refine lv_topl (fun n103 en103 => ?_)
        have hb9 := hb9 _ en103
        refine lv_lstore (lv' := [(4, .long n103), (3, .int n102)]) hx hb dX4_lengthOf_21 hl (by decide) rfl (fun ls hl => ?_)
        refine lv_goto (tgt := 5) hx hb dX4_lengthOf_23 (by decide) ?_
        have e9 := Eq.symm hb9; subst e9
        have key9 := ih9 ((B_X4_lengthOf_5) t_5) (fun j hj => hG9 (j + 1) (Nat.succ_lt_succ hj)) k9
        rw [← et9] at key9
        exact key9 H locs hP hD hS ls (lv_sub hl [1, 0] rfl)
  have hG1 := hs
  refine L_109 (nW (G_X4_lengthOf_5) (B_X4_lengthOf_5) 901 (0, p0)) (0, p0) (nW_lt _ _ _ _) (fun H locs hP hD hS ls hl => ?_) H locs hP hD hS ls (lv_sub hl [1, 0] rfl)
  obtain ⟨z104, ez104⟩ : ∃ y9 : Int32 × Int64, y9 = wl (G_X4_lengthOf_5) (B_X4_lengthOf_5) 901 (0, p0) := ⟨_, rfl⟩
  have e9 : z104 = itn (B_X4_lengthOf_5) (nW (G_X4_lengthOf_5) (B_X4_lengthOf_5) 901 (0, p0)) (0, p0) := ez104
  try rw [← e9] at hP
  try rw [← e9] at hD
  try rw [← e9] at hl
  rw [← ez104] at hG1
  clear e9
  have hg := rG_X4_lengthOf_5  z104 (Eq.symm hG1)
  unfold RG_X4_lengthOf_5 at hg
  have hu := hu _ ez104
  refine lv_lload hx hb dX4_lengthOf_5 (lv_at hl 1 rfl) ?_
  refine lv_lconst (v := 0) hx hb dX4_lengthOf_7 (by decide) ?_
  have J_108 : ∀ (H : Heap) (locs : List Loc), va_P D vwCl (mw cI cJ cZ am ak an ac ae ag aq vth vmo vfg vtp vkd vng vcc vqq vrs vct vun vre vks vms vcs ves vdg vog) H → va_D A (mw cI cJ cZ am ak an ac ae ag aq vth vmo vfg vtp vkd vng vcc vqq vrs vct vun vre vks vms vcs ves vdg vog) → va_S A s.heap H locs → ∀ ls : Array Slot, lv_has ls 6 [(3, .int z104.1)] → W p l e rm_X4_lengthOf s m args below meth c H locs 0 0 Q (F0 m 26 ls []) := by
    intro H locs hP hD hS ls hl
    refine lv_iload_n hx hb dX4_lengthOf_26 rfl (lv_at hl 0 rfl) ?_
    have e9 := Eq.symm hu; subst e9
    exact x_iret hx hb hr hlocks hQ hK hP hD hS rfl rfl dX4_lengthOf_27
  refine xl_le (tgt := 26) hx hb dX4_lengthOf_8 dX4_lengthOf_9 (by decide) (fun c_106 => ?_) (fun c_106 => ?_)
  · rw [if_pos c_106] at hg
    exact J_108 H locs hP hD hS ls (lv_sub hl [0] rfl)
  · rw [if_neg c_106] at hg
    exact absurd hg (by decide)

def F_X4_noRegister  (p0 : Int32) : Bool := (if p0 < 0 then true else (if p0 ≤ 7 then false else true))
def RF_X4_noRegister  (p0 : Int32) (u9 : Bool) : Prop := (if p0 < 0 then u9 = true else (if p0 ≤ 7 then u9 = false else u9 = true))
theorem rF_X4_noRegister  (p0 : Int32) {u9 : Bool} (hu : u9 = F_X4_noRegister p0) : RF_X4_noRegister p0 u9 := by
  unfold RF_X4_noRegister
  refine ite_P (fun c_101 => ?_) (fun c_101 => ?_)
  · have hu := hu.trans (if_pos c_101)
    exact hu
  · have hu := hu.trans (if_neg c_101)
    refine ite_P (fun c_102 => ?_) (fun c_102 => ?_)
    · have hu := hu.trans (if_pos c_102)
      exact hu
    · have hu := hu.trans (if_neg c_102)
      exact hu
def rm_X4_noRegister : Room := { frames := 0, cells := 0, slots := 0, locals := 0 }
set_option maxHeartbeats 4000000 in
set_option maxRecDepth 100000 in
theorem c_X4_noRegister (l : Launch) (D : va_G) (cR cI cJ cZ : ClassId) (t0 : Nat) (am ak an ac ae ag aq : Nat) (vth : Int32) (vmo : Int32) (vfg : Int32) (vtp : Int32) (vkd : Int32) (vng : Bool) (vcc : Int64) (vqq : Int32) (vrs : Int32) (vct : Int32) (vun : Int32) (vre : Bool) (vks : Nat → Int32) (vms : Nat → Bool) (vcs : Nat → Int64) (ves : Nat → Int32) (vdg : Nat → Int32) (vog : Nat → Int32) (p0 : Int32) (u : Bool) (hu : u = F_X4_noRegister p0) : XM l D (xty cR cI cJ cZ) t0 yX4_noRegister cX4_noRegister 2 (some .boolean) rm_X4_noRegister [.ref am, .int p0] (some (.int (bI u))) (mw cI cJ cZ am ak an ac ae ag aq vth vmo vfg vtp vkd vng vcc vqq vrs vct vun vre vks vms vcs ves vdg vog) (mw cI cJ cZ am ak an ac ae ag aq vth vmo vfg vtp vkd vng vcc vqq vrs vct vun vre vks vms vcs ves vdg vog) := by
  refine XM.of (by decide) (Nat.le_of_ble_eq_true rfl) ?_
  intro p e s m args below meth c A Q F hK hP hD hA hSt hS hQ ls hl
  obtain ⟨hx, hb, hr, hts, hown, hlocks, hml⟩ := F
  have hCF : CallFix p m c cX4_noRegister 2 s args gW RX4 := ⟨hx, hb, hml, hown, hts⟩
  have hu := rF_X4_noRegister p0 hu
  unfold RF_X4_noRegister at hu
  obtain ⟨H, eH⟩ : ∃ y9 : Heap, y9 = s.heap := ⟨_, rfl⟩
  obtain ⟨locs, eL⟩ : ∃ y9 : List Loc, y9 = [] := ⟨_, rfl⟩
  rw [← eL] at hS ⊢
  have hP : va_P D vwCl (mw cI cJ cZ am ak an ac ae ag aq vth vmo vfg vtp vkd vng vcc vqq vrs vct vun vre vks vms vcs ves vdg vog) H := by rw [eH]; exact hP
  have hS : va_S A s.heap H locs := by rw [eH]; exact hS
  suffices goal9 : W p l e rm_X4_noRegister s m args below meth c H locs 0 0 Q (F0 m 0 ls []) from by rw [← eH]; exact goal9
  have hl : lv_has ls 2 [(0, .ref am), (1, .int p0)] := hl
  refine lv_iload_n hx hb dX4_noRegister_0 rfl (lv_at hl 1 rfl) ?_
  refine lv_if_lt (tgt := 10) hx hb dX4_noRegister_1 (by decide) (fun c_101 => ?_) (fun c_101 => ?_)
  · rw [if_pos c_101] at hu
    refine lv_iconst (v := 1) hx hb dX4_noRegister_10 (by decide) ?_
    refine lv_goto (tgt := 15) hx hb dX4_noRegister_11 (by decide) ?_
    have e9 := Eq.symm hu; subst e9
    exact x_zret (v := true) hx hb hr hlocks hQ hK hP hD hS rfl rfl dX4_noRegister_15
  · rw [if_neg c_101] at hu
    refine lv_iload_n hx hb dX4_noRegister_4 rfl (lv_at hl 1 rfl) ?_
    refine lv_bipush (v := 7) hx hb dX4_noRegister_5 (by decide) ?_
    refine lv_icmp_le (tgt := 14) hx hb dX4_noRegister_7 (by decide) (fun c_102 => ?_) (fun c_102 => ?_)
    · rw [if_pos c_102] at hu
      refine lv_iconst (v := 0) hx hb dX4_noRegister_14 (by decide) ?_
      have e9 := Eq.symm hu; subst e9
      exact x_zret (v := false) hx hb hr hlocks hQ hK hP hD hS rfl rfl dX4_noRegister_15
    · rw [if_neg c_102] at hu
      refine lv_iconst (v := 1) hx hb dX4_noRegister_10 (by decide) ?_
      refine lv_goto (tgt := 15) hx hb dX4_noRegister_11 (by decide) ?_
      have e9 := Eq.symm hu; subst e9
      exact x_zret (v := true) hx hb hr hlocks hQ hK hP hD hS rfl rfl dX4_noRegister_15

def F_X4_store (vkd : Int32) (vng : Bool) (vcc : Int64) (vqq : Int32) (vks : Nat → Int32) (vms : Nat → Bool) (vcs : Nat → Int64) (ves : Nat → Int32) (p0 : Int32) : (Nat → Int32) × (Nat → Bool) × (Nat → Int64) × (Nat → Int32) := (bnd (va_up vks p0.toNatClampNeg vkd) (fun w102 : Nat → Int32 => (bnd (va_up vms p0.toNatClampNeg vng) (fun w104 : Nat → Bool => (bnd (va_up vcs p0.toNatClampNeg vcc) (fun w106 : Nat → Int64 => (bnd (va_up ves p0.toNatClampNeg vqq) (fun w108 : Nat → Int32 => (w102, w104, w106, w108)))))))))
def RF_X4_store (vkd : Int32) (vng : Bool) (vcc : Int64) (vqq : Int32) (vks : Nat → Int32) (vms : Nat → Bool) (vcs : Nat → Int64) (ves : Nat → Int32) (p0 : Int32) (u9 : (Nat → Int32) × (Nat → Bool) × (Nat → Int64) × (Nat → Int32)) : Prop := (∀ w102 : Nat → Int32, w102 = va_up vks p0.toNatClampNeg vkd → (∀ w104 : Nat → Bool, w104 = va_up vms p0.toNatClampNeg vng → (∀ w106 : Nat → Int64, w106 = va_up vcs p0.toNatClampNeg vcc → (∀ w108 : Nat → Int32, w108 = va_up ves p0.toNatClampNeg vqq → u9 = (w102, w104, w106, w108)))))
theorem rF_X4_store (vkd : Int32) (vng : Bool) (vcc : Int64) (vqq : Int32) (vks : Nat → Int32) (vms : Nat → Bool) (vcs : Nat → Int64) (ves : Nat → Int32) (p0 : Int32) {u9 : (Nat → Int32) × (Nat → Bool) × (Nat → Int64) × (Nat → Int32)} (hu : u9 = F_X4_store vkd vng vcc vqq vks vms vcs ves p0) : RF_X4_store vkd vng vcc vqq vks vms vcs ves p0 u9 := by
  unfold RF_X4_store
  intro w102 ew102
  have hu := bnd_n hu ew102
  intro w104 ew104
  have hu := bnd_n hu ew104
  intro w106 ew106
  have hu := bnd_n hu ew106
  intro w108 ew108
  have hu := bnd_n hu ew108
  exact hu
def S_X4_store (vkd : Int32) (vng : Bool) (vcc : Int64) (vqq : Int32) (vks : Nat → Int32) (vms : Nat → Bool) (vcs : Nat → Int64) (ves : Nat → Int32) (p0 : Int32) : Prop := vp_in p0 8
def rm_X4_store : Room := { frames := 0, cells := 0, slots := 0, locals := 0 }
set_option maxHeartbeats 4000000 in
set_option maxRecDepth 100000 in
theorem c_X4_store (l : Launch) (D : va_G) (cR cI cJ cZ : ClassId) (t0 : Nat) (am ak an ac ae ag aq : Nat) (vth : Int32) (vmo : Int32) (vfg : Int32) (vtp : Int32) (vkd : Int32) (vng : Bool) (vcc : Int64) (vqq : Int32) (vrs : Int32) (vct : Int32) (vun : Int32) (vre : Bool) (vks : Nat → Int32) (vms : Nat → Bool) (vcs : Nat → Int64) (ves : Nat → Int32) (vdg : Nat → Int32) (vog : Nat → Int32) (p0 : Int32) (u : (Nat → Int32) × (Nat → Bool) × (Nat → Int64) × (Nat → Int32)) (hu : u = F_X4_store vkd vng vcc vqq vks vms vcs ves p0) (hs : S_X4_store vkd vng vcc vqq vks vms vcs ves p0) : XM l D (xty cR cI cJ cZ) t0 yX4_store cX4_store 2 none rm_X4_store [.ref am, .int p0] none (mw cI cJ cZ am ak an ac ae ag aq vth vmo vfg vtp vkd vng vcc vqq vrs vct vun vre vks vms vcs ves vdg vog) (mw cI cJ cZ am ak an ac ae ag aq vth vmo vfg vtp vkd vng vcc vqq vrs vct vun vre u.1 u.2.1 u.2.2.1 u.2.2.2 vdg vog) := by
  refine XM.of (by decide) (Nat.le_of_ble_eq_true rfl) ?_
  intro p e s m args below meth c A Q F hK hP hD hA hSt hS hQ ls hl
  obtain ⟨hx, hb, hr, hts, hown, hlocks, hml⟩ := F
  have hCF : CallFix p m c cX4_store 2 s args gW RX4 := ⟨hx, hb, hml, hown, hts⟩
  unfold S_X4_store at hs
  have hu := rF_X4_store vkd vng vcc vqq vks vms vcs ves p0 hu
  unfold RF_X4_store at hu
  obtain ⟨H, eH⟩ : ∃ y9 : Heap, y9 = s.heap := ⟨_, rfl⟩
  obtain ⟨locs, eL⟩ : ∃ y9 : List Loc, y9 = [] := ⟨_, rfl⟩
  rw [← eL] at hS ⊢
  have hP : va_P D vwCl (mw cI cJ cZ am ak an ac ae ag aq vth vmo vfg vtp vkd vng vcc vqq vrs vct vun vre vks vms vcs ves vdg vog) H := by rw [eH]; exact hP
  have hS : va_S A s.heap H locs := by rw [eH]; exact hS
  suffices goal9 : W p l e rm_X4_store s m args below meth c H locs 0 0 Q (F0 m 0 ls []) from by rw [← eH]; exact goal9
  have hl : lv_has ls 2 [(0, .ref am), (1, .int p0)] := hl
  have hi4 : ∀ w ∈ wsX40, w ∈ gW := inW_X4
  refine lv_aload_n hx hb dX4_store_0 rfl (lv_at hl 0 rfl) ?_
  refine va_get (D := D) (ci := 5) (v := .ref ak) (C := RX4) (T := TX4) (N := 18) hx hb hts hi4 hown hK hP 0 rfl rfl 1 (by decide) (hts (.fieldLink RX4 7 "DecimalWordsModel" "kinds" "[I") (inW_8 _ (List.mem_of_getElem? (i := 29) rfl))) (fun _ h9 => h9) rfl dX4_store_1 ?_
  refine lv_iload_n hx hb dX4_store_4 rfl (lv_at hl 1 rfl) ?_
  refine lv_aload_n hx hb dX4_store_5 rfl (lv_at hl 0 rfl) ?_
  refine va_get (D := D) (ci := 5) (v := .int vkd) (C := RX4) (T := TX4) (N := 18) hx hb hts hi4 hown hK hP 0 rfl rfl 8 (by decide) (hts (.fieldLink RX4 42 "DecimalWordsModel" "kind" "I") (inW_9 _ (List.mem_of_getElem? (i := 12) rfl))) (fun _ h9 => h9) rfl dX4_store_6 ?_
  have h_101 := hs
  refine va_iast hx hb hK hP hD hS 1 1 rfl rfl h_101 dX4_store_9 (fun H locs hP hD hS => ?_)
  obtain ⟨w102, ew102⟩ : ∃ y9 : Nat → Int32, y9 = va_up vks p0.toNatClampNeg vkd := ⟨_, rfl⟩
  have hu := hu _ ew102
  have hP : va_P D vwCl (mw cI cJ cZ am ak an ac ae ag aq vth vmo vfg vtp vkd vng vcc vqq vrs vct vun vre w102 vms vcs ves vdg vog) H := by rw [ew102]; exact hP
  have hD : va_D A (mw cI cJ cZ am ak an ac ae ag aq vth vmo vfg vtp vkd vng vcc vqq vrs vct vun vre w102 vms vcs ves vdg vog) := by rw [ew102]; exact hD
  refine lv_aload_n hx hb dX4_store_10 rfl (lv_at hl 0 rfl) ?_
  refine va_get (D := D) (ci := 5) (v := .ref an) (C := RX4) (T := TX4) (N := 18) hx hb hts hi4 hown hK hP 0 rfl rfl 2 (by decide) (hts (.fieldLink RX4 13 "DecimalWordsModel" "minus" "[Z") (inW_8 _ (List.mem_of_getElem? (i := 31) rfl))) (fun _ h9 => h9) rfl dX4_store_11 ?_
  refine lv_iload_n hx hb dX4_store_14 rfl (lv_at hl 1 rfl) ?_
  refine lv_aload_n hx hb dX4_store_15 rfl (lv_at hl 0 rfl) ?_
  refine va_get (D := D) (ci := 5) (v := .int (bI vng)) (C := RX4) (T := TX4) (N := 18) hx hb hts hi4 hown hK hP 0 rfl rfl 9 (by decide) (hts (.fieldLink RX4 45 "DecimalWordsModel" "negative" "Z") (inW_9 _ (List.mem_of_getElem? (i := 13) rfl))) (fun _ h9 => h9) rfl dX4_store_16 ?_
  refine x_zast (b := vng) hx hb hK hP hD hS 2 3 rfl rfl h_101 dX4_store_19 (fun H locs hP hD hS => ?_)
  obtain ⟨w104, ew104⟩ : ∃ y9 : Nat → Bool, y9 = va_up vms p0.toNatClampNeg vng := ⟨_, rfl⟩
  have hu := hu _ ew104
  have hP : va_P D vwCl (mw cI cJ cZ am ak an ac ae ag aq vth vmo vfg vtp vkd vng vcc vqq vrs vct vun vre w102 w104 vcs ves vdg vog) H := by rw [ew104]; exact hP
  have hD : va_D A (mw cI cJ cZ am ak an ac ae ag aq vth vmo vfg vtp vkd vng vcc vqq vrs vct vun vre w102 w104 vcs ves vdg vog) := by rw [ew104]; exact hD
  refine lv_aload_n hx hb dX4_store_20 rfl (lv_at hl 0 rfl) ?_
  refine va_get (D := D) (ci := 5) (v := .ref ac) (C := RX4) (T := TX4) (N := 18) hx hb hts hi4 hown hK hP 0 rfl rfl 3 (by decide) (hts (.fieldLink RX4 17 "DecimalWordsModel" "coefficients" "[J") (inW_8 _ (List.mem_of_getElem? (i := 33) rfl))) (fun _ h9 => h9) rfl dX4_store_21 ?_
  refine lv_iload_n hx hb dX4_store_24 rfl (lv_at hl 1 rfl) ?_
  refine lv_aload_n hx hb dX4_store_25 rfl (lv_at hl 0 rfl) ?_
  refine va_get (D := D) (ci := 5) (v := .long vcc) (C := RX4) (T := TX4) (N := 18) hx hb hts hi4 hown hK hP 0 rfl rfl 10 (by decide) (hts (.fieldLink RX4 49 "DecimalWordsModel" "c" "J") (inW_9 _ (List.mem_of_getElem? (i := 14) rfl))) (fun _ h9 => h9) rfl dX4_store_26 ?_
  refine va_last hx hb hK hP hD hS 3 2 rfl rfl h_101 dX4_store_29 (fun H locs hP hD hS => ?_)
  obtain ⟨w106, ew106⟩ : ∃ y9 : Nat → Int64, y9 = va_up vcs p0.toNatClampNeg vcc := ⟨_, rfl⟩
  have hu := hu _ ew106
  have hP : va_P D vwCl (mw cI cJ cZ am ak an ac ae ag aq vth vmo vfg vtp vkd vng vcc vqq vrs vct vun vre w102 w104 w106 ves vdg vog) H := by rw [ew106]; exact hP
  have hD : va_D A (mw cI cJ cZ am ak an ac ae ag aq vth vmo vfg vtp vkd vng vcc vqq vrs vct vun vre w102 w104 w106 ves vdg vog) := by rw [ew106]; exact hD
  refine lv_aload_n hx hb dX4_store_30 rfl (lv_at hl 0 rfl) ?_
  refine va_get (D := D) (ci := 5) (v := .ref ae) (C := RX4) (T := TX4) (N := 18) hx hb hts hi4 hown hK hP 0 rfl rfl 4 (by decide) (hts (.fieldLink RX4 21 "DecimalWordsModel" "exponents" "[I") (inW_8 _ (List.mem_of_getElem? (i := 34) rfl))) (fun _ h9 => h9) rfl dX4_store_31 ?_
  refine lv_iload_n hx hb dX4_store_34 rfl (lv_at hl 1 rfl) ?_
  refine lv_aload_n hx hb dX4_store_35 rfl (lv_at hl 0 rfl) ?_
  refine va_get (D := D) (ci := 5) (v := .int vqq) (C := RX4) (T := TX4) (N := 18) hx hb hts hi4 hown hK hP 0 rfl rfl 11 (by decide) (hts (.fieldLink RX4 53 "DecimalWordsModel" "q" "I") (inW_9 _ (List.mem_of_getElem? (i := 15) rfl))) (fun _ h9 => h9) rfl dX4_store_36 ?_
  refine va_iast hx hb hK hP hD hS 4 1 rfl rfl h_101 dX4_store_39 (fun H locs hP hD hS => ?_)
  obtain ⟨w108, ew108⟩ : ∃ y9 : Nat → Int32, y9 = va_up ves p0.toNatClampNeg vqq := ⟨_, rfl⟩
  have hu := hu _ ew108
  have hP : va_P D vwCl (mw cI cJ cZ am ak an ac ae ag aq vth vmo vfg vtp vkd vng vcc vqq vrs vct vun vre w102 w104 w106 w108 vdg vog) H := by rw [ew108]; exact hP
  have hD : va_D A (mw cI cJ cZ am ak an ac ae ag aq vth vmo vfg vtp vkd vng vcc vqq vrs vct vun vre w102 w104 w106 w108 vdg vog) := by rw [ew108]; exact hD
  have e9 := Eq.symm hu; subst e9
  exact x_vret hx hb hr hlocks hQ hK hP hD hS rfl dX4_store_40

def F_X4_copy (vks : Nat → Int32) (vms : Nat → Bool) (vcs : Nat → Int64) (ves : Nat → Int32) (p0 : Int32) : Int32 × Bool × Int64 × Int32 := (bnd (F_X4_be (vks p0.toNatClampNeg) (vms p0.toNatClampNeg) (vcs p0.toNatClampNeg) (ves p0.toNatClampNeg)) (fun u102 : Int32 × Bool × Int64 × Int32 => (u102.1, u102.2.1, u102.2.2.1, u102.2.2.2)))
def RF_X4_copy (vks : Nat → Int32) (vms : Nat → Bool) (vcs : Nat → Int64) (ves : Nat → Int32) (p0 : Int32) (u9 : Int32 × Bool × Int64 × Int32) : Prop := (∀ u102 : Int32 × Bool × Int64 × Int32, u102 = F_X4_be (vks p0.toNatClampNeg) (vms p0.toNatClampNeg) (vcs p0.toNatClampNeg) (ves p0.toNatClampNeg) → u9 = (u102.1, u102.2.1, u102.2.2.1, u102.2.2.2))
theorem rF_X4_copy (vks : Nat → Int32) (vms : Nat → Bool) (vcs : Nat → Int64) (ves : Nat → Int32) (p0 : Int32) {u9 : Int32 × Bool × Int64 × Int32} (hu : u9 = F_X4_copy vks vms vcs ves p0) : RF_X4_copy vks vms vcs ves p0 u9 := by
  unfold RF_X4_copy
  intro u102 eu102
  have hu := bnd_n hu eu102
  exact hu
def S_X4_copy (vks : Nat → Int32) (vms : Nat → Bool) (vcs : Nat → Int64) (ves : Nat → Int32) (p0 : Int32) : Prop := vp_in p0 8
def rm_X4_copy : Room := { frames := 1, cells := 0, slots := 0, locals := 25 }
set_option maxHeartbeats 4000000 in
set_option maxRecDepth 100000 in
theorem c_X4_copy (l : Launch) (D : va_G) (cR cI cJ cZ : ClassId) (t0 : Nat) (am ak an ac ae ag aq : Nat) (vth : Int32) (vmo : Int32) (vfg : Int32) (vtp : Int32) (vkd : Int32) (vng : Bool) (vcc : Int64) (vqq : Int32) (vrs : Int32) (vct : Int32) (vun : Int32) (vre : Bool) (vks : Nat → Int32) (vms : Nat → Bool) (vcs : Nat → Int64) (ves : Nat → Int32) (vdg : Nat → Int32) (vog : Nat → Int32) (p0 : Int32) (u : Int32 × Bool × Int64 × Int32) (hu : u = F_X4_copy vks vms vcs ves p0) (hs : S_X4_copy vks vms vcs ves p0) : XM l D (xty cR cI cJ cZ) t0 yX4_copy cX4_copy 2 none rm_X4_copy [.ref am, .int p0] none (mw cI cJ cZ am ak an ac ae ag aq vth vmo vfg vtp vkd vng vcc vqq vrs vct vun vre vks vms vcs ves vdg vog) (mw cI cJ cZ am ak an ac ae ag aq vth vmo vfg vtp u.1 u.2.1 u.2.2.1 u.2.2.2 vrs vct vun vre vks vms vcs ves vdg vog) := by
  refine XM.of (by decide) (Nat.le_of_ble_eq_true rfl) ?_
  intro p e s m args below meth c A Q F hK hP hD hA hSt hS hQ ls hl
  obtain ⟨hx, hb, hr, hts, hown, hlocks, hml⟩ := F
  have hCF : CallFix p m c cX4_copy 2 s args gW RX4 := ⟨hx, hb, hml, hown, hts⟩
  unfold S_X4_copy at hs
  have hu := rF_X4_copy vks vms vcs ves p0 hu
  unfold RF_X4_copy at hu
  obtain ⟨H, eH⟩ : ∃ y9 : Heap, y9 = s.heap := ⟨_, rfl⟩
  obtain ⟨locs, eL⟩ : ∃ y9 : List Loc, y9 = [] := ⟨_, rfl⟩
  rw [← eL] at hS ⊢
  have hP : va_P D vwCl (mw cI cJ cZ am ak an ac ae ag aq vth vmo vfg vtp vkd vng vcc vqq vrs vct vun vre vks vms vcs ves vdg vog) H := by rw [eH]; exact hP
  have hS : va_S A s.heap H locs := by rw [eH]; exact hS
  suffices goal9 : W p l e rm_X4_copy s m args below meth c H locs 0 0 Q (F0 m 0 ls []) from by rw [← eH]; exact goal9
  have hl : lv_has ls 2 [(0, .ref am), (1, .int p0)] := hl
  have hi4 : ∀ w ∈ wsX40, w ∈ gW := inW_X4
  refine lv_aload_n hx hb dX4_copy_0 rfl (lv_at hl 0 rfl) ?_
  refine lv_aload_n hx hb dX4_copy_1 rfl (lv_at hl 0 rfl) ?_
  refine va_get (D := D) (ci := 5) (v := .ref ak) (C := RX4) (T := TX4) (N := 18) hx hb hts hi4 hown hK hP 0 rfl rfl 1 (by decide) (hts (.fieldLink RX4 7 "DecimalWordsModel" "kinds" "[I") (inW_8 _ (List.mem_of_getElem? (i := 29) rfl))) (fun _ h9 => h9) rfl dX4_copy_2 ?_
  refine lv_iload_n hx hb dX4_copy_5 rfl (lv_at hl 1 rfl) ?_
  have h_101 := hs
  refine va_iald hx hb hK hP 1 1 rfl rfl h_101 dX4_copy_6 ?_
  refine lv_aload_n hx hb dX4_copy_7 rfl (lv_at hl 0 rfl) ?_
  refine va_get (D := D) (ci := 5) (v := .ref an) (C := RX4) (T := TX4) (N := 18) hx hb hts hi4 hown hK hP 0 rfl rfl 2 (by decide) (hts (.fieldLink RX4 13 "DecimalWordsModel" "minus" "[Z") (inW_8 _ (List.mem_of_getElem? (i := 31) rfl))) (fun _ h9 => h9) rfl dX4_copy_8 ?_
  refine lv_iload_n hx hb dX4_copy_11 rfl (lv_at hl 1 rfl) ?_
  refine va_zald hx hb hK hP 2 3 rfl rfl h_101 dX4_copy_12 ?_
  refine lv_aload_n hx hb dX4_copy_13 rfl (lv_at hl 0 rfl) ?_
  refine va_get (D := D) (ci := 5) (v := .ref ac) (C := RX4) (T := TX4) (N := 18) hx hb hts hi4 hown hK hP 0 rfl rfl 3 (by decide) (hts (.fieldLink RX4 17 "DecimalWordsModel" "coefficients" "[J") (inW_8 _ (List.mem_of_getElem? (i := 33) rfl))) (fun _ h9 => h9) rfl dX4_copy_14 ?_
  refine lv_iload_n hx hb dX4_copy_17 rfl (lv_at hl 1 rfl) ?_
  refine va_lald hx hb hK hP 3 2 rfl rfl h_101 dX4_copy_18 ?_
  refine lv_aload_n hx hb dX4_copy_19 rfl (lv_at hl 0 rfl) ?_
  refine va_get (D := D) (ci := 5) (v := .ref ae) (C := RX4) (T := TX4) (N := 18) hx hb hts hi4 hown hK hP 0 rfl rfl 4 (by decide) (hts (.fieldLink RX4 21 "DecimalWordsModel" "exponents" "[I") (inW_8 _ (List.mem_of_getElem? (i := 34) rfl))) (fun _ h9 => h9) rfl dX4_copy_20 ?_
  refine lv_iload_n hx hb dX4_copy_23 rfl (lv_at hl 1 rfl) ?_
  refine va_iald hx hb hK hP 4 1 rfl rfl h_101 dX4_copy_24 ?_
  obtain ⟨u102, eu102⟩ : ∃ y9 : Int32 × Bool × Int64 × Int32, y9 = F_X4_be (vks p0.toNatClampNeg) (vms p0.toNatClampNeg) (vcs p0.toNatClampNeg) (ves p0.toNatClampNeg) := ⟨_, rfl⟩
  have hu := hu _ eu102
  refine x_V (As := [.int (vks p0.toNatClampNeg), .int (bI (vms p0.toNatClampNeg)), .long (vcs p0.toNatClampNeg), .int (ves p0.toNatClampNeg)]) (rest := []) hCF (c_X4_be l D cR cI cJ cZ t0 am ak an ac ae ag aq vth vmo vfg vtp vkd vng vcc vqq vrs vct vun vre vks vms vcs ves vdg vog (vks p0.toNatClampNeg) (vms p0.toNatClampNeg) (vcs p0.toNatClampNeg) (ves p0.toNatClampNeg) u102 eu102) (x_cwV 4 hts (inW_9 _ (List.mem_of_getElem? (i := 18) rfl)) (inW_9 _ (List.mem_of_getElem? (i := 19) rfl)) (inW_9 _ (List.mem_of_getElem? (i := 20) rfl)) (inW_9 _ (List.mem_of_getElem? (i := 5) rfl)) (inW_9 _ (List.mem_of_getElem? (i := 11) rfl)) rfl rfl (by decide +kernel) ⟨Nat.le_of_ble_eq_true rfl, Nat.le_of_ble_eq_true rfl⟩) hK hP hD hS hA hSt 0 rfl rfl rfl hl.1 rfl (Nat.le_of_ble_eq_true rfl) dX4_copy_25 ⟨Nat.le_of_ble_eq_true rfl, Nat.le_of_ble_eq_true rfl⟩ (fun H locs hP hD hS => ?_)
  show W p l e _ s m args below meth c H locs 0 0 Q (F0 m 28 ls [])
  have e9 := Eq.symm hu; subst e9
  exact x_vret hx hb hr hlocks hQ hK hP hD hS rfl dX4_copy_28

def F_X4_signOf (vks : Nat → Int32) (vms : Nat → Bool) (vcs : Nat → Int64) (p0 : Int32) : Int32 := (if F_X4_is vks p0 (0 : Int32) = true then (if vcs p0.toNatClampNeg = 0 then 0 else (if vms p0.toNatClampNeg = true then (-1) else 1)) else (if vms p0.toNatClampNeg = true then (-1) else 1))
def RF_X4_signOf (vks : Nat → Int32) (vms : Nat → Bool) (vcs : Nat → Int64) (p0 : Int32) (u9 : Int32) : Prop := (if F_X4_is vks p0 (0 : Int32) = true then (if vcs p0.toNatClampNeg = 0 then u9 = 0 else (if vms p0.toNatClampNeg = true then u9 = (-1) else u9 = 1)) else (if vms p0.toNatClampNeg = true then u9 = (-1) else u9 = 1))
theorem rF_X4_signOf (vks : Nat → Int32) (vms : Nat → Bool) (vcs : Nat → Int64) (p0 : Int32) {u9 : Int32} (hu : u9 = F_X4_signOf vks vms vcs p0) : RF_X4_signOf vks vms vcs p0 u9 := by
  unfold RF_X4_signOf
  refine ite_P (fun c_103 => ?_) (fun c_103 => ?_)
  · have hu := hu.trans (if_pos c_103)
    refine ite_P (fun c_107 => ?_) (fun c_107 => ?_)
    · have hu := hu.trans (if_pos c_107)
      exact hu
    · have hu := hu.trans (if_neg c_107)
      refine ite_P (fun c_108 => ?_) (fun c_108 => ?_)
      · have hu := hu.trans (if_pos c_108)
        exact hu
      · have hu := hu.trans (if_neg c_108)
        exact hu
  · have hu := hu.trans (if_neg c_103)
    refine ite_P (fun c_105 => ?_) (fun c_105 => ?_)
    · have hu := hu.trans (if_pos c_105)
      exact hu
    · have hu := hu.trans (if_neg c_105)
      exact hu
def S_X4_signOf (vks : Nat → Int32) (vms : Nat → Bool) (vcs : Nat → Int64) (p0 : Int32) : Prop := (S_X4_is vks p0 (0 : Int32)) ∧ (if F_X4_is vks p0 (0 : Int32) = true then vp_in p0 8 else vp_in p0 8)
def rm_X4_signOf : Room := { frames := 1, cells := 0, slots := 0, locals := 22 }
set_option maxHeartbeats 4000000 in
set_option maxRecDepth 100000 in
theorem c_X4_signOf (l : Launch) (D : va_G) (cR cI cJ cZ : ClassId) (t0 : Nat) (am ak an ac ae ag aq : Nat) (vth : Int32) (vmo : Int32) (vfg : Int32) (vtp : Int32) (vkd : Int32) (vng : Bool) (vcc : Int64) (vqq : Int32) (vrs : Int32) (vct : Int32) (vun : Int32) (vre : Bool) (vks : Nat → Int32) (vms : Nat → Bool) (vcs : Nat → Int64) (ves : Nat → Int32) (vdg : Nat → Int32) (vog : Nat → Int32) (p0 : Int32) (u : Int32) (hu : u = F_X4_signOf vks vms vcs p0) (hs : S_X4_signOf vks vms vcs p0) : XM l D (xty cR cI cJ cZ) t0 yX4_signOf cX4_signOf 2 (some .int) rm_X4_signOf [.ref am, .int p0] (some (.int u)) (mw cI cJ cZ am ak an ac ae ag aq vth vmo vfg vtp vkd vng vcc vqq vrs vct vun vre vks vms vcs ves vdg vog) (mw cI cJ cZ am ak an ac ae ag aq vth vmo vfg vtp vkd vng vcc vqq vrs vct vun vre vks vms vcs ves vdg vog) := by
  refine XM.of (by decide) (Nat.le_of_ble_eq_true rfl) ?_
  intro p e s m args below meth c A Q F hK hP hD hA hSt hS hQ ls hl
  obtain ⟨hx, hb, hr, hts, hown, hlocks, hml⟩ := F
  have hCF : CallFix p m c cX4_signOf 2 s args gW RX4 := ⟨hx, hb, hml, hown, hts⟩
  unfold S_X4_signOf at hs
  have hu := rF_X4_signOf vks vms vcs p0 hu
  unfold RF_X4_signOf at hu
  obtain ⟨H, eH⟩ : ∃ y9 : Heap, y9 = s.heap := ⟨_, rfl⟩
  obtain ⟨locs, eL⟩ : ∃ y9 : List Loc, y9 = [] := ⟨_, rfl⟩
  rw [← eL] at hS ⊢
  have hP : va_P D vwCl (mw cI cJ cZ am ak an ac ae ag aq vth vmo vfg vtp vkd vng vcc vqq vrs vct vun vre vks vms vcs ves vdg vog) H := by rw [eH]; exact hP
  have hS : va_S A s.heap H locs := by rw [eH]; exact hS
  suffices goal9 : W p l e rm_X4_signOf s m args below meth c H locs 0 0 Q (F0 m 0 ls []) from by rw [← eH]; exact goal9
  have hl : lv_has ls 2 [(0, .ref am), (1, .int p0)] := hl
  have hi4 : ∀ w ∈ wsX40, w ∈ gW := inW_X4
  refine lv_aload_n hx hb dX4_signOf_0 rfl (lv_at hl 0 rfl) ?_
  refine lv_iload_n hx hb dX4_signOf_1 rfl (lv_at hl 1 rfl) ?_
  refine lv_iconst (v := 0) hx hb dX4_signOf_2 (by decide) ?_
  obtain ⟨h_101, hs⟩ := hs
  refine x_V (As := [.int p0, .int 0]) (rest := []) hCF (c_X4_is l D cR cI cJ cZ t0 am ak an ac ae ag aq vth vmo vfg vtp vkd vng vcc vqq vrs vct vun vre vks vms vcs ves vdg vog p0 (0 : Int32) _ rfl h_101) (x_cwV 2 hts (inW_10 _ (List.mem_of_getElem? (i := 18) rfl)) (inW_10 _ (List.mem_of_getElem? (i := 19) rfl)) (inW_10 _ (List.mem_of_getElem? (i := 20) rfl)) (inW_9 _ (List.mem_of_getElem? (i := 5) rfl)) (inW_10 _ (List.mem_of_getElem? (i := 10) rfl)) rfl rfl (by decide +kernel) ⟨Nat.le_of_ble_eq_true rfl, Nat.le_of_ble_eq_true rfl⟩) hK hP hD hS hA hSt 0 rfl rfl rfl hl.1 rfl (Nat.le_of_ble_eq_true rfl) dX4_signOf_3 ⟨Nat.le_of_ble_eq_true rfl, Nat.le_of_ble_eq_true rfl⟩ (fun H locs hP hD hS => ?_)
  show W p l e _ s m args below meth c H locs 0 0 Q (F0 m 6 ls (.int (bI (F_X4_is vks p0 (0 : Int32))) :: []))
  refine xb_eq (tgt := 24) hx hb dX4_signOf_6 (by decide) (fun c_103 => ?_) (fun c_103 => ?_)
  · rw [if_neg c_103] at hs
    rw [if_neg c_103] at hu
    refine lv_aload_n hx hb dX4_signOf_24 rfl (lv_at hl 0 rfl) ?_
    refine va_get (D := D) (ci := 5) (v := .ref an) (C := RX4) (T := TX4) (N := 18) hx hb hts hi4 hown hK hP 0 rfl rfl 2 (by decide) (hts (.fieldLink RX4 13 "DecimalWordsModel" "minus" "[Z") (inW_8 _ (List.mem_of_getElem? (i := 31) rfl))) (fun _ h9 => h9) rfl dX4_signOf_25 ?_
    refine lv_iload_n hx hb dX4_signOf_28 rfl (lv_at hl 1 rfl) ?_
    have h_104 := hs
    refine va_zald hx hb hK hP 2 3 rfl rfl h_104 dX4_signOf_29 ?_
    refine xb_eq (tgt := 37) hx hb dX4_signOf_30 (by decide) (fun c_105 => ?_) (fun c_105 => ?_)
    · rw [if_neg c_105] at hu
      refine lv_iconst (v := 1) hx hb dX4_signOf_37 (by decide) ?_
      have e9 := Eq.symm hu; subst e9
      exact x_iret hx hb hr hlocks hQ hK hP hD hS rfl rfl dX4_signOf_38
    · rw [if_pos c_105] at hu
      refine lv_iconst (v := (-1)) hx hb dX4_signOf_33 (by decide) ?_
      refine lv_goto (tgt := 38) hx hb dX4_signOf_34 (by decide) ?_
      have e9 := Eq.symm hu; subst e9
      exact x_iret hx hb hr hlocks hQ hK hP hD hS rfl rfl dX4_signOf_38
  · rw [if_pos c_103] at hs
    rw [if_pos c_103] at hu
    refine lv_aload_n hx hb dX4_signOf_9 rfl (lv_at hl 0 rfl) ?_
    refine va_get (D := D) (ci := 5) (v := .ref ac) (C := RX4) (T := TX4) (N := 18) hx hb hts hi4 hown hK hP 0 rfl rfl 3 (by decide) (hts (.fieldLink RX4 17 "DecimalWordsModel" "coefficients" "[J") (inW_8 _ (List.mem_of_getElem? (i := 33) rfl))) (fun _ h9 => h9) rfl dX4_signOf_10 ?_
    refine lv_iload_n hx hb dX4_signOf_13 rfl (lv_at hl 1 rfl) ?_
    have h_106 := hs
    refine va_lald hx hb hK hP 3 2 rfl rfl h_106 dX4_signOf_14 ?_
    refine lv_lconst (v := 0) hx hb dX4_signOf_15 (by decide) ?_
    refine xl_ne (tgt := 24) hx hb dX4_signOf_16 dX4_signOf_17 (by decide) (fun c_107 => ?_) (fun c_107 => ?_)
    · rw [if_neg c_107] at hu
      refine lv_aload_n hx hb dX4_signOf_24 rfl (lv_at hl 0 rfl) ?_
      refine va_get (D := D) (ci := 5) (v := .ref an) (C := RX4) (T := TX4) (N := 18) hx hb hts hi4 hown hK hP 0 rfl rfl 2 (by decide) (hts (.fieldLink RX4 13 "DecimalWordsModel" "minus" "[Z") (inW_8 _ (List.mem_of_getElem? (i := 31) rfl))) (fun _ h9 => h9) rfl dX4_signOf_25 ?_
      refine lv_iload_n hx hb dX4_signOf_28 rfl (lv_at hl 1 rfl) ?_
      refine va_zald hx hb hK hP 2 3 rfl rfl h_106 dX4_signOf_29 ?_
      refine xb_eq (tgt := 37) hx hb dX4_signOf_30 (by decide) (fun c_108 => ?_) (fun c_108 => ?_)
      · rw [if_neg c_108] at hu
        refine lv_iconst (v := 1) hx hb dX4_signOf_37 (by decide) ?_
        have e9 := Eq.symm hu; subst e9
        exact x_iret hx hb hr hlocks hQ hK hP hD hS rfl rfl dX4_signOf_38
      · rw [if_pos c_108] at hu
        refine lv_iconst (v := (-1)) hx hb dX4_signOf_33 (by decide) ?_
        refine lv_goto (tgt := 38) hx hb dX4_signOf_34 (by decide) ?_
        have e9 := Eq.symm hu; subst e9
        exact x_iret hx hb hr hlocks hQ hK hP hD hS rfl rfl dX4_signOf_38
    · rw [if_pos c_107] at hu
      refine lv_iconst (v := 0) hx hb dX4_signOf_20 (by decide) ?_
      refine lv_goto (tgt := 38) hx hb dX4_signOf_21 (by decide) ?_
      have e9 := Eq.symm hu; subst e9
      exact x_iret hx hb hr hlocks hQ hK hP hD hS rfl rfl dX4_signOf_38

def Z_X4_great_J_123 (z110 : Bool) : Int32 := (if z110 = true then 369 else 0)
def RZ_X4_great_J_123 (z110 : Bool) (u9 : Int32) : Prop := (if z110 = true then u9 = 369 else u9 = 0)
theorem rZ_X4_great_J_123 (z110 : Bool) {u9 : Int32} (hu : u9 = Z_X4_great_J_123 z110) : RZ_X4_great_J_123 z110 u9 := by
  unfold RZ_X4_great_J_123
  refine ite_P (fun c_120 => ?_) (fun c_120 => ?_)
  · have hu := hu.trans (if_pos c_120)
    exact hu
  · have hu := hu.trans (if_neg c_120)
    exact hu
def Z_X4_great_J_119 (z110 : Bool) : Int64 := (if z110 = true then 9999999999999999 else 0)
def RZ_X4_great_J_119 (z110 : Bool) (u9 : Int64) : Prop := (if z110 = true then u9 = 9999999999999999 else u9 = 0)
theorem rZ_X4_great_J_119 (z110 : Bool) {u9 : Int64} (hu : u9 = Z_X4_great_J_119 z110) : RZ_X4_great_J_119 z110 u9 := by
  unfold RZ_X4_great_J_119
  refine ite_P (fun c_116 => ?_) (fun c_116 => ?_)
  · have hu := hu.trans (if_pos c_116)
    exact hu
  · have hu := hu.trans (if_neg c_116)
    exact hu
def Z_X4_great_J_115 (z110 : Bool) : Bool := (if z110 = true then false else true)
def RZ_X4_great_J_115 (z110 : Bool) (u9 : Bool) : Prop := (if z110 = true then u9 = false else u9 = true)
theorem rZ_X4_great_J_115 (z110 : Bool) {u9 : Bool} (hu : u9 = Z_X4_great_J_115 z110) : RZ_X4_great_J_115 z110 u9 := by
  unfold RZ_X4_great_J_115
  refine ite_P (fun c_112 => ?_) (fun c_112 => ?_)
  · have hu := hu.trans (if_pos c_112)
    exact hu
  · have hu := hu.trans (if_neg c_112)
    exact hu
def Z_X4_great_J_111 (vmo : Int32) (p0 : Bool) : Bool := (if vmo = 2 then true else (if vmo = 3 then (if p0 = true then true else (if vmo = 4 then true else false)) else (if vmo = 4 then (if p0 = true then false else true) else false)))
def RZ_X4_great_J_111 (vmo : Int32) (p0 : Bool) (u9 : Bool) : Prop := (if vmo = 2 then u9 = true else (if vmo = 3 then (if p0 = true then u9 = true else (if vmo = 4 then u9 = true else u9 = false)) else (if vmo = 4 then (if p0 = true then u9 = false else u9 = true) else u9 = false)))
theorem rZ_X4_great_J_111 (vmo : Int32) (p0 : Bool) {u9 : Bool} (hu : u9 = Z_X4_great_J_111 vmo p0) : RZ_X4_great_J_111 vmo p0 u9 := by
  unfold RZ_X4_great_J_111
  refine ite_P (fun c_103 => ?_) (fun c_103 => ?_)
  · have hu := hu.trans (if_pos c_103)
    exact hu
  · have hu := hu.trans (if_neg c_103)
    refine ite_P (fun c_104 => ?_) (fun c_104 => ?_)
    · have hu := hu.trans (if_pos c_104)
      refine ite_P (fun c_107 => ?_) (fun c_107 => ?_)
      · have hu := hu.trans (if_pos c_107)
        exact hu
      · have hu := hu.trans (if_neg c_107)
        refine ite_P (fun c_108 => ?_) (fun c_108 => ?_)
        · have hu := hu.trans (if_pos c_108)
          exact hu
        · have hu := hu.trans (if_neg c_108)
          exact hu
    · have hu := hu.trans (if_neg c_104)
      refine ite_P (fun c_105 => ?_) (fun c_105 => ?_)
      · have hu := hu.trans (if_pos c_105)
        refine ite_P (fun c_106 => ?_) (fun c_106 => ?_)
        · have hu := hu.trans (if_pos c_106)
          exact hu
        · have hu := hu.trans (if_neg c_106)
          exact hu
      · have hu := hu.trans (if_neg c_105)
        exact hu
def F_X4_great (vmo : Int32) (vrs : Int32) (p0 : Bool) : Int32 × Bool × Int64 × Int32 × Int32 := (bnd (vrs ||| 4) (fun f101 : Int32 => (bnd (Z_X4_great_J_111 vmo p0) (fun z110 : Bool => (bnd (Z_X4_great_J_115 z110) (fun z114 : Bool => (bnd (Z_X4_great_J_119 z110) (fun z118 : Int64 => (bnd (Z_X4_great_J_123 z110) (fun z122 : Int32 => (bnd (F_X4_be (bI z114) p0 z118 z122) (fun u124 : Int32 × Bool × Int64 × Int32 => (u124.1, u124.2.1, u124.2.2.1, u124.2.2.2, f101)))))))))))))
def RF_X4_great (vmo : Int32) (vrs : Int32) (p0 : Bool) (u9 : Int32 × Bool × Int64 × Int32 × Int32) : Prop := (∀ f101 : Int32, f101 = vrs ||| 4 → (∀ z110 : Bool, z110 = Z_X4_great_J_111 vmo p0 → (∀ z114 : Bool, z114 = Z_X4_great_J_115 z110 → (∀ z118 : Int64, z118 = Z_X4_great_J_119 z110 → (∀ z122 : Int32, z122 = Z_X4_great_J_123 z110 → (∀ u124 : Int32 × Bool × Int64 × Int32, u124 = F_X4_be (bI z114) p0 z118 z122 → u9 = (u124.1, u124.2.1, u124.2.2.1, u124.2.2.2, f101)))))))
theorem rF_X4_great (vmo : Int32) (vrs : Int32) (p0 : Bool) {u9 : Int32 × Bool × Int64 × Int32 × Int32} (hu : u9 = F_X4_great vmo vrs p0) : RF_X4_great vmo vrs p0 u9 := by
  unfold RF_X4_great
  intro f101 ef101
  have hu := bnd_n hu ef101
  intro z110 ez110
  have hu := bnd_n hu ez110
  intro z114 ez114
  have hu := bnd_n hu ez114
  intro z118 ez118
  have hu := bnd_n hu ez118
  intro z122 ez122
  have hu := bnd_n hu ez122
  intro u124 eu124
  have hu := bnd_n hu eu124
  exact hu
def rm_X4_great : Room := { frames := 1, cells := 0, slots := 0, locals := 25 }
set_option maxHeartbeats 4000000 in
set_option maxRecDepth 100000 in
theorem c_X4_great (l : Launch) (D : va_G) (cR cI cJ cZ : ClassId) (t0 : Nat) (am ak an ac ae ag aq : Nat) (vth : Int32) (vmo : Int32) (vfg : Int32) (vtp : Int32) (vkd : Int32) (vng : Bool) (vcc : Int64) (vqq : Int32) (vrs : Int32) (vct : Int32) (vun : Int32) (vre : Bool) (vks : Nat → Int32) (vms : Nat → Bool) (vcs : Nat → Int64) (ves : Nat → Int32) (vdg : Nat → Int32) (vog : Nat → Int32) (p0 : Bool) (u : Int32 × Bool × Int64 × Int32 × Int32) (hu : u = F_X4_great vmo vrs p0) : XM l D (xty cR cI cJ cZ) t0 yX4_great cX4_great 3 none rm_X4_great [.ref am, .int (bI p0)] none (mw cI cJ cZ am ak an ac ae ag aq vth vmo vfg vtp vkd vng vcc vqq vrs vct vun vre vks vms vcs ves vdg vog) (mw cI cJ cZ am ak an ac ae ag aq vth vmo vfg vtp u.1 u.2.1 u.2.2.1 u.2.2.2.1 u.2.2.2.2 vct vun vre vks vms vcs ves vdg vog) := by
  refine XM.of (by decide) (Nat.le_of_ble_eq_true rfl) ?_
  intro p e s m args below meth c A Q F hK hP hD hA hSt hS hQ ls hl
  obtain ⟨hx, hb, hr, hts, hown, hlocks, hml⟩ := F
  have hCF : CallFix p m c cX4_great 3 s args gW RX4 := ⟨hx, hb, hml, hown, hts⟩
  have hu := rF_X4_great vmo vrs p0 hu
  unfold RF_X4_great at hu
  obtain ⟨H, eH⟩ : ∃ y9 : Heap, y9 = s.heap := ⟨_, rfl⟩
  obtain ⟨locs, eL⟩ : ∃ y9 : List Loc, y9 = [] := ⟨_, rfl⟩
  rw [← eL] at hS ⊢
  have hP : va_P D vwCl (mw cI cJ cZ am ak an ac ae ag aq vth vmo vfg vtp vkd vng vcc vqq vrs vct vun vre vks vms vcs ves vdg vog) H := by rw [eH]; exact hP
  have hS : va_S A s.heap H locs := by rw [eH]; exact hS
  suffices goal9 : W p l e rm_X4_great s m args below meth c H locs 0 0 Q (F0 m 0 ls []) from by rw [← eH]; exact goal9
  have hl : lv_has ls 3 [(0, .ref am), (1, .int (bI p0))] := hl
  have hi4 : ∀ w ∈ wsX40, w ∈ gW := inW_X4
  refine lv_aload_n hx hb dX4_great_0 rfl (lv_at hl 0 rfl) ?_
  refine lv_aload_n hx hb dX4_great_1 rfl (lv_at hl 0 rfl) ?_
  refine va_get (D := D) (ci := 5) (v := .int vrs) (C := RX4) (T := TX4) (N := 18) hx hb hts hi4 hown hK hP 0 rfl rfl 12 (by decide) (hts (.fieldLink RX4 56 "DecimalWordsModel" "raised" "I") (inW_9 _ (List.mem_of_getElem? (i := 17) rfl))) (fun _ h9 => h9) rfl dX4_great_2 ?_
  refine lv_iconst (v := 4) hx hb dX4_great_5 (by decide) ?_
  refine lv_ior hx hb dX4_great_6 ?_
  refine lv_topi (fun f101 ef101 => ?_)
  have hu := hu _ ef101
  refine va_put (D := D) (ci := 5) (v := .int f101) (ty := .int) (C := RX4) (T := TX4) (N := 18) hx hb hts hi4 tyX4 tyX4_ok nmX4 hown hK hP hD hS 0 rfl rfl 12 (by decide) (hts (.fieldLink RX4 56 "DecimalWordsModel" "raised" "I") (inW_9 _ (List.mem_of_getElem? (i := 17) rfl))) (fun _ h9 => h9) rfl (by decide +kernel) rfl rfl (Nat.le_of_ble_eq_true rfl) dX4_great_7 (fun H locs hP hD hS => ?_)
  have hP : va_P D vwCl (mw cI cJ cZ am ak an ac ae ag aq vth vmo vfg vtp vkd vng vcc vqq f101 vct vun vre vks vms vcs ves vdg vog) H := hP
  have hD : va_D A (mw cI cJ cZ am ak an ac ae ag aq vth vmo vfg vtp vkd vng vcc vqq f101 vct vun vre vks vms vcs ves vdg vog) := hD
  refine lv_aload_n hx hb dX4_great_10 rfl (lv_at hl 0 rfl) ?_
  refine va_get (D := D) (ci := 5) (v := .int vmo) (C := RX4) (T := TX4) (N := 18) hx hb hts hi4 hown hK hP 0 rfl rfl 5 (by decide) (hts (.fieldLink RX4 74 "DecimalWordsModel" "mode" "I") (inW_9 _ (List.mem_of_getElem? (i := 24) rfl))) (fun _ h9 => h9) rfl dX4_great_11 ?_
  refine lv_iconst (v := 2) hx hb dX4_great_14 (by decide) ?_
  have J_111 : (∀ z110 : Bool, z110 = Z_X4_great_J_111 vmo p0 → ∀ (H : Heap) (locs : List Loc), va_P D vwCl (mw cI cJ cZ am ak an ac ae ag aq vth vmo vfg vtp vkd vng vcc vqq f101 vct vun vre vks vms vcs ves vdg vog) H → va_D A (mw cI cJ cZ am ak an ac ae ag aq vth vmo vfg vtp vkd vng vcc vqq f101 vct vun vre vks vms vcs ves vdg vog) → va_S A s.heap H locs → ∀ ls : Array Slot, lv_has ls 3 [(0, .ref am), (1, .int (bI p0))] → W p l e rm_X4_great s m args below meth c H locs 0 0 Q (F0 m 47 ls [.int (bI z110)])) := by
    intro z110 ez110 H locs hP hD hS ls hl
    have hu := hu _ ez110
    refine lv_istore_n (lv' := [(2, .int (bI z110)), (0, .ref am), (1, .int (bI p0))]) hx hb dX4_great_47 rfl hl (by decide) rfl (fun ls hl => ?_)
    refine lv_aload_n hx hb dX4_great_48 rfl (lv_at hl 1 rfl) ?_
    refine lv_iload_n hx hb dX4_great_49 rfl (lv_at hl 0 rfl) ?_
    have J_115 : (∀ z114 : Bool, z114 = Z_X4_great_J_115 z110 → ∀ (H : Heap) (locs : List Loc), va_P D vwCl (mw cI cJ cZ am ak an ac ae ag aq vth vmo vfg vtp vkd vng vcc vqq f101 vct vun vre vks vms vcs ves vdg vog) H → va_D A (mw cI cJ cZ am ak an ac ae ag aq vth vmo vfg vtp vkd vng vcc vqq f101 vct vun vre vks vms vcs ves vdg vog) → va_S A s.heap H locs → ∀ ls : Array Slot, lv_has ls 3 [(1, .int (bI p0)), (2, .int (bI z110))] → W p l e rm_X4_great s m args below meth c H locs 0 0 Q (F0 m 58 ls [.int (bI z114), .ref am])) := by
      intro z114 ez114 H locs hP hD hS ls hl
      have hu := hu _ ez114
      refine lv_iload_n hx hb dX4_great_58 rfl (lv_at hl 0 rfl) ?_
      refine lv_iload_n hx hb dX4_great_59 rfl (lv_at hl 1 rfl) ?_
      have J_119 : (∀ z118 : Int64, z118 = Z_X4_great_J_119 z110 → ∀ (H : Heap) (locs : List Loc), va_P D vwCl (mw cI cJ cZ am ak an ac ae ag aq vth vmo vfg vtp vkd vng vcc vqq f101 vct vun vre vks vms vcs ves vdg vog) H → va_D A (mw cI cJ cZ am ak an ac ae ag aq vth vmo vfg vtp vkd vng vcc vqq f101 vct vun vre vks vms vcs ves vdg vog) → va_S A s.heap H locs → ∀ ls : Array Slot, lv_has ls 3 [(2, .int (bI z110))] → W p l e rm_X4_great s m args below meth c H locs 0 0 Q (F0 m 70 ls [.long z118, .int (bI p0), .int (bI z114), .ref am])) := by
        intro z118 ez118 H locs hP hD hS ls hl
        have hu := hu _ ez118
        refine lv_iload_n hx hb dX4_great_70 rfl (lv_at hl 0 rfl) ?_
        have J_123 : (∀ z122 : Int32, z122 = Z_X4_great_J_123 z110 → ∀ (H : Heap) (locs : List Loc), va_P D vwCl (mw cI cJ cZ am ak an ac ae ag aq vth vmo vfg vtp vkd vng vcc vqq f101 vct vun vre vks vms vcs ves vdg vog) H → va_D A (mw cI cJ cZ am ak an ac ae ag aq vth vmo vfg vtp vkd vng vcc vqq f101 vct vun vre vks vms vcs ves vdg vog) → va_S A s.heap H locs → ∀ ls : Array Slot, lv_has ls 3 [] → W p l e rm_X4_great s m args below meth c H locs 0 0 Q (F0 m 81 ls [.int z122, .long z118, .int (bI p0), .int (bI z114), .ref am])) := by
          intro z122 ez122 H locs hP hD hS ls hl
          have hu := hu _ ez122
          obtain ⟨u124, eu124⟩ : ∃ y9 : Int32 × Bool × Int64 × Int32, y9 = F_X4_be (bI z114) p0 z118 z122 := ⟨_, rfl⟩
          have hu := hu _ eu124
          refine x_V (As := [.int (bI z114), .int (bI p0), .long z118, .int z122]) (rest := []) hCF (c_X4_be l D cR cI cJ cZ t0 am ak an ac ae ag aq vth vmo vfg vtp vkd vng vcc vqq f101 vct vun vre vks vms vcs ves vdg vog (bI z114) p0 z118 z122 u124 eu124) (x_cwV 4 hts (inW_9 _ (List.mem_of_getElem? (i := 18) rfl)) (inW_9 _ (List.mem_of_getElem? (i := 19) rfl)) (inW_9 _ (List.mem_of_getElem? (i := 20) rfl)) (inW_9 _ (List.mem_of_getElem? (i := 5) rfl)) (inW_9 _ (List.mem_of_getElem? (i := 11) rfl)) rfl rfl (by decide +kernel) ⟨Nat.le_of_ble_eq_true rfl, Nat.le_of_ble_eq_true rfl⟩) hK hP hD hS hA hSt 0 rfl rfl rfl hl.1 rfl (Nat.le_of_ble_eq_true rfl) dX4_great_81 ⟨Nat.le_of_ble_eq_true rfl, Nat.le_of_ble_eq_true rfl⟩ (fun H locs hP hD hS => ?_)
          show W p l e _ s m args below meth c H locs 0 0 Q (F0 m 84 ls [])
          have e9 := Eq.symm hu; subst e9
          exact x_vret hx hb hr hlocks hQ hK hP hD hS rfl dX4_great_84
        obtain ⟨z9, ez9⟩ : ∃ y9 : Int32, y9 = Z_X4_great_J_123 z110 := ⟨_, rfl⟩
        have hz := rZ_X4_great_J_123 z110 ez9
        unfold RZ_X4_great_J_123 at hz
        refine xb_eq (tgt := 80) hx hb dX4_great_71 (by decide) (fun c_120 => ?_) (fun c_120 => ?_)
        · rw [if_neg c_120] at hz
          refine lv_iconst (v := 0) hx hb dX4_great_80 (by decide) ?_
          have e9 := Eq.symm hz; subst e9
          exact J_123 _ ez9 H locs hP hD hS ls (lv_sub hl [] rfl)
        · rw [if_pos c_120] at hz
          refine lv_sipush (v := 369) hx hb dX4_great_74 (by decide) ?_
          refine lv_goto (tgt := 81) hx hb dX4_great_77 (by decide) ?_
          have e9 := Eq.symm hz; subst e9
          exact J_123 _ ez9 H locs hP hD hS ls (lv_sub hl [] rfl)
      obtain ⟨z9, ez9⟩ : ∃ y9 : Int64, y9 = Z_X4_great_J_119 z110 := ⟨_, rfl⟩
      have hz := rZ_X4_great_J_119 z110 ez9
      unfold RZ_X4_great_J_119 at hz
      refine xb_eq (tgt := 69) hx hb dX4_great_60 (by decide) (fun c_116 => ?_) (fun c_116 => ?_)
      · rw [if_neg c_116] at hz
        refine lv_lconst (v := 0) hx hb dX4_great_69 (by decide) ?_
        have e9 := Eq.symm hz; subst e9
        exact J_119 _ ez9 H locs hP hD hS ls (lv_sub hl [1] rfl)
      · rw [if_pos c_116] at hz
        refine lv_ldc2 (v := 9999999999999999) hx hb hown (hts (.constantLong RX4 101 (9999999999999999)) (inW_10 _ (List.mem_of_getElem? (i := 6) rfl))) dX4_great_63 ?_
        refine lv_goto (tgt := 70) hx hb dX4_great_66 (by decide) ?_
        have e9 := Eq.symm hz; subst e9
        exact J_119 _ ez9 H locs hP hD hS ls (lv_sub hl [1] rfl)
    obtain ⟨z9, ez9⟩ : ∃ y9 : Bool, y9 = Z_X4_great_J_115 z110 := ⟨_, rfl⟩
    have hz := rZ_X4_great_J_115 z110 ez9
    unfold RZ_X4_great_J_115 at hz
    refine xb_eq (tgt := 57) hx hb dX4_great_50 (by decide) (fun c_112 => ?_) (fun c_112 => ?_)
    · rw [if_neg c_112] at hz
      refine lv_iconst (v := 1) hx hb dX4_great_57 (by decide) ?_
      have e9 := Eq.symm hz; subst e9
      exact J_115 _ ez9 H locs hP hD hS ls (lv_sub hl [2, 0] rfl)
    · rw [if_pos c_112] at hz
      refine lv_iconst (v := 0) hx hb dX4_great_53 (by decide) ?_
      refine lv_goto (tgt := 58) hx hb dX4_great_54 (by decide) ?_
      have e9 := Eq.symm hz; subst e9
      exact J_115 _ ez9 H locs hP hD hS ls (lv_sub hl [2, 0] rfl)
  obtain ⟨z9, ez9⟩ : ∃ y9 : Bool, y9 = Z_X4_great_J_111 vmo p0 := ⟨_, rfl⟩
  have hz := rZ_X4_great_J_111 vmo p0 ez9
  unfold RZ_X4_great_J_111 at hz
  refine lv_icmp_eq (tgt := 42) hx hb dX4_great_15 (by decide) (fun c_103 => ?_) (fun c_103 => ?_)
  · rw [if_pos c_103] at hz
    refine lv_iconst (v := 1) hx hb dX4_great_42 (by decide) ?_
    refine lv_goto (tgt := 47) hx hb dX4_great_43 (by decide) ?_
    have e9 := Eq.symm hz; subst e9
    exact J_111 _ ez9 H locs hP hD hS ls (lv_sub hl [0, 1] rfl)
  · rw [if_neg c_103] at hz
    refine lv_aload_n hx hb dX4_great_18 rfl (lv_at hl 0 rfl) ?_
    refine va_get (D := D) (ci := 5) (v := .int vmo) (C := RX4) (T := TX4) (N := 18) hx hb hts hi4 hown hK hP 0 rfl rfl 5 (by decide) (hts (.fieldLink RX4 74 "DecimalWordsModel" "mode" "I") (inW_9 _ (List.mem_of_getElem? (i := 24) rfl))) (fun _ h9 => h9) rfl dX4_great_19 ?_
    refine lv_iconst (v := 3) hx hb dX4_great_22 (by decide) ?_
    refine lv_icmp_ne (tgt := 30) hx hb dX4_great_23 (by decide) (fun c_104 => ?_) (fun c_104 => ?_)
    · rw [if_neg c_104] at hz
      refine lv_aload_n hx hb dX4_great_30 rfl (lv_at hl 0 rfl) ?_
      refine va_get (D := D) (ci := 5) (v := .int vmo) (C := RX4) (T := TX4) (N := 18) hx hb hts hi4 hown hK hP 0 rfl rfl 5 (by decide) (hts (.fieldLink RX4 74 "DecimalWordsModel" "mode" "I") (inW_9 _ (List.mem_of_getElem? (i := 24) rfl))) (fun _ h9 => h9) rfl dX4_great_31 ?_
      refine lv_iconst (v := 4) hx hb dX4_great_34 (by decide) ?_
      refine lv_icmp_ne (tgt := 46) hx hb dX4_great_35 (by decide) (fun c_105 => ?_) (fun c_105 => ?_)
      · rw [if_neg c_105] at hz
        refine lv_iconst (v := 0) hx hb dX4_great_46 (by decide) ?_
        have e9 := Eq.symm hz; subst e9
        exact J_111 _ ez9 H locs hP hD hS ls (lv_sub hl [0, 1] rfl)
      · rw [if_pos c_105] at hz
        refine lv_iload_n hx hb dX4_great_38 rfl (lv_at hl 1 rfl) ?_
        refine xb_ne (tgt := 46) hx hb dX4_great_39 (by decide) (fun c_106 => ?_) (fun c_106 => ?_)
        · rw [if_pos c_106] at hz
          refine lv_iconst (v := 0) hx hb dX4_great_46 (by decide) ?_
          have e9 := Eq.symm hz; subst e9
          exact J_111 _ ez9 H locs hP hD hS ls (lv_sub hl [0, 1] rfl)
        · rw [if_neg c_106] at hz
          refine lv_iconst (v := 1) hx hb dX4_great_42 (by decide) ?_
          refine lv_goto (tgt := 47) hx hb dX4_great_43 (by decide) ?_
          have e9 := Eq.symm hz; subst e9
          exact J_111 _ ez9 H locs hP hD hS ls (lv_sub hl [0, 1] rfl)
    · rw [if_pos c_104] at hz
      refine lv_iload_n hx hb dX4_great_26 rfl (lv_at hl 1 rfl) ?_
      refine xb_ne (tgt := 42) hx hb dX4_great_27 (by decide) (fun c_107 => ?_) (fun c_107 => ?_)
      · rw [if_pos c_107] at hz
        refine lv_iconst (v := 1) hx hb dX4_great_42 (by decide) ?_
        refine lv_goto (tgt := 47) hx hb dX4_great_43 (by decide) ?_
        have e9 := Eq.symm hz; subst e9
        exact J_111 _ ez9 H locs hP hD hS ls (lv_sub hl [0, 1] rfl)
      · rw [if_neg c_107] at hz
        refine lv_aload_n hx hb dX4_great_30 rfl (lv_at hl 0 rfl) ?_
        refine va_get (D := D) (ci := 5) (v := .int vmo) (C := RX4) (T := TX4) (N := 18) hx hb hts hi4 hown hK hP 0 rfl rfl 5 (by decide) (hts (.fieldLink RX4 74 "DecimalWordsModel" "mode" "I") (inW_9 _ (List.mem_of_getElem? (i := 24) rfl))) (fun _ h9 => h9) rfl dX4_great_31 ?_
        refine lv_iconst (v := 4) hx hb dX4_great_34 (by decide) ?_
        refine lv_icmp_ne (tgt := 46) hx hb dX4_great_35 (by decide) (fun c_108 => ?_) (fun c_108 => ?_)
        · rw [if_neg c_108] at hz
          refine lv_iconst (v := 0) hx hb dX4_great_46 (by decide) ?_
          have e9 := Eq.symm hz; subst e9
          exact J_111 _ ez9 H locs hP hD hS ls (lv_sub hl [0, 1] rfl)
        · rw [if_pos c_108] at hz
          refine lv_iload_n hx hb dX4_great_38 rfl (lv_at hl 1 rfl) ?_
          refine xb_ne (tgt := 46) hx hb dX4_great_39 (by decide) (fun c9 => absurd c9 c_107) (fun _ => ?_)
          refine lv_iconst (v := 1) hx hb dX4_great_42 (by decide) ?_
          refine lv_goto (tgt := 47) hx hb dX4_great_43 (by decide) ?_
          have e9 := Eq.symm hz; subst e9
          exact J_111 _ ez9 H locs hP hD hS ls (lv_sub hl [0, 1] rfl)
