def Z_X4_rounded_J_116 (vdg : Nat → Int32) (t_53 : Bool × Int32) : Bool := (if t_53.1 = true then true else (if vdg t_53.2.toNatClampNeg ≤ 0 then false else true))
def RZ_X4_rounded_J_116 (vdg : Nat → Int32) (t_53 : Bool × Int32) (u9 : Bool) : Prop := (if t_53.1 = true then u9 = true else (if vdg t_53.2.toNatClampNeg ≤ 0 then u9 = false else u9 = true))
theorem rZ_X4_rounded_J_116 (vdg : Nat → Int32) (t_53 : Bool × Int32) {u9 : Bool} (hu : u9 = Z_X4_rounded_J_116 vdg t_53) : RZ_X4_rounded_J_116 vdg t_53 u9 := by
  unfold RZ_X4_rounded_J_116
  refine ite_P (fun c_111 => ?_) (fun c_111 => ?_)
  · have hu := hu.trans (if_pos c_111)
    exact hu
  · have hu := hu.trans (if_neg c_111)
    refine ite_P (fun c_113 => ?_) (fun c_113 => ?_)
    · have hu := hu.trans (if_pos c_113)
      exact hu
    · have hu := hu.trans (if_neg c_113)
      exact hu
def B_X4_rounded_53 (vdg : Nat → Int32) (p0 : Int32) (t_53 : Bool × Int32) : Bool × Int32 := (if p0 - 1 ≤ t_53.2 then t_53 else (bnd (Z_X4_rounded_J_116 vdg t_53) (fun z115 : Bool => (bnd (t_53.2 + 1) (fun n117 : Int32 => (z115, n117))))))
def G_X4_rounded_53 (vdg : Nat → Int32) (p0 : Int32) (t_53 : Bool × Int32) : Bool := (if p0 - 1 ≤ t_53.2 then false else (bnd (Z_X4_rounded_J_116 vdg t_53) (fun z115 : Bool => (bnd (t_53.2 + 1) (fun n117 : Int32 => true)))))
def RB_X4_rounded_53 (vdg : Nat → Int32) (p0 : Int32) (t_53 : Bool × Int32) (u9 : Bool × Int32) : Prop := (if p0 - 1 ≤ t_53.2 then True else (∀ z115 : Bool, z115 = Z_X4_rounded_J_116 vdg t_53 → (∀ n117 : Int32, n117 = t_53.2 + 1 → u9 = (z115, n117))))
def RG_X4_rounded_53 (vdg : Nat → Int32) (p0 : Int32) (t_53 : Bool × Int32) (u9 : Bool) : Prop := (if p0 - 1 ≤ t_53.2 then u9 = false else u9 = true)
theorem rB_X4_rounded_53 (vdg : Nat → Int32) (p0 : Int32) (t_53 : Bool × Int32) {u9 : Bool × Int32} (hu : u9 = B_X4_rounded_53 vdg p0 t_53) : RB_X4_rounded_53 vdg p0 t_53 u9 := by
  unfold RB_X4_rounded_53
  refine ite_P (fun c_110 => ?_) (fun c_110 => ?_)
  · have hu := hu.trans (if_pos c_110)
    trivial
  · have hu := hu.trans (if_neg c_110)
    intro z115 ez115
    have hu := bnd_n hu ez115
    intro n117 en117
    have hu := bnd_n hu en117
    exact hu
theorem rG_X4_rounded_53 (vdg : Nat → Int32) (p0 : Int32) (t_53 : Bool × Int32) {u9 : Bool} (hu : u9 = G_X4_rounded_53 vdg p0 t_53) : RG_X4_rounded_53 vdg p0 t_53 u9 := by
  unfold RG_X4_rounded_53
  refine ite_P (fun c_110 => ?_) (fun c_110 => ?_)
  · have hu := hu.trans (if_pos c_110)
    exact hu
  · have hu := hu.trans (if_neg c_110)
    exact hu
def SB_X4_rounded_53 (vdg : Nat → Int32) (p0 : Int32) (t_53 : Bool × Int32) : Prop := (if p0 - 1 ≤ t_53.2 then True else (if t_53.1 = true then True else vp_in t_53.2 900))
def Z_X4_rounded_J_154 (vmo : Int32) (p1 : Bool) (z106 : Int64) (z126 : Bool) (z131 : Bool) (z137 : Bool) : Bool := (if vmo = 0 then (if z137 = true then true else (if z131 = true then (if jremL z106 2 = 1 then true else false) else false)) else (if vmo = 1 then (if z137 = true then true else (if z131 = true then true else false)) else (if vmo = 3 then (if z126 = true then (if p1 = true then false else true) else false) else (if vmo = 4 then (if z126 = true then (if p1 = true then true else false) else false) else false))))
def RZ_X4_rounded_J_154 (vmo : Int32) (p1 : Bool) (z106 : Int64) (z126 : Bool) (z131 : Bool) (z137 : Bool) (u9 : Bool) : Prop := (if vmo = 0 then (if z137 = true then u9 = true else (if z131 = true then (if jremL z106 2 = 1 then u9 = true else u9 = false) else u9 = false)) else (if vmo = 1 then (if z137 = true then u9 = true else (if z131 = true then u9 = true else u9 = false)) else (if vmo = 3 then (if z126 = true then (if p1 = true then u9 = false else u9 = true) else u9 = false) else (if vmo = 4 then (if z126 = true then (if p1 = true then u9 = true else u9 = false) else u9 = false) else u9 = false))))
theorem rZ_X4_rounded_J_154 (vmo : Int32) (p1 : Bool) (z106 : Int64) (z126 : Bool) (z131 : Bool) (z137 : Bool) {u9 : Bool} (hu : u9 = Z_X4_rounded_J_154 vmo p1 z106 z126 z131 z137) : RZ_X4_rounded_J_154 vmo p1 z106 z126 z131 z137 u9 := by
  unfold RZ_X4_rounded_J_154
  refine ite_P (fun c_139 => ?_) (fun c_139 => ?_)
  · have hu := hu.trans (if_pos c_139)
    refine ite_P (fun c_149 => ?_) (fun c_149 => ?_)
    · have hu := hu.trans (if_pos c_149)
      exact hu
    · have hu := hu.trans (if_neg c_149)
      refine ite_P (fun c_150 => ?_) (fun c_150 => ?_)
      · have hu := hu.trans (if_pos c_150)
        refine ite_P (fun c_151 => ?_) (fun c_151 => ?_)
        · have hu := hu.trans (if_pos c_151)
          exact hu
        · have hu := hu.trans (if_neg c_151)
          exact hu
      · have hu := hu.trans (if_neg c_150)
        exact hu
  · have hu := hu.trans (if_neg c_139)
    refine ite_P (fun c_140 => ?_) (fun c_140 => ?_)
    · have hu := hu.trans (if_pos c_140)
      refine ite_P (fun c_147 => ?_) (fun c_147 => ?_)
      · have hu := hu.trans (if_pos c_147)
        exact hu
      · have hu := hu.trans (if_neg c_147)
        refine ite_P (fun c_148 => ?_) (fun c_148 => ?_)
        · have hu := hu.trans (if_pos c_148)
          exact hu
        · have hu := hu.trans (if_neg c_148)
          exact hu
    · have hu := hu.trans (if_neg c_140)
      refine ite_P (fun c_141 => ?_) (fun c_141 => ?_)
      · have hu := hu.trans (if_pos c_141)
        refine ite_P (fun c_145 => ?_) (fun c_145 => ?_)
        · have hu := hu.trans (if_pos c_145)
          refine ite_P (fun c_146 => ?_) (fun c_146 => ?_)
          · have hu := hu.trans (if_pos c_146)
            exact hu
          · have hu := hu.trans (if_neg c_146)
            exact hu
        · have hu := hu.trans (if_neg c_145)
          exact hu
      · have hu := hu.trans (if_neg c_141)
        refine ite_P (fun c_142 => ?_) (fun c_142 => ?_)
        · have hu := hu.trans (if_pos c_142)
          refine ite_P (fun c_143 => ?_) (fun c_143 => ?_)
          · have hu := hu.trans (if_pos c_143)
            refine ite_P (fun c_144 => ?_) (fun c_144 => ?_)
            · have hu := hu.trans (if_pos c_144)
              exact hu
            · have hu := hu.trans (if_neg c_144)
              exact hu
          · have hu := hu.trans (if_neg c_143)
            exact hu
        · have hu := hu.trans (if_neg c_142)
          exact hu
def Z_X4_rounded_J_138 (n109 : Int32) (z118 : Bool × Int32) : Bool := (if 5 < n109 then true else (if n109 = 5 then (if z118.1 = true then true else false) else false))
def RZ_X4_rounded_J_138 (n109 : Int32) (z118 : Bool × Int32) (u9 : Bool) : Prop := (if 5 < n109 then u9 = true else (if n109 = 5 then (if z118.1 = true then u9 = true else u9 = false) else u9 = false))
theorem rZ_X4_rounded_J_138 (n109 : Int32) (z118 : Bool × Int32) {u9 : Bool} (hu : u9 = Z_X4_rounded_J_138 n109 z118) : RZ_X4_rounded_J_138 n109 z118 u9 := by
  unfold RZ_X4_rounded_J_138
  refine ite_P (fun c_133 => ?_) (fun c_133 => ?_)
  · have hu := hu.trans (if_pos c_133)
    exact hu
  · have hu := hu.trans (if_neg c_133)
    refine ite_P (fun c_134 => ?_) (fun c_134 => ?_)
    · have hu := hu.trans (if_pos c_134)
      refine ite_P (fun c_135 => ?_) (fun c_135 => ?_)
      · have hu := hu.trans (if_pos c_135)
        exact hu
      · have hu := hu.trans (if_neg c_135)
        exact hu
    · have hu := hu.trans (if_neg c_134)
      exact hu
def Z_X4_rounded_J_132 (n109 : Int32) (z118 : Bool × Int32) : Bool := (if n109 = 5 then (if z118.1 = true then false else true) else false)
def RZ_X4_rounded_J_132 (n109 : Int32) (z118 : Bool × Int32) (u9 : Bool) : Prop := (if n109 = 5 then (if z118.1 = true then u9 = false else u9 = true) else u9 = false)
theorem rZ_X4_rounded_J_132 (n109 : Int32) (z118 : Bool × Int32) {u9 : Bool} (hu : u9 = Z_X4_rounded_J_132 n109 z118) : RZ_X4_rounded_J_132 n109 z118 u9 := by
  unfold RZ_X4_rounded_J_132
  refine ite_P (fun c_128 => ?_) (fun c_128 => ?_)
  · have hu := hu.trans (if_pos c_128)
    refine ite_P (fun c_129 => ?_) (fun c_129 => ?_)
    · have hu := hu.trans (if_pos c_129)
      exact hu
    · have hu := hu.trans (if_neg c_129)
      exact hu
  · have hu := hu.trans (if_neg c_128)
    exact hu
def Z_X4_rounded_J_127 (n109 : Int32) (z118 : Bool × Int32) : Bool := (if z118.1 = true then true else (if n109 ≤ 0 then false else true))
def RZ_X4_rounded_J_127 (n109 : Int32) (z118 : Bool × Int32) (u9 : Bool) : Prop := (if z118.1 = true then u9 = true else (if n109 ≤ 0 then u9 = false else u9 = true))
theorem rZ_X4_rounded_J_127 (n109 : Int32) (z118 : Bool × Int32) {u9 : Bool} (hu : u9 = Z_X4_rounded_J_127 n109 z118) : RZ_X4_rounded_J_127 n109 z118 u9 := by
  unfold RZ_X4_rounded_J_127
  refine ite_P (fun c_123 => ?_) (fun c_123 => ?_)
  · have hu := hu.trans (if_pos c_123)
    exact hu
  · have hu := hu.trans (if_neg c_123)
    refine ite_P (fun c_124 => ?_) (fun c_124 => ?_)
    · have hu := hu.trans (if_pos c_124)
      exact hu
    · have hu := hu.trans (if_neg c_124)
      exact hu
def Z_X4_rounded_J_107 (vct : Int32) (vdg : Nat → Int32) (p0 : Int32) : Int64 := (if vct ≤ p0 then 0 else F_X4_whole vct vdg p0)
def RZ_X4_rounded_J_107 (vct : Int32) (vdg : Nat → Int32) (p0 : Int32) (u9 : Int64) : Prop := (if vct ≤ p0 then u9 = 0 else u9 = F_X4_whole vct vdg p0)
theorem rZ_X4_rounded_J_107 (vct : Int32) (vdg : Nat → Int32) (p0 : Int32) {u9 : Int64} (hu : u9 = Z_X4_rounded_J_107 vct vdg p0) : RZ_X4_rounded_J_107 vct vdg p0 u9 := by
  unfold RZ_X4_rounded_J_107
  refine ite_P (fun c_102 => ?_) (fun c_102 => ?_)
  · have hu := hu.trans (if_pos c_102)
    exact hu
  · have hu := hu.trans (if_neg c_102)
    exact hu
def F_X4_rounded (vmo : Int32) (vct : Int32) (vre : Bool) (vdg : Nat → Int32) (p0 : Int32) (p1 : Bool) : Int64 := (if 0 < p0 then (bnd (Z_X4_rounded_J_107 vct vdg p0) (fun z106 : Int64 => (bnd (vdg (p0 - 1).toNatClampNeg) (fun n109 : Int32 => (bnd (wl (G_X4_rounded_53 vdg p0) (B_X4_rounded_53 vdg p0) 901 (vre, 0)) (fun z118 : Bool × Int32 => (bnd (Z_X4_rounded_J_127 n109 z118) (fun z126 : Bool => (bnd (Z_X4_rounded_J_132 n109 z118) (fun z131 : Bool => (bnd (Z_X4_rounded_J_138 n109 z118) (fun z137 : Bool => (bnd (Z_X4_rounded_J_154 vmo p1 z106 z126 z131 z137) (fun z153 : Bool => (if z153 = true then z106 + 1 else z106))))))))))))))) else F_X4_times (F_X4_whole vct vdg (0 : Int32)) (-p0))
def RF_X4_rounded (vmo : Int32) (vct : Int32) (vre : Bool) (vdg : Nat → Int32) (p0 : Int32) (p1 : Bool) (u9 : Int64) : Prop := (if 0 < p0 then (∀ z106 : Int64, z106 = Z_X4_rounded_J_107 vct vdg p0 → (∀ n109 : Int32, n109 = vdg (p0 - 1).toNatClampNeg → (∀ z118 : Bool × Int32, z118 = wl (G_X4_rounded_53 vdg p0) (B_X4_rounded_53 vdg p0) 901 (vre, 0) → (∀ z126 : Bool, z126 = Z_X4_rounded_J_127 n109 z118 → (∀ z131 : Bool, z131 = Z_X4_rounded_J_132 n109 z118 → (∀ z137 : Bool, z137 = Z_X4_rounded_J_138 n109 z118 → (∀ z153 : Bool, z153 = Z_X4_rounded_J_154 vmo p1 z106 z126 z131 z137 → (if z153 = true then u9 = z106 + 1 else u9 = z106)))))))) else u9 = F_X4_times (F_X4_whole vct vdg (0 : Int32)) (-p0))
theorem rF_X4_rounded (vmo : Int32) (vct : Int32) (vre : Bool) (vdg : Nat → Int32) (p0 : Int32) (p1 : Bool) {u9 : Int64} (hu : u9 = F_X4_rounded vmo vct vre vdg p0 p1) : RF_X4_rounded vmo vct vre vdg p0 p1 u9 := by
  unfold RF_X4_rounded
  refine ite_P (fun c_101 => ?_) (fun c_101 => ?_)
  · have hu := hu.trans (if_pos c_101)
    intro z106 ez106
    have hu := bnd_n hu ez106
    intro n109 en109
    have hu := bnd_n hu en109
    intro z118 ez118
    have hu := bnd_n hu ez118
    intro z126 ez126
    have hu := bnd_n hu ez126
    intro z131 ez131
    have hu := bnd_n hu ez131
    intro z137 ez137
    have hu := bnd_n hu ez137
    intro z153 ez153
    have hu := bnd_n hu ez153
    refine ite_P (fun c_155 => ?_) (fun c_155 => ?_)
    · have hu := hu.trans (if_pos c_155)
      exact hu
    · have hu := hu.trans (if_neg c_155)
      exact hu
  · have hu := hu.trans (if_neg c_101)
    exact hu
def S_X4_rounded (vmo : Int32) (vct : Int32) (vre : Bool) (vdg : Nat → Int32) (p0 : Int32) (p1 : Bool) : Prop := (if 0 < p0 then ((if vct ≤ p0 then True else S_X4_whole vct vdg p0)) ∧ (∀ z106 : Int64, z106 = Z_X4_rounded_J_107 vct vdg p0 → (vp_in (p0 - 1) 900) ∧ (∀ n109 : Int32, n109 = vdg (p0 - 1).toNatClampNeg → (∀ j : Nat, j < nW (G_X4_rounded_53 vdg p0) (B_X4_rounded_53 vdg p0) 901 (vre, 0) → SB_X4_rounded_53 vdg p0 (itn (B_X4_rounded_53 vdg p0) j (vre, 0))) ∧ G_X4_rounded_53 vdg p0 (wl (G_X4_rounded_53 vdg p0) (B_X4_rounded_53 vdg p0) 901 (vre, 0)) = false)) else (S_X4_whole vct vdg (0 : Int32)) ∧ S_X4_times (F_X4_whole vct vdg (0 : Int32)) (-p0))
def rm_X4_rounded : Room := { frames := 1, cells := 0, slots := 0, locals := 26 }
set_option maxHeartbeats 4000000 in
set_option maxRecDepth 100000 in
theorem c_X4_rounded (l : Launch) (D : va_G) (cR cI cJ cZ : ClassId) (t0 : Nat) (am ak an ac ae ag aq : Nat) (vth : Int32) (vmo : Int32) (vfg : Int32) (vtp : Int32) (vkd : Int32) (vng : Bool) (vcc : Int64) (vqq : Int32) (vrs : Int32) (vct : Int32) (vun : Int32) (vre : Bool) (vks : Nat → Int32) (vms : Nat → Bool) (vcs : Nat → Int64) (ves : Nat → Int32) (vdg : Nat → Int32) (vog : Nat → Int32) (p0 : Int32) (p1 : Bool) (u : Int64) (hu : u = F_X4_rounded vmo vct vre vdg p0 p1) (hs : S_X4_rounded vmo vct vre vdg p0 p1) : XM l D (xty cR cI cJ cZ) t0 yX4_rounded cX4_rounded 11 (some .long) rm_X4_rounded [.ref am, .int p0, .int (bI p1)] (some (.long u)) (mw cI cJ cZ am ak an ac ae ag aq vth vmo vfg vtp vkd vng vcc vqq vrs vct vun vre vks vms vcs ves vdg vog) (mw cI cJ cZ am ak an ac ae ag aq vth vmo vfg vtp vkd vng vcc vqq vrs vct vun vre vks vms vcs ves vdg vog) := by
  refine XM.of (by decide) (Nat.le_of_ble_eq_true rfl) ?_
  intro p e s m args below meth c A Q F hK hP hD hA hSt hS hQ ls hl
  obtain ⟨hx, hb, hr, hts, hown, hlocks, hml⟩ := F
  have hCF : CallFix p m c cX4_rounded 11 s args gW RX4 := ⟨hx, hb, hml, hown, hts⟩
  unfold S_X4_rounded at hs
  have hu := rF_X4_rounded vmo vct vre vdg p0 p1 hu
  unfold RF_X4_rounded at hu
  obtain ⟨H, eH⟩ : ∃ y9 : Heap, y9 = s.heap := ⟨_, rfl⟩
  obtain ⟨locs, eL⟩ : ∃ y9 : List Loc, y9 = [] := ⟨_, rfl⟩
  rw [← eL] at hS ⊢
  have hP : va_P D vwCl (mw cI cJ cZ am ak an ac ae ag aq vth vmo vfg vtp vkd vng vcc vqq vrs vct vun vre vks vms vcs ves vdg vog) H := by rw [eH]; exact hP
  have hS : va_S A s.heap H locs := by rw [eH]; exact hS
  suffices goal9 : W p l e rm_X4_rounded s m args below meth c H locs 0 0 Q (F0 m 0 ls []) from by rw [← eH]; exact goal9
  have hl : lv_has ls 11 [(0, .ref am), (1, .int p0), (2, .int (bI p1))] := hl
  have hi4 : ∀ w ∈ wsX40, w ∈ gW := inW_X4
  refine lv_iload_n hx hb dX4_rounded_0 rfl (lv_at hl 1 rfl) ?_
  refine lv_if_gt (tgt := 16) hx hb dX4_rounded_1 (by decide) (fun c_101 => ?_) (fun c_101 => ?_)
  · rw [if_pos c_101] at hs
    rw [if_pos c_101] at hu
    refine lv_iload_n hx hb dX4_rounded_16 rfl (lv_at hl 1 rfl) ?_
    refine lv_aload_n hx hb dX4_rounded_17 rfl (lv_at hl 0 rfl) ?_
    refine va_get (D := D) (ci := 5) (v := .int vct) (C := RX4) (T := TX4) (N := 18) hx hb hts hi4 hown hK hP 0 rfl rfl 13 (by decide) (hts (.fieldLink RX4 39 "DecimalWordsModel" "count" "I") (inW_9 _ (List.mem_of_getElem? (i := 8) rfl))) (fun _ h9 => h9) rfl dX4_rounded_18 ?_
    have J_107 : (∀ z106 : Int64, z106 = Z_X4_rounded_J_107 vct vdg p0 → ∀ (H : Heap) (locs : List Loc), va_P D vwCl (mw cI cJ cZ am ak an ac ae ag aq vth vmo vfg vtp vkd vng vcc vqq vrs vct vun vre vks vms vcs ves vdg vog) H → va_D A (mw cI cJ cZ am ak an ac ae ag aq vth vmo vfg vtp vkd vng vcc vqq vrs vct vun vre vks vms vcs ves vdg vog) → va_S A s.heap H locs → ∀ ls : Array Slot, lv_has ls 11 [(0, .ref am), (1, .int p0), (2, .int (bI p1))] → W p l e rm_X4_rounded s m args below meth c H locs 0 0 Q (F0 m 33 ls [.long z106])) := by
      intro z106 ez106 H locs hP hD hS ls hl
      have hs := hs.2
      have hs := hs _ ez106
      have hu := hu _ ez106
      refine lv_lstore_n (lv' := [(3, .long z106), (0, .ref am), (1, .int p0), (2, .int (bI p1))]) hx hb dX4_rounded_33 rfl hl (by decide) rfl (fun ls hl => ?_)
      refine lv_aload_n hx hb dX4_rounded_34 rfl (lv_at hl 1 rfl) ?_
      refine va_get (D := D) (ci := 5) (v := .ref ag) (C := RX4) (T := TX4) (N := 18) hx hb hts hi4 hown hK hP 0 rfl rfl 14 (by decide) (hts (.fieldLink RX4 24 "DecimalWordsModel" "digits" "[I") (inW_8 _ (List.mem_of_getElem? (i := 35) rfl))) (fun _ h9 => h9) rfl dX4_rounded_35 ?_
      refine lv_iload_n hx hb dX4_rounded_38 rfl (lv_at hl 2 rfl) ?_
      refine lv_iconst (v := 1) hx hb dX4_rounded_39 (by decide) ?_
      refine lv_isub hx hb dX4_rounded_40 ?_
      obtain ⟨h_108, hs⟩ := hs
      refine va_iald hx hb hK hP 5 1 rfl rfl h_108 dX4_rounded_41 ?_
      refine lv_topi (fun n109 en109 => ?_)
      have hs := hs _ en109
      have hu := hu _ en109
      refine lv_istore (lv' := [(5, .int n109), (3, .long z106), (0, .ref am), (1, .int p0), (2, .int (bI p1))]) hx hb dX4_rounded_42 hl (by decide) rfl (fun ls hl => ?_)
      refine lv_aload_n hx hb dX4_rounded_44 rfl (lv_at hl 2 rfl) ?_
      refine va_get (D := D) (ci := 5) (v := .int (bI vre)) (C := RX4) (T := TX4) (N := 18) hx hb hts hi4 hown hK hP 0 rfl rfl 17 (by decide) (hts (.fieldLink RX4 71 "DecimalWordsModel" "rest" "Z") (inW_9 _ (List.mem_of_getElem? (i := 23) rfl))) (fun _ h9 => h9) rfl dX4_rounded_45 ?_
      refine lv_istore (lv' := [(6, .int (bI vre)), (5, .int n109), (3, .long z106), (0, .ref am), (1, .int p0), (2, .int (bI p1))]) hx hb dX4_rounded_48 hl (by decide) rfl (fun ls hl => ?_)
      refine lv_iconst (v := 0) hx hb dX4_rounded_50 (by decide) ?_
      refine lv_istore (lv' := [(7, .int 0), (6, .int (bI vre)), (5, .int n109), (3, .long z106), (0, .ref am), (1, .int p0), (2, .int (bI p1))]) hx hb dX4_rounded_51 hl (by decide) rfl (fun ls hl => ?_)
      have L_160 : ∀ (n9 : Nat) (t_53 : Bool × Int32), (∀ j : Nat, j < n9 → G_X4_rounded_53 vdg p0 (itn (B_X4_rounded_53 vdg p0) j t_53) = true) → (∀ j : Nat, j < n9 → SB_X4_rounded_53 vdg p0 (itn (B_X4_rounded_53 vdg p0) j t_53)) → (∀ (H : Heap) (locs : List Loc), va_P D vwCl (mw cI cJ cZ am ak an ac ae ag aq vth vmo vfg vtp vkd vng vcc vqq vrs vct vun vre vks vms vcs ves vdg vog) H → va_D A (mw cI cJ cZ am ak an ac ae ag aq vth vmo vfg vtp vkd vng vcc vqq vrs vct vun vre vks vms vcs ves vdg vog) → va_S A s.heap H locs → ∀ ls : Array Slot, lv_has ls 11 [(0, .ref am), (1, .int p0), (2, .int (bI p1)), (3, .long z106), (5, .int n109), (6, .int (bI ((itn (B_X4_rounded_53 vdg p0) n9 t_53).1))), (7, .int ((itn (B_X4_rounded_53 vdg p0) n9 t_53).2))] → W p l e rm_X4_rounded s m args below meth c H locs 0 0 Q (F0 m 53 ls [])) → ∀ (H : Heap) (locs : List Loc), va_P D vwCl (mw cI cJ cZ am ak an ac ae ag aq vth vmo vfg vtp vkd vng vcc vqq vrs vct vun vre vks vms vcs ves vdg vog) H → va_D A (mw cI cJ cZ am ak an ac ae ag aq vth vmo vfg vtp vkd vng vcc vqq vrs vct vun vre vks vms vcs ves vdg vog) → va_S A s.heap H locs → ∀ ls : Array Slot, lv_has ls 11 [(0, .ref am), (1, .int p0), (2, .int (bI p1)), (3, .long z106), (5, .int n109), (6, .int (bI t_53.1)), (7, .int t_53.2)] → W p l e rm_X4_rounded s m args below meth c H locs 0 0 Q (F0 m 53 ls []) := by
        intro n9
        induction n9 with
        | zero => exact fun _ _ _ k9 => k9
        | succ n9 ih9 =>
          intro t_53 hG9 hs9 k9 H locs hP hD hS ls hl
          have hG0 : G_X4_rounded_53 vdg p0 t_53 = true := hG9 0 (Nat.succ_pos n9)
          have hg := rG_X4_rounded_53 vdg p0 t_53 (Eq.symm hG0)
          unfold RG_X4_rounded_53 at hg
          obtain ⟨t9, et9⟩ : ∃ y9 : Bool × Int32, y9 = (B_X4_rounded_53 vdg p0) t_53 := ⟨_, rfl⟩
          have hb9 := rB_X4_rounded_53 vdg p0 t_53 et9
          unfold RB_X4_rounded_53 at hb9
          have hs : SB_X4_rounded_53 vdg p0 t_53 := hs9 0 (Nat.succ_pos n9)
          unfold SB_X4_rounded_53 at hs
          refine lv_iload hx hb dX4_rounded_53 (lv_at hl 6 rfl) ?_
          refine lv_iload_n hx hb dX4_rounded_55 rfl (lv_at hl 1 rfl) ?_
          refine lv_iconst (v := 1) hx hb dX4_rounded_56 (by decide) ?_
          refine lv_isub hx hb dX4_rounded_57 ?_
          refine lv_icmp_ge (tgt := 89) hx hb dX4_rounded_58 (by decide) (fun c_110 => ?_) (fun c_110 => ?_)
          · rw [if_pos c_110] at hg
            exact absurd hg (by decide)
          · rw [if_neg c_110] at hs
            rw [if_neg c_110] at hg
            rw [if_neg c_110] at hb9
            refine lv_iload hx hb dX4_rounded_61 (lv_at hl 5 rfl) ?_
            have J_116 : (∀ z115 : Bool, z115 = Z_X4_rounded_J_116 vdg t_53 → ∀ (H : Heap) (locs : List Loc), va_P D vwCl (mw cI cJ cZ am ak an ac ae ag aq vth vmo vfg vtp vkd vng vcc vqq vrs vct vun vre vks vms vcs ves vdg vog) H → va_D A (mw cI cJ cZ am ak an ac ae ag aq vth vmo vfg vtp vkd vng vcc vqq vrs vct vun vre vks vms vcs ves vdg vog) → va_S A s.heap H locs → ∀ ls : Array Slot, lv_has ls 11 [(0, .ref am), (1, .int p0), (2, .int (bI p1)), (3, .long z106), (5, .int n109), (7, .int t_53.2)] → W p l e rm_X4_rounded s m args below meth c H locs 0 0 Q (F0 m 81 ls [.int (bI z115)])) := by
              intro z115 ez115 H locs hP hD hS ls hl
              have hb9 := hb9 _ ez115
              refine lv_istore (lv' := [(6, .int (bI z115)), (0, .ref am), (1, .int p0), (2, .int (bI p1)), (3, .long z106), (5, .int n109), (7, .int t_53.2)]) hx hb dX4_rounded_81 hl (by decide) rfl (fun ls hl => ?_)
              obtain ⟨n117, en117⟩ : ∃ y9 : Int32, y9 = t_53.2 + 1 := ⟨_, rfl⟩
              have hb9 := hb9 _ en117
              refine lv_iinc (v := n117) (lv' := [(7, .int n117), (6, .int (bI z115)), (0, .ref am), (1, .int p0), (2, .int (bI p1)), (3, .long z106), (5, .int n109)]) hx hb dX4_rounded_83 hl (k := 6) rfl (by rw [en117]; rfl) (by decide) rfl (fun ls hl => ?_)
              refine lv_goto (tgt := 53) hx hb dX4_rounded_86 (by decide) ?_
              have e9 := Eq.symm hb9; subst e9
              have key9 := ih9 ((B_X4_rounded_53 vdg p0) t_53) (fun j hj => hG9 (j + 1) (Nat.succ_lt_succ hj)) (fun j hj => hs9 (j + 1) (Nat.succ_lt_succ hj)) k9
              rw [← et9] at key9
              exact key9 H locs hP hD hS ls (lv_sub hl [2, 3, 4, 5, 6, 1, 0] rfl)
            obtain ⟨z9, ez9⟩ : ∃ y9 : Bool, y9 = Z_X4_rounded_J_116 vdg t_53 := ⟨_, rfl⟩
            have hz := rZ_X4_rounded_J_116 vdg t_53 ez9
            unfold RZ_X4_rounded_J_116 at hz
            refine xb_ne (tgt := 76) hx hb dX4_rounded_63 (by decide) (fun c_111 => ?_) (fun c_111 => ?_)
            · rw [if_pos c_111] at hz
              refine lv_iconst (v := 1) hx hb dX4_rounded_76 (by decide) ?_
              refine lv_goto (tgt := 81) hx hb dX4_rounded_77 (by decide) ?_
              have e9 := Eq.symm hz; subst e9
              exact J_116 _ ez9 H locs hP hD hS ls (lv_sub hl [0, 1, 2, 3, 4, 6] rfl)
            · rw [if_neg c_111] at hs
              rw [if_neg c_111] at hz
              refine lv_aload_n hx hb dX4_rounded_66 rfl (lv_at hl 0 rfl) ?_
              refine va_get (D := D) (ci := 5) (v := .ref ag) (C := RX4) (T := TX4) (N := 18) hx hb hts hi4 hown hK hP 0 rfl rfl 14 (by decide) (hts (.fieldLink RX4 24 "DecimalWordsModel" "digits" "[I") (inW_8 _ (List.mem_of_getElem? (i := 35) rfl))) (fun _ h9 => h9) rfl dX4_rounded_67 ?_
              refine lv_iload hx hb dX4_rounded_70 (lv_at hl 6 rfl) ?_
              have h_112 := hs
              refine va_iald hx hb hK hP 5 1 rfl rfl h_112 dX4_rounded_72 ?_
              refine lv_if_le (tgt := 80) hx hb dX4_rounded_73 (by decide) (fun c_113 => ?_) (fun c_113 => ?_)
              · rw [if_pos c_113] at hz
                refine lv_iconst (v := 0) hx hb dX4_rounded_80 (by decide) ?_
                have e9 := Eq.symm hz; subst e9
                exact J_116 _ ez9 H locs hP hD hS ls (lv_sub hl [0, 1, 2, 3, 4, 6] rfl)
              · rw [if_neg c_113] at hz
                refine lv_iconst (v := 1) hx hb dX4_rounded_76 (by decide) ?_
                refine lv_goto (tgt := 81) hx hb dX4_rounded_77 (by decide) ?_
                have e9 := Eq.symm hz; subst e9
                exact J_116 _ ez9 H locs hP hD hS ls (lv_sub hl [0, 1, 2, 3, 4, 6] rfl)
      obtain ⟨hsL, hG1⟩ := hs
      refine L_160 (nW (G_X4_rounded_53 vdg p0) (B_X4_rounded_53 vdg p0) 901 (vre, 0)) (vre, 0) (nW_lt _ _ _ _) hsL (fun H locs hP hD hS ls hl => ?_) H locs hP hD hS ls (lv_sub hl [4, 5, 6, 3, 2, 1, 0] rfl)
      obtain ⟨z118, ez118⟩ : ∃ y9 : Bool × Int32, y9 = wl (G_X4_rounded_53 vdg p0) (B_X4_rounded_53 vdg p0) 901 (vre, 0) := ⟨_, rfl⟩
      have e9 : z118 = itn (B_X4_rounded_53 vdg p0) (nW (G_X4_rounded_53 vdg p0) (B_X4_rounded_53 vdg p0) 901 (vre, 0)) (vre, 0) := ez118
      try rw [← e9] at hP
      try rw [← e9] at hD
      try rw [← e9] at hl
      rw [← ez118] at hG1
      clear e9
      have hg := rG_X4_rounded_53 vdg p0 z118 (Eq.symm hG1)
      unfold RG_X4_rounded_53 at hg
      have hu := hu _ ez118
      refine lv_iload hx hb dX4_rounded_53 (lv_at hl 6 rfl) ?_
      refine lv_iload_n hx hb dX4_rounded_55 rfl (lv_at hl 1 rfl) ?_
      refine lv_iconst (v := 1) hx hb dX4_rounded_56 (by decide) ?_
      refine lv_isub hx hb dX4_rounded_57 ?_
      have J_122 : ∀ (H : Heap) (locs : List Loc), va_P D vwCl (mw cI cJ cZ am ak an ac ae ag aq vth vmo vfg vtp vkd vng vcc vqq vrs vct vun vre vks vms vcs ves vdg vog) H → va_D A (mw cI cJ cZ am ak an ac ae ag aq vth vmo vfg vtp vkd vng vcc vqq vrs vct vun vre vks vms vcs ves vdg vog) → va_S A s.heap H locs → ∀ ls : Array Slot, lv_has ls 11 [(0, .ref am), (2, .int (bI p1)), (3, .long z106), (5, .int n109), (6, .int (bI z118.1))] → W p l e rm_X4_rounded s m args below meth c H locs 0 0 Q (F0 m 89 ls []) := by
        intro H locs hP hD hS ls hl
        refine lv_iload hx hb dX4_rounded_89 (lv_at hl 4 rfl) ?_
        have J_127 : (∀ z126 : Bool, z126 = Z_X4_rounded_J_127 n109 z118 → ∀ (H : Heap) (locs : List Loc), va_P D vwCl (mw cI cJ cZ am ak an ac ae ag aq vth vmo vfg vtp vkd vng vcc vqq vrs vct vun vre vks vms vcs ves vdg vog) H → va_D A (mw cI cJ cZ am ak an ac ae ag aq vth vmo vfg vtp vkd vng vcc vqq vrs vct vun vre vks vms vcs ves vdg vog) → va_S A s.heap H locs → ∀ ls : Array Slot, lv_has ls 11 [(0, .ref am), (2, .int (bI p1)), (3, .long z106), (5, .int n109), (6, .int (bI z118.1))] → W p l e rm_X4_rounded s m args below meth c H locs 0 0 Q (F0 m 104 ls [.int (bI z126)])) := by
          intro z126 ez126 H locs hP hD hS ls hl
          have hu := hu _ ez126
          refine lv_istore (lv' := [(7, .int (bI z126)), (0, .ref am), (2, .int (bI p1)), (3, .long z106), (5, .int n109), (6, .int (bI z118.1))]) hx hb dX4_rounded_104 hl (by decide) rfl (fun ls hl => ?_)
          refine lv_iload hx hb dX4_rounded_106 (lv_at hl 4 rfl) ?_
          refine lv_iconst (v := 5) hx hb dX4_rounded_108 (by decide) ?_
          have J_132 : (∀ z131 : Bool, z131 = Z_X4_rounded_J_132 n109 z118 → ∀ (H : Heap) (locs : List Loc), va_P D vwCl (mw cI cJ cZ am ak an ac ae ag aq vth vmo vfg vtp vkd vng vcc vqq vrs vct vun vre vks vms vcs ves vdg vog) H → va_D A (mw cI cJ cZ am ak an ac ae ag aq vth vmo vfg vtp vkd vng vcc vqq vrs vct vun vre vks vms vcs ves vdg vog) → va_S A s.heap H locs → ∀ ls : Array Slot, lv_has ls 11 [(0, .ref am), (2, .int (bI p1)), (3, .long z106), (5, .int n109), (6, .int (bI z118.1)), (7, .int (bI z126))] → W p l e rm_X4_rounded s m args below meth c H locs 0 0 Q (F0 m 122 ls [.int (bI z131)])) := by
            intro z131 ez131 H locs hP hD hS ls hl
            have hu := hu _ ez131
            refine lv_istore (lv' := [(8, .int (bI z131)), (0, .ref am), (2, .int (bI p1)), (3, .long z106), (5, .int n109), (6, .int (bI z118.1)), (7, .int (bI z126))]) hx hb dX4_rounded_122 hl (by decide) rfl (fun ls hl => ?_)
            refine lv_iload hx hb dX4_rounded_124 (lv_at hl 4 rfl) ?_
            refine lv_iconst (v := 5) hx hb dX4_rounded_126 (by decide) ?_
            have J_138 : (∀ z137 : Bool, z137 = Z_X4_rounded_J_138 n109 z118 → ∀ (H : Heap) (locs : List Loc), va_P D vwCl (mw cI cJ cZ am ak an ac ae ag aq vth vmo vfg vtp vkd vng vcc vqq vrs vct vun vre vks vms vcs ves vdg vog) H → va_D A (mw cI cJ cZ am ak an ac ae ag aq vth vmo vfg vtp vkd vng vcc vqq vrs vct vun vre vks vms vcs ves vdg vog) → va_S A s.heap H locs → ∀ ls : Array Slot, lv_has ls 11 [(0, .ref am), (2, .int (bI p1)), (3, .long z106), (7, .int (bI z126)), (8, .int (bI z131))] → W p l e rm_X4_rounded s m args below meth c H locs 0 0 Q (F0 m 146 ls [.int (bI z137)])) := by
              intro z137 ez137 H locs hP hD hS ls hl
              have hu := hu _ ez137
              refine lv_istore (lv' := [(9, .int (bI z137)), (0, .ref am), (2, .int (bI p1)), (3, .long z106), (7, .int (bI z126)), (8, .int (bI z131))]) hx hb dX4_rounded_146 hl (by decide) rfl (fun ls hl => ?_)
              refine lv_aload_n hx hb dX4_rounded_148 rfl (lv_at hl 1 rfl) ?_
              refine va_get (D := D) (ci := 5) (v := .int vmo) (C := RX4) (T := TX4) (N := 18) hx hb hts hi4 hown hK hP 0 rfl rfl 5 (by decide) (hts (.fieldLink RX4 74 "DecimalWordsModel" "mode" "I") (inW_9 _ (List.mem_of_getElem? (i := 24) rfl))) (fun _ h9 => h9) rfl dX4_rounded_149 ?_
              have J_154 : (∀ z153 : Bool, z153 = Z_X4_rounded_J_154 vmo p1 z106 z126 z131 z137 → ∀ (H : Heap) (locs : List Loc), va_P D vwCl (mw cI cJ cZ am ak an ac ae ag aq vth vmo vfg vtp vkd vng vcc vqq vrs vct vun vre vks vms vcs ves vdg vog) H → va_D A (mw cI cJ cZ am ak an ac ae ag aq vth vmo vfg vtp vkd vng vcc vqq vrs vct vun vre vks vms vcs ves vdg vog) → va_S A s.heap H locs → ∀ ls : Array Slot, lv_has ls 11 [(3, .long z106)] → W p l e rm_X4_rounded s m args below meth c H locs 0 0 Q (F0 m 256 ls [.int (bI z153)])) := by
                intro z153 ez153 H locs hP hD hS ls hl
                have hu := hu _ ez153
                refine lv_istore (lv' := [(10, .int (bI z153)), (3, .long z106)]) hx hb dX4_rounded_256 hl (by decide) rfl (fun ls hl => ?_)
                refine lv_iload hx hb dX4_rounded_258 (lv_at hl 0 rfl) ?_
                refine xb_eq (tgt := 269) hx hb dX4_rounded_260 (by decide) (fun c_155 => ?_) (fun c_155 => ?_)
                · rw [if_neg c_155] at hu
                  refine lv_lload_n hx hb dX4_rounded_269 rfl (lv_at hl 1 rfl) ?_
                  have e9 := Eq.symm hu; subst e9
                  exact x_lret hx hb hr hlocks hQ hK hP hD hS rfl rfl dX4_rounded_270
                · rw [if_pos c_155] at hu
                  refine lv_lload_n hx hb dX4_rounded_263 rfl (lv_at hl 1 rfl) ?_
                  refine lv_lconst (v := 1) hx hb dX4_rounded_264 (by decide) ?_
                  refine lv_ladd hx hb dX4_rounded_265 ?_
                  refine lv_goto (tgt := 270) hx hb dX4_rounded_266 (by decide) ?_
                  have e9 := Eq.symm hu; subst e9
                  exact x_lret hx hb hr hlocks hQ hK hP hD hS rfl rfl dX4_rounded_270
              obtain ⟨z9, ez9⟩ : ∃ y9 : Bool, y9 = Z_X4_rounded_J_154 vmo p1 z106 z126 z131 z137 := ⟨_, rfl⟩
              have hz := rZ_X4_rounded_J_154 vmo p1 z106 z126 z131 z137 ez9
              unfold RZ_X4_rounded_J_154 at hz
              refine lv_if_ne (tgt := 183) hx hb dX4_rounded_152 (by decide) (fun c_139 => ?_) (fun c_139 => ?_)
              · rw [if_neg c_139] at hz
                refine lv_aload_n hx hb dX4_rounded_183 rfl (lv_at hl 1 rfl) ?_
                refine va_get (D := D) (ci := 5) (v := .int vmo) (C := RX4) (T := TX4) (N := 18) hx hb hts hi4 hown hK hP 0 rfl rfl 5 (by decide) (hts (.fieldLink RX4 74 "DecimalWordsModel" "mode" "I") (inW_9 _ (List.mem_of_getElem? (i := 24) rfl))) (fun _ h9 => h9) rfl dX4_rounded_184 ?_
                refine lv_iconst (v := 1) hx hb dX4_rounded_187 (by decide) ?_
                refine lv_icmp_ne (tgt := 209) hx hb dX4_rounded_188 (by decide) (fun c_140 => ?_) (fun c_140 => ?_)
                · rw [if_neg c_140] at hz
                  refine lv_aload_n hx hb dX4_rounded_209 rfl (lv_at hl 1 rfl) ?_
                  refine va_get (D := D) (ci := 5) (v := .int vmo) (C := RX4) (T := TX4) (N := 18) hx hb hts hi4 hown hK hP 0 rfl rfl 5 (by decide) (hts (.fieldLink RX4 74 "DecimalWordsModel" "mode" "I") (inW_9 _ (List.mem_of_getElem? (i := 24) rfl))) (fun _ h9 => h9) rfl dX4_rounded_210 ?_
                  refine lv_iconst (v := 3) hx hb dX4_rounded_213 (by decide) ?_
                  refine lv_icmp_ne (tgt := 234) hx hb dX4_rounded_214 (by decide) (fun c_141 => ?_) (fun c_141 => ?_)
                  · rw [if_neg c_141] at hz
                    refine lv_aload_n hx hb dX4_rounded_234 rfl (lv_at hl 1 rfl) ?_
                    refine va_get (D := D) (ci := 5) (v := .int vmo) (C := RX4) (T := TX4) (N := 18) hx hb hts hi4 hown hK hP 0 rfl rfl 5 (by decide) (hts (.fieldLink RX4 74 "DecimalWordsModel" "mode" "I") (inW_9 _ (List.mem_of_getElem? (i := 24) rfl))) (fun _ h9 => h9) rfl dX4_rounded_235 ?_
                    refine lv_iconst (v := 4) hx hb dX4_rounded_238 (by decide) ?_
                    refine lv_icmp_ne (tgt := 255) hx hb dX4_rounded_239 (by decide) (fun c_142 => ?_) (fun c_142 => ?_)
                    · rw [if_neg c_142] at hz
                      refine lv_iconst (v := 0) hx hb dX4_rounded_255 (by decide) ?_
                      have e9 := Eq.symm hz; subst e9
                      exact J_154 _ ez9 H locs hP hD hS ls (lv_sub hl [3] rfl)
                    · rw [if_pos c_142] at hz
                      refine lv_iload hx hb dX4_rounded_242 (lv_at hl 4 rfl) ?_
                      refine xb_eq (tgt := 255) hx hb dX4_rounded_244 (by decide) (fun c_143 => ?_) (fun c_143 => ?_)
                      · rw [if_neg c_143] at hz
                        refine lv_iconst (v := 0) hx hb dX4_rounded_255 (by decide) ?_
                        have e9 := Eq.symm hz; subst e9
                        exact J_154 _ ez9 H locs hP hD hS ls (lv_sub hl [3] rfl)
                      · rw [if_pos c_143] at hz
                        refine lv_iload_n hx hb dX4_rounded_247 rfl (lv_at hl 2 rfl) ?_
                        refine xb_eq (tgt := 255) hx hb dX4_rounded_248 (by decide) (fun c_144 => ?_) (fun c_144 => ?_)
                        · rw [if_neg c_144] at hz
                          refine lv_iconst (v := 0) hx hb dX4_rounded_255 (by decide) ?_
                          have e9 := Eq.symm hz; subst e9
                          exact J_154 _ ez9 H locs hP hD hS ls (lv_sub hl [3] rfl)
                        · rw [if_pos c_144] at hz
                          refine lv_iconst (v := 1) hx hb dX4_rounded_251 (by decide) ?_
                          refine lv_goto (tgt := 256) hx hb dX4_rounded_252 (by decide) ?_
                          have e9 := Eq.symm hz; subst e9
                          exact J_154 _ ez9 H locs hP hD hS ls (lv_sub hl [3] rfl)
                  · rw [if_pos c_141] at hz
                    refine lv_iload hx hb dX4_rounded_217 (lv_at hl 4 rfl) ?_
                    refine xb_eq (tgt := 230) hx hb dX4_rounded_219 (by decide) (fun c_145 => ?_) (fun c_145 => ?_)
                    · rw [if_neg c_145] at hz
                      refine lv_iconst (v := 0) hx hb dX4_rounded_230 (by decide) ?_
                      refine lv_goto (tgt := 256) hx hb dX4_rounded_231 (by decide) ?_
                      have e9 := Eq.symm hz; subst e9
                      exact J_154 _ ez9 H locs hP hD hS ls (lv_sub hl [3] rfl)
                    · rw [if_pos c_145] at hz
                      refine lv_iload_n hx hb dX4_rounded_222 rfl (lv_at hl 2 rfl) ?_
                      refine xb_ne (tgt := 230) hx hb dX4_rounded_223 (by decide) (fun c_146 => ?_) (fun c_146 => ?_)
                      · rw [if_pos c_146] at hz
                        refine lv_iconst (v := 0) hx hb dX4_rounded_230 (by decide) ?_
                        refine lv_goto (tgt := 256) hx hb dX4_rounded_231 (by decide) ?_
                        have e9 := Eq.symm hz; subst e9
                        exact J_154 _ ez9 H locs hP hD hS ls (lv_sub hl [3] rfl)
                      · rw [if_neg c_146] at hz
                        refine lv_iconst (v := 1) hx hb dX4_rounded_226 (by decide) ?_
                        refine lv_goto (tgt := 256) hx hb dX4_rounded_227 (by decide) ?_
                        have e9 := Eq.symm hz; subst e9
                        exact J_154 _ ez9 H locs hP hD hS ls (lv_sub hl [3] rfl)
                · rw [if_pos c_140] at hz
                  refine lv_iload hx hb dX4_rounded_191 (lv_at hl 0 rfl) ?_
                  refine xb_ne (tgt := 201) hx hb dX4_rounded_193 (by decide) (fun c_147 => ?_) (fun c_147 => ?_)
                  · rw [if_pos c_147] at hz
                    refine lv_iconst (v := 1) hx hb dX4_rounded_201 (by decide) ?_
                    refine lv_goto (tgt := 256) hx hb dX4_rounded_202 (by decide) ?_
                    have e9 := Eq.symm hz; subst e9
                    exact J_154 _ ez9 H locs hP hD hS ls (lv_sub hl [3] rfl)
                  · rw [if_neg c_147] at hz
                    refine lv_iload hx hb dX4_rounded_196 (lv_at hl 5 rfl) ?_
                    refine xb_eq (tgt := 205) hx hb dX4_rounded_198 (by decide) (fun c_148 => ?_) (fun c_148 => ?_)
                    · rw [if_neg c_148] at hz
                      refine lv_iconst (v := 0) hx hb dX4_rounded_205 (by decide) ?_
                      refine lv_goto (tgt := 256) hx hb dX4_rounded_206 (by decide) ?_
                      have e9 := Eq.symm hz; subst e9
                      exact J_154 _ ez9 H locs hP hD hS ls (lv_sub hl [3] rfl)
                    · rw [if_pos c_148] at hz
                      refine lv_iconst (v := 1) hx hb dX4_rounded_201 (by decide) ?_
                      refine lv_goto (tgt := 256) hx hb dX4_rounded_202 (by decide) ?_
                      have e9 := Eq.symm hz; subst e9
                      exact J_154 _ ez9 H locs hP hD hS ls (lv_sub hl [3] rfl)
              · rw [if_pos c_139] at hz
                refine lv_iload hx hb dX4_rounded_155 (lv_at hl 0 rfl) ?_
                refine xb_ne (tgt := 175) hx hb dX4_rounded_157 (by decide) (fun c_149 => ?_) (fun c_149 => ?_)
                · rw [if_pos c_149] at hz
                  refine lv_iconst (v := 1) hx hb dX4_rounded_175 (by decide) ?_
                  refine lv_goto (tgt := 256) hx hb dX4_rounded_176 (by decide) ?_
                  have e9 := Eq.symm hz; subst e9
                  exact J_154 _ ez9 H locs hP hD hS ls (lv_sub hl [3] rfl)
                · rw [if_neg c_149] at hz
                  refine lv_iload hx hb dX4_rounded_160 (lv_at hl 5 rfl) ?_
                  refine xb_eq (tgt := 179) hx hb dX4_rounded_162 (by decide) (fun c_150 => ?_) (fun c_150 => ?_)
                  · rw [if_neg c_150] at hz
                    refine lv_iconst (v := 0) hx hb dX4_rounded_179 (by decide) ?_
                    refine lv_goto (tgt := 256) hx hb dX4_rounded_180 (by decide) ?_
                    have e9 := Eq.symm hz; subst e9
                    exact J_154 _ ez9 H locs hP hD hS ls (lv_sub hl [3] rfl)
                  · rw [if_pos c_150] at hz
                    refine lv_lload_n hx hb dX4_rounded_165 rfl (lv_at hl 3 rfl) ?_
                    refine lv_ldc2 (v := 2) hx hb hown (hts (.constantLong RX4 77 (2)) (inW_9 _ (List.mem_of_getElem? (i := 25) rfl))) dX4_rounded_166 ?_
                    refine x_lrem hx hb dX4_rounded_169 (by decide) ?_
                    refine lv_lconst (v := 1) hx hb dX4_rounded_170 (by decide) ?_
                    refine xl_ne (tgt := 179) hx hb dX4_rounded_171 dX4_rounded_172 (by decide) (fun c_151 => ?_) (fun c_151 => ?_)
                    · rw [if_neg c_151] at hz
                      refine lv_iconst (v := 0) hx hb dX4_rounded_179 (by decide) ?_
                      refine lv_goto (tgt := 256) hx hb dX4_rounded_180 (by decide) ?_
                      have e9 := Eq.symm hz; subst e9
                      exact J_154 _ ez9 H locs hP hD hS ls (lv_sub hl [3] rfl)
                    · rw [if_pos c_151] at hz
                      refine lv_iconst (v := 1) hx hb dX4_rounded_175 (by decide) ?_
                      refine lv_goto (tgt := 256) hx hb dX4_rounded_176 (by decide) ?_
                      have e9 := Eq.symm hz; subst e9
                      exact J_154 _ ez9 H locs hP hD hS ls (lv_sub hl [3] rfl)
            obtain ⟨z9, ez9⟩ : ∃ y9 : Bool, y9 = Z_X4_rounded_J_138 n109 z118 := ⟨_, rfl⟩
            have hz := rZ_X4_rounded_J_138 n109 z118 ez9
            unfold RZ_X4_rounded_J_138 at hz
            refine lv_icmp_gt (tgt := 141) hx hb dX4_rounded_127 (by decide) (fun c_133 => ?_) (fun c_133 => ?_)
            · rw [if_pos c_133] at hz
              refine lv_iconst (v := 1) hx hb dX4_rounded_141 (by decide) ?_
              refine lv_goto (tgt := 146) hx hb dX4_rounded_142 (by decide) ?_
              have e9 := Eq.symm hz; subst e9
              exact J_138 _ ez9 H locs hP hD hS ls (lv_sub hl [1, 2, 3, 6, 0] rfl)
            · rw [if_neg c_133] at hz
              refine lv_iload hx hb dX4_rounded_130 (lv_at hl 4 rfl) ?_
              refine lv_iconst (v := 5) hx hb dX4_rounded_132 (by decide) ?_
              refine lv_icmp_ne (tgt := 145) hx hb dX4_rounded_133 (by decide) (fun c_134 => ?_) (fun c_134 => ?_)
              · rw [if_neg c_134] at hz
                refine lv_iconst (v := 0) hx hb dX4_rounded_145 (by decide) ?_
                have e9 := Eq.symm hz; subst e9
                exact J_138 _ ez9 H locs hP hD hS ls (lv_sub hl [1, 2, 3, 6, 0] rfl)
              · rw [if_pos c_134] at hz
                refine lv_iload hx hb dX4_rounded_136 (lv_at hl 5 rfl) ?_
                refine xb_eq (tgt := 145) hx hb dX4_rounded_138 (by decide) (fun c_135 => ?_) (fun c_135 => ?_)
                · rw [if_neg c_135] at hz
                  refine lv_iconst (v := 0) hx hb dX4_rounded_145 (by decide) ?_
                  have e9 := Eq.symm hz; subst e9
                  exact J_138 _ ez9 H locs hP hD hS ls (lv_sub hl [1, 2, 3, 6, 0] rfl)
                · rw [if_pos c_135] at hz
                  refine lv_iconst (v := 1) hx hb dX4_rounded_141 (by decide) ?_
                  refine lv_goto (tgt := 146) hx hb dX4_rounded_142 (by decide) ?_
                  have e9 := Eq.symm hz; subst e9
                  exact J_138 _ ez9 H locs hP hD hS ls (lv_sub hl [1, 2, 3, 6, 0] rfl)
          obtain ⟨z9, ez9⟩ : ∃ y9 : Bool, y9 = Z_X4_rounded_J_132 n109 z118 := ⟨_, rfl⟩
          have hz := rZ_X4_rounded_J_132 n109 z118 ez9
          unfold RZ_X4_rounded_J_132 at hz
          refine lv_icmp_ne (tgt := 121) hx hb dX4_rounded_109 (by decide) (fun c_128 => ?_) (fun c_128 => ?_)
          · rw [if_neg c_128] at hz
            refine lv_iconst (v := 0) hx hb dX4_rounded_121 (by decide) ?_
            have e9 := Eq.symm hz; subst e9
            exact J_132 _ ez9 H locs hP hD hS ls (lv_sub hl [1, 2, 3, 4, 5, 0] rfl)
          · rw [if_pos c_128] at hz
            refine lv_iload hx hb dX4_rounded_112 (lv_at hl 5 rfl) ?_
            refine xb_ne (tgt := 121) hx hb dX4_rounded_114 (by decide) (fun c_129 => ?_) (fun c_129 => ?_)
            · rw [if_pos c_129] at hz
              refine lv_iconst (v := 0) hx hb dX4_rounded_121 (by decide) ?_
              have e9 := Eq.symm hz; subst e9
              exact J_132 _ ez9 H locs hP hD hS ls (lv_sub hl [1, 2, 3, 4, 5, 0] rfl)
            · rw [if_neg c_129] at hz
              refine lv_iconst (v := 1) hx hb dX4_rounded_117 (by decide) ?_
              refine lv_goto (tgt := 122) hx hb dX4_rounded_118 (by decide) ?_
              have e9 := Eq.symm hz; subst e9
              exact J_132 _ ez9 H locs hP hD hS ls (lv_sub hl [1, 2, 3, 4, 5, 0] rfl)
        obtain ⟨z9, ez9⟩ : ∃ y9 : Bool, y9 = Z_X4_rounded_J_127 n109 z118 := ⟨_, rfl⟩
        have hz := rZ_X4_rounded_J_127 n109 z118 ez9
        unfold RZ_X4_rounded_J_127 at hz
        refine xb_ne (tgt := 99) hx hb dX4_rounded_91 (by decide) (fun c_123 => ?_) (fun c_123 => ?_)
        · rw [if_pos c_123] at hz
          refine lv_iconst (v := 1) hx hb dX4_rounded_99 (by decide) ?_
          refine lv_goto (tgt := 104) hx hb dX4_rounded_100 (by decide) ?_
          have e9 := Eq.symm hz; subst e9
          exact J_127 _ ez9 H locs hP hD hS ls (lv_sub hl [0, 1, 2, 3, 4] rfl)
        · rw [if_neg c_123] at hz
          refine lv_iload hx hb dX4_rounded_94 (lv_at hl 3 rfl) ?_
          refine lv_if_le (tgt := 103) hx hb dX4_rounded_96 (by decide) (fun c_124 => ?_) (fun c_124 => ?_)
          · rw [if_pos c_124] at hz
            refine lv_iconst (v := 0) hx hb dX4_rounded_103 (by decide) ?_
            have e9 := Eq.symm hz; subst e9
            exact J_127 _ ez9 H locs hP hD hS ls (lv_sub hl [0, 1, 2, 3, 4] rfl)
          · rw [if_neg c_124] at hz
            refine lv_iconst (v := 1) hx hb dX4_rounded_99 (by decide) ?_
            refine lv_goto (tgt := 104) hx hb dX4_rounded_100 (by decide) ?_
            have e9 := Eq.symm hz; subst e9
            exact J_127 _ ez9 H locs hP hD hS ls (lv_sub hl [0, 1, 2, 3, 4] rfl)
      refine lv_icmp_ge (tgt := 89) hx hb dX4_rounded_58 (by decide) (fun c_120 => ?_) (fun c_120 => ?_)
      · rw [if_pos c_120] at hg
        exact J_122 H locs hP hD hS ls (lv_sub hl [0, 2, 3, 4, 5] rfl)
      · rw [if_neg c_120] at hg
        exact absurd hg (by decide)
    have hs := hs.1
    obtain ⟨z9, ez9⟩ : ∃ y9 : Int64, y9 = Z_X4_rounded_J_107 vct vdg p0 := ⟨_, rfl⟩
    have hz := rZ_X4_rounded_J_107 vct vdg p0 ez9
    unfold RZ_X4_rounded_J_107 at hz
    refine lv_icmp_ge (tgt := 32) hx hb dX4_rounded_21 (by decide) (fun c_102 => ?_) (fun c_102 => ?_)
    · rw [if_pos c_102] at hz
      refine lv_lconst (v := 0) hx hb dX4_rounded_32 (by decide) ?_
      have e9 := Eq.symm hz; subst e9
      exact J_107 _ ez9 H locs hP hD hS ls (lv_sub hl [0, 1, 2] rfl)
    · rw [if_neg c_102] at hs
      rw [if_neg c_102] at hz
      refine lv_aload_n hx hb dX4_rounded_24 rfl (lv_at hl 0 rfl) ?_
      refine lv_iload_n hx hb dX4_rounded_25 rfl (lv_at hl 1 rfl) ?_
      have h_103 := hs
      refine x_V (As := [.int p0]) (rest := []) hCF (c_X4_whole l D cR cI cJ cZ t0 am ak an ac ae ag aq vth vmo vfg vtp vkd vng vcc vqq vrs vct vun vre vks vms vcs ves vdg vog p0 _ rfl h_103) (x_cwV 1 hts (inW_9 _ (List.mem_of_getElem? (i := 26) rfl)) (inW_9 _ (List.mem_of_getElem? (i := 27) rfl)) (inW_9 _ (List.mem_of_getElem? (i := 28) rfl)) (inW_9 _ (List.mem_of_getElem? (i := 5) rfl)) (inW_9 _ (List.mem_of_getElem? (i := 9) rfl)) rfl rfl (by decide +kernel) ⟨Nat.le_of_ble_eq_true rfl, Nat.le_of_ble_eq_true rfl⟩) hK hP hD hS hA hSt 0 rfl rfl rfl hl.1 rfl (Nat.le_of_ble_eq_true rfl) dX4_rounded_26 ⟨Nat.le_of_ble_eq_true rfl, Nat.le_of_ble_eq_true rfl⟩ (fun H locs hP hD hS => ?_)
      show W p l e _ s m args below meth c H locs 0 0 Q (F0 m 29 ls (.long (F_X4_whole vct vdg p0) :: []))
      refine lv_goto (tgt := 33) hx hb dX4_rounded_29 (by decide) ?_
      have e9 := Eq.symm hz; subst e9
      exact J_107 _ ez9 H locs hP hD hS ls (lv_sub hl [0, 1, 2] rfl)
  · rw [if_neg c_101] at hs
    rw [if_neg c_101] at hu
    refine lv_aload_n hx hb dX4_rounded_4 rfl (lv_at hl 0 rfl) ?_
    refine lv_aload_n hx hb dX4_rounded_5 rfl (lv_at hl 0 rfl) ?_
    refine lv_iconst (v := 0) hx hb dX4_rounded_6 (by decide) ?_
    obtain ⟨h_156, hs⟩ := hs
    refine x_V (As := [.int 0]) (rest := [.ref am]) hCF (c_X4_whole l D cR cI cJ cZ t0 am ak an ac ae ag aq vth vmo vfg vtp vkd vng vcc vqq vrs vct vun vre vks vms vcs ves vdg vog (0 : Int32) _ rfl h_156) (x_cwV 1 hts (inW_9 _ (List.mem_of_getElem? (i := 26) rfl)) (inW_9 _ (List.mem_of_getElem? (i := 27) rfl)) (inW_9 _ (List.mem_of_getElem? (i := 28) rfl)) (inW_9 _ (List.mem_of_getElem? (i := 5) rfl)) (inW_9 _ (List.mem_of_getElem? (i := 9) rfl)) rfl rfl (by decide +kernel) ⟨Nat.le_of_ble_eq_true rfl, Nat.le_of_ble_eq_true rfl⟩) hK hP hD hS hA hSt 0 rfl rfl rfl hl.1 rfl (Nat.le_of_ble_eq_true rfl) dX4_rounded_7 ⟨Nat.le_of_ble_eq_true rfl, Nat.le_of_ble_eq_true rfl⟩ (fun H locs hP hD hS => ?_)
    show W p l e _ s m args below meth c H locs 0 0 Q (F0 m 10 ls (.long (F_X4_whole vct vdg (0 : Int32)) :: [.ref am]))
    refine lv_iload_n hx hb dX4_rounded_10 rfl (lv_at hl 1 rfl) ?_
    refine lv_ineg hx hb dX4_rounded_11 ?_
    have h_158 := hs
    refine x_V (As := [.long (F_X4_whole vct vdg (0 : Int32)), .int (-p0)]) (rest := []) hCF (c_X4_times l D cR cI cJ cZ t0 am ak an ac ae ag aq vth vmo vfg vtp vkd vng vcc vqq vrs vct vun vre vks vms vcs ves vdg vog (F_X4_whole vct vdg (0 : Int32)) (-p0) _ rfl h_158) (x_cwV 2 hts (inW_9 _ (List.mem_of_getElem? (i := 29) rfl)) (inW_9 _ (List.mem_of_getElem? (i := 30) rfl)) (inW_9 _ (List.mem_of_getElem? (i := 31) rfl)) (inW_9 _ (List.mem_of_getElem? (i := 5) rfl)) (inW_9 _ (List.mem_of_getElem? (i := 10) rfl)) rfl rfl (by decide +kernel) ⟨Nat.le_of_ble_eq_true rfl, Nat.le_of_ble_eq_true rfl⟩) hK hP hD hS hA hSt 0 rfl rfl rfl hl.1 rfl (Nat.le_of_ble_eq_true rfl) dX4_rounded_12 ⟨Nat.le_of_ble_eq_true rfl, Nat.le_of_ble_eq_true rfl⟩ (fun H locs hP hD hS => ?_)
    show W p l e _ s m args below meth c H locs 0 0 Q (F0 m 15 ls (.long (F_X4_times (F_X4_whole vct vdg (0 : Int32)) (-p0)) :: []))
    have e9 := Eq.symm hu; subst e9
    exact x_lret hx hb hr hlocks hQ hK hP hD hS rfl rfl dX4_rounded_15

def B_X4_fit_32 (vdg : Nat → Int32) (t_32 : Int32) : Int32 := (if vdg t_32.toNatClampNeg = 0 then (bnd (t_32 + 1) (fun n107 : Int32 => n107)) else t_32)
def G_X4_fit_32 (vdg : Nat → Int32) (t_32 : Int32) : Bool := (if vdg t_32.toNatClampNeg = 0 then (bnd (t_32 + 1) (fun n107 : Int32 => true)) else false)
def RB_X4_fit_32 (vdg : Nat → Int32) (t_32 : Int32) (u9 : Int32) : Prop := (if vdg t_32.toNatClampNeg = 0 then (∀ n107 : Int32, n107 = t_32 + 1 → u9 = n107) else True)
def RG_X4_fit_32 (vdg : Nat → Int32) (t_32 : Int32) (u9 : Bool) : Prop := (if vdg t_32.toNatClampNeg = 0 then u9 = true else u9 = false)
theorem rB_X4_fit_32 (vdg : Nat → Int32) (t_32 : Int32) {u9 : Int32} (hu : u9 = B_X4_fit_32 vdg t_32) : RB_X4_fit_32 vdg t_32 u9 := by
  unfold RB_X4_fit_32
  refine ite_P (fun c_106 => ?_) (fun c_106 => ?_)
  · have hu := hu.trans (if_pos c_106)
    intro n107 en107
    have hu := bnd_n hu en107
    exact hu
  · have hu := hu.trans (if_neg c_106)
    trivial
theorem rG_X4_fit_32 (vdg : Nat → Int32) (t_32 : Int32) {u9 : Bool} (hu : u9 = G_X4_fit_32 vdg t_32) : RG_X4_fit_32 vdg t_32 u9 := by
  unfold RG_X4_fit_32
  refine ite_P (fun c_106 => ?_) (fun c_106 => ?_)
  · have hu := hu.trans (if_pos c_106)
    exact hu
  · have hu := hu.trans (if_neg c_106)
    exact hu
def SB_X4_fit_32 (vdg : Nat → Int32) (t_32 : Int32) : Prop := vp_in t_32 900
def Z_X4_fit_J_138 (vun : Int32) (u102 : Int32) (f118 : Int32) : Int32 := (if (-383) < u102 + vun then f118 else f118 ||| 8)
def RZ_X4_fit_J_138 (vun : Int32) (u102 : Int32) (f118 : Int32) (u9 : Int32) : Prop := (if (-383) < u102 + vun then u9 = f118 else u9 = f118 ||| 8)
theorem rZ_X4_fit_J_138 (vun : Int32) (u102 : Int32) (f118 : Int32) {u9 : Int32} (hu : u9 = Z_X4_fit_J_138 vun u102 f118) : RZ_X4_fit_J_138 vun u102 f118 u9 := by
  unfold RZ_X4_fit_J_138
  refine ite_P (fun c_135 => ?_) (fun c_135 => ?_)
  · have hu := hu.trans (if_pos c_135)
    exact hu
  · have hu := hu.trans (if_neg c_135)
    exact hu
def Z_X4_fit_J_133 (z123 : Int32) (n128 : Int64) : Int32 × Int64 := (if n128 = 10000000000000000 then (bnd (z123 + 1) (fun n130 : Int32 => (n130, 1000000000000000))) else (z123, n128))
def RZ_X4_fit_J_133 (z123 : Int32) (n128 : Int64) (u9 : Int32 × Int64) : Prop := (if n128 = 10000000000000000 then (∀ n130 : Int32, n130 = z123 + 1 → u9 = (n130, 1000000000000000)) else u9 = (z123, n128))
theorem rZ_X4_fit_J_133 (z123 : Int32) (n128 : Int64) {u9 : Int32 × Int64} (hu : u9 = Z_X4_fit_J_133 z123 n128) : RZ_X4_fit_J_133 z123 n128 u9 := by
  unfold RZ_X4_fit_J_133
  refine ite_P (fun c_129 => ?_) (fun c_129 => ?_)
  · have hu := hu.trans (if_pos c_129)
    intro n130 en130
    have hu := bnd_n hu en130
    exact hu
  · have hu := hu.trans (if_neg c_129)
    exact hu
def Z_X4_fit_J_124 (n120 : Int32) : Int32 := (if (-398) ≤ n120 then n120 else (-398))
def RZ_X4_fit_J_124 (n120 : Int32) (u9 : Int32) : Prop := (if (-398) ≤ n120 then u9 = n120 else u9 = (-398))
theorem rZ_X4_fit_J_124 (n120 : Int32) {u9 : Int32} (hu : u9 = Z_X4_fit_J_124 n120) : RZ_X4_fit_J_124 n120 u9 := by
  unfold RZ_X4_fit_J_124
  refine ite_P (fun c_121 => ?_) (fun c_121 => ?_)
  · have hu := hu.trans (if_pos c_121)
    exact hu
  · have hu := hu.trans (if_neg c_121)
    exact hu
def Z_X4_fit_J_240 (n115 : Int32) : Int32 := (if n115 ≤ 369 then n115 else 369)
def RZ_X4_fit_J_240 (n115 : Int32) (u9 : Int32) : Prop := (if n115 ≤ 369 then u9 = n115 else u9 = 369)
theorem rZ_X4_fit_J_240 (n115 : Int32) {u9 : Int32} (hu : u9 = Z_X4_fit_J_240 n115) : RZ_X4_fit_J_240 n115 u9 := by
  unfold RZ_X4_fit_J_240
  refine ite_P (fun c_237 => ?_) (fun c_237 => ?_)
  · have hu := hu.trans (if_pos c_237)
    exact hu
  · have hu := hu.trans (if_neg c_237)
    exact hu
def F_X4_fit (vmo : Int32) (vrs : Int32) (vun : Int32) (vre : Bool) (vdg : Nat → Int32) (p0 : Bool) (p1 : Int32) : Int32 × Bool × Int64 × Int32 × Int32 × Int32 := (bnd (F_X4_trim vdg) (fun u102 : Int32 => (if u102 = 0 then (bnd (F_X4_be (0 : Int32) p0 (0 : Int64) (F_X4_between p1 (-398 : Int32) (369 : Int32))) (fun u250 : Int32 × Bool × Int64 × Int32 => (u250.1, u250.2.1, u250.2.2.1, u250.2.2.2, vrs, u102))) else (bnd (wl (G_X4_fit_32 vdg) (B_X4_fit_32 vdg) 901 0) (fun z108 : Int32 => (bnd (u102 - z108) (fun n114 : Int32 => (bnd (vun + z108) (fun n115 : Int32 => (bnd (n115 - (16 - n114)) (fun n116 : Int32 => (if vre = true then (bnd (vrs ||| 16) (fun f118 : Int32 => (bnd ((u102 + vun) - 16) (fun n120 : Int32 => (bnd (Z_X4_fit_J_124 n120) (fun z123 : Int32 => (if z123 ≤ 369 then (bnd (F_X4_rounded vmo u102 vre vdg (z123 - vun) p0) (fun n128 : Int64 => (bnd (Z_X4_fit_J_133 z123 n128) (fun z132 : Int32 × Int64 => (if z132.1 ≤ 369 then (bnd (Z_X4_fit_J_138 vun u102 f118) (fun z137 : Int32 => (bnd (F_X4_be (0 : Int32) p0 z132.2 z132.1) (fun u140 : Int32 × Bool × Int64 × Int32 => (u140.1, u140.2.1, u140.2.2.1, u140.2.2.2, z137, u102))))) else (bnd (F_X4_great vmo f118 p0) (fun u142 : Int32 × Bool × Int64 × Int32 × Int32 => (u142.1, u142.2.1, u142.2.2.1, u142.2.2.2.1, u142.2.2.2.2, u102)))))))) else (bnd (F_X4_great vmo f118 p0) (fun u144 : Int32 × Bool × Int64 × Int32 × Int32 => (u144.1, u144.2.1, u144.2.2.1, u144.2.2.2.1, u144.2.2.2.2, u102)))))))))) else (if 16 < n114 then (bnd (vrs ||| 16) (fun f147 : Int32 => (bnd ((u102 + vun) - 16) (fun n149 : Int32 => (bnd (Z_X4_fit_J_124 n149) (fun z152 : Int32 => (if z152 ≤ 369 then (bnd (F_X4_rounded vmo u102 vre vdg (z152 - vun) p0) (fun n157 : Int64 => (bnd (Z_X4_fit_J_133 z152 n157) (fun z161 : Int32 × Int64 => (if z161.1 ≤ 369 then (bnd (Z_X4_fit_J_138 vun u102 f147) (fun z166 : Int32 => (bnd (F_X4_be (0 : Int32) p0 z161.2 z161.1) (fun u169 : Int32 × Bool × Int64 × Int32 => (u169.1, u169.2.1, u169.2.2.1, u169.2.2.2, z166, u102))))) else (bnd (F_X4_great vmo f147 p0) (fun u171 : Int32 × Bool × Int64 × Int32 × Int32 => (u171.1, u171.2.1, u171.2.2.1, u171.2.2.2.1, u171.2.2.2.2, u102)))))))) else (bnd (F_X4_great vmo f147 p0) (fun u173 : Int32 × Bool × Int64 × Int32 × Int32 => (u173.1, u173.2.1, u173.2.2.1, u173.2.2.2.1, u173.2.2.2.2, u102)))))))))) else (if n115 < (-398) then (bnd (vrs ||| 16) (fun f176 : Int32 => (bnd ((u102 + vun) - 16) (fun n178 : Int32 => (bnd (Z_X4_fit_J_124 n178) (fun z181 : Int32 => (if z181 ≤ 369 then (bnd (F_X4_rounded vmo u102 vre vdg (z181 - vun) p0) (fun n186 : Int64 => (bnd (Z_X4_fit_J_133 z181 n186) (fun z190 : Int32 × Int64 => (if z190.1 ≤ 369 then (bnd (Z_X4_fit_J_138 vun u102 f176) (fun z195 : Int32 => (bnd (F_X4_be (0 : Int32) p0 z190.2 z190.1) (fun u198 : Int32 × Bool × Int64 × Int32 => (u198.1, u198.2.1, u198.2.2.1, u198.2.2.2, z195, u102))))) else (bnd (F_X4_great vmo f176 p0) (fun u200 : Int32 × Bool × Int64 × Int32 × Int32 => (u200.1, u200.2.1, u200.2.2.1, u200.2.2.2.1, u200.2.2.2.2, u102)))))))) else (bnd (F_X4_great vmo f176 p0) (fun u202 : Int32 × Bool × Int64 × Int32 × Int32 => (u202.1, u202.2.1, u202.2.2.1, u202.2.2.2.1, u202.2.2.2.2, u102)))))))))) else (if 369 < n116 then (bnd (vrs ||| 16) (fun f205 : Int32 => (bnd ((u102 + vun) - 16) (fun n207 : Int32 => (bnd (Z_X4_fit_J_124 n207) (fun z210 : Int32 => (if z210 ≤ 369 then (bnd (F_X4_rounded vmo u102 vre vdg (z210 - vun) p0) (fun n215 : Int64 => (bnd (Z_X4_fit_J_133 z210 n215) (fun z219 : Int32 × Int64 => (if z219.1 ≤ 369 then (bnd (Z_X4_fit_J_138 vun u102 f205) (fun z224 : Int32 => (bnd (F_X4_be (0 : Int32) p0 z219.2 z219.1) (fun u227 : Int32 × Bool × Int64 × Int32 => (u227.1, u227.2.1, u227.2.2.1, u227.2.2.2, z224, u102))))) else (bnd (F_X4_great vmo f205 p0) (fun u229 : Int32 × Bool × Int64 × Int32 × Int32 => (u229.1, u229.2.1, u229.2.2.1, u229.2.2.2.1, u229.2.2.2.2, u102)))))))) else (bnd (F_X4_great vmo f205 p0) (fun u231 : Int32 × Bool × Int64 × Int32 × Int32 => (u231.1, u231.2.1, u231.2.2.1, u231.2.2.2.1, u231.2.2.2.2, u102)))))))))) else (bnd (Z_X4_fit_J_124 n116) (fun z235 : Int32 => (bnd (Z_X4_fit_J_240 n115) (fun z239 : Int32 => (bnd (F_X4_between p1 z235 z239) (fun n242 : Int32 => (bnd (F_X4_be (0 : Int32) p0 (F_X4_times (F_X4_whole u102 vdg z108) (n115 - n242)) n242) (fun u247 : Int32 × Bool × Int64 × Int32 => (u247.1, u247.2.1, u247.2.2.1, u247.2.2.2, vrs, u102))))))))))))))))))))))))
def RF_X4_fit (vmo : Int32) (vrs : Int32) (vun : Int32) (vre : Bool) (vdg : Nat → Int32) (p0 : Bool) (p1 : Int32) (u9 : Int32 × Bool × Int64 × Int32 × Int32 × Int32) : Prop := (∀ u102 : Int32, u102 = F_X4_trim vdg → (if u102 = 0 then (∀ u250 : Int32 × Bool × Int64 × Int32, u250 = F_X4_be (0 : Int32) p0 (0 : Int64) (F_X4_between p1 (-398 : Int32) (369 : Int32)) → u9 = (u250.1, u250.2.1, u250.2.2.1, u250.2.2.2, vrs, u102)) else (∀ z108 : Int32, z108 = wl (G_X4_fit_32 vdg) (B_X4_fit_32 vdg) 901 0 → (∀ n114 : Int32, n114 = u102 - z108 → (∀ n115 : Int32, n115 = vun + z108 → (∀ n116 : Int32, n116 = n115 - (16 - n114) → (if vre = true then (∀ f118 : Int32, f118 = vrs ||| 16 → (∀ n120 : Int32, n120 = (u102 + vun) - 16 → (∀ z123 : Int32, z123 = Z_X4_fit_J_124 n120 → (if z123 ≤ 369 then (∀ n128 : Int64, n128 = F_X4_rounded vmo u102 vre vdg (z123 - vun) p0 → (∀ z132 : Int32 × Int64, z132 = Z_X4_fit_J_133 z123 n128 → (if z132.1 ≤ 369 then (∀ z137 : Int32, z137 = Z_X4_fit_J_138 vun u102 f118 → (∀ u140 : Int32 × Bool × Int64 × Int32, u140 = F_X4_be (0 : Int32) p0 z132.2 z132.1 → u9 = (u140.1, u140.2.1, u140.2.2.1, u140.2.2.2, z137, u102))) else (∀ u142 : Int32 × Bool × Int64 × Int32 × Int32, u142 = F_X4_great vmo f118 p0 → u9 = (u142.1, u142.2.1, u142.2.2.1, u142.2.2.2.1, u142.2.2.2.2, u102))))) else (∀ u144 : Int32 × Bool × Int64 × Int32 × Int32, u144 = F_X4_great vmo f118 p0 → u9 = (u144.1, u144.2.1, u144.2.2.1, u144.2.2.2.1, u144.2.2.2.2, u102)))))) else (if 16 < n114 then (∀ f147 : Int32, f147 = vrs ||| 16 → (∀ n149 : Int32, n149 = (u102 + vun) - 16 → (∀ z152 : Int32, z152 = Z_X4_fit_J_124 n149 → (if z152 ≤ 369 then (∀ n157 : Int64, n157 = F_X4_rounded vmo u102 vre vdg (z152 - vun) p0 → (∀ z161 : Int32 × Int64, z161 = Z_X4_fit_J_133 z152 n157 → (if z161.1 ≤ 369 then (∀ z166 : Int32, z166 = Z_X4_fit_J_138 vun u102 f147 → (∀ u169 : Int32 × Bool × Int64 × Int32, u169 = F_X4_be (0 : Int32) p0 z161.2 z161.1 → u9 = (u169.1, u169.2.1, u169.2.2.1, u169.2.2.2, z166, u102))) else (∀ u171 : Int32 × Bool × Int64 × Int32 × Int32, u171 = F_X4_great vmo f147 p0 → u9 = (u171.1, u171.2.1, u171.2.2.1, u171.2.2.2.1, u171.2.2.2.2, u102))))) else (∀ u173 : Int32 × Bool × Int64 × Int32 × Int32, u173 = F_X4_great vmo f147 p0 → u9 = (u173.1, u173.2.1, u173.2.2.1, u173.2.2.2.1, u173.2.2.2.2, u102)))))) else (if n115 < (-398) then (∀ f176 : Int32, f176 = vrs ||| 16 → (∀ n178 : Int32, n178 = (u102 + vun) - 16 → (∀ z181 : Int32, z181 = Z_X4_fit_J_124 n178 → (if z181 ≤ 369 then (∀ n186 : Int64, n186 = F_X4_rounded vmo u102 vre vdg (z181 - vun) p0 → (∀ z190 : Int32 × Int64, z190 = Z_X4_fit_J_133 z181 n186 → (if z190.1 ≤ 369 then (∀ z195 : Int32, z195 = Z_X4_fit_J_138 vun u102 f176 → (∀ u198 : Int32 × Bool × Int64 × Int32, u198 = F_X4_be (0 : Int32) p0 z190.2 z190.1 → u9 = (u198.1, u198.2.1, u198.2.2.1, u198.2.2.2, z195, u102))) else (∀ u200 : Int32 × Bool × Int64 × Int32 × Int32, u200 = F_X4_great vmo f176 p0 → u9 = (u200.1, u200.2.1, u200.2.2.1, u200.2.2.2.1, u200.2.2.2.2, u102))))) else (∀ u202 : Int32 × Bool × Int64 × Int32 × Int32, u202 = F_X4_great vmo f176 p0 → u9 = (u202.1, u202.2.1, u202.2.2.1, u202.2.2.2.1, u202.2.2.2.2, u102)))))) else (if 369 < n116 then (∀ f205 : Int32, f205 = vrs ||| 16 → (∀ n207 : Int32, n207 = (u102 + vun) - 16 → (∀ z210 : Int32, z210 = Z_X4_fit_J_124 n207 → (if z210 ≤ 369 then (∀ n215 : Int64, n215 = F_X4_rounded vmo u102 vre vdg (z210 - vun) p0 → (∀ z219 : Int32 × Int64, z219 = Z_X4_fit_J_133 z210 n215 → (if z219.1 ≤ 369 then (∀ z224 : Int32, z224 = Z_X4_fit_J_138 vun u102 f205 → (∀ u227 : Int32 × Bool × Int64 × Int32, u227 = F_X4_be (0 : Int32) p0 z219.2 z219.1 → u9 = (u227.1, u227.2.1, u227.2.2.1, u227.2.2.2, z224, u102))) else (∀ u229 : Int32 × Bool × Int64 × Int32 × Int32, u229 = F_X4_great vmo f205 p0 → u9 = (u229.1, u229.2.1, u229.2.2.1, u229.2.2.2.1, u229.2.2.2.2, u102))))) else (∀ u231 : Int32 × Bool × Int64 × Int32 × Int32, u231 = F_X4_great vmo f205 p0 → u9 = (u231.1, u231.2.1, u231.2.2.1, u231.2.2.2.1, u231.2.2.2.2, u102)))))) else (∀ z235 : Int32, z235 = Z_X4_fit_J_124 n116 → (∀ z239 : Int32, z239 = Z_X4_fit_J_240 n115 → (∀ n242 : Int32, n242 = F_X4_between p1 z235 z239 → (∀ u247 : Int32 × Bool × Int64 × Int32, u247 = F_X4_be (0 : Int32) p0 (F_X4_times (F_X4_whole u102 vdg z108) (n115 - n242)) n242 → u9 = (u247.1, u247.2.1, u247.2.2.1, u247.2.2.2, vrs, u102)))))))))))))))
theorem rF_X4_fit (vmo : Int32) (vrs : Int32) (vun : Int32) (vre : Bool) (vdg : Nat → Int32) (p0 : Bool) (p1 : Int32) {u9 : Int32 × Bool × Int64 × Int32 × Int32 × Int32} (hu : u9 = F_X4_fit vmo vrs vun vre vdg p0 p1) : RF_X4_fit vmo vrs vun vre vdg p0 p1 u9 := by
  unfold RF_X4_fit
  intro u102 eu102
  have hu := bnd_n hu eu102
  refine ite_P (fun c_104 => ?_) (fun c_104 => ?_)
  · have hu := hu.trans (if_pos c_104)
    intro u250 eu250
    have hu := bnd_n hu eu250
    exact hu
  · have hu := hu.trans (if_neg c_104)
    intro z108 ez108
    have hu := bnd_n hu ez108
    intro n114 en114
    have hu := bnd_n hu en114
    intro n115 en115
    have hu := bnd_n hu en115
    intro n116 en116
    have hu := bnd_n hu en116
    refine ite_P (fun c_117 => ?_) (fun c_117 => ?_)
    · have hu := hu.trans (if_pos c_117)
      intro f118 ef118
      have hu := bnd_n hu ef118
      intro n120 en120
      have hu := bnd_n hu en120
      intro z123 ez123
      have hu := bnd_n hu ez123
      refine ite_P (fun c_125 => ?_) (fun c_125 => ?_)
      · have hu := hu.trans (if_pos c_125)
        intro n128 en128
        have hu := bnd_n hu en128
        intro z132 ez132
        have hu := bnd_n hu ez132
        refine ite_P (fun c_134 => ?_) (fun c_134 => ?_)
        · have hu := hu.trans (if_pos c_134)
          intro z137 ez137
          have hu := bnd_n hu ez137
          intro u140 eu140
          have hu := bnd_n hu eu140
          exact hu
        · have hu := hu.trans (if_neg c_134)
          intro u142 eu142
          have hu := bnd_n hu eu142
          exact hu
      · have hu := hu.trans (if_neg c_125)
        intro u144 eu144
        have hu := bnd_n hu eu144
        exact hu
    · have hu := hu.trans (if_neg c_117)
      refine ite_P (fun c_146 => ?_) (fun c_146 => ?_)
      · have hu := hu.trans (if_pos c_146)
        intro f147 ef147
        have hu := bnd_n hu ef147
        intro n149 en149
        have hu := bnd_n hu en149
        intro z152 ez152
        have hu := bnd_n hu ez152
        refine ite_P (fun c_154 => ?_) (fun c_154 => ?_)
        · have hu := hu.trans (if_pos c_154)
          intro n157 en157
          have hu := bnd_n hu en157
          intro z161 ez161
          have hu := bnd_n hu ez161
          refine ite_P (fun c_163 => ?_) (fun c_163 => ?_)
          · have hu := hu.trans (if_pos c_163)
            intro z166 ez166
            have hu := bnd_n hu ez166
            intro u169 eu169
            have hu := bnd_n hu eu169
            exact hu
          · have hu := hu.trans (if_neg c_163)
            intro u171 eu171
            have hu := bnd_n hu eu171
            exact hu
        · have hu := hu.trans (if_neg c_154)
          intro u173 eu173
          have hu := bnd_n hu eu173
          exact hu
      · have hu := hu.trans (if_neg c_146)
        refine ite_P (fun c_175 => ?_) (fun c_175 => ?_)
        · have hu := hu.trans (if_pos c_175)
          intro f176 ef176
          have hu := bnd_n hu ef176
          intro n178 en178
          have hu := bnd_n hu en178
          intro z181 ez181
          have hu := bnd_n hu ez181
          refine ite_P (fun c_183 => ?_) (fun c_183 => ?_)
          · have hu := hu.trans (if_pos c_183)
            intro n186 en186
            have hu := bnd_n hu en186
            intro z190 ez190
            have hu := bnd_n hu ez190
            refine ite_P (fun c_192 => ?_) (fun c_192 => ?_)
            · have hu := hu.trans (if_pos c_192)
              intro z195 ez195
              have hu := bnd_n hu ez195
              intro u198 eu198
              have hu := bnd_n hu eu198
              exact hu
            · have hu := hu.trans (if_neg c_192)
              intro u200 eu200
              have hu := bnd_n hu eu200
              exact hu
          · have hu := hu.trans (if_neg c_183)
            intro u202 eu202
            have hu := bnd_n hu eu202
            exact hu
        · have hu := hu.trans (if_neg c_175)
          refine ite_P (fun c_204 => ?_) (fun c_204 => ?_)
          · have hu := hu.trans (if_pos c_204)
            intro f205 ef205
            have hu := bnd_n hu ef205
            intro n207 en207
            have hu := bnd_n hu en207
            intro z210 ez210
            have hu := bnd_n hu ez210
            refine ite_P (fun c_212 => ?_) (fun c_212 => ?_)
            · have hu := hu.trans (if_pos c_212)
              intro n215 en215
              have hu := bnd_n hu en215
              intro z219 ez219
              have hu := bnd_n hu ez219
              refine ite_P (fun c_221 => ?_) (fun c_221 => ?_)
              · have hu := hu.trans (if_pos c_221)
                intro z224 ez224
                have hu := bnd_n hu ez224
                intro u227 eu227
                have hu := bnd_n hu eu227
                exact hu
              · have hu := hu.trans (if_neg c_221)
                intro u229 eu229
                have hu := bnd_n hu eu229
                exact hu
            · have hu := hu.trans (if_neg c_212)
              intro u231 eu231
              have hu := bnd_n hu eu231
              exact hu
          · have hu := hu.trans (if_neg c_204)
            intro z235 ez235
            have hu := bnd_n hu ez235
            intro z239 ez239
            have hu := bnd_n hu ez239
            intro n242 en242
            have hu := bnd_n hu en242
            intro u247 eu247
            have hu := bnd_n hu eu247
            exact hu
def S_X4_fit (vmo : Int32) (vrs : Int32) (vun : Int32) (vre : Bool) (vdg : Nat → Int32) (p0 : Bool) (p1 : Int32) : Prop := (S_X4_trim vdg) ∧ (∀ u102 : Int32, u102 = F_X4_trim vdg → (if u102 = 0 then True else (∀ j : Nat, j < nW (G_X4_fit_32 vdg) (B_X4_fit_32 vdg) 901 0 → SB_X4_fit_32 vdg (itn (B_X4_fit_32 vdg) j 0)) ∧ G_X4_fit_32 vdg (wl (G_X4_fit_32 vdg) (B_X4_fit_32 vdg) 901 0) = false ∧ (∀ z108 : Int32, z108 = wl (G_X4_fit_32 vdg) (B_X4_fit_32 vdg) 901 0 → (vp_in z108 900) ∧ (∀ n114 : Int32, n114 = u102 - z108 → (∀ n115 : Int32, n115 = vun + z108 → (∀ n116 : Int32, n116 = n115 - (16 - n114) → (if vre = true then (∀ f118 : Int32, f118 = vrs ||| 16 → (∀ n120 : Int32, n120 = (u102 + vun) - 16 → (∀ z123 : Int32, z123 = Z_X4_fit_J_124 n120 → (if z123 ≤ 369 then S_X4_rounded vmo u102 vre vdg (z123 - vun) p0 else True)))) else (if 16 < n114 then (∀ f147 : Int32, f147 = vrs ||| 16 → (∀ n149 : Int32, n149 = (u102 + vun) - 16 → (∀ z152 : Int32, z152 = Z_X4_fit_J_124 n149 → (if z152 ≤ 369 then S_X4_rounded vmo u102 vre vdg (z152 - vun) p0 else True)))) else (if n115 < (-398) then (∀ f176 : Int32, f176 = vrs ||| 16 → (∀ n178 : Int32, n178 = (u102 + vun) - 16 → (∀ z181 : Int32, z181 = Z_X4_fit_J_124 n178 → (if z181 ≤ 369 then S_X4_rounded vmo u102 vre vdg (z181 - vun) p0 else True)))) else (if 369 < n116 then (∀ f205 : Int32, f205 = vrs ||| 16 → (∀ n207 : Int32, n207 = (u102 + vun) - 16 → (∀ z210 : Int32, z210 = Z_X4_fit_J_124 n207 → (if z210 ≤ 369 then S_X4_rounded vmo u102 vre vdg (z210 - vun) p0 else True)))) else (∀ z235 : Int32, z235 = Z_X4_fit_J_124 n116 → (∀ z239 : Int32, z239 = Z_X4_fit_J_240 n115 → (∀ n242 : Int32, n242 = F_X4_between p1 z235 z239 → (S_X4_whole u102 vdg z108) ∧ S_X4_times (F_X4_whole u102 vdg z108) (n115 - n242))))))))))))))
def rm_X4_fit : Room := { frames := 2, cells := 0, slots := 0, locals := 56 }
set_option maxHeartbeats 4000000 in
set_option maxRecDepth 100000 in
theorem c_X4_fit (l : Launch) (D : va_G) (cR cI cJ cZ : ClassId) (t0 : Nat) (am ak an ac ae ag aq : Nat) (vth : Int32) (vmo : Int32) (vfg : Int32) (vtp : Int32) (vkd : Int32) (vng : Bool) (vcc : Int64) (vqq : Int32) (vrs : Int32) (vct : Int32) (vun : Int32) (vre : Bool) (vks : Nat → Int32) (vms : Nat → Bool) (vcs : Nat → Int64) (ves : Nat → Int32) (vdg : Nat → Int32) (vog : Nat → Int32) (p0 : Bool) (p1 : Int32) (u : Int32 × Bool × Int64 × Int32 × Int32 × Int32) (hu : u = F_X4_fit vmo vrs vun vre vdg p0 p1) (hs : S_X4_fit vmo vrs vun vre vdg p0 p1) : XM l D (xty cR cI cJ cZ) t0 yX4_fit cX4_fit 10 none rm_X4_fit [.ref am, .int (bI p0), .int p1] none (mw cI cJ cZ am ak an ac ae ag aq vth vmo vfg vtp vkd vng vcc vqq vrs vct vun vre vks vms vcs ves vdg vog) (mw cI cJ cZ am ak an ac ae ag aq vth vmo vfg vtp u.1 u.2.1 u.2.2.1 u.2.2.2.1 u.2.2.2.2.1 u.2.2.2.2.2 vun vre vks vms vcs ves vdg vog) := by
  refine XM.of (by decide) (Nat.le_of_ble_eq_true rfl) ?_
  intro p e s m args below meth c A Q F hK hP hD hA hSt hS hQ ls hl
  obtain ⟨hx, hb, hr, hts, hown, hlocks, hml⟩ := F
  have hCF : CallFix p m c cX4_fit 10 s args gW RX4 := ⟨hx, hb, hml, hown, hts⟩
  unfold S_X4_fit at hs
  have hu := rF_X4_fit vmo vrs vun vre vdg p0 p1 hu
  unfold RF_X4_fit at hu
  obtain ⟨H, eH⟩ : ∃ y9 : Heap, y9 = s.heap := ⟨_, rfl⟩
  obtain ⟨locs, eL⟩ : ∃ y9 : List Loc, y9 = [] := ⟨_, rfl⟩
  rw [← eL] at hS ⊢
  have hP : va_P D vwCl (mw cI cJ cZ am ak an ac ae ag aq vth vmo vfg vtp vkd vng vcc vqq vrs vct vun vre vks vms vcs ves vdg vog) H := by rw [eH]; exact hP
  have hS : va_S A s.heap H locs := by rw [eH]; exact hS
  suffices goal9 : W p l e rm_X4_fit s m args below meth c H locs 0 0 Q (F0 m 0 ls []) from by rw [← eH]; exact goal9
  have hl : lv_has ls 10 [(0, .ref am), (1, .int (bI p0)), (2, .int p1)] := hl
  have hi4 : ∀ w ∈ wsX40, w ∈ gW := inW_X4
  refine lv_aload_n hx hb dX4_fit_0 rfl (lv_at hl 0 rfl) ?_
  obtain ⟨h_101, hs⟩ := hs
  obtain ⟨u102, eu102⟩ : ∃ y9 : Int32, y9 = F_X4_trim vdg := ⟨_, rfl⟩
  have hs := hs _ eu102
  have hu := hu _ eu102
  refine x_V (As := []) (rest := []) hCF (c_X4_trim l D cR cI cJ cZ t0 am ak an ac ae ag aq vth vmo vfg vtp vkd vng vcc vqq vrs vct vun vre vks vms vcs ves vdg vog u102 eu102 h_101) (x_cwV 0 hts (inW_9 _ (List.mem_of_getElem? (i := 36) rfl)) (inW_9 _ (List.mem_of_getElem? (i := 37) rfl)) (inW_9 _ (List.mem_of_getElem? (i := 38) rfl)) (inW_9 _ (List.mem_of_getElem? (i := 5) rfl)) (inW_9 _ (List.mem_of_getElem? (i := 7) rfl)) rfl rfl (by decide +kernel) ⟨Nat.le_of_ble_eq_true rfl, Nat.le_of_ble_eq_true rfl⟩) hK hP hD hS hA hSt 0 rfl rfl rfl hl.1 rfl (Nat.le_of_ble_eq_true rfl) dX4_fit_1 ⟨Nat.le_of_ble_eq_true rfl, Nat.le_of_ble_eq_true rfl⟩ (fun H locs hP hD hS => ?_)
  show W p l e _ s m args below meth c H locs 0 0 Q (F0 m 4 ls [])
  refine lv_aload_n hx hb dX4_fit_4 rfl (lv_at hl 0 rfl) ?_
  refine va_get (D := D) (ci := 5) (v := .int u102) (C := RX4) (T := TX4) (N := 18) hx hb hts hi4 hown hK hP 0 rfl rfl 13 (by decide) (hts (.fieldLink RX4 39 "DecimalWordsModel" "count" "I") (inW_9 _ (List.mem_of_getElem? (i := 8) rfl))) (fun _ h9 => h9) rfl dX4_fit_5 ?_
  refine lv_if_ne (tgt := 30) hx hb dX4_fit_8 (by decide) (fun c_104 => ?_) (fun c_104 => ?_)
  · rw [if_neg c_104] at hs
    rw [if_neg c_104] at hu
    refine lv_iconst (v := 0) hx hb dX4_fit_30 (by decide) ?_
    refine lv_istore_n (lv' := [(3, .int 0), (0, .ref am), (1, .int (bI p0)), (2, .int p1)]) hx hb dX4_fit_31 rfl hl (by decide) rfl (fun ls hl => ?_)
    have L_252 : ∀ (n9 : Nat) (t_32 : Int32), (∀ j : Nat, j < n9 → G_X4_fit_32 vdg (itn (B_X4_fit_32 vdg) j t_32) = true) → (∀ j : Nat, j < n9 → SB_X4_fit_32 vdg (itn (B_X4_fit_32 vdg) j t_32)) → (∀ (H : Heap) (locs : List Loc), va_P D vwCl (mw cI cJ cZ am ak an ac ae ag aq vth vmo vfg vtp vkd vng vcc vqq vrs u102 vun vre vks vms vcs ves vdg vog) H → va_D A (mw cI cJ cZ am ak an ac ae ag aq vth vmo vfg vtp vkd vng vcc vqq vrs u102 vun vre vks vms vcs ves vdg vog) → va_S A s.heap H locs → ∀ ls : Array Slot, lv_has ls 10 [(0, .ref am), (1, .int (bI p0)), (2, .int p1), (3, .int (itn (B_X4_fit_32 vdg) n9 t_32))] → W p l e rm_X4_fit s m args below meth c H locs 0 0 Q (F0 m 32 ls [])) → ∀ (H : Heap) (locs : List Loc), va_P D vwCl (mw cI cJ cZ am ak an ac ae ag aq vth vmo vfg vtp vkd vng vcc vqq vrs u102 vun vre vks vms vcs ves vdg vog) H → va_D A (mw cI cJ cZ am ak an ac ae ag aq vth vmo vfg vtp vkd vng vcc vqq vrs u102 vun vre vks vms vcs ves vdg vog) → va_S A s.heap H locs → ∀ ls : Array Slot, lv_has ls 10 [(0, .ref am), (1, .int (bI p0)), (2, .int p1), (3, .int t_32)] → W p l e rm_X4_fit s m args below meth c H locs 0 0 Q (F0 m 32 ls []) := by
      intro n9
      induction n9 with
      | zero => exact fun _ _ _ k9 => k9
      | succ n9 ih9 =>
        intro t_32 hG9 hs9 k9 H locs hP hD hS ls hl
        have hG0 : G_X4_fit_32 vdg t_32 = true := hG9 0 (Nat.succ_pos n9)
        have hg := rG_X4_fit_32 vdg t_32 (Eq.symm hG0)
        unfold RG_X4_fit_32 at hg
        obtain ⟨t9, et9⟩ : ∃ y9 : Int32, y9 = (B_X4_fit_32 vdg) t_32 := ⟨_, rfl⟩
        have hb9 := rB_X4_fit_32 vdg t_32 et9
        unfold RB_X4_fit_32 at hb9
        have hs : SB_X4_fit_32 vdg t_32 := hs9 0 (Nat.succ_pos n9)
        unfold SB_X4_fit_32 at hs
        refine lv_aload_n hx hb dX4_fit_32 rfl (lv_at hl 0 rfl) ?_
        refine va_get (D := D) (ci := 5) (v := .ref ag) (C := RX4) (T := TX4) (N := 18) hx hb hts hi4 hown hK hP 0 rfl rfl 14 (by decide) (hts (.fieldLink RX4 24 "DecimalWordsModel" "digits" "[I") (inW_8 _ (List.mem_of_getElem? (i := 35) rfl))) (fun _ h9 => h9) rfl dX4_fit_33 ?_
        refine lv_iload_n hx hb dX4_fit_36 rfl (lv_at hl 3 rfl) ?_
        have h_105 := hs
        refine va_iald hx hb hK hP 5 1 rfl rfl h_105 dX4_fit_37 ?_
        refine lv_if_ne (tgt := 47) hx hb dX4_fit_38 (by decide) (fun c_106 => ?_) (fun c_106 => ?_)
        · rw [if_neg c_106] at hg
          exact absurd hg (by decide)
        · rw [if_pos c_106] at hg
          rw [if_pos c_106] at hb9
          obtain ⟨n107, en107⟩ : ∃ y9 : Int32, y9 = t_32 + 1 := ⟨_, rfl⟩
          have hb9 := hb9 _ en107
          refine lv_iinc (v := n107) (lv' := [(3, .int n107), (0, .ref am), (1, .int (bI p0)), (2, .int p1)]) hx hb dX4_fit_41 hl (k := 3) rfl (by rw [en107]; rfl) (by decide) rfl (fun ls hl => ?_)
          refine lv_goto (tgt := 32) hx hb dX4_fit_44 (by decide) ?_
          have e9 := Eq.symm hb9; subst e9
          have key9 := ih9 ((B_X4_fit_32 vdg) t_32) (fun j hj => hG9 (j + 1) (Nat.succ_lt_succ hj)) (fun j hj => hs9 (j + 1) (Nat.succ_lt_succ hj)) k9
          rw [← et9] at key9
          exact key9 H locs hP hD hS ls (lv_sub hl [1, 2, 3, 0] rfl)
    obtain ⟨hsL, hG1, hs⟩ := hs
    refine L_252 (nW (G_X4_fit_32 vdg) (B_X4_fit_32 vdg) 901 0) 0 (nW_lt _ _ _ _) hsL (fun H locs hP hD hS ls hl => ?_) H locs hP hD hS ls (lv_sub hl [1, 2, 3, 0] rfl)
    obtain ⟨z108, ez108⟩ : ∃ y9 : Int32, y9 = wl (G_X4_fit_32 vdg) (B_X4_fit_32 vdg) 901 0 := ⟨_, rfl⟩
    have e9 : z108 = itn (B_X4_fit_32 vdg) (nW (G_X4_fit_32 vdg) (B_X4_fit_32 vdg) 901 0) 0 := ez108
    try rw [← e9] at hP
    try rw [← e9] at hD
    try rw [← e9] at hl
    rw [← ez108] at hG1
    clear e9
    have hg := rG_X4_fit_32 vdg z108 (Eq.symm hG1)
    unfold RG_X4_fit_32 at hg
    have hs := hs _ ez108
    have hu := hu _ ez108
    refine lv_aload_n hx hb dX4_fit_32 rfl (lv_at hl 0 rfl) ?_
    refine va_get (D := D) (ci := 5) (v := .ref ag) (C := RX4) (T := TX4) (N := 18) hx hb hts hi4 hown hK hP 0 rfl rfl 14 (by decide) (hts (.fieldLink RX4 24 "DecimalWordsModel" "digits" "[I") (inW_8 _ (List.mem_of_getElem? (i := 35) rfl))) (fun _ h9 => h9) rfl dX4_fit_33 ?_
    refine lv_iload_n hx hb dX4_fit_36 rfl (lv_at hl 3 rfl) ?_
    obtain ⟨h_110, hs⟩ := hs
    refine va_iald hx hb hK hP 5 1 rfl rfl h_110 dX4_fit_37 ?_
    have J_113 : ∀ (H : Heap) (locs : List Loc), va_P D vwCl (mw cI cJ cZ am ak an ac ae ag aq vth vmo vfg vtp vkd vng vcc vqq vrs u102 vun vre vks vms vcs ves vdg vog) H → va_D A (mw cI cJ cZ am ak an ac ae ag aq vth vmo vfg vtp vkd vng vcc vqq vrs u102 vun vre vks vms vcs ves vdg vog) → va_S A s.heap H locs → ∀ ls : Array Slot, lv_has ls 10 [(0, .ref am), (1, .int (bI p0)), (2, .int p1), (3, .int z108)] → W p l e rm_X4_fit s m args below meth c H locs 0 0 Q (F0 m 47 ls []) := by
      intro H locs hP hD hS ls hl
      refine lv_aload_n hx hb dX4_fit_47 rfl (lv_at hl 0 rfl) ?_
      refine va_get (D := D) (ci := 5) (v := .int u102) (C := RX4) (T := TX4) (N := 18) hx hb hts hi4 hown hK hP 0 rfl rfl 13 (by decide) (hts (.fieldLink RX4 39 "DecimalWordsModel" "count" "I") (inW_9 _ (List.mem_of_getElem? (i := 8) rfl))) (fun _ h9 => h9) rfl dX4_fit_48 ?_
      refine lv_iload_n hx hb dX4_fit_51 rfl (lv_at hl 3 rfl) ?_
      refine lv_isub hx hb dX4_fit_52 ?_
      refine lv_topi (fun n114 en114 => ?_)
      have hs := hs _ en114
      have hu := hu _ en114
      refine lv_istore (lv' := [(4, .int n114), (0, .ref am), (1, .int (bI p0)), (2, .int p1), (3, .int z108)]) hx hb dX4_fit_53 hl (by decide) rfl (fun ls hl => ?_)
      refine lv_aload_n hx hb dX4_fit_55 rfl (lv_at hl 1 rfl) ?_
      refine va_get (D := D) (ci := 5) (v := .int vun) (C := RX4) (T := TX4) (N := 18) hx hb hts hi4 hown hK hP 0 rfl rfl 16 (by decide) (hts (.fieldLink RX4 86 "DecimalWordsModel" "unit" "I") (inW_9 _ (List.mem_of_getElem? (i := 33) rfl))) (fun _ h9 => h9) rfl dX4_fit_56 ?_
      refine lv_iload_n hx hb dX4_fit_59 rfl (lv_at hl 4 rfl) ?_
      refine lv_iadd hx hb dX4_fit_60 ?_
      refine lv_topi (fun n115 en115 => ?_)
      have hs := hs _ en115
      have hu := hu _ en115
      refine lv_istore (lv' := [(5, .int n115), (4, .int n114), (0, .ref am), (1, .int (bI p0)), (2, .int p1), (3, .int z108)]) hx hb dX4_fit_61 hl (by decide) rfl (fun ls hl => ?_)
      refine lv_iload hx hb dX4_fit_63 (lv_at hl 0 rfl) ?_
      refine lv_bipush (v := 16) hx hb dX4_fit_65 (by decide) ?_
      refine lv_iload hx hb dX4_fit_67 (lv_at hl 1 rfl) ?_
      refine lv_isub hx hb dX4_fit_69 ?_
      refine lv_isub hx hb dX4_fit_70 ?_
      refine lv_topi (fun n116 en116 => ?_)
      have hs := hs _ en116
      have hu := hu _ en116
      refine lv_istore (lv' := [(6, .int n116), (5, .int n115), (4, .int n114), (0, .ref am), (1, .int (bI p0)), (2, .int p1), (3, .int z108)]) hx hb dX4_fit_71 hl (by decide) rfl (fun ls hl => ?_)
      refine lv_aload_n hx hb dX4_fit_73 rfl (lv_at hl 3 rfl) ?_
      refine va_get (D := D) (ci := 5) (v := .int (bI vre)) (C := RX4) (T := TX4) (N := 18) hx hb hts hi4 hown hK hP 0 rfl rfl 17 (by decide) (hts (.fieldLink RX4 71 "DecimalWordsModel" "rest" "Z") (inW_9 _ (List.mem_of_getElem? (i := 23) rfl))) (fun _ h9 => h9) rfl dX4_fit_74 ?_
      refine xb_ne (tgt := 165) hx hb dX4_fit_77 (by decide) (fun c_117 => ?_) (fun c_117 => ?_)
      · rw [if_pos c_117] at hs
        rw [if_pos c_117] at hu
        refine lv_aload_n hx hb dX4_fit_165 rfl (lv_at hl 3 rfl) ?_
        refine lv_aload_n hx hb dX4_fit_166 rfl (lv_at hl 3 rfl) ?_
        refine va_get (D := D) (ci := 5) (v := .int vrs) (C := RX4) (T := TX4) (N := 18) hx hb hts hi4 hown hK hP 0 rfl rfl 12 (by decide) (hts (.fieldLink RX4 56 "DecimalWordsModel" "raised" "I") (inW_9 _ (List.mem_of_getElem? (i := 17) rfl))) (fun _ h9 => h9) rfl dX4_fit_167 ?_
        refine lv_bipush (v := 16) hx hb dX4_fit_170 (by decide) ?_
        refine lv_ior hx hb dX4_fit_172 ?_
        refine lv_topi (fun f118 ef118 => ?_)
        have hs := hs _ ef118
        have hu := hu _ ef118
        refine va_put (D := D) (ci := 5) (v := .int f118) (ty := .int) (C := RX4) (T := TX4) (N := 18) hx hb hts hi4 tyX4 tyX4_ok nmX4 hown hK hP hD hS 0 rfl rfl 12 (by decide) (hts (.fieldLink RX4 56 "DecimalWordsModel" "raised" "I") (inW_9 _ (List.mem_of_getElem? (i := 17) rfl))) (fun _ h9 => h9) rfl (by decide +kernel) rfl rfl (Nat.le_of_ble_eq_true rfl) dX4_fit_173 (fun H locs hP hD hS => ?_)
        have hP : va_P D vwCl (mw cI cJ cZ am ak an ac ae ag aq vth vmo vfg vtp vkd vng vcc vqq f118 u102 vun vre vks vms vcs ves vdg vog) H := hP
        have hD : va_D A (mw cI cJ cZ am ak an ac ae ag aq vth vmo vfg vtp vkd vng vcc vqq f118 u102 vun vre vks vms vcs ves vdg vog) := hD
        refine lv_aload_n hx hb dX4_fit_176 rfl (lv_at hl 3 rfl) ?_
        refine va_get (D := D) (ci := 5) (v := .int u102) (C := RX4) (T := TX4) (N := 18) hx hb hts hi4 hown hK hP 0 rfl rfl 13 (by decide) (hts (.fieldLink RX4 39 "DecimalWordsModel" "count" "I") (inW_9 _ (List.mem_of_getElem? (i := 8) rfl))) (fun _ h9 => h9) rfl dX4_fit_177 ?_
        refine lv_aload_n hx hb dX4_fit_180 rfl (lv_at hl 3 rfl) ?_
        refine va_get (D := D) (ci := 5) (v := .int vun) (C := RX4) (T := TX4) (N := 18) hx hb hts hi4 hown hK hP 0 rfl rfl 16 (by decide) (hts (.fieldLink RX4 86 "DecimalWordsModel" "unit" "I") (inW_9 _ (List.mem_of_getElem? (i := 33) rfl))) (fun _ h9 => h9) rfl dX4_fit_181 ?_
        refine lv_iadd hx hb dX4_fit_184 ?_
        refine lv_bipush (v := 16) hx hb dX4_fit_185 (by decide) ?_
        refine lv_isub hx hb dX4_fit_187 ?_
        refine lv_topi (fun n120 en120 => ?_)
        have hs := hs _ en120
        have hu := hu _ en120
        refine lv_istore (lv' := [(7, .int n120), (6, .int n116), (5, .int n115), (4, .int n114), (0, .ref am), (1, .int (bI p0)), (2, .int p1), (3, .int z108)]) hx hb dX4_fit_188 hl (by decide) rfl (fun ls hl => ?_)
        refine lv_iload hx hb dX4_fit_190 (lv_at hl 0 rfl) ?_
        refine lv_sipush (v := (-398)) hx hb dX4_fit_192 (by decide) ?_
        have J_124 : (∀ z123 : Int32, z123 = Z_X4_fit_J_124 n120 → ∀ (H : Heap) (locs : List Loc), va_P D vwCl (mw cI cJ cZ am ak an ac ae ag aq vth vmo vfg vtp vkd vng vcc vqq f118 u102 vun vre vks vms vcs ves vdg vog) H → va_D A (mw cI cJ cZ am ak an ac ae ag aq vth vmo vfg vtp vkd vng vcc vqq f118 u102 vun vre vks vms vcs ves vdg vog) → va_S A s.heap H locs → ∀ ls : Array Slot, lv_has ls 10 [(0, .ref am), (1, .int (bI p0))] → W p l e rm_X4_fit s m args below meth c H locs 0 0 Q (F0 m 206 ls [.int z123])) := by
          intro z123 ez123 H locs hP hD hS ls hl
          have hs := hs _ ez123
          have hu := hu _ ez123
          refine lv_istore (lv' := [(7, .int z123), (0, .ref am), (1, .int (bI p0))]) hx hb dX4_fit_206 hl (by decide) rfl (fun ls hl => ?_)
          refine lv_iload hx hb dX4_fit_208 (lv_at hl 0 rfl) ?_
          refine lv_sipush (v := 369) hx hb dX4_fit_210 (by decide) ?_
          refine lv_icmp_le (tgt := 222) hx hb dX4_fit_213 (by decide) (fun c_125 => ?_) (fun c_125 => ?_)
          · rw [if_pos c_125] at hs
            rw [if_pos c_125] at hu
            refine lv_aload_n hx hb dX4_fit_222 rfl (lv_at hl 1 rfl) ?_
            refine lv_iload hx hb dX4_fit_223 (lv_at hl 0 rfl) ?_
            refine lv_aload_n hx hb dX4_fit_225 rfl (lv_at hl 1 rfl) ?_
            refine va_get (D := D) (ci := 5) (v := .int vun) (C := RX4) (T := TX4) (N := 18) hx hb hts hi4 hown hK hP 0 rfl rfl 16 (by decide) (hts (.fieldLink RX4 86 "DecimalWordsModel" "unit" "I") (inW_9 _ (List.mem_of_getElem? (i := 33) rfl))) (fun _ h9 => h9) rfl dX4_fit_226 ?_
            refine lv_isub hx hb dX4_fit_229 ?_
            refine lv_iload_n hx hb dX4_fit_230 rfl (lv_at hl 2 rfl) ?_
            have h_126 := hs
            refine x_V (As := [.int (z123 - vun), .int (bI p0)]) (rest := []) hCF (c_X4_rounded l D cR cI cJ cZ t0 am ak an ac ae ag aq vth vmo vfg vtp vkd vng vcc vqq f118 u102 vun vre vks vms vcs ves vdg vog (z123 - vun) p0 _ rfl h_126) (x_cwV 2 hts (inW_10 _ (List.mem_of_getElem? (i := 7) rfl)) (inW_10 _ (List.mem_of_getElem? (i := 8) rfl)) (inW_10 _ (List.mem_of_getElem? (i := 9) rfl)) (inW_9 _ (List.mem_of_getElem? (i := 5) rfl)) (inW_9 _ (List.mem_of_getElem? (i := 22) rfl)) rfl rfl (by decide +kernel) ⟨Nat.le_of_ble_eq_true rfl, Nat.le_of_ble_eq_true rfl⟩) hK hP hD hS hA hSt 0 rfl rfl rfl hl.1 rfl (Nat.le_of_ble_eq_true rfl) dX4_fit_231 ⟨Nat.le_of_ble_eq_true rfl, Nat.le_of_ble_eq_true rfl⟩ (fun H locs hP hD hS => ?_)
            show W p l e _ s m args below meth c H locs 0 0 Q (F0 m 234 ls (.long (F_X4_rounded vmo u102 vre vdg (z123 - vun) p0) :: []))
            refine lv_topl (fun n128 en128 => ?_)
            have hu := hu _ en128
            refine lv_lstore (lv' := [(8, .long n128), (7, .int z123), (0, .ref am), (1, .int (bI p0))]) hx hb dX4_fit_234 hl (by decide) rfl (fun ls hl => ?_)
            refine lv_lload hx hb dX4_fit_236 (lv_at hl 0 rfl) ?_
            refine lv_ldc2 (v := 10000000000000000) hx hb hown (hts (.constantLong RX4 97 (10000000000000000)) (inW_9 _ (List.mem_of_getElem? (i := 34) rfl))) dX4_fit_238 ?_
            have J_133 : (∀ z132 : Int32 × Int64, z132 = Z_X4_fit_J_133 z123 n128 → ∀ (H : Heap) (locs : List Loc), va_P D vwCl (mw cI cJ cZ am ak an ac ae ag aq vth vmo vfg vtp vkd vng vcc vqq f118 u102 vun vre vks vms vcs ves vdg vog) H → va_D A (mw cI cJ cZ am ak an ac ae ag aq vth vmo vfg vtp vkd vng vcc vqq f118 u102 vun vre vks vms vcs ves vdg vog) → va_S A s.heap H locs → ∀ ls : Array Slot, lv_has ls 10 [(0, .ref am), (1, .int (bI p0)), (7, .int z132.1), (8, .long z132.2)] → W p l e rm_X4_fit s m args below meth c H locs 0 0 Q (F0 m 253 ls [])) := by
              intro z132 ez132 H locs hP hD hS ls hl
              have hu := hu _ ez132
              refine lv_iload hx hb dX4_fit_253 (lv_at hl 2 rfl) ?_
              refine lv_sipush (v := 369) hx hb dX4_fit_255 (by decide) ?_
              refine lv_icmp_le (tgt := 267) hx hb dX4_fit_258 (by decide) (fun c_134 => ?_) (fun c_134 => ?_)
              · rw [if_pos c_134] at hu
                refine lv_aload_n hx hb dX4_fit_267 rfl (lv_at hl 0 rfl) ?_
                refine lv_aload_n hx hb dX4_fit_268 rfl (lv_at hl 0 rfl) ?_
                refine va_get (D := D) (ci := 5) (v := .int u102) (C := RX4) (T := TX4) (N := 18) hx hb hts hi4 hown hK hP 0 rfl rfl 13 (by decide) (hts (.fieldLink RX4 39 "DecimalWordsModel" "count" "I") (inW_9 _ (List.mem_of_getElem? (i := 8) rfl))) (fun _ h9 => h9) rfl dX4_fit_269 ?_
                refine lv_aload_n hx hb dX4_fit_272 rfl (lv_at hl 0 rfl) ?_
                refine va_get (D := D) (ci := 5) (v := .int vun) (C := RX4) (T := TX4) (N := 18) hx hb hts hi4 hown hK hP 0 rfl rfl 16 (by decide) (hts (.fieldLink RX4 86 "DecimalWordsModel" "unit" "I") (inW_9 _ (List.mem_of_getElem? (i := 33) rfl))) (fun _ h9 => h9) rfl dX4_fit_273 ?_
                refine lv_iadd hx hb dX4_fit_276 ?_
                refine lv_sipush (v := (-383)) hx hb dX4_fit_277 (by decide) ?_
                have J_138 : (∀ z137 : Int32, z137 = Z_X4_fit_J_138 vun u102 f118 → ∀ (H : Heap) (locs : List Loc), va_P D vwCl (mw cI cJ cZ am ak an ac ae ag aq vth vmo vfg vtp vkd vng vcc vqq f118 u102 vun vre vks vms vcs ves vdg vog) H → va_D A (mw cI cJ cZ am ak an ac ae ag aq vth vmo vfg vtp vkd vng vcc vqq f118 u102 vun vre vks vms vcs ves vdg vog) → va_S A s.heap H locs → ∀ ls : Array Slot, lv_has ls 10 [(0, .ref am), (1, .int (bI p0)), (7, .int z132.1), (8, .long z132.2)] → W p l e rm_X4_fit s m args below meth c H locs 0 0 Q (F0 m 297 ls [.int z137, .ref am])) := by
                  intro z137 ez137 H locs hP hD hS ls hl
                  have hu := hu _ ez137
                  refine va_put (D := D) (ci := 5) (v := .int z137) (ty := .int) (C := RX4) (T := TX4) (N := 18) hx hb hts hi4 tyX4 tyX4_ok nmX4 hown hK hP hD hS 0 rfl rfl 12 (by decide) (hts (.fieldLink RX4 56 "DecimalWordsModel" "raised" "I") (inW_9 _ (List.mem_of_getElem? (i := 17) rfl))) (fun _ h9 => h9) rfl (by decide +kernel) rfl rfl (Nat.le_of_ble_eq_true rfl) dX4_fit_297 (fun H locs hP hD hS => ?_)
                  have hP : va_P D vwCl (mw cI cJ cZ am ak an ac ae ag aq vth vmo vfg vtp vkd vng vcc vqq z137 u102 vun vre vks vms vcs ves vdg vog) H := hP
                  have hD : va_D A (mw cI cJ cZ am ak an ac ae ag aq vth vmo vfg vtp vkd vng vcc vqq z137 u102 vun vre vks vms vcs ves vdg vog) := hD
                  refine lv_aload_n hx hb dX4_fit_300 rfl (lv_at hl 0 rfl) ?_
                  refine lv_iconst (v := 0) hx hb dX4_fit_301 (by decide) ?_
                  refine lv_iload_n hx hb dX4_fit_302 rfl (lv_at hl 1 rfl) ?_
                  refine lv_lload hx hb dX4_fit_303 (lv_at hl 3 rfl) ?_
                  refine lv_iload hx hb dX4_fit_305 (lv_at hl 2 rfl) ?_
                  obtain ⟨u140, eu140⟩ : ∃ y9 : Int32 × Bool × Int64 × Int32, y9 = F_X4_be (0 : Int32) p0 z132.2 z132.1 := ⟨_, rfl⟩
                  have hu := hu _ eu140
                  refine x_V (As := [.int 0, .int (bI p0), .long z132.2, .int z132.1]) (rest := []) hCF (c_X4_be l D cR cI cJ cZ t0 am ak an ac ae ag aq vth vmo vfg vtp vkd vng vcc vqq z137 u102 vun vre vks vms vcs ves vdg vog (0 : Int32) p0 z132.2 z132.1 u140 eu140) (x_cwV 4 hts (inW_9 _ (List.mem_of_getElem? (i := 18) rfl)) (inW_9 _ (List.mem_of_getElem? (i := 19) rfl)) (inW_9 _ (List.mem_of_getElem? (i := 20) rfl)) (inW_9 _ (List.mem_of_getElem? (i := 5) rfl)) (inW_9 _ (List.mem_of_getElem? (i := 11) rfl)) rfl rfl (by decide +kernel) ⟨Nat.le_of_ble_eq_true rfl, Nat.le_of_ble_eq_true rfl⟩) hK hP hD hS hA hSt 0 rfl rfl rfl hl.1 rfl (Nat.le_of_ble_eq_true rfl) dX4_fit_307 ⟨Nat.le_of_ble_eq_true rfl, Nat.le_of_ble_eq_true rfl⟩ (fun H locs hP hD hS => ?_)
                  show W p l e _ s m args below meth c H locs 0 0 Q (F0 m 310 ls [])
                  have e9 := Eq.symm hu; subst e9
                  exact x_vret hx hb hr hlocks hQ hK hP hD hS rfl dX4_fit_310
                obtain ⟨z9, ez9⟩ : ∃ y9 : Int32, y9 = Z_X4_fit_J_138 vun u102 f118 := ⟨_, rfl⟩
                have hz := rZ_X4_fit_J_138 vun u102 f118 ez9
                unfold RZ_X4_fit_J_138 at hz
                refine lv_icmp_gt (tgt := 293) hx hb dX4_fit_280 (by decide) (fun c_135 => ?_) (fun c_135 => ?_)
                · rw [if_pos c_135] at hz
                  refine lv_aload_n hx hb dX4_fit_293 rfl (lv_at hl 0 rfl) ?_
                  refine va_get (D := D) (ci := 5) (v := .int f118) (C := RX4) (T := TX4) (N := 18) hx hb hts hi4 hown hK hP 0 rfl rfl 12 (by decide) (hts (.fieldLink RX4 56 "DecimalWordsModel" "raised" "I") (inW_9 _ (List.mem_of_getElem? (i := 17) rfl))) (fun _ h9 => h9) rfl dX4_fit_294 ?_
                  have e9 := Eq.symm hz; subst e9
                  exact J_138 _ ez9 H locs hP hD hS ls (lv_sub hl [0, 1, 2, 3] rfl)
                · rw [if_neg c_135] at hz
                  refine lv_aload_n hx hb dX4_fit_283 rfl (lv_at hl 0 rfl) ?_
                  refine va_get (D := D) (ci := 5) (v := .int f118) (C := RX4) (T := TX4) (N := 18) hx hb hts hi4 hown hK hP 0 rfl rfl 12 (by decide) (hts (.fieldLink RX4 56 "DecimalWordsModel" "raised" "I") (inW_9 _ (List.mem_of_getElem? (i := 17) rfl))) (fun _ h9 => h9) rfl dX4_fit_284 ?_
                  refine lv_bipush (v := 8) hx hb dX4_fit_287 (by decide) ?_
                  refine lv_ior hx hb dX4_fit_289 ?_
                  refine lv_goto (tgt := 297) hx hb dX4_fit_290 (by decide) ?_
                  have e9 := Eq.symm hz; subst e9
                  exact J_138 _ ez9 H locs hP hD hS ls (lv_sub hl [0, 1, 2, 3] rfl)
              · rw [if_neg c_134] at hu
                refine lv_aload_n hx hb dX4_fit_261 rfl (lv_at hl 0 rfl) ?_
                refine lv_iload_n hx hb dX4_fit_262 rfl (lv_at hl 1 rfl) ?_
                obtain ⟨u142, eu142⟩ : ∃ y9 : Int32 × Bool × Int64 × Int32 × Int32, y9 = F_X4_great vmo f118 p0 := ⟨_, rfl⟩
                have hu := hu _ eu142
                refine x_V (As := [.int (bI p0)]) (rest := []) hCF (c_X4_great l D cR cI cJ cZ t0 am ak an ac ae ag aq vth vmo vfg vtp vkd vng vcc vqq f118 u102 vun vre vks vms vcs ves vdg vog p0 u142 eu142) (x_cwV 1 hts (inW_10 _ (List.mem_of_getElem? (i := 2) rfl)) (inW_10 _ (List.mem_of_getElem? (i := 3) rfl)) (inW_10 _ (List.mem_of_getElem? (i := 4) rfl)) (inW_9 _ (List.mem_of_getElem? (i := 5) rfl)) (inW_10 _ (List.mem_of_getElem? (i := 5) rfl)) rfl rfl (by decide +kernel) ⟨Nat.le_of_ble_eq_true rfl, Nat.le_of_ble_eq_true rfl⟩) hK hP hD hS hA hSt 0 rfl rfl rfl hl.1 rfl (Nat.le_of_ble_eq_true rfl) dX4_fit_263 ⟨Nat.le_of_ble_eq_true rfl, Nat.le_of_ble_eq_true rfl⟩ (fun H locs hP hD hS => ?_)
                show W p l e _ s m args below meth c H locs 0 0 Q (F0 m 266 ls [])
                have e9 := Eq.symm hu; subst e9
                exact x_vret hx hb hr hlocks hQ hK hP hD hS rfl dX4_fit_266
            obtain ⟨z9, ez9⟩ : ∃ y9 : Int32 × Int64, y9 = Z_X4_fit_J_133 z123 n128 := ⟨_, rfl⟩
            have hz := rZ_X4_fit_J_133 z123 n128 ez9
            unfold RZ_X4_fit_J_133 at hz
            refine xl_ne (tgt := 253) hx hb dX4_fit_241 dX4_fit_242 (by decide) (fun c_129 => ?_) (fun c_129 => ?_)
            · rw [if_neg c_129] at hz
              have e9 := Eq.symm hz; subst e9
              exact J_133 _ ez9 H locs hP hD hS ls (lv_sub hl [2, 3, 1, 0] rfl)
            · rw [if_pos c_129] at hz
              refine lv_ldc2 (v := 1000000000000000) hx hb hown (hts (.constantLong RX4 99 (1000000000000000)) (inW_9 _ (List.mem_of_getElem? (i := 35) rfl))) dX4_fit_245 ?_
              refine lv_lstore (lv' := [(8, .long 1000000000000000), (7, .int z123), (0, .ref am), (1, .int (bI p0))]) hx hb dX4_fit_248 hl (by decide) rfl (fun ls hl => ?_)
              obtain ⟨n130, en130⟩ : ∃ y9 : Int32, y9 = z123 + 1 := ⟨_, rfl⟩
              have hz := hz _ en130
              refine lv_iinc (v := n130) (lv' := [(7, .int n130), (8, .long 1000000000000000), (0, .ref am), (1, .int (bI p0))]) hx hb dX4_fit_250 hl (k := 1) rfl (by rw [en130]; rfl) (by decide) rfl (fun ls hl => ?_)
              have e9 := Eq.symm hz; subst e9
              exact J_133 _ ez9 H locs hP hD hS ls (lv_sub hl [2, 3, 0, 1] rfl)
          · rw [if_neg c_125] at hu
            refine lv_aload_n hx hb dX4_fit_216 rfl (lv_at hl 1 rfl) ?_
            refine lv_iload_n hx hb dX4_fit_217 rfl (lv_at hl 2 rfl) ?_
            obtain ⟨u144, eu144⟩ : ∃ y9 : Int32 × Bool × Int64 × Int32 × Int32, y9 = F_X4_great vmo f118 p0 := ⟨_, rfl⟩
            have hu := hu _ eu144
            refine x_V (As := [.int (bI p0)]) (rest := []) hCF (c_X4_great l D cR cI cJ cZ t0 am ak an ac ae ag aq vth vmo vfg vtp vkd vng vcc vqq f118 u102 vun vre vks vms vcs ves vdg vog p0 u144 eu144) (x_cwV 1 hts (inW_10 _ (List.mem_of_getElem? (i := 2) rfl)) (inW_10 _ (List.mem_of_getElem? (i := 3) rfl)) (inW_10 _ (List.mem_of_getElem? (i := 4) rfl)) (inW_9 _ (List.mem_of_getElem? (i := 5) rfl)) (inW_10 _ (List.mem_of_getElem? (i := 5) rfl)) rfl rfl (by decide +kernel) ⟨Nat.le_of_ble_eq_true rfl, Nat.le_of_ble_eq_true rfl⟩) hK hP hD hS hA hSt 0 rfl rfl rfl hl.1 rfl (Nat.le_of_ble_eq_true rfl) dX4_fit_218 ⟨Nat.le_of_ble_eq_true rfl, Nat.le_of_ble_eq_true rfl⟩ (fun H locs hP hD hS => ?_)
            show W p l e _ s m args below meth c H locs 0 0 Q (F0 m 221 ls [])
            have e9 := Eq.symm hu; subst e9
            exact x_vret hx hb hr hlocks hQ hK hP hD hS rfl dX4_fit_221
        obtain ⟨z9, ez9⟩ : ∃ y9 : Int32, y9 = Z_X4_fit_J_124 n120 := ⟨_, rfl⟩
        have hz := rZ_X4_fit_J_124 n120 ez9
        unfold RZ_X4_fit_J_124 at hz
        refine lv_icmp_ge (tgt := 204) hx hb dX4_fit_195 (by decide) (fun c_121 => ?_) (fun c_121 => ?_)
        · rw [if_pos c_121] at hz
          refine lv_iload hx hb dX4_fit_204 (lv_at hl 0 rfl) ?_
          have e9 := Eq.symm hz; subst e9
          exact J_124 _ ez9 H locs hP hD hS ls (lv_sub hl [4, 5] rfl)
        · rw [if_neg c_121] at hz
          refine lv_sipush (v := (-398)) hx hb dX4_fit_198 (by decide) ?_
          refine lv_goto (tgt := 206) hx hb dX4_fit_201 (by decide) ?_
          have e9 := Eq.symm hz; subst e9
          exact J_124 _ ez9 H locs hP hD hS ls (lv_sub hl [4, 5] rfl)
      · rw [if_neg c_117] at hs
        rw [if_neg c_117] at hu
        refine lv_iload hx hb dX4_fit_80 (lv_at hl 2 rfl) ?_
        refine lv_bipush (v := 16) hx hb dX4_fit_82 (by decide) ?_
        refine lv_icmp_gt (tgt := 165) hx hb dX4_fit_84 (by decide) (fun c_146 => ?_) (fun c_146 => ?_)
        · rw [if_pos c_146] at hs
          rw [if_pos c_146] at hu
          refine lv_aload_n hx hb dX4_fit_165 rfl (lv_at hl 3 rfl) ?_
          refine lv_aload_n hx hb dX4_fit_166 rfl (lv_at hl 3 rfl) ?_
          refine va_get (D := D) (ci := 5) (v := .int vrs) (C := RX4) (T := TX4) (N := 18) hx hb hts hi4 hown hK hP 0 rfl rfl 12 (by decide) (hts (.fieldLink RX4 56 "DecimalWordsModel" "raised" "I") (inW_9 _ (List.mem_of_getElem? (i := 17) rfl))) (fun _ h9 => h9) rfl dX4_fit_167 ?_
          refine lv_bipush (v := 16) hx hb dX4_fit_170 (by decide) ?_
          refine lv_ior hx hb dX4_fit_172 ?_
          refine lv_topi (fun f147 ef147 => ?_)
          have hs := hs _ ef147
          have hu := hu _ ef147
          refine va_put (D := D) (ci := 5) (v := .int f147) (ty := .int) (C := RX4) (T := TX4) (N := 18) hx hb hts hi4 tyX4 tyX4_ok nmX4 hown hK hP hD hS 0 rfl rfl 12 (by decide) (hts (.fieldLink RX4 56 "DecimalWordsModel" "raised" "I") (inW_9 _ (List.mem_of_getElem? (i := 17) rfl))) (fun _ h9 => h9) rfl (by decide +kernel) rfl rfl (Nat.le_of_ble_eq_true rfl) dX4_fit_173 (fun H locs hP hD hS => ?_)
          have hP : va_P D vwCl (mw cI cJ cZ am ak an ac ae ag aq vth vmo vfg vtp vkd vng vcc vqq f147 u102 vun vre vks vms vcs ves vdg vog) H := hP
          have hD : va_D A (mw cI cJ cZ am ak an ac ae ag aq vth vmo vfg vtp vkd vng vcc vqq f147 u102 vun vre vks vms vcs ves vdg vog) := hD
          refine lv_aload_n hx hb dX4_fit_176 rfl (lv_at hl 3 rfl) ?_
          refine va_get (D := D) (ci := 5) (v := .int u102) (C := RX4) (T := TX4) (N := 18) hx hb hts hi4 hown hK hP 0 rfl rfl 13 (by decide) (hts (.fieldLink RX4 39 "DecimalWordsModel" "count" "I") (inW_9 _ (List.mem_of_getElem? (i := 8) rfl))) (fun _ h9 => h9) rfl dX4_fit_177 ?_
          refine lv_aload_n hx hb dX4_fit_180 rfl (lv_at hl 3 rfl) ?_
          refine va_get (D := D) (ci := 5) (v := .int vun) (C := RX4) (T := TX4) (N := 18) hx hb hts hi4 hown hK hP 0 rfl rfl 16 (by decide) (hts (.fieldLink RX4 86 "DecimalWordsModel" "unit" "I") (inW_9 _ (List.mem_of_getElem? (i := 33) rfl))) (fun _ h9 => h9) rfl dX4_fit_181 ?_
          refine lv_iadd hx hb dX4_fit_184 ?_
          refine lv_bipush (v := 16) hx hb dX4_fit_185 (by decide) ?_
          refine lv_isub hx hb dX4_fit_187 ?_
          refine lv_topi (fun n149 en149 => ?_)
          have hs := hs _ en149
          have hu := hu _ en149
          refine lv_istore (lv' := [(7, .int n149), (6, .int n116), (5, .int n115), (4, .int n114), (0, .ref am), (1, .int (bI p0)), (2, .int p1), (3, .int z108)]) hx hb dX4_fit_188 hl (by decide) rfl (fun ls hl => ?_)
          refine lv_iload hx hb dX4_fit_190 (lv_at hl 0 rfl) ?_
          refine lv_sipush (v := (-398)) hx hb dX4_fit_192 (by decide) ?_
          have J_153 : (∀ z152 : Int32, z152 = Z_X4_fit_J_124 n149 → ∀ (H : Heap) (locs : List Loc), va_P D vwCl (mw cI cJ cZ am ak an ac ae ag aq vth vmo vfg vtp vkd vng vcc vqq f147 u102 vun vre vks vms vcs ves vdg vog) H → va_D A (mw cI cJ cZ am ak an ac ae ag aq vth vmo vfg vtp vkd vng vcc vqq f147 u102 vun vre vks vms vcs ves vdg vog) → va_S A s.heap H locs → ∀ ls : Array Slot, lv_has ls 10 [(0, .ref am), (1, .int (bI p0))] → W p l e rm_X4_fit s m args below meth c H locs 0 0 Q (F0 m 206 ls [.int z152])) := by
            intro z152 ez152 H locs hP hD hS ls hl
            have hs := hs _ ez152
            have hu := hu _ ez152
            refine lv_istore (lv' := [(7, .int z152), (0, .ref am), (1, .int (bI p0))]) hx hb dX4_fit_206 hl (by decide) rfl (fun ls hl => ?_)
            refine lv_iload hx hb dX4_fit_208 (lv_at hl 0 rfl) ?_
            refine lv_sipush (v := 369) hx hb dX4_fit_210 (by decide) ?_
            refine lv_icmp_le (tgt := 222) hx hb dX4_fit_213 (by decide) (fun c_154 => ?_) (fun c_154 => ?_)
            · rw [if_pos c_154] at hs
              rw [if_pos c_154] at hu
              refine lv_aload_n hx hb dX4_fit_222 rfl (lv_at hl 1 rfl) ?_
              refine lv_iload hx hb dX4_fit_223 (lv_at hl 0 rfl) ?_
              refine lv_aload_n hx hb dX4_fit_225 rfl (lv_at hl 1 rfl) ?_
              refine va_get (D := D) (ci := 5) (v := .int vun) (C := RX4) (T := TX4) (N := 18) hx hb hts hi4 hown hK hP 0 rfl rfl 16 (by decide) (hts (.fieldLink RX4 86 "DecimalWordsModel" "unit" "I") (inW_9 _ (List.mem_of_getElem? (i := 33) rfl))) (fun _ h9 => h9) rfl dX4_fit_226 ?_
              refine lv_isub hx hb dX4_fit_229 ?_
              refine lv_iload_n hx hb dX4_fit_230 rfl (lv_at hl 2 rfl) ?_
              have h_155 := hs
              refine x_V (As := [.int (z152 - vun), .int (bI p0)]) (rest := []) hCF (c_X4_rounded l D cR cI cJ cZ t0 am ak an ac ae ag aq vth vmo vfg vtp vkd vng vcc vqq f147 u102 vun vre vks vms vcs ves vdg vog (z152 - vun) p0 _ rfl h_155) (x_cwV 2 hts (inW_10 _ (List.mem_of_getElem? (i := 7) rfl)) (inW_10 _ (List.mem_of_getElem? (i := 8) rfl)) (inW_10 _ (List.mem_of_getElem? (i := 9) rfl)) (inW_9 _ (List.mem_of_getElem? (i := 5) rfl)) (inW_9 _ (List.mem_of_getElem? (i := 22) rfl)) rfl rfl (by decide +kernel) ⟨Nat.le_of_ble_eq_true rfl, Nat.le_of_ble_eq_true rfl⟩) hK hP hD hS hA hSt 0 rfl rfl rfl hl.1 rfl (Nat.le_of_ble_eq_true rfl) dX4_fit_231 ⟨Nat.le_of_ble_eq_true rfl, Nat.le_of_ble_eq_true rfl⟩ (fun H locs hP hD hS => ?_)
              show W p l e _ s m args below meth c H locs 0 0 Q (F0 m 234 ls (.long (F_X4_rounded vmo u102 vre vdg (z152 - vun) p0) :: []))
              refine lv_topl (fun n157 en157 => ?_)
              have hu := hu _ en157
              refine lv_lstore (lv' := [(8, .long n157), (7, .int z152), (0, .ref am), (1, .int (bI p0))]) hx hb dX4_fit_234 hl (by decide) rfl (fun ls hl => ?_)
              refine lv_lload hx hb dX4_fit_236 (lv_at hl 0 rfl) ?_
              refine lv_ldc2 (v := 10000000000000000) hx hb hown (hts (.constantLong RX4 97 (10000000000000000)) (inW_9 _ (List.mem_of_getElem? (i := 34) rfl))) dX4_fit_238 ?_
              have J_162 : (∀ z161 : Int32 × Int64, z161 = Z_X4_fit_J_133 z152 n157 → ∀ (H : Heap) (locs : List Loc), va_P D vwCl (mw cI cJ cZ am ak an ac ae ag aq vth vmo vfg vtp vkd vng vcc vqq f147 u102 vun vre vks vms vcs ves vdg vog) H → va_D A (mw cI cJ cZ am ak an ac ae ag aq vth vmo vfg vtp vkd vng vcc vqq f147 u102 vun vre vks vms vcs ves vdg vog) → va_S A s.heap H locs → ∀ ls : Array Slot, lv_has ls 10 [(0, .ref am), (1, .int (bI p0)), (7, .int z161.1), (8, .long z161.2)] → W p l e rm_X4_fit s m args below meth c H locs 0 0 Q (F0 m 253 ls [])) := by
                intro z161 ez161 H locs hP hD hS ls hl
                have hu := hu _ ez161
                refine lv_iload hx hb dX4_fit_253 (lv_at hl 2 rfl) ?_
                refine lv_sipush (v := 369) hx hb dX4_fit_255 (by decide) ?_
                refine lv_icmp_le (tgt := 267) hx hb dX4_fit_258 (by decide) (fun c_163 => ?_) (fun c_163 => ?_)
                · rw [if_pos c_163] at hu
                  refine lv_aload_n hx hb dX4_fit_267 rfl (lv_at hl 0 rfl) ?_
                  refine lv_aload_n hx hb dX4_fit_268 rfl (lv_at hl 0 rfl) ?_
                  refine va_get (D := D) (ci := 5) (v := .int u102) (C := RX4) (T := TX4) (N := 18) hx hb hts hi4 hown hK hP 0 rfl rfl 13 (by decide) (hts (.fieldLink RX4 39 "DecimalWordsModel" "count" "I") (inW_9 _ (List.mem_of_getElem? (i := 8) rfl))) (fun _ h9 => h9) rfl dX4_fit_269 ?_
                  refine lv_aload_n hx hb dX4_fit_272 rfl (lv_at hl 0 rfl) ?_
                  refine va_get (D := D) (ci := 5) (v := .int vun) (C := RX4) (T := TX4) (N := 18) hx hb hts hi4 hown hK hP 0 rfl rfl 16 (by decide) (hts (.fieldLink RX4 86 "DecimalWordsModel" "unit" "I") (inW_9 _ (List.mem_of_getElem? (i := 33) rfl))) (fun _ h9 => h9) rfl dX4_fit_273 ?_
                  refine lv_iadd hx hb dX4_fit_276 ?_
                  refine lv_sipush (v := (-383)) hx hb dX4_fit_277 (by decide) ?_
                  have J_167 : (∀ z166 : Int32, z166 = Z_X4_fit_J_138 vun u102 f147 → ∀ (H : Heap) (locs : List Loc), va_P D vwCl (mw cI cJ cZ am ak an ac ae ag aq vth vmo vfg vtp vkd vng vcc vqq f147 u102 vun vre vks vms vcs ves vdg vog) H → va_D A (mw cI cJ cZ am ak an ac ae ag aq vth vmo vfg vtp vkd vng vcc vqq f147 u102 vun vre vks vms vcs ves vdg vog) → va_S A s.heap H locs → ∀ ls : Array Slot, lv_has ls 10 [(0, .ref am), (1, .int (bI p0)), (7, .int z161.1), (8, .long z161.2)] → W p l e rm_X4_fit s m args below meth c H locs 0 0 Q (F0 m 297 ls [.int z166, .ref am])) := by
                    intro z166 ez166 H locs hP hD hS ls hl
                    have hu := hu _ ez166
                    refine va_put (D := D) (ci := 5) (v := .int z166) (ty := .int) (C := RX4) (T := TX4) (N := 18) hx hb hts hi4 tyX4 tyX4_ok nmX4 hown hK hP hD hS 0 rfl rfl 12 (by decide) (hts (.fieldLink RX4 56 "DecimalWordsModel" "raised" "I") (inW_9 _ (List.mem_of_getElem? (i := 17) rfl))) (fun _ h9 => h9) rfl (by decide +kernel) rfl rfl (Nat.le_of_ble_eq_true rfl) dX4_fit_297 (fun H locs hP hD hS => ?_)
                    have hP : va_P D vwCl (mw cI cJ cZ am ak an ac ae ag aq vth vmo vfg vtp vkd vng vcc vqq z166 u102 vun vre vks vms vcs ves vdg vog) H := hP
                    have hD : va_D A (mw cI cJ cZ am ak an ac ae ag aq vth vmo vfg vtp vkd vng vcc vqq z166 u102 vun vre vks vms vcs ves vdg vog) := hD
                    refine lv_aload_n hx hb dX4_fit_300 rfl (lv_at hl 0 rfl) ?_
                    refine lv_iconst (v := 0) hx hb dX4_fit_301 (by decide) ?_
                    refine lv_iload_n hx hb dX4_fit_302 rfl (lv_at hl 1 rfl) ?_
                    refine lv_lload hx hb dX4_fit_303 (lv_at hl 3 rfl) ?_
                    refine lv_iload hx hb dX4_fit_305 (lv_at hl 2 rfl) ?_
                    obtain ⟨u169, eu169⟩ : ∃ y9 : Int32 × Bool × Int64 × Int32, y9 = F_X4_be (0 : Int32) p0 z161.2 z161.1 := ⟨_, rfl⟩
                    have hu := hu _ eu169
                    refine x_V (As := [.int 0, .int (bI p0), .long z161.2, .int z161.1]) (rest := []) hCF (c_X4_be l D cR cI cJ cZ t0 am ak an ac ae ag aq vth vmo vfg vtp vkd vng vcc vqq z166 u102 vun vre vks vms vcs ves vdg vog (0 : Int32) p0 z161.2 z161.1 u169 eu169) (x_cwV 4 hts (inW_9 _ (List.mem_of_getElem? (i := 18) rfl)) (inW_9 _ (List.mem_of_getElem? (i := 19) rfl)) (inW_9 _ (List.mem_of_getElem? (i := 20) rfl)) (inW_9 _ (List.mem_of_getElem? (i := 5) rfl)) (inW_9 _ (List.mem_of_getElem? (i := 11) rfl)) rfl rfl (by decide +kernel) ⟨Nat.le_of_ble_eq_true rfl, Nat.le_of_ble_eq_true rfl⟩) hK hP hD hS hA hSt 0 rfl rfl rfl hl.1 rfl (Nat.le_of_ble_eq_true rfl) dX4_fit_307 ⟨Nat.le_of_ble_eq_true rfl, Nat.le_of_ble_eq_true rfl⟩ (fun H locs hP hD hS => ?_)
                    show W p l e _ s m args below meth c H locs 0 0 Q (F0 m 310 ls [])
                    have e9 := Eq.symm hu; subst e9
                    exact x_vret hx hb hr hlocks hQ hK hP hD hS rfl dX4_fit_310
                  obtain ⟨z9, ez9⟩ : ∃ y9 : Int32, y9 = Z_X4_fit_J_138 vun u102 f147 := ⟨_, rfl⟩
                  have hz := rZ_X4_fit_J_138 vun u102 f147 ez9
                  unfold RZ_X4_fit_J_138 at hz
                  refine lv_icmp_gt (tgt := 293) hx hb dX4_fit_280 (by decide) (fun c_164 => ?_) (fun c_164 => ?_)
                  · rw [if_pos c_164] at hz
                    refine lv_aload_n hx hb dX4_fit_293 rfl (lv_at hl 0 rfl) ?_
                    refine va_get (D := D) (ci := 5) (v := .int f147) (C := RX4) (T := TX4) (N := 18) hx hb hts hi4 hown hK hP 0 rfl rfl 12 (by decide) (hts (.fieldLink RX4 56 "DecimalWordsModel" "raised" "I") (inW_9 _ (List.mem_of_getElem? (i := 17) rfl))) (fun _ h9 => h9) rfl dX4_fit_294 ?_
                    have e9 := Eq.symm hz; subst e9
                    exact J_167 _ ez9 H locs hP hD hS ls (lv_sub hl [0, 1, 2, 3] rfl)
                  · rw [if_neg c_164] at hz
                    refine lv_aload_n hx hb dX4_fit_283 rfl (lv_at hl 0 rfl) ?_
                    refine va_get (D := D) (ci := 5) (v := .int f147) (C := RX4) (T := TX4) (N := 18) hx hb hts hi4 hown hK hP 0 rfl rfl 12 (by decide) (hts (.fieldLink RX4 56 "DecimalWordsModel" "raised" "I") (inW_9 _ (List.mem_of_getElem? (i := 17) rfl))) (fun _ h9 => h9) rfl dX4_fit_284 ?_
                    refine lv_bipush (v := 8) hx hb dX4_fit_287 (by decide) ?_
                    refine lv_ior hx hb dX4_fit_289 ?_
                    refine lv_goto (tgt := 297) hx hb dX4_fit_290 (by decide) ?_
                    have e9 := Eq.symm hz; subst e9
                    exact J_167 _ ez9 H locs hP hD hS ls (lv_sub hl [0, 1, 2, 3] rfl)
                · rw [if_neg c_163] at hu
                  refine lv_aload_n hx hb dX4_fit_261 rfl (lv_at hl 0 rfl) ?_
                  refine lv_iload_n hx hb dX4_fit_262 rfl (lv_at hl 1 rfl) ?_
                  obtain ⟨u171, eu171⟩ : ∃ y9 : Int32 × Bool × Int64 × Int32 × Int32, y9 = F_X4_great vmo f147 p0 := ⟨_, rfl⟩
                  have hu := hu _ eu171
                  refine x_V (As := [.int (bI p0)]) (rest := []) hCF (c_X4_great l D cR cI cJ cZ t0 am ak an ac ae ag aq vth vmo vfg vtp vkd vng vcc vqq f147 u102 vun vre vks vms vcs ves vdg vog p0 u171 eu171) (x_cwV 1 hts (inW_10 _ (List.mem_of_getElem? (i := 2) rfl)) (inW_10 _ (List.mem_of_getElem? (i := 3) rfl)) (inW_10 _ (List.mem_of_getElem? (i := 4) rfl)) (inW_9 _ (List.mem_of_getElem? (i := 5) rfl)) (inW_10 _ (List.mem_of_getElem? (i := 5) rfl)) rfl rfl (by decide +kernel) ⟨Nat.le_of_ble_eq_true rfl, Nat.le_of_ble_eq_true rfl⟩) hK hP hD hS hA hSt 0 rfl rfl rfl hl.1 rfl (Nat.le_of_ble_eq_true rfl) dX4_fit_263 ⟨Nat.le_of_ble_eq_true rfl, Nat.le_of_ble_eq_true rfl⟩ (fun H locs hP hD hS => ?_)
                  show W p l e _ s m args below meth c H locs 0 0 Q (F0 m 266 ls [])
                  have e9 := Eq.symm hu; subst e9
                  exact x_vret hx hb hr hlocks hQ hK hP hD hS rfl dX4_fit_266
              obtain ⟨z9, ez9⟩ : ∃ y9 : Int32 × Int64, y9 = Z_X4_fit_J_133 z152 n157 := ⟨_, rfl⟩
              have hz := rZ_X4_fit_J_133 z152 n157 ez9
              unfold RZ_X4_fit_J_133 at hz
              refine xl_ne (tgt := 253) hx hb dX4_fit_241 dX4_fit_242 (by decide) (fun c_158 => ?_) (fun c_158 => ?_)
              · rw [if_neg c_158] at hz
                have e9 := Eq.symm hz; subst e9
                exact J_162 _ ez9 H locs hP hD hS ls (lv_sub hl [2, 3, 1, 0] rfl)
              · rw [if_pos c_158] at hz
                refine lv_ldc2 (v := 1000000000000000) hx hb hown (hts (.constantLong RX4 99 (1000000000000000)) (inW_9 _ (List.mem_of_getElem? (i := 35) rfl))) dX4_fit_245 ?_
                refine lv_lstore (lv' := [(8, .long 1000000000000000), (7, .int z152), (0, .ref am), (1, .int (bI p0))]) hx hb dX4_fit_248 hl (by decide) rfl (fun ls hl => ?_)
                obtain ⟨n159, en159⟩ : ∃ y9 : Int32, y9 = z152 + 1 := ⟨_, rfl⟩
                have hz := hz _ en159
                refine lv_iinc (v := n159) (lv' := [(7, .int n159), (8, .long 1000000000000000), (0, .ref am), (1, .int (bI p0))]) hx hb dX4_fit_250 hl (k := 1) rfl (by rw [en159]; rfl) (by decide) rfl (fun ls hl => ?_)
                have e9 := Eq.symm hz; subst e9
                exact J_162 _ ez9 H locs hP hD hS ls (lv_sub hl [2, 3, 0, 1] rfl)
            · rw [if_neg c_154] at hu
              refine lv_aload_n hx hb dX4_fit_216 rfl (lv_at hl 1 rfl) ?_
              refine lv_iload_n hx hb dX4_fit_217 rfl (lv_at hl 2 rfl) ?_
              obtain ⟨u173, eu173⟩ : ∃ y9 : Int32 × Bool × Int64 × Int32 × Int32, y9 = F_X4_great vmo f147 p0 := ⟨_, rfl⟩
              have hu := hu _ eu173
              refine x_V (As := [.int (bI p0)]) (rest := []) hCF (c_X4_great l D cR cI cJ cZ t0 am ak an ac ae ag aq vth vmo vfg vtp vkd vng vcc vqq f147 u102 vun vre vks vms vcs ves vdg vog p0 u173 eu173) (x_cwV 1 hts (inW_10 _ (List.mem_of_getElem? (i := 2) rfl)) (inW_10 _ (List.mem_of_getElem? (i := 3) rfl)) (inW_10 _ (List.mem_of_getElem? (i := 4) rfl)) (inW_9 _ (List.mem_of_getElem? (i := 5) rfl)) (inW_10 _ (List.mem_of_getElem? (i := 5) rfl)) rfl rfl (by decide +kernel) ⟨Nat.le_of_ble_eq_true rfl, Nat.le_of_ble_eq_true rfl⟩) hK hP hD hS hA hSt 0 rfl rfl rfl hl.1 rfl (Nat.le_of_ble_eq_true rfl) dX4_fit_218 ⟨Nat.le_of_ble_eq_true rfl, Nat.le_of_ble_eq_true rfl⟩ (fun H locs hP hD hS => ?_)
              show W p l e _ s m args below meth c H locs 0 0 Q (F0 m 221 ls [])
              have e9 := Eq.symm hu; subst e9
              exact x_vret hx hb hr hlocks hQ hK hP hD hS rfl dX4_fit_221
          obtain ⟨z9, ez9⟩ : ∃ y9 : Int32, y9 = Z_X4_fit_J_124 n149 := ⟨_, rfl⟩
          have hz := rZ_X4_fit_J_124 n149 ez9
          unfold RZ_X4_fit_J_124 at hz
          refine lv_icmp_ge (tgt := 204) hx hb dX4_fit_195 (by decide) (fun c_150 => ?_) (fun c_150 => ?_)
          · rw [if_pos c_150] at hz
            refine lv_iload hx hb dX4_fit_204 (lv_at hl 0 rfl) ?_
            have e9 := Eq.symm hz; subst e9
            exact J_153 _ ez9 H locs hP hD hS ls (lv_sub hl [4, 5] rfl)
          · rw [if_neg c_150] at hz
            refine lv_sipush (v := (-398)) hx hb dX4_fit_198 (by decide) ?_
            refine lv_goto (tgt := 206) hx hb dX4_fit_201 (by decide) ?_
            have e9 := Eq.symm hz; subst e9
            exact J_153 _ ez9 H locs hP hD hS ls (lv_sub hl [4, 5] rfl)
        · rw [if_neg c_146] at hs
          rw [if_neg c_146] at hu
          refine lv_iload hx hb dX4_fit_87 (lv_at hl 1 rfl) ?_
          refine lv_sipush (v := (-398)) hx hb dX4_fit_89 (by decide) ?_
          refine lv_icmp_lt (tgt := 165) hx hb dX4_fit_92 (by decide) (fun c_175 => ?_) (fun c_175 => ?_)
          · rw [if_pos c_175] at hs
            rw [if_pos c_175] at hu
            refine lv_aload_n hx hb dX4_fit_165 rfl (lv_at hl 3 rfl) ?_
            refine lv_aload_n hx hb dX4_fit_166 rfl (lv_at hl 3 rfl) ?_
            refine va_get (D := D) (ci := 5) (v := .int vrs) (C := RX4) (T := TX4) (N := 18) hx hb hts hi4 hown hK hP 0 rfl rfl 12 (by decide) (hts (.fieldLink RX4 56 "DecimalWordsModel" "raised" "I") (inW_9 _ (List.mem_of_getElem? (i := 17) rfl))) (fun _ h9 => h9) rfl dX4_fit_167 ?_
            refine lv_bipush (v := 16) hx hb dX4_fit_170 (by decide) ?_
            refine lv_ior hx hb dX4_fit_172 ?_
            refine lv_topi (fun f176 ef176 => ?_)
            have hs := hs _ ef176
            have hu := hu _ ef176
            refine va_put (D := D) (ci := 5) (v := .int f176) (ty := .int) (C := RX4) (T := TX4) (N := 18) hx hb hts hi4 tyX4 tyX4_ok nmX4 hown hK hP hD hS 0 rfl rfl 12 (by decide) (hts (.fieldLink RX4 56 "DecimalWordsModel" "raised" "I") (inW_9 _ (List.mem_of_getElem? (i := 17) rfl))) (fun _ h9 => h9) rfl (by decide +kernel) rfl rfl (Nat.le_of_ble_eq_true rfl) dX4_fit_173 (fun H locs hP hD hS => ?_)
            have hP : va_P D vwCl (mw cI cJ cZ am ak an ac ae ag aq vth vmo vfg vtp vkd vng vcc vqq f176 u102 vun vre vks vms vcs ves vdg vog) H := hP
            have hD : va_D A (mw cI cJ cZ am ak an ac ae ag aq vth vmo vfg vtp vkd vng vcc vqq f176 u102 vun vre vks vms vcs ves vdg vog) := hD
            refine lv_aload_n hx hb dX4_fit_176 rfl (lv_at hl 3 rfl) ?_
            refine va_get (D := D) (ci := 5) (v := .int u102) (C := RX4) (T := TX4) (N := 18) hx hb hts hi4 hown hK hP 0 rfl rfl 13 (by decide) (hts (.fieldLink RX4 39 "DecimalWordsModel" "count" "I") (inW_9 _ (List.mem_of_getElem? (i := 8) rfl))) (fun _ h9 => h9) rfl dX4_fit_177 ?_
            refine lv_aload_n hx hb dX4_fit_180 rfl (lv_at hl 3 rfl) ?_
            refine va_get (D := D) (ci := 5) (v := .int vun) (C := RX4) (T := TX4) (N := 18) hx hb hts hi4 hown hK hP 0 rfl rfl 16 (by decide) (hts (.fieldLink RX4 86 "DecimalWordsModel" "unit" "I") (inW_9 _ (List.mem_of_getElem? (i := 33) rfl))) (fun _ h9 => h9) rfl dX4_fit_181 ?_
            refine lv_iadd hx hb dX4_fit_184 ?_
            refine lv_bipush (v := 16) hx hb dX4_fit_185 (by decide) ?_
            refine lv_isub hx hb dX4_fit_187 ?_
            refine lv_topi (fun n178 en178 => ?_)
            have hs := hs _ en178
            have hu := hu _ en178
            refine lv_istore (lv' := [(7, .int n178), (6, .int n116), (5, .int n115), (4, .int n114), (0, .ref am), (1, .int (bI p0)), (2, .int p1), (3, .int z108)]) hx hb dX4_fit_188 hl (by decide) rfl (fun ls hl => ?_)
            refine lv_iload hx hb dX4_fit_190 (lv_at hl 0 rfl) ?_
            refine lv_sipush (v := (-398)) hx hb dX4_fit_192 (by decide) ?_
            have J_182 : (∀ z181 : Int32, z181 = Z_X4_fit_J_124 n178 → ∀ (H : Heap) (locs : List Loc), va_P D vwCl (mw cI cJ cZ am ak an ac ae ag aq vth vmo vfg vtp vkd vng vcc vqq f176 u102 vun vre vks vms vcs ves vdg vog) H → va_D A (mw cI cJ cZ am ak an ac ae ag aq vth vmo vfg vtp vkd vng vcc vqq f176 u102 vun vre vks vms vcs ves vdg vog) → va_S A s.heap H locs → ∀ ls : Array Slot, lv_has ls 10 [(0, .ref am), (1, .int (bI p0))] → W p l e rm_X4_fit s m args below meth c H locs 0 0 Q (F0 m 206 ls [.int z181])) := by
              intro z181 ez181 H locs hP hD hS ls hl
              have hs := hs _ ez181
              have hu := hu _ ez181
              refine lv_istore (lv' := [(7, .int z181), (0, .ref am), (1, .int (bI p0))]) hx hb dX4_fit_206 hl (by decide) rfl (fun ls hl => ?_)
              refine lv_iload hx hb dX4_fit_208 (lv_at hl 0 rfl) ?_
              refine lv_sipush (v := 369) hx hb dX4_fit_210 (by decide) ?_
              refine lv_icmp_le (tgt := 222) hx hb dX4_fit_213 (by decide) (fun c_183 => ?_) (fun c_183 => ?_)
              · rw [if_pos c_183] at hs
                rw [if_pos c_183] at hu
                refine lv_aload_n hx hb dX4_fit_222 rfl (lv_at hl 1 rfl) ?_
                refine lv_iload hx hb dX4_fit_223 (lv_at hl 0 rfl) ?_
                refine lv_aload_n hx hb dX4_fit_225 rfl (lv_at hl 1 rfl) ?_
                refine va_get (D := D) (ci := 5) (v := .int vun) (C := RX4) (T := TX4) (N := 18) hx hb hts hi4 hown hK hP 0 rfl rfl 16 (by decide) (hts (.fieldLink RX4 86 "DecimalWordsModel" "unit" "I") (inW_9 _ (List.mem_of_getElem? (i := 33) rfl))) (fun _ h9 => h9) rfl dX4_fit_226 ?_
                refine lv_isub hx hb dX4_fit_229 ?_
                refine lv_iload_n hx hb dX4_fit_230 rfl (lv_at hl 2 rfl) ?_
                have h_184 := hs
                refine x_V (As := [.int (z181 - vun), .int (bI p0)]) (rest := []) hCF (c_X4_rounded l D cR cI cJ cZ t0 am ak an ac ae ag aq vth vmo vfg vtp vkd vng vcc vqq f176 u102 vun vre vks vms vcs ves vdg vog (z181 - vun) p0 _ rfl h_184) (x_cwV 2 hts (inW_10 _ (List.mem_of_getElem? (i := 7) rfl)) (inW_10 _ (List.mem_of_getElem? (i := 8) rfl)) (inW_10 _ (List.mem_of_getElem? (i := 9) rfl)) (inW_9 _ (List.mem_of_getElem? (i := 5) rfl)) (inW_9 _ (List.mem_of_getElem? (i := 22) rfl)) rfl rfl (by decide +kernel) ⟨Nat.le_of_ble_eq_true rfl, Nat.le_of_ble_eq_true rfl⟩) hK hP hD hS hA hSt 0 rfl rfl rfl hl.1 rfl (Nat.le_of_ble_eq_true rfl) dX4_fit_231 ⟨Nat.le_of_ble_eq_true rfl, Nat.le_of_ble_eq_true rfl⟩ (fun H locs hP hD hS => ?_)
                show W p l e _ s m args below meth c H locs 0 0 Q (F0 m 234 ls (.long (F_X4_rounded vmo u102 vre vdg (z181 - vun) p0) :: []))
                refine lv_topl (fun n186 en186 => ?_)
                have hu := hu _ en186
                refine lv_lstore (lv' := [(8, .long n186), (7, .int z181), (0, .ref am), (1, .int (bI p0))]) hx hb dX4_fit_234 hl (by decide) rfl (fun ls hl => ?_)
                refine lv_lload hx hb dX4_fit_236 (lv_at hl 0 rfl) ?_
                refine lv_ldc2 (v := 10000000000000000) hx hb hown (hts (.constantLong RX4 97 (10000000000000000)) (inW_9 _ (List.mem_of_getElem? (i := 34) rfl))) dX4_fit_238 ?_
                have J_191 : (∀ z190 : Int32 × Int64, z190 = Z_X4_fit_J_133 z181 n186 → ∀ (H : Heap) (locs : List Loc), va_P D vwCl (mw cI cJ cZ am ak an ac ae ag aq vth vmo vfg vtp vkd vng vcc vqq f176 u102 vun vre vks vms vcs ves vdg vog) H → va_D A (mw cI cJ cZ am ak an ac ae ag aq vth vmo vfg vtp vkd vng vcc vqq f176 u102 vun vre vks vms vcs ves vdg vog) → va_S A s.heap H locs → ∀ ls : Array Slot, lv_has ls 10 [(0, .ref am), (1, .int (bI p0)), (7, .int z190.1), (8, .long z190.2)] → W p l e rm_X4_fit s m args below meth c H locs 0 0 Q (F0 m 253 ls [])) := by
                  intro z190 ez190 H locs hP hD hS ls hl
                  have hu := hu _ ez190
                  refine lv_iload hx hb dX4_fit_253 (lv_at hl 2 rfl) ?_
                  refine lv_sipush (v := 369) hx hb dX4_fit_255 (by decide) ?_
                  refine lv_icmp_le (tgt := 267) hx hb dX4_fit_258 (by decide) (fun c_192 => ?_) (fun c_192 => ?_)
                  · rw [if_pos c_192] at hu
                    refine lv_aload_n hx hb dX4_fit_267 rfl (lv_at hl 0 rfl) ?_
                    refine lv_aload_n hx hb dX4_fit_268 rfl (lv_at hl 0 rfl) ?_
                    refine va_get (D := D) (ci := 5) (v := .int u102) (C := RX4) (T := TX4) (N := 18) hx hb hts hi4 hown hK hP 0 rfl rfl 13 (by decide) (hts (.fieldLink RX4 39 "DecimalWordsModel" "count" "I") (inW_9 _ (List.mem_of_getElem? (i := 8) rfl))) (fun _ h9 => h9) rfl dX4_fit_269 ?_
                    refine lv_aload_n hx hb dX4_fit_272 rfl (lv_at hl 0 rfl) ?_
                    refine va_get (D := D) (ci := 5) (v := .int vun) (C := RX4) (T := TX4) (N := 18) hx hb hts hi4 hown hK hP 0 rfl rfl 16 (by decide) (hts (.fieldLink RX4 86 "DecimalWordsModel" "unit" "I") (inW_9 _ (List.mem_of_getElem? (i := 33) rfl))) (fun _ h9 => h9) rfl dX4_fit_273 ?_
                    refine lv_iadd hx hb dX4_fit_276 ?_
                    refine lv_sipush (v := (-383)) hx hb dX4_fit_277 (by decide) ?_
                    have J_196 : (∀ z195 : Int32, z195 = Z_X4_fit_J_138 vun u102 f176 → ∀ (H : Heap) (locs : List Loc), va_P D vwCl (mw cI cJ cZ am ak an ac ae ag aq vth vmo vfg vtp vkd vng vcc vqq f176 u102 vun vre vks vms vcs ves vdg vog) H → va_D A (mw cI cJ cZ am ak an ac ae ag aq vth vmo vfg vtp vkd vng vcc vqq f176 u102 vun vre vks vms vcs ves vdg vog) → va_S A s.heap H locs → ∀ ls : Array Slot, lv_has ls 10 [(0, .ref am), (1, .int (bI p0)), (7, .int z190.1), (8, .long z190.2)] → W p l e rm_X4_fit s m args below meth c H locs 0 0 Q (F0 m 297 ls [.int z195, .ref am])) := by
                      intro z195 ez195 H locs hP hD hS ls hl
                      have hu := hu _ ez195
                      refine va_put (D := D) (ci := 5) (v := .int z195) (ty := .int) (C := RX4) (T := TX4) (N := 18) hx hb hts hi4 tyX4 tyX4_ok nmX4 hown hK hP hD hS 0 rfl rfl 12 (by decide) (hts (.fieldLink RX4 56 "DecimalWordsModel" "raised" "I") (inW_9 _ (List.mem_of_getElem? (i := 17) rfl))) (fun _ h9 => h9) rfl (by decide +kernel) rfl rfl (Nat.le_of_ble_eq_true rfl) dX4_fit_297 (fun H locs hP hD hS => ?_)
                      have hP : va_P D vwCl (mw cI cJ cZ am ak an ac ae ag aq vth vmo vfg vtp vkd vng vcc vqq z195 u102 vun vre vks vms vcs ves vdg vog) H := hP
                      have hD : va_D A (mw cI cJ cZ am ak an ac ae ag aq vth vmo vfg vtp vkd vng vcc vqq z195 u102 vun vre vks vms vcs ves vdg vog) := hD
                      refine lv_aload_n hx hb dX4_fit_300 rfl (lv_at hl 0 rfl) ?_
                      refine lv_iconst (v := 0) hx hb dX4_fit_301 (by decide) ?_
                      refine lv_iload_n hx hb dX4_fit_302 rfl (lv_at hl 1 rfl) ?_
                      refine lv_lload hx hb dX4_fit_303 (lv_at hl 3 rfl) ?_
                      refine lv_iload hx hb dX4_fit_305 (lv_at hl 2 rfl) ?_
                      obtain ⟨u198, eu198⟩ : ∃ y9 : Int32 × Bool × Int64 × Int32, y9 = F_X4_be (0 : Int32) p0 z190.2 z190.1 := ⟨_, rfl⟩
                      have hu := hu _ eu198
                      refine x_V (As := [.int 0, .int (bI p0), .long z190.2, .int z190.1]) (rest := []) hCF (c_X4_be l D cR cI cJ cZ t0 am ak an ac ae ag aq vth vmo vfg vtp vkd vng vcc vqq z195 u102 vun vre vks vms vcs ves vdg vog (0 : Int32) p0 z190.2 z190.1 u198 eu198) (x_cwV 4 hts (inW_9 _ (List.mem_of_getElem? (i := 18) rfl)) (inW_9 _ (List.mem_of_getElem? (i := 19) rfl)) (inW_9 _ (List.mem_of_getElem? (i := 20) rfl)) (inW_9 _ (List.mem_of_getElem? (i := 5) rfl)) (inW_9 _ (List.mem_of_getElem? (i := 11) rfl)) rfl rfl (by decide +kernel) ⟨Nat.le_of_ble_eq_true rfl, Nat.le_of_ble_eq_true rfl⟩) hK hP hD hS hA hSt 0 rfl rfl rfl hl.1 rfl (Nat.le_of_ble_eq_true rfl) dX4_fit_307 ⟨Nat.le_of_ble_eq_true rfl, Nat.le_of_ble_eq_true rfl⟩ (fun H locs hP hD hS => ?_)
                      show W p l e _ s m args below meth c H locs 0 0 Q (F0 m 310 ls [])
                      have e9 := Eq.symm hu; subst e9
                      exact x_vret hx hb hr hlocks hQ hK hP hD hS rfl dX4_fit_310
                    obtain ⟨z9, ez9⟩ : ∃ y9 : Int32, y9 = Z_X4_fit_J_138 vun u102 f176 := ⟨_, rfl⟩
                    have hz := rZ_X4_fit_J_138 vun u102 f176 ez9
                    unfold RZ_X4_fit_J_138 at hz
                    refine lv_icmp_gt (tgt := 293) hx hb dX4_fit_280 (by decide) (fun c_193 => ?_) (fun c_193 => ?_)
                    · rw [if_pos c_193] at hz
                      refine lv_aload_n hx hb dX4_fit_293 rfl (lv_at hl 0 rfl) ?_
                      refine va_get (D := D) (ci := 5) (v := .int f176) (C := RX4) (T := TX4) (N := 18) hx hb hts hi4 hown hK hP 0 rfl rfl 12 (by decide) (hts (.fieldLink RX4 56 "DecimalWordsModel" "raised" "I") (inW_9 _ (List.mem_of_getElem? (i := 17) rfl))) (fun _ h9 => h9) rfl dX4_fit_294 ?_
                      have e9 := Eq.symm hz; subst e9
                      exact J_196 _ ez9 H locs hP hD hS ls (lv_sub hl [0, 1, 2, 3] rfl)
                    · rw [if_neg c_193] at hz
                      refine lv_aload_n hx hb dX4_fit_283 rfl (lv_at hl 0 rfl) ?_
                      refine va_get (D := D) (ci := 5) (v := .int f176) (C := RX4) (T := TX4) (N := 18) hx hb hts hi4 hown hK hP 0 rfl rfl 12 (by decide) (hts (.fieldLink RX4 56 "DecimalWordsModel" "raised" "I") (inW_9 _ (List.mem_of_getElem? (i := 17) rfl))) (fun _ h9 => h9) rfl dX4_fit_284 ?_
                      refine lv_bipush (v := 8) hx hb dX4_fit_287 (by decide) ?_
                      refine lv_ior hx hb dX4_fit_289 ?_
                      refine lv_goto (tgt := 297) hx hb dX4_fit_290 (by decide) ?_
                      have e9 := Eq.symm hz; subst e9
                      exact J_196 _ ez9 H locs hP hD hS ls (lv_sub hl [0, 1, 2, 3] rfl)
                  · rw [if_neg c_192] at hu
                    refine lv_aload_n hx hb dX4_fit_261 rfl (lv_at hl 0 rfl) ?_
                    refine lv_iload_n hx hb dX4_fit_262 rfl (lv_at hl 1 rfl) ?_
                    obtain ⟨u200, eu200⟩ : ∃ y9 : Int32 × Bool × Int64 × Int32 × Int32, y9 = F_X4_great vmo f176 p0 := ⟨_, rfl⟩
                    have hu := hu _ eu200
                    refine x_V (As := [.int (bI p0)]) (rest := []) hCF (c_X4_great l D cR cI cJ cZ t0 am ak an ac ae ag aq vth vmo vfg vtp vkd vng vcc vqq f176 u102 vun vre vks vms vcs ves vdg vog p0 u200 eu200) (x_cwV 1 hts (inW_10 _ (List.mem_of_getElem? (i := 2) rfl)) (inW_10 _ (List.mem_of_getElem? (i := 3) rfl)) (inW_10 _ (List.mem_of_getElem? (i := 4) rfl)) (inW_9 _ (List.mem_of_getElem? (i := 5) rfl)) (inW_10 _ (List.mem_of_getElem? (i := 5) rfl)) rfl rfl (by decide +kernel) ⟨Nat.le_of_ble_eq_true rfl, Nat.le_of_ble_eq_true rfl⟩) hK hP hD hS hA hSt 0 rfl rfl rfl hl.1 rfl (Nat.le_of_ble_eq_true rfl) dX4_fit_263 ⟨Nat.le_of_ble_eq_true rfl, Nat.le_of_ble_eq_true rfl⟩ (fun H locs hP hD hS => ?_)
                    show W p l e _ s m args below meth c H locs 0 0 Q (F0 m 266 ls [])
                    have e9 := Eq.symm hu; subst e9
                    exact x_vret hx hb hr hlocks hQ hK hP hD hS rfl dX4_fit_266
                obtain ⟨z9, ez9⟩ : ∃ y9 : Int32 × Int64, y9 = Z_X4_fit_J_133 z181 n186 := ⟨_, rfl⟩
                have hz := rZ_X4_fit_J_133 z181 n186 ez9
                unfold RZ_X4_fit_J_133 at hz
                refine xl_ne (tgt := 253) hx hb dX4_fit_241 dX4_fit_242 (by decide) (fun c_187 => ?_) (fun c_187 => ?_)
                · rw [if_neg c_187] at hz
                  have e9 := Eq.symm hz; subst e9
                  exact J_191 _ ez9 H locs hP hD hS ls (lv_sub hl [2, 3, 1, 0] rfl)
                · rw [if_pos c_187] at hz
                  refine lv_ldc2 (v := 1000000000000000) hx hb hown (hts (.constantLong RX4 99 (1000000000000000)) (inW_9 _ (List.mem_of_getElem? (i := 35) rfl))) dX4_fit_245 ?_
                  refine lv_lstore (lv' := [(8, .long 1000000000000000), (7, .int z181), (0, .ref am), (1, .int (bI p0))]) hx hb dX4_fit_248 hl (by decide) rfl (fun ls hl => ?_)
                  obtain ⟨n188, en188⟩ : ∃ y9 : Int32, y9 = z181 + 1 := ⟨_, rfl⟩
                  have hz := hz _ en188
                  refine lv_iinc (v := n188) (lv' := [(7, .int n188), (8, .long 1000000000000000), (0, .ref am), (1, .int (bI p0))]) hx hb dX4_fit_250 hl (k := 1) rfl (by rw [en188]; rfl) (by decide) rfl (fun ls hl => ?_)
                  have e9 := Eq.symm hz; subst e9
                  exact J_191 _ ez9 H locs hP hD hS ls (lv_sub hl [2, 3, 0, 1] rfl)
              · rw [if_neg c_183] at hu
                refine lv_aload_n hx hb dX4_fit_216 rfl (lv_at hl 1 rfl) ?_
                refine lv_iload_n hx hb dX4_fit_217 rfl (lv_at hl 2 rfl) ?_
                obtain ⟨u202, eu202⟩ : ∃ y9 : Int32 × Bool × Int64 × Int32 × Int32, y9 = F_X4_great vmo f176 p0 := ⟨_, rfl⟩
                have hu := hu _ eu202
                refine x_V (As := [.int (bI p0)]) (rest := []) hCF (c_X4_great l D cR cI cJ cZ t0 am ak an ac ae ag aq vth vmo vfg vtp vkd vng vcc vqq f176 u102 vun vre vks vms vcs ves vdg vog p0 u202 eu202) (x_cwV 1 hts (inW_10 _ (List.mem_of_getElem? (i := 2) rfl)) (inW_10 _ (List.mem_of_getElem? (i := 3) rfl)) (inW_10 _ (List.mem_of_getElem? (i := 4) rfl)) (inW_9 _ (List.mem_of_getElem? (i := 5) rfl)) (inW_10 _ (List.mem_of_getElem? (i := 5) rfl)) rfl rfl (by decide +kernel) ⟨Nat.le_of_ble_eq_true rfl, Nat.le_of_ble_eq_true rfl⟩) hK hP hD hS hA hSt 0 rfl rfl rfl hl.1 rfl (Nat.le_of_ble_eq_true rfl) dX4_fit_218 ⟨Nat.le_of_ble_eq_true rfl, Nat.le_of_ble_eq_true rfl⟩ (fun H locs hP hD hS => ?_)
                show W p l e _ s m args below meth c H locs 0 0 Q (F0 m 221 ls [])
                have e9 := Eq.symm hu; subst e9
                exact x_vret hx hb hr hlocks hQ hK hP hD hS rfl dX4_fit_221
            obtain ⟨z9, ez9⟩ : ∃ y9 : Int32, y9 = Z_X4_fit_J_124 n178 := ⟨_, rfl⟩
            have hz := rZ_X4_fit_J_124 n178 ez9
            unfold RZ_X4_fit_J_124 at hz
            refine lv_icmp_ge (tgt := 204) hx hb dX4_fit_195 (by decide) (fun c_179 => ?_) (fun c_179 => ?_)
            · rw [if_pos c_179] at hz
              refine lv_iload hx hb dX4_fit_204 (lv_at hl 0 rfl) ?_
              have e9 := Eq.symm hz; subst e9
              exact J_182 _ ez9 H locs hP hD hS ls (lv_sub hl [4, 5] rfl)
            · rw [if_neg c_179] at hz
              refine lv_sipush (v := (-398)) hx hb dX4_fit_198 (by decide) ?_
              refine lv_goto (tgt := 206) hx hb dX4_fit_201 (by decide) ?_
              have e9 := Eq.symm hz; subst e9
              exact J_182 _ ez9 H locs hP hD hS ls (lv_sub hl [4, 5] rfl)
          · rw [if_neg c_175] at hs
            rw [if_neg c_175] at hu
            refine lv_iload hx hb dX4_fit_95 (lv_at hl 0 rfl) ?_
            refine lv_sipush (v := 369) hx hb dX4_fit_97 (by decide) ?_
            refine lv_icmp_gt (tgt := 165) hx hb dX4_fit_100 (by decide) (fun c_204 => ?_) (fun c_204 => ?_)
            · rw [if_pos c_204] at hs
              rw [if_pos c_204] at hu
              refine lv_aload_n hx hb dX4_fit_165 rfl (lv_at hl 3 rfl) ?_
              refine lv_aload_n hx hb dX4_fit_166 rfl (lv_at hl 3 rfl) ?_
              refine va_get (D := D) (ci := 5) (v := .int vrs) (C := RX4) (T := TX4) (N := 18) hx hb hts hi4 hown hK hP 0 rfl rfl 12 (by decide) (hts (.fieldLink RX4 56 "DecimalWordsModel" "raised" "I") (inW_9 _ (List.mem_of_getElem? (i := 17) rfl))) (fun _ h9 => h9) rfl dX4_fit_167 ?_
              refine lv_bipush (v := 16) hx hb dX4_fit_170 (by decide) ?_
              refine lv_ior hx hb dX4_fit_172 ?_
              refine lv_topi (fun f205 ef205 => ?_)
              have hs := hs _ ef205
              have hu := hu _ ef205
              refine va_put (D := D) (ci := 5) (v := .int f205) (ty := .int) (C := RX4) (T := TX4) (N := 18) hx hb hts hi4 tyX4 tyX4_ok nmX4 hown hK hP hD hS 0 rfl rfl 12 (by decide) (hts (.fieldLink RX4 56 "DecimalWordsModel" "raised" "I") (inW_9 _ (List.mem_of_getElem? (i := 17) rfl))) (fun _ h9 => h9) rfl (by decide +kernel) rfl rfl (Nat.le_of_ble_eq_true rfl) dX4_fit_173 (fun H locs hP hD hS => ?_)
              have hP : va_P D vwCl (mw cI cJ cZ am ak an ac ae ag aq vth vmo vfg vtp vkd vng vcc vqq f205 u102 vun vre vks vms vcs ves vdg vog) H := hP
              have hD : va_D A (mw cI cJ cZ am ak an ac ae ag aq vth vmo vfg vtp vkd vng vcc vqq f205 u102 vun vre vks vms vcs ves vdg vog) := hD
              refine lv_aload_n hx hb dX4_fit_176 rfl (lv_at hl 3 rfl) ?_
              refine va_get (D := D) (ci := 5) (v := .int u102) (C := RX4) (T := TX4) (N := 18) hx hb hts hi4 hown hK hP 0 rfl rfl 13 (by decide) (hts (.fieldLink RX4 39 "DecimalWordsModel" "count" "I") (inW_9 _ (List.mem_of_getElem? (i := 8) rfl))) (fun _ h9 => h9) rfl dX4_fit_177 ?_
              refine lv_aload_n hx hb dX4_fit_180 rfl (lv_at hl 3 rfl) ?_
              refine va_get (D := D) (ci := 5) (v := .int vun) (C := RX4) (T := TX4) (N := 18) hx hb hts hi4 hown hK hP 0 rfl rfl 16 (by decide) (hts (.fieldLink RX4 86 "DecimalWordsModel" "unit" "I") (inW_9 _ (List.mem_of_getElem? (i := 33) rfl))) (fun _ h9 => h9) rfl dX4_fit_181 ?_
              refine lv_iadd hx hb dX4_fit_184 ?_
              refine lv_bipush (v := 16) hx hb dX4_fit_185 (by decide) ?_
              refine lv_isub hx hb dX4_fit_187 ?_
              refine lv_topi (fun n207 en207 => ?_)
              have hs := hs _ en207
              have hu := hu _ en207
              refine lv_istore (lv' := [(7, .int n207), (6, .int n116), (5, .int n115), (4, .int n114), (0, .ref am), (1, .int (bI p0)), (2, .int p1), (3, .int z108)]) hx hb dX4_fit_188 hl (by decide) rfl (fun ls hl => ?_)
              refine lv_iload hx hb dX4_fit_190 (lv_at hl 0 rfl) ?_
              refine lv_sipush (v := (-398)) hx hb dX4_fit_192 (by decide) ?_
              have J_211 : (∀ z210 : Int32, z210 = Z_X4_fit_J_124 n207 → ∀ (H : Heap) (locs : List Loc), va_P D vwCl (mw cI cJ cZ am ak an ac ae ag aq vth vmo vfg vtp vkd vng vcc vqq f205 u102 vun vre vks vms vcs ves vdg vog) H → va_D A (mw cI cJ cZ am ak an ac ae ag aq vth vmo vfg vtp vkd vng vcc vqq f205 u102 vun vre vks vms vcs ves vdg vog) → va_S A s.heap H locs → ∀ ls : Array Slot, lv_has ls 10 [(0, .ref am), (1, .int (bI p0))] → W p l e rm_X4_fit s m args below meth c H locs 0 0 Q (F0 m 206 ls [.int z210])) := by
                intro z210 ez210 H locs hP hD hS ls hl
                have hs := hs _ ez210
                have hu := hu _ ez210
                refine lv_istore (lv' := [(7, .int z210), (0, .ref am), (1, .int (bI p0))]) hx hb dX4_fit_206 hl (by decide) rfl (fun ls hl => ?_)
                refine lv_iload hx hb dX4_fit_208 (lv_at hl 0 rfl) ?_
                refine lv_sipush (v := 369) hx hb dX4_fit_210 (by decide) ?_
                refine lv_icmp_le (tgt := 222) hx hb dX4_fit_213 (by decide) (fun c_212 => ?_) (fun c_212 => ?_)
                · rw [if_pos c_212] at hs
                  rw [if_pos c_212] at hu
                  refine lv_aload_n hx hb dX4_fit_222 rfl (lv_at hl 1 rfl) ?_
                  refine lv_iload hx hb dX4_fit_223 (lv_at hl 0 rfl) ?_
                  refine lv_aload_n hx hb dX4_fit_225 rfl (lv_at hl 1 rfl) ?_
                  refine va_get (D := D) (ci := 5) (v := .int vun) (C := RX4) (T := TX4) (N := 18) hx hb hts hi4 hown hK hP 0 rfl rfl 16 (by decide) (hts (.fieldLink RX4 86 "DecimalWordsModel" "unit" "I") (inW_9 _ (List.mem_of_getElem? (i := 33) rfl))) (fun _ h9 => h9) rfl dX4_fit_226 ?_
                  refine lv_isub hx hb dX4_fit_229 ?_
                  refine lv_iload_n hx hb dX4_fit_230 rfl (lv_at hl 2 rfl) ?_
                  have h_213 := hs
                  refine x_V (As := [.int (z210 - vun), .int (bI p0)]) (rest := []) hCF (c_X4_rounded l D cR cI cJ cZ t0 am ak an ac ae ag aq vth vmo vfg vtp vkd vng vcc vqq f205 u102 vun vre vks vms vcs ves vdg vog (z210 - vun) p0 _ rfl h_213) (x_cwV 2 hts (inW_10 _ (List.mem_of_getElem? (i := 7) rfl)) (inW_10 _ (List.mem_of_getElem? (i := 8) rfl)) (inW_10 _ (List.mem_of_getElem? (i := 9) rfl)) (inW_9 _ (List.mem_of_getElem? (i := 5) rfl)) (inW_9 _ (List.mem_of_getElem? (i := 22) rfl)) rfl rfl (by decide +kernel) ⟨Nat.le_of_ble_eq_true rfl, Nat.le_of_ble_eq_true rfl⟩) hK hP hD hS hA hSt 0 rfl rfl rfl hl.1 rfl (Nat.le_of_ble_eq_true rfl) dX4_fit_231 ⟨Nat.le_of_ble_eq_true rfl, Nat.le_of_ble_eq_true rfl⟩ (fun H locs hP hD hS => ?_)
                  show W p l e _ s m args below meth c H locs 0 0 Q (F0 m 234 ls (.long (F_X4_rounded vmo u102 vre vdg (z210 - vun) p0) :: []))
                  refine lv_topl (fun n215 en215 => ?_)
                  have hu := hu _ en215
                  refine lv_lstore (lv' := [(8, .long n215), (7, .int z210), (0, .ref am), (1, .int (bI p0))]) hx hb dX4_fit_234 hl (by decide) rfl (fun ls hl => ?_)
                  refine lv_lload hx hb dX4_fit_236 (lv_at hl 0 rfl) ?_
                  refine lv_ldc2 (v := 10000000000000000) hx hb hown (hts (.constantLong RX4 97 (10000000000000000)) (inW_9 _ (List.mem_of_getElem? (i := 34) rfl))) dX4_fit_238 ?_
                  have J_220 : (∀ z219 : Int32 × Int64, z219 = Z_X4_fit_J_133 z210 n215 → ∀ (H : Heap) (locs : List Loc), va_P D vwCl (mw cI cJ cZ am ak an ac ae ag aq vth vmo vfg vtp vkd vng vcc vqq f205 u102 vun vre vks vms vcs ves vdg vog) H → va_D A (mw cI cJ cZ am ak an ac ae ag aq vth vmo vfg vtp vkd vng vcc vqq f205 u102 vun vre vks vms vcs ves vdg vog) → va_S A s.heap H locs → ∀ ls : Array Slot, lv_has ls 10 [(0, .ref am), (1, .int (bI p0)), (7, .int z219.1), (8, .long z219.2)] → W p l e rm_X4_fit s m args below meth c H locs 0 0 Q (F0 m 253 ls [])) := by
                    intro z219 ez219 H locs hP hD hS ls hl
                    have hu := hu _ ez219
                    refine lv_iload hx hb dX4_fit_253 (lv_at hl 2 rfl) ?_
                    refine lv_sipush (v := 369) hx hb dX4_fit_255 (by decide) ?_
                    refine lv_icmp_le (tgt := 267) hx hb dX4_fit_258 (by decide) (fun c_221 => ?_) (fun c_221 => ?_)
                    · rw [if_pos c_221] at hu
                      refine lv_aload_n hx hb dX4_fit_267 rfl (lv_at hl 0 rfl) ?_
                      refine lv_aload_n hx hb dX4_fit_268 rfl (lv_at hl 0 rfl) ?_
                      refine va_get (D := D) (ci := 5) (v := .int u102) (C := RX4) (T := TX4) (N := 18) hx hb hts hi4 hown hK hP 0 rfl rfl 13 (by decide) (hts (.fieldLink RX4 39 "DecimalWordsModel" "count" "I") (inW_9 _ (List.mem_of_getElem? (i := 8) rfl))) (fun _ h9 => h9) rfl dX4_fit_269 ?_
                      refine lv_aload_n hx hb dX4_fit_272 rfl (lv_at hl 0 rfl) ?_
                      refine va_get (D := D) (ci := 5) (v := .int vun) (C := RX4) (T := TX4) (N := 18) hx hb hts hi4 hown hK hP 0 rfl rfl 16 (by decide) (hts (.fieldLink RX4 86 "DecimalWordsModel" "unit" "I") (inW_9 _ (List.mem_of_getElem? (i := 33) rfl))) (fun _ h9 => h9) rfl dX4_fit_273 ?_
                      refine lv_iadd hx hb dX4_fit_276 ?_
                      refine lv_sipush (v := (-383)) hx hb dX4_fit_277 (by decide) ?_
                      have J_225 : (∀ z224 : Int32, z224 = Z_X4_fit_J_138 vun u102 f205 → ∀ (H : Heap) (locs : List Loc), va_P D vwCl (mw cI cJ cZ am ak an ac ae ag aq vth vmo vfg vtp vkd vng vcc vqq f205 u102 vun vre vks vms vcs ves vdg vog) H → va_D A (mw cI cJ cZ am ak an ac ae ag aq vth vmo vfg vtp vkd vng vcc vqq f205 u102 vun vre vks vms vcs ves vdg vog) → va_S A s.heap H locs → ∀ ls : Array Slot, lv_has ls 10 [(0, .ref am), (1, .int (bI p0)), (7, .int z219.1), (8, .long z219.2)] → W p l e rm_X4_fit s m args below meth c H locs 0 0 Q (F0 m 297 ls [.int z224, .ref am])) := by
                        intro z224 ez224 H locs hP hD hS ls hl
                        have hu := hu _ ez224
                        refine va_put (D := D) (ci := 5) (v := .int z224) (ty := .int) (C := RX4) (T := TX4) (N := 18) hx hb hts hi4 tyX4 tyX4_ok nmX4 hown hK hP hD hS 0 rfl rfl 12 (by decide) (hts (.fieldLink RX4 56 "DecimalWordsModel" "raised" "I") (inW_9 _ (List.mem_of_getElem? (i := 17) rfl))) (fun _ h9 => h9) rfl (by decide +kernel) rfl rfl (Nat.le_of_ble_eq_true rfl) dX4_fit_297 (fun H locs hP hD hS => ?_)
                        have hP : va_P D vwCl (mw cI cJ cZ am ak an ac ae ag aq vth vmo vfg vtp vkd vng vcc vqq z224 u102 vun vre vks vms vcs ves vdg vog) H := hP
                        have hD : va_D A (mw cI cJ cZ am ak an ac ae ag aq vth vmo vfg vtp vkd vng vcc vqq z224 u102 vun vre vks vms vcs ves vdg vog) := hD
                        refine lv_aload_n hx hb dX4_fit_300 rfl (lv_at hl 0 rfl) ?_
                        refine lv_iconst (v := 0) hx hb dX4_fit_301 (by decide) ?_
                        refine lv_iload_n hx hb dX4_fit_302 rfl (lv_at hl 1 rfl) ?_
                        refine lv_lload hx hb dX4_fit_303 (lv_at hl 3 rfl) ?_
                        refine lv_iload hx hb dX4_fit_305 (lv_at hl 2 rfl) ?_
                        obtain ⟨u227, eu227⟩ : ∃ y9 : Int32 × Bool × Int64 × Int32, y9 = F_X4_be (0 : Int32) p0 z219.2 z219.1 := ⟨_, rfl⟩
                        have hu := hu _ eu227
                        refine x_V (As := [.int 0, .int (bI p0), .long z219.2, .int z219.1]) (rest := []) hCF (c_X4_be l D cR cI cJ cZ t0 am ak an ac ae ag aq vth vmo vfg vtp vkd vng vcc vqq z224 u102 vun vre vks vms vcs ves vdg vog (0 : Int32) p0 z219.2 z219.1 u227 eu227) (x_cwV 4 hts (inW_9 _ (List.mem_of_getElem? (i := 18) rfl)) (inW_9 _ (List.mem_of_getElem? (i := 19) rfl)) (inW_9 _ (List.mem_of_getElem? (i := 20) rfl)) (inW_9 _ (List.mem_of_getElem? (i := 5) rfl)) (inW_9 _ (List.mem_of_getElem? (i := 11) rfl)) rfl rfl (by decide +kernel) ⟨Nat.le_of_ble_eq_true rfl, Nat.le_of_ble_eq_true rfl⟩) hK hP hD hS hA hSt 0 rfl rfl rfl hl.1 rfl (Nat.le_of_ble_eq_true rfl) dX4_fit_307 ⟨Nat.le_of_ble_eq_true rfl, Nat.le_of_ble_eq_true rfl⟩ (fun H locs hP hD hS => ?_)
                        show W p l e _ s m args below meth c H locs 0 0 Q (F0 m 310 ls [])
                        have e9 := Eq.symm hu; subst e9
                        exact x_vret hx hb hr hlocks hQ hK hP hD hS rfl dX4_fit_310
                      obtain ⟨z9, ez9⟩ : ∃ y9 : Int32, y9 = Z_X4_fit_J_138 vun u102 f205 := ⟨_, rfl⟩
                      have hz := rZ_X4_fit_J_138 vun u102 f205 ez9
                      unfold RZ_X4_fit_J_138 at hz
                      refine lv_icmp_gt (tgt := 293) hx hb dX4_fit_280 (by decide) (fun c_222 => ?_) (fun c_222 => ?_)
                      · rw [if_pos c_222] at hz
                        refine lv_aload_n hx hb dX4_fit_293 rfl (lv_at hl 0 rfl) ?_
                        refine va_get (D := D) (ci := 5) (v := .int f205) (C := RX4) (T := TX4) (N := 18) hx hb hts hi4 hown hK hP 0 rfl rfl 12 (by decide) (hts (.fieldLink RX4 56 "DecimalWordsModel" "raised" "I") (inW_9 _ (List.mem_of_getElem? (i := 17) rfl))) (fun _ h9 => h9) rfl dX4_fit_294 ?_
                        have e9 := Eq.symm hz; subst e9
                        exact J_225 _ ez9 H locs hP hD hS ls (lv_sub hl [0, 1, 2, 3] rfl)
                      · rw [if_neg c_222] at hz
                        refine lv_aload_n hx hb dX4_fit_283 rfl (lv_at hl 0 rfl) ?_
                        refine va_get (D := D) (ci := 5) (v := .int f205) (C := RX4) (T := TX4) (N := 18) hx hb hts hi4 hown hK hP 0 rfl rfl 12 (by decide) (hts (.fieldLink RX4 56 "DecimalWordsModel" "raised" "I") (inW_9 _ (List.mem_of_getElem? (i := 17) rfl))) (fun _ h9 => h9) rfl dX4_fit_284 ?_
                        refine lv_bipush (v := 8) hx hb dX4_fit_287 (by decide) ?_
                        refine lv_ior hx hb dX4_fit_289 ?_
                        refine lv_goto (tgt := 297) hx hb dX4_fit_290 (by decide) ?_
                        have e9 := Eq.symm hz; subst e9
                        exact J_225 _ ez9 H locs hP hD hS ls (lv_sub hl [0, 1, 2, 3] rfl)
                    · rw [if_neg c_221] at hu
                      refine lv_aload_n hx hb dX4_fit_261 rfl (lv_at hl 0 rfl) ?_
                      refine lv_iload_n hx hb dX4_fit_262 rfl (lv_at hl 1 rfl) ?_
                      obtain ⟨u229, eu229⟩ : ∃ y9 : Int32 × Bool × Int64 × Int32 × Int32, y9 = F_X4_great vmo f205 p0 := ⟨_, rfl⟩
                      have hu := hu _ eu229
                      refine x_V (As := [.int (bI p0)]) (rest := []) hCF (c_X4_great l D cR cI cJ cZ t0 am ak an ac ae ag aq vth vmo vfg vtp vkd vng vcc vqq f205 u102 vun vre vks vms vcs ves vdg vog p0 u229 eu229) (x_cwV 1 hts (inW_10 _ (List.mem_of_getElem? (i := 2) rfl)) (inW_10 _ (List.mem_of_getElem? (i := 3) rfl)) (inW_10 _ (List.mem_of_getElem? (i := 4) rfl)) (inW_9 _ (List.mem_of_getElem? (i := 5) rfl)) (inW_10 _ (List.mem_of_getElem? (i := 5) rfl)) rfl rfl (by decide +kernel) ⟨Nat.le_of_ble_eq_true rfl, Nat.le_of_ble_eq_true rfl⟩) hK hP hD hS hA hSt 0 rfl rfl rfl hl.1 rfl (Nat.le_of_ble_eq_true rfl) dX4_fit_263 ⟨Nat.le_of_ble_eq_true rfl, Nat.le_of_ble_eq_true rfl⟩ (fun H locs hP hD hS => ?_)
                      show W p l e _ s m args below meth c H locs 0 0 Q (F0 m 266 ls [])
                      have e9 := Eq.symm hu; subst e9
                      exact x_vret hx hb hr hlocks hQ hK hP hD hS rfl dX4_fit_266
                  obtain ⟨z9, ez9⟩ : ∃ y9 : Int32 × Int64, y9 = Z_X4_fit_J_133 z210 n215 := ⟨_, rfl⟩
                  have hz := rZ_X4_fit_J_133 z210 n215 ez9
                  unfold RZ_X4_fit_J_133 at hz
                  refine xl_ne (tgt := 253) hx hb dX4_fit_241 dX4_fit_242 (by decide) (fun c_216 => ?_) (fun c_216 => ?_)
                  · rw [if_neg c_216] at hz
                    have e9 := Eq.symm hz; subst e9
                    exact J_220 _ ez9 H locs hP hD hS ls (lv_sub hl [2, 3, 1, 0] rfl)
                  · rw [if_pos c_216] at hz
                    refine lv_ldc2 (v := 1000000000000000) hx hb hown (hts (.constantLong RX4 99 (1000000000000000)) (inW_9 _ (List.mem_of_getElem? (i := 35) rfl))) dX4_fit_245 ?_
                    refine lv_lstore (lv' := [(8, .long 1000000000000000), (7, .int z210), (0, .ref am), (1, .int (bI p0))]) hx hb dX4_fit_248 hl (by decide) rfl (fun ls hl => ?_)
                    obtain ⟨n217, en217⟩ : ∃ y9 : Int32, y9 = z210 + 1 := ⟨_, rfl⟩
                    have hz := hz _ en217
                    refine lv_iinc (v := n217) (lv' := [(7, .int n217), (8, .long 1000000000000000), (0, .ref am), (1, .int (bI p0))]) hx hb dX4_fit_250 hl (k := 1) rfl (by rw [en217]; rfl) (by decide) rfl (fun ls hl => ?_)
                    have e9 := Eq.symm hz; subst e9
                    exact J_220 _ ez9 H locs hP hD hS ls (lv_sub hl [2, 3, 0, 1] rfl)
                · rw [if_neg c_212] at hu
                  refine lv_aload_n hx hb dX4_fit_216 rfl (lv_at hl 1 rfl) ?_
                  refine lv_iload_n hx hb dX4_fit_217 rfl (lv_at hl 2 rfl) ?_
                  obtain ⟨u231, eu231⟩ : ∃ y9 : Int32 × Bool × Int64 × Int32 × Int32, y9 = F_X4_great vmo f205 p0 := ⟨_, rfl⟩
                  have hu := hu _ eu231
                  refine x_V (As := [.int (bI p0)]) (rest := []) hCF (c_X4_great l D cR cI cJ cZ t0 am ak an ac ae ag aq vth vmo vfg vtp vkd vng vcc vqq f205 u102 vun vre vks vms vcs ves vdg vog p0 u231 eu231) (x_cwV 1 hts (inW_10 _ (List.mem_of_getElem? (i := 2) rfl)) (inW_10 _ (List.mem_of_getElem? (i := 3) rfl)) (inW_10 _ (List.mem_of_getElem? (i := 4) rfl)) (inW_9 _ (List.mem_of_getElem? (i := 5) rfl)) (inW_10 _ (List.mem_of_getElem? (i := 5) rfl)) rfl rfl (by decide +kernel) ⟨Nat.le_of_ble_eq_true rfl, Nat.le_of_ble_eq_true rfl⟩) hK hP hD hS hA hSt 0 rfl rfl rfl hl.1 rfl (Nat.le_of_ble_eq_true rfl) dX4_fit_218 ⟨Nat.le_of_ble_eq_true rfl, Nat.le_of_ble_eq_true rfl⟩ (fun H locs hP hD hS => ?_)
                  show W p l e _ s m args below meth c H locs 0 0 Q (F0 m 221 ls [])
                  have e9 := Eq.symm hu; subst e9
                  exact x_vret hx hb hr hlocks hQ hK hP hD hS rfl dX4_fit_221
              obtain ⟨z9, ez9⟩ : ∃ y9 : Int32, y9 = Z_X4_fit_J_124 n207 := ⟨_, rfl⟩
              have hz := rZ_X4_fit_J_124 n207 ez9
              unfold RZ_X4_fit_J_124 at hz
              refine lv_icmp_ge (tgt := 204) hx hb dX4_fit_195 (by decide) (fun c_208 => ?_) (fun c_208 => ?_)
              · rw [if_pos c_208] at hz
                refine lv_iload hx hb dX4_fit_204 (lv_at hl 0 rfl) ?_
                have e9 := Eq.symm hz; subst e9
                exact J_211 _ ez9 H locs hP hD hS ls (lv_sub hl [4, 5] rfl)
              · rw [if_neg c_208] at hz
                refine lv_sipush (v := (-398)) hx hb dX4_fit_198 (by decide) ?_
                refine lv_goto (tgt := 206) hx hb dX4_fit_201 (by decide) ?_
                have e9 := Eq.symm hz; subst e9
                exact J_211 _ ez9 H locs hP hD hS ls (lv_sub hl [4, 5] rfl)
            · rw [if_neg c_204] at hs
              rw [if_neg c_204] at hu
              refine lv_aload_n hx hb dX4_fit_103 rfl (lv_at hl 3 rfl) ?_
              refine lv_iload_n hx hb dX4_fit_104 rfl (lv_at hl 5 rfl) ?_
              refine lv_iload hx hb dX4_fit_105 (lv_at hl 0 rfl) ?_
              refine lv_sipush (v := (-398)) hx hb dX4_fit_107 (by decide) ?_
              have J_236 : (∀ z235 : Int32, z235 = Z_X4_fit_J_124 n116 → ∀ (H : Heap) (locs : List Loc), va_P D vwCl (mw cI cJ cZ am ak an ac ae ag aq vth vmo vfg vtp vkd vng vcc vqq vrs u102 vun vre vks vms vcs ves vdg vog) H → va_D A (mw cI cJ cZ am ak an ac ae ag aq vth vmo vfg vtp vkd vng vcc vqq vrs u102 vun vre vks vms vcs ves vdg vog) → va_S A s.heap H locs → ∀ ls : Array Slot, lv_has ls 10 [(0, .ref am), (1, .int (bI p0)), (3, .int z108), (5, .int n115)] → W p l e rm_X4_fit s m args below meth c H locs 0 0 Q (F0 m 121 ls [.int z235, .int p1, .ref am])) := by
                intro z235 ez235 H locs hP hD hS ls hl
                have hs := hs _ ez235
                have hu := hu _ ez235
                refine lv_iload hx hb dX4_fit_121 (lv_at hl 3 rfl) ?_
                refine lv_sipush (v := 369) hx hb dX4_fit_123 (by decide) ?_
                have J_240 : (∀ z239 : Int32, z239 = Z_X4_fit_J_240 n115 → ∀ (H : Heap) (locs : List Loc), va_P D vwCl (mw cI cJ cZ am ak an ac ae ag aq vth vmo vfg vtp vkd vng vcc vqq vrs u102 vun vre vks vms vcs ves vdg vog) H → va_D A (mw cI cJ cZ am ak an ac ae ag aq vth vmo vfg vtp vkd vng vcc vqq vrs u102 vun vre vks vms vcs ves vdg vog) → va_S A s.heap H locs → ∀ ls : Array Slot, lv_has ls 10 [(0, .ref am), (1, .int (bI p0)), (3, .int z108), (5, .int n115)] → W p l e rm_X4_fit s m args below meth c H locs 0 0 Q (F0 m 137 ls [.int z239, .int z235, .int p1, .ref am])) := by
                  intro z239 ez239 H locs hP hD hS ls hl
                  have hs := hs _ ez239
                  have hu := hu _ ez239
                  refine x_V (As := [.int p1, .int z235, .int z239]) (rest := []) hCF (c_X4_between l D cR cI cJ cZ t0 am ak an ac ae ag aq vth vmo vfg vtp vkd vng vcc vqq vrs u102 vun vre vks vms vcs ves vdg vog p1 z235 z239 _ rfl) (x_cwV 3 hts (inW_9 _ (List.mem_of_getElem? (i := 39) rfl)) (inW_10 _ (List.mem_of_getElem? (i := 0) rfl)) (inW_10 _ (List.mem_of_getElem? (i := 1) rfl)) (inW_9 _ (List.mem_of_getElem? (i := 5) rfl)) (inW_9 _ (List.mem_of_getElem? (i := 21) rfl)) rfl rfl (by decide +kernel) ⟨Nat.le_of_ble_eq_true rfl, Nat.le_of_ble_eq_true rfl⟩) hK hP hD hS hA hSt 0 rfl rfl rfl hl.1 rfl (Nat.le_of_ble_eq_true rfl) dX4_fit_137 ⟨Nat.le_of_ble_eq_true rfl, Nat.le_of_ble_eq_true rfl⟩ (fun H locs hP hD hS => ?_)
                  show W p l e _ s m args below meth c H locs 0 0 Q (F0 m 140 ls (.int (F_X4_between p1 z235 z239) :: []))
                  refine lv_topi (fun n242 en242 => ?_)
                  have hs := hs _ en242
                  have hu := hu _ en242
                  refine lv_istore (lv' := [(7, .int n242), (0, .ref am), (1, .int (bI p0)), (3, .int z108), (5, .int n115)]) hx hb dX4_fit_140 hl (by decide) rfl (fun ls hl => ?_)
                  refine lv_aload_n hx hb dX4_fit_142 rfl (lv_at hl 1 rfl) ?_
                  refine lv_iconst (v := 0) hx hb dX4_fit_143 (by decide) ?_
                  refine lv_iload_n hx hb dX4_fit_144 rfl (lv_at hl 2 rfl) ?_
                  refine lv_aload_n hx hb dX4_fit_145 rfl (lv_at hl 1 rfl) ?_
                  refine lv_aload_n hx hb dX4_fit_146 rfl (lv_at hl 1 rfl) ?_
                  refine lv_iload_n hx hb dX4_fit_147 rfl (lv_at hl 3 rfl) ?_
                  obtain ⟨h_243, hs⟩ := hs
                  refine x_V (As := [.int z108]) (rest := [.ref am, .int (bI p0), .int 0, .ref am]) hCF (c_X4_whole l D cR cI cJ cZ t0 am ak an ac ae ag aq vth vmo vfg vtp vkd vng vcc vqq vrs u102 vun vre vks vms vcs ves vdg vog z108 _ rfl h_243) (x_cwV 1 hts (inW_9 _ (List.mem_of_getElem? (i := 26) rfl)) (inW_9 _ (List.mem_of_getElem? (i := 27) rfl)) (inW_9 _ (List.mem_of_getElem? (i := 28) rfl)) (inW_9 _ (List.mem_of_getElem? (i := 5) rfl)) (inW_9 _ (List.mem_of_getElem? (i := 9) rfl)) rfl rfl (by decide +kernel) ⟨Nat.le_of_ble_eq_true rfl, Nat.le_of_ble_eq_true rfl⟩) hK hP hD hS hA hSt 0 rfl rfl rfl hl.1 rfl (Nat.le_of_ble_eq_true rfl) dX4_fit_148 ⟨Nat.le_of_ble_eq_true rfl, Nat.le_of_ble_eq_true rfl⟩ (fun H locs hP hD hS => ?_)
                  show W p l e _ s m args below meth c H locs 0 0 Q (F0 m 151 ls (.long (F_X4_whole u102 vdg z108) :: [.ref am, .int (bI p0), .int 0, .ref am]))
                  refine lv_iload hx hb dX4_fit_151 (lv_at hl 4 rfl) ?_
                  refine lv_iload hx hb dX4_fit_153 (lv_at hl 0 rfl) ?_
                  refine lv_isub hx hb dX4_fit_155 ?_
                  have h_245 := hs
                  refine x_V (As := [.long (F_X4_whole u102 vdg z108), .int (n115 - n242)]) (rest := [.int (bI p0), .int 0, .ref am]) hCF (c_X4_times l D cR cI cJ cZ t0 am ak an ac ae ag aq vth vmo vfg vtp vkd vng vcc vqq vrs u102 vun vre vks vms vcs ves vdg vog (F_X4_whole u102 vdg z108) (n115 - n242) _ rfl h_245) (x_cwV 2 hts (inW_9 _ (List.mem_of_getElem? (i := 29) rfl)) (inW_9 _ (List.mem_of_getElem? (i := 30) rfl)) (inW_9 _ (List.mem_of_getElem? (i := 31) rfl)) (inW_9 _ (List.mem_of_getElem? (i := 5) rfl)) (inW_9 _ (List.mem_of_getElem? (i := 10) rfl)) rfl rfl (by decide +kernel) ⟨Nat.le_of_ble_eq_true rfl, Nat.le_of_ble_eq_true rfl⟩) hK hP hD hS hA hSt 0 rfl rfl rfl hl.1 rfl (Nat.le_of_ble_eq_true rfl) dX4_fit_156 ⟨Nat.le_of_ble_eq_true rfl, Nat.le_of_ble_eq_true rfl⟩ (fun H locs hP hD hS => ?_)
                  show W p l e _ s m args below meth c H locs 0 0 Q (F0 m 159 ls (.long (F_X4_times (F_X4_whole u102 vdg z108) (n115 - n242)) :: [.int (bI p0), .int 0, .ref am]))
                  refine lv_iload hx hb dX4_fit_159 (lv_at hl 0 rfl) ?_
                  obtain ⟨u247, eu247⟩ : ∃ y9 : Int32 × Bool × Int64 × Int32, y9 = F_X4_be (0 : Int32) p0 (F_X4_times (F_X4_whole u102 vdg z108) (n115 - n242)) n242 := ⟨_, rfl⟩
                  have hu := hu _ eu247
                  refine x_V (As := [.int 0, .int (bI p0), .long (F_X4_times (F_X4_whole u102 vdg z108) (n115 - n242)), .int n242]) (rest := []) hCF (c_X4_be l D cR cI cJ cZ t0 am ak an ac ae ag aq vth vmo vfg vtp vkd vng vcc vqq vrs u102 vun vre vks vms vcs ves vdg vog (0 : Int32) p0 (F_X4_times (F_X4_whole u102 vdg z108) (n115 - n242)) n242 u247 eu247) (x_cwV 4 hts (inW_9 _ (List.mem_of_getElem? (i := 18) rfl)) (inW_9 _ (List.mem_of_getElem? (i := 19) rfl)) (inW_9 _ (List.mem_of_getElem? (i := 20) rfl)) (inW_9 _ (List.mem_of_getElem? (i := 5) rfl)) (inW_9 _ (List.mem_of_getElem? (i := 11) rfl)) rfl rfl (by decide +kernel) ⟨Nat.le_of_ble_eq_true rfl, Nat.le_of_ble_eq_true rfl⟩) hK hP hD hS hA hSt 0 rfl rfl rfl hl.1 rfl (Nat.le_of_ble_eq_true rfl) dX4_fit_161 ⟨Nat.le_of_ble_eq_true rfl, Nat.le_of_ble_eq_true rfl⟩ (fun H locs hP hD hS => ?_)
                  show W p l e _ s m args below meth c H locs 0 0 Q (F0 m 164 ls [])
                  have e9 := Eq.symm hu; subst e9
                  exact x_vret hx hb hr hlocks hQ hK hP hD hS rfl dX4_fit_164
                obtain ⟨z9, ez9⟩ : ∃ y9 : Int32, y9 = Z_X4_fit_J_240 n115 := ⟨_, rfl⟩
                have hz := rZ_X4_fit_J_240 n115 ez9
                unfold RZ_X4_fit_J_240 at hz
                refine lv_icmp_le (tgt := 135) hx hb dX4_fit_126 (by decide) (fun c_237 => ?_) (fun c_237 => ?_)
                · rw [if_pos c_237] at hz
                  refine lv_iload hx hb dX4_fit_135 (lv_at hl 3 rfl) ?_
                  have e9 := Eq.symm hz; subst e9
                  exact J_240 _ ez9 H locs hP hD hS ls (lv_sub hl [0, 1, 2, 3] rfl)
                · rw [if_neg c_237] at hz
                  refine lv_sipush (v := 369) hx hb dX4_fit_129 (by decide) ?_
                  refine lv_goto (tgt := 137) hx hb dX4_fit_132 (by decide) ?_
                  have e9 := Eq.symm hz; subst e9
                  exact J_240 _ ez9 H locs hP hD hS ls (lv_sub hl [0, 1, 2, 3] rfl)
              obtain ⟨z9, ez9⟩ : ∃ y9 : Int32, y9 = Z_X4_fit_J_124 n116 := ⟨_, rfl⟩
              have hz := rZ_X4_fit_J_124 n116 ez9
              unfold RZ_X4_fit_J_124 at hz
              refine lv_icmp_ge (tgt := 119) hx hb dX4_fit_110 (by decide) (fun c_233 => ?_) (fun c_233 => ?_)
              · rw [if_pos c_233] at hz
                refine lv_iload hx hb dX4_fit_119 (lv_at hl 0 rfl) ?_
                have e9 := Eq.symm hz; subst e9
                exact J_236 _ ez9 H locs hP hD hS ls (lv_sub hl [3, 4, 6, 1] rfl)
              · rw [if_neg c_233] at hz
                refine lv_sipush (v := (-398)) hx hb dX4_fit_113 (by decide) ?_
                refine lv_goto (tgt := 121) hx hb dX4_fit_116 (by decide) ?_
                have e9 := Eq.symm hz; subst e9
                exact J_236 _ ez9 H locs hP hD hS ls (lv_sub hl [3, 4, 6, 1] rfl)
    refine lv_if_ne (tgt := 47) hx hb dX4_fit_38 (by decide) (fun c_111 => ?_) (fun c_111 => ?_)
    · rw [if_neg c_111] at hg
      exact J_113 H locs hP hD hS ls (lv_sub hl [0, 1, 2, 3] rfl)
    · rw [if_pos c_111] at hg
      exact absurd hg (by decide)
  · rw [if_pos c_104] at hu
    refine lv_aload_n hx hb dX4_fit_11 rfl (lv_at hl 0 rfl) ?_
    refine lv_iconst (v := 0) hx hb dX4_fit_12 (by decide) ?_
    refine lv_iload_n hx hb dX4_fit_13 rfl (lv_at hl 1 rfl) ?_
    refine lv_lconst (v := 0) hx hb dX4_fit_14 (by decide) ?_
    refine lv_aload_n hx hb dX4_fit_15 rfl (lv_at hl 0 rfl) ?_
    refine lv_iload_n hx hb dX4_fit_16 rfl (lv_at hl 2 rfl) ?_
    refine lv_sipush (v := (-398)) hx hb dX4_fit_17 (by decide) ?_
    refine lv_sipush (v := 369) hx hb dX4_fit_20 (by decide) ?_
    refine x_V (As := [.int p1, .int (-398), .int 369]) (rest := [.long 0, .int (bI p0), .int 0, .ref am]) hCF (c_X4_between l D cR cI cJ cZ t0 am ak an ac ae ag aq vth vmo vfg vtp vkd vng vcc vqq vrs u102 vun vre vks vms vcs ves vdg vog p1 (-398 : Int32) (369 : Int32) _ rfl) (x_cwV 3 hts (inW_9 _ (List.mem_of_getElem? (i := 39) rfl)) (inW_10 _ (List.mem_of_getElem? (i := 0) rfl)) (inW_10 _ (List.mem_of_getElem? (i := 1) rfl)) (inW_9 _ (List.mem_of_getElem? (i := 5) rfl)) (inW_9 _ (List.mem_of_getElem? (i := 21) rfl)) rfl rfl (by decide +kernel) ⟨Nat.le_of_ble_eq_true rfl, Nat.le_of_ble_eq_true rfl⟩) hK hP hD hS hA hSt 0 rfl rfl rfl hl.1 rfl (Nat.le_of_ble_eq_true rfl) dX4_fit_23 ⟨Nat.le_of_ble_eq_true rfl, Nat.le_of_ble_eq_true rfl⟩ (fun H locs hP hD hS => ?_)
    show W p l e _ s m args below meth c H locs 0 0 Q (F0 m 26 ls (.int (F_X4_between p1 (-398 : Int32) (369 : Int32)) :: [.long 0, .int (bI p0), .int 0, .ref am]))
    obtain ⟨u250, eu250⟩ : ∃ y9 : Int32 × Bool × Int64 × Int32, y9 = F_X4_be (0 : Int32) p0 (0 : Int64) (F_X4_between p1 (-398 : Int32) (369 : Int32)) := ⟨_, rfl⟩
    have hu := hu _ eu250
    refine x_V (As := [.int 0, .int (bI p0), .long 0, .int (F_X4_between p1 (-398 : Int32) (369 : Int32))]) (rest := []) hCF (c_X4_be l D cR cI cJ cZ t0 am ak an ac ae ag aq vth vmo vfg vtp vkd vng vcc vqq vrs u102 vun vre vks vms vcs ves vdg vog (0 : Int32) p0 (0 : Int64) (F_X4_between p1 (-398 : Int32) (369 : Int32)) u250 eu250) (x_cwV 4 hts (inW_9 _ (List.mem_of_getElem? (i := 18) rfl)) (inW_9 _ (List.mem_of_getElem? (i := 19) rfl)) (inW_9 _ (List.mem_of_getElem? (i := 20) rfl)) (inW_9 _ (List.mem_of_getElem? (i := 5) rfl)) (inW_9 _ (List.mem_of_getElem? (i := 11) rfl)) rfl rfl (by decide +kernel) ⟨Nat.le_of_ble_eq_true rfl, Nat.le_of_ble_eq_true rfl⟩) hK hP hD hS hA hSt 0 rfl rfl rfl hl.1 rfl (Nat.le_of_ble_eq_true rfl) dX4_fit_26 ⟨Nat.le_of_ble_eq_true rfl, Nat.le_of_ble_eq_true rfl⟩ (fun H locs hP hD hS => ?_)
    show W p l e _ s m args below meth c H locs 0 0 Q (F0 m 29 ls [])
    have e9 := Eq.symm hu; subst e9
    exact x_vret hx hb hr hlocks hQ hK hP hD hS rfl dX4_fit_29

def Z_X4_add_J_160 (vmo : Int32) (vms : Nat → Bool) (p0 : Int32) (z104 : Bool) : Bool := (if vms p0.toNatClampNeg = z104 then vms p0.toNatClampNeg else (if vmo = 4 then true else false))
def RZ_X4_add_J_160 (vmo : Int32) (vms : Nat → Bool) (p0 : Int32) (z104 : Bool) (u9 : Bool) : Prop := (if vms p0.toNatClampNeg = z104 then u9 = vms p0.toNatClampNeg else (if vmo = 4 then u9 = true else u9 = false))
theorem rZ_X4_add_J_160 (vmo : Int32) (vms : Nat → Bool) (p0 : Int32) (z104 : Bool) {u9 : Bool} (hu : u9 = Z_X4_add_J_160 vmo vms p0 z104) : RZ_X4_add_J_160 vmo vms p0 z104 u9 := by
  unfold RZ_X4_add_J_160
  refine ite_P (fun c_156 => ?_) (fun c_156 => ?_)
  · have hu := hu.trans (if_pos c_156)
    exact hu
  · have hu := hu.trans (if_neg c_156)
    refine ite_P (fun c_157 => ?_) (fun c_157 => ?_)
    · have hu := hu.trans (if_pos c_157)
      exact hu
    · have hu := hu.trans (if_neg c_157)
      exact hu
def Z_X4_add_J_163 (vmo : Int32) (vms : Nat → Bool) (p0 : Int32) (z104 : Bool) (z150 : Bool × (Nat → Int32)) (u153 : Int32) : Bool := (if u153 = 0 then (bnd (Z_X4_add_J_160 vmo vms p0 z104) (fun z159 : Bool => z159)) else z150.1)
def RZ_X4_add_J_163 (vmo : Int32) (vms : Nat → Bool) (p0 : Int32) (z104 : Bool) (z150 : Bool × (Nat → Int32)) (u153 : Int32) (u9 : Bool) : Prop := (if u153 = 0 then (∀ z159 : Bool, z159 = Z_X4_add_J_160 vmo vms p0 z104 → u9 = z159) else u9 = z150.1)
theorem rZ_X4_add_J_163 (vmo : Int32) (vms : Nat → Bool) (p0 : Int32) (z104 : Bool) (z150 : Bool × (Nat → Int32)) (u153 : Int32) {u9 : Bool} (hu : u9 = Z_X4_add_J_163 vmo vms p0 z104 z150 u153) : RZ_X4_add_J_163 vmo vms p0 z104 z150 u153 u9 := by
  unfold RZ_X4_add_J_163
  refine ite_P (fun c_155 => ?_) (fun c_155 => ?_)
  · have hu := hu.trans (if_pos c_155)
    intro z159 ez159
    have hu := bnd_n hu ez159
    exact hu
  · have hu := hu.trans (if_neg c_155)
    exact hu
def Z_X4_add_J_151 (vms : Nat → Bool) (p0 : Int32) (z104 : Bool) (u135 : (Nat → Int32)) (u138 : (Nat → Int32)) (n140 : Bool) : Bool × (Nat → Int32) := (if vms p0.toNatClampNeg = z104 then (bnd (F_X4_addDigits u135 u138) (fun u147 : (Nat → Int32) => (n140, u147))) else (bnd (F_X4_subtractDigits u135 u138) (fun u143 : Bool × (Nat → Int32) => (if u143.1 = true then (z104, u143.2) else (n140, u143.2)))))
def RZ_X4_add_J_151 (vms : Nat → Bool) (p0 : Int32) (z104 : Bool) (u135 : (Nat → Int32)) (u138 : (Nat → Int32)) (n140 : Bool) (u9 : Bool × (Nat → Int32)) : Prop := (if vms p0.toNatClampNeg = z104 then (∀ u147 : (Nat → Int32), u147 = F_X4_addDigits u135 u138 → u9 = (n140, u147)) else (∀ u143 : Bool × (Nat → Int32), u143 = F_X4_subtractDigits u135 u138 → (if u143.1 = true then u9 = (z104, u143.2) else u9 = (n140, u143.2))))
theorem rZ_X4_add_J_151 (vms : Nat → Bool) (p0 : Int32) (z104 : Bool) (u135 : (Nat → Int32)) (u138 : (Nat → Int32)) (n140 : Bool) {u9 : Bool × (Nat → Int32)} (hu : u9 = Z_X4_add_J_151 vms p0 z104 u135 u138 n140) : RZ_X4_add_J_151 vms p0 z104 u135 u138 n140 u9 := by
  unfold RZ_X4_add_J_151
  refine ite_P (fun c_141 => ?_) (fun c_141 => ?_)
  · have hu := hu.trans (if_pos c_141)
    intro u147 eu147
    have hu := bnd_n hu eu147
    exact hu
  · have hu := hu.trans (if_neg c_141)
    intro u143 eu143
    have hu := bnd_n hu eu143
    refine ite_P (fun c_145 => ?_) (fun c_145 => ?_)
    · have hu := hu.trans (if_pos c_145)
      exact hu
    · have hu := hu.trans (if_neg c_145)
      exact hu
def Z_X4_add_J_131 (ves : Nat → Int32) (p0 : Int32) (p1 : Int32) : Int32 := (if ves p1.toNatClampNeg ≤ ves p0.toNatClampNeg then ves p1.toNatClampNeg else ves p0.toNatClampNeg)
def RZ_X4_add_J_131 (ves : Nat → Int32) (p0 : Int32) (p1 : Int32) (u9 : Int32) : Prop := (if ves p1.toNatClampNeg ≤ ves p0.toNatClampNeg then u9 = ves p1.toNatClampNeg else u9 = ves p0.toNatClampNeg)
theorem rZ_X4_add_J_131 (ves : Nat → Int32) (p0 : Int32) (p1 : Int32) {u9 : Int32} (hu : u9 = Z_X4_add_J_131 ves p0 p1) : RZ_X4_add_J_131 ves p0 p1 u9 := by
  unfold RZ_X4_add_J_131
  refine ite_P (fun c_128 => ?_) (fun c_128 => ?_)
  · have hu := hu.trans (if_pos c_128)
    exact hu
  · have hu := hu.trans (if_neg c_128)
    exact hu
def Z_X4_add_J_105 (vms : Nat → Bool) (p1 : Int32) (p2 : Bool) : Bool := (if vms p1.toNatClampNeg = p2 then false else true)
def RZ_X4_add_J_105 (vms : Nat → Bool) (p1 : Int32) (p2 : Bool) (u9 : Bool) : Prop := (if vms p1.toNatClampNeg = p2 then u9 = false else u9 = true)
theorem rZ_X4_add_J_105 (vms : Nat → Bool) (p1 : Int32) (p2 : Bool) {u9 : Bool} (hu : u9 = Z_X4_add_J_105 vms p1 p2) : RZ_X4_add_J_105 vms p1 p2 u9 := by
  unfold RZ_X4_add_J_105
  refine ite_P (fun c_102 => ?_) (fun c_102 => ?_)
  · have hu := hu.trans (if_pos c_102)
    exact hu
  · have hu := hu.trans (if_neg c_102)
    exact hu
def F_X4_add (vmo : Int32) (vrs : Int32) (vct : Int32) (vun : Int32) (vre : Bool) (vks : Nat → Int32) (vms : Nat → Bool) (vcs : Nat → Int64) (ves : Nat → Int32) (vdg : Nat → Int32) (vog : Nat → Int32) (p0 : Int32) (p1 : Int32) (p2 : Bool) : Int32 × Bool × Int64 × Int32 × Int32 × Int32 × Int32 × Bool × (Nat → Int32) × (Nat → Int32) := (bnd (Z_X4_add_J_105 vms p1 p2) (fun z104 : Bool => (if F_X4_is vks p0 (1 : Int32) = true then (if F_X4_is vks p1 (1 : Int32) = true then (if vms p0.toNatClampNeg = z104 then (bnd (F_X4_be (1 : Int32) (vms p0.toNatClampNeg) (0 : Int64) (0 : Int32)) (fun u120 : Int32 × Bool × Int64 × Int32 => (u120.1, u120.2.1, u120.2.2.1, u120.2.2.2, vrs, vct, vun, vre, vdg, vog))) else (bnd (F_X4_invalid vrs) (fun u122 : Int32 × Bool × Int64 × Int32 × Int32 => (u122.1, u122.2.1, u122.2.2.1, u122.2.2.2.1, u122.2.2.2.2, vct, vun, vre, vdg, vog)))) else (bnd (F_X4_be (1 : Int32) (vms p0.toNatClampNeg) (0 : Int64) (0 : Int32)) (fun u115 : Int32 × Bool × Int64 × Int32 => (u115.1, u115.2.1, u115.2.2.1, u115.2.2.2, vrs, vct, vun, vre, vdg, vog)))) else (if F_X4_is vks p1 (1 : Int32) = true then (bnd (F_X4_be (1 : Int32) z104 (0 : Int64) (0 : Int32)) (fun u169 : Int32 × Bool × Int64 × Int32 => (u169.1, u169.2.1, u169.2.2.1, u169.2.2.2, vrs, vct, vun, vre, vdg, vog))) else (bnd (Z_X4_add_J_131 ves p0 p1) (fun z130 : Int32 => (bnd (F_X4_lay vdg (vcs p0.toNatClampNeg) ((ves p0.toNatClampNeg) - z130)) (fun u135 : (Nat → Int32) => (bnd (F_X4_layOther vog (vcs p1.toNatClampNeg) ((ves p1.toNatClampNeg) - z130)) (fun u138 : (Nat → Int32) => (bnd (vms p0.toNatClampNeg) (fun n140 : Bool => (bnd (Z_X4_add_J_151 vms p0 z104 u135 u138 n140) (fun z150 : Bool × (Nat → Int32) => (bnd (F_X4_trim z150.2) (fun u153 : Int32 => (bnd (Z_X4_add_J_163 vmo vms p0 z104 z150 u153) (fun z162 : Bool => (bnd (F_X4_fit vmo vrs z130 false z150.2 z162 z130) (fun u165 : Int32 × Bool × Int64 × Int32 × Int32 × Int32 => (u165.1, u165.2.1, u165.2.2.1, u165.2.2.2.1, u165.2.2.2.2.1, u165.2.2.2.2.2, z130, false, z150.2, u138)))))))))))))))))))))
def RF_X4_add (vmo : Int32) (vrs : Int32) (vct : Int32) (vun : Int32) (vre : Bool) (vks : Nat → Int32) (vms : Nat → Bool) (vcs : Nat → Int64) (ves : Nat → Int32) (vdg : Nat → Int32) (vog : Nat → Int32) (p0 : Int32) (p1 : Int32) (p2 : Bool) (u9 : Int32 × Bool × Int64 × Int32 × Int32 × Int32 × Int32 × Bool × (Nat → Int32) × (Nat → Int32)) : Prop := (∀ z104 : Bool, z104 = Z_X4_add_J_105 vms p1 p2 → (if F_X4_is vks p0 (1 : Int32) = true then (if F_X4_is vks p1 (1 : Int32) = true then (if vms p0.toNatClampNeg = z104 then (∀ u120 : Int32 × Bool × Int64 × Int32, u120 = F_X4_be (1 : Int32) (vms p0.toNatClampNeg) (0 : Int64) (0 : Int32) → u9 = (u120.1, u120.2.1, u120.2.2.1, u120.2.2.2, vrs, vct, vun, vre, vdg, vog)) else (∀ u122 : Int32 × Bool × Int64 × Int32 × Int32, u122 = F_X4_invalid vrs → u9 = (u122.1, u122.2.1, u122.2.2.1, u122.2.2.2.1, u122.2.2.2.2, vct, vun, vre, vdg, vog))) else (∀ u115 : Int32 × Bool × Int64 × Int32, u115 = F_X4_be (1 : Int32) (vms p0.toNatClampNeg) (0 : Int64) (0 : Int32) → u9 = (u115.1, u115.2.1, u115.2.2.1, u115.2.2.2, vrs, vct, vun, vre, vdg, vog))) else (if F_X4_is vks p1 (1 : Int32) = true then (∀ u169 : Int32 × Bool × Int64 × Int32, u169 = F_X4_be (1 : Int32) z104 (0 : Int64) (0 : Int32) → u9 = (u169.1, u169.2.1, u169.2.2.1, u169.2.2.2, vrs, vct, vun, vre, vdg, vog)) else (∀ z130 : Int32, z130 = Z_X4_add_J_131 ves p0 p1 → (∀ u135 : (Nat → Int32), u135 = F_X4_lay vdg (vcs p0.toNatClampNeg) ((ves p0.toNatClampNeg) - z130) → (∀ u138 : (Nat → Int32), u138 = F_X4_layOther vog (vcs p1.toNatClampNeg) ((ves p1.toNatClampNeg) - z130) → (∀ n140 : Bool, n140 = vms p0.toNatClampNeg → (∀ z150 : Bool × (Nat → Int32), z150 = Z_X4_add_J_151 vms p0 z104 u135 u138 n140 → (∀ u153 : Int32, u153 = F_X4_trim z150.2 → (∀ z162 : Bool, z162 = Z_X4_add_J_163 vmo vms p0 z104 z150 u153 → (∀ u165 : Int32 × Bool × Int64 × Int32 × Int32 × Int32, u165 = F_X4_fit vmo vrs z130 false z150.2 z162 z130 → u9 = (u165.1, u165.2.1, u165.2.2.1, u165.2.2.2.1, u165.2.2.2.2.1, u165.2.2.2.2.2, z130, false, z150.2, u138))))))))))))
theorem rF_X4_add (vmo : Int32) (vrs : Int32) (vct : Int32) (vun : Int32) (vre : Bool) (vks : Nat → Int32) (vms : Nat → Bool) (vcs : Nat → Int64) (ves : Nat → Int32) (vdg : Nat → Int32) (vog : Nat → Int32) (p0 : Int32) (p1 : Int32) (p2 : Bool) {u9 : Int32 × Bool × Int64 × Int32 × Int32 × Int32 × Int32 × Bool × (Nat → Int32) × (Nat → Int32)} (hu : u9 = F_X4_add vmo vrs vct vun vre vks vms vcs ves vdg vog p0 p1 p2) : RF_X4_add vmo vrs vct vun vre vks vms vcs ves vdg vog p0 p1 p2 u9 := by
  unfold RF_X4_add
  intro z104 ez104
  have hu := bnd_n hu ez104
  refine ite_P (fun c_108 => ?_) (fun c_108 => ?_)
  · have hu := hu.trans (if_pos c_108)
    refine ite_P (fun c_112 => ?_) (fun c_112 => ?_)
    · have hu := hu.trans (if_pos c_112)
      refine ite_P (fun c_118 => ?_) (fun c_118 => ?_)
      · have hu := hu.trans (if_pos c_118)
        intro u120 eu120
        have hu := bnd_n hu eu120
        exact hu
      · have hu := hu.trans (if_neg c_118)
        intro u122 eu122
        have hu := bnd_n hu eu122
        exact hu
    · have hu := hu.trans (if_neg c_112)
      intro u115 eu115
      have hu := bnd_n hu eu115
      exact hu
  · have hu := hu.trans (if_neg c_108)
    refine ite_P (fun c_126 => ?_) (fun c_126 => ?_)
    · have hu := hu.trans (if_pos c_126)
      intro u169 eu169
      have hu := bnd_n hu eu169
      exact hu
    · have hu := hu.trans (if_neg c_126)
      intro z130 ez130
      have hu := bnd_n hu ez130
      intro u135 eu135
      have hu := bnd_n hu eu135
      intro u138 eu138
      have hu := bnd_n hu eu138
      intro n140 en140
      have hu := bnd_n hu en140
      intro z150 ez150
      have hu := bnd_n hu ez150
      intro u153 eu153
      have hu := bnd_n hu eu153
      intro z162 ez162
      have hu := bnd_n hu ez162
      intro u165 eu165
      have hu := bnd_n hu eu165
      exact hu
def S_X4_add (vmo : Int32) (vrs : Int32) (vct : Int32) (vun : Int32) (vre : Bool) (vks : Nat → Int32) (vms : Nat → Bool) (vcs : Nat → Int64) (ves : Nat → Int32) (vdg : Nat → Int32) (vog : Nat → Int32) (p0 : Int32) (p1 : Int32) (p2 : Bool) : Prop := (vp_in p1 8) ∧ (∀ z104 : Bool, z104 = Z_X4_add_J_105 vms p1 p2 → (S_X4_is vks p0 (1 : Int32)) ∧ (if F_X4_is vks p0 (1 : Int32) = true then (S_X4_is vks p1 (1 : Int32)) ∧ (if F_X4_is vks p1 (1 : Int32) = true then vp_in p0 8 else vp_in p0 8) else (S_X4_is vks p1 (1 : Int32)) ∧ (if F_X4_is vks p1 (1 : Int32) = true then True else (vp_in p0 8) ∧ (∀ z130 : Int32, z130 = Z_X4_add_J_131 ves p0 p1 → (S_X4_lay vdg (vcs p0.toNatClampNeg) ((ves p0.toNatClampNeg) - z130)) ∧ (∀ u135 : (Nat → Int32), u135 = F_X4_lay vdg (vcs p0.toNatClampNeg) ((ves p0.toNatClampNeg) - z130) → (S_X4_layOther vog (vcs p1.toNatClampNeg) ((ves p1.toNatClampNeg) - z130)) ∧ (∀ u138 : (Nat → Int32), u138 = F_X4_layOther vog (vcs p1.toNatClampNeg) ((ves p1.toNatClampNeg) - z130) → (∀ n140 : Bool, n140 = vms p0.toNatClampNeg → ((if vms p0.toNatClampNeg = z104 then S_X4_addDigits u135 u138 else S_X4_subtractDigits u135 u138)) ∧ (∀ z150 : Bool × (Nat → Int32), z150 = Z_X4_add_J_151 vms p0 z104 u135 u138 n140 → (S_X4_trim z150.2) ∧ (∀ u153 : Int32, u153 = F_X4_trim z150.2 → (∀ z162 : Bool, z162 = Z_X4_add_J_163 vmo vms p0 z104 z150 u153 → S_X4_fit vmo vrs z130 false z150.2 z162 z130))))))))))
def rm_X4_add : Room := { frames := 3, cells := 0, slots := 0, locals := 85 }
set_option maxHeartbeats 4000000 in
set_option maxRecDepth 100000 in
theorem c_X4_add (l : Launch) (D : va_G) (cR cI cJ cZ : ClassId) (t0 : Nat) (am ak an ac ae ag aq : Nat) (vth : Int32) (vmo : Int32) (vfg : Int32) (vtp : Int32) (vkd : Int32) (vng : Bool) (vcc : Int64) (vqq : Int32) (vrs : Int32) (vct : Int32) (vun : Int32) (vre : Bool) (vks : Nat → Int32) (vms : Nat → Bool) (vcs : Nat → Int64) (ves : Nat → Int32) (vdg : Nat → Int32) (vog : Nat → Int32) (p0 : Int32) (p1 : Int32) (p2 : Bool) (u : Int32 × Bool × Int64 × Int32 × Int32 × Int32 × Int32 × Bool × (Nat → Int32) × (Nat → Int32)) (hu : u = F_X4_add vmo vrs vct vun vre vks vms vcs ves vdg vog p0 p1 p2) (hs : S_X4_add vmo vrs vct vun vre vks vms vcs ves vdg vog p0 p1 p2) : XM l D (xty cR cI cJ cZ) t0 yX4_add cX4_add 6 none rm_X4_add [.ref am, .int p0, .int p1, .int (bI p2)] none (mw cI cJ cZ am ak an ac ae ag aq vth vmo vfg vtp vkd vng vcc vqq vrs vct vun vre vks vms vcs ves vdg vog) (mw cI cJ cZ am ak an ac ae ag aq vth vmo vfg vtp u.1 u.2.1 u.2.2.1 u.2.2.2.1 u.2.2.2.2.1 u.2.2.2.2.2.1 u.2.2.2.2.2.2.1 u.2.2.2.2.2.2.2.1 vks vms vcs ves u.2.2.2.2.2.2.2.2.1 u.2.2.2.2.2.2.2.2.2) := by
  refine XM.of (by decide) (Nat.le_of_ble_eq_true rfl) ?_
  intro p e s m args below meth c A Q F hK hP hD hA hSt hS hQ ls hl
  obtain ⟨hx, hb, hr, hts, hown, hlocks, hml⟩ := F
  have hCF : CallFix p m c cX4_add 6 s args gW RX4 := ⟨hx, hb, hml, hown, hts⟩
  unfold S_X4_add at hs
  have hu := rF_X4_add vmo vrs vct vun vre vks vms vcs ves vdg vog p0 p1 p2 hu
  unfold RF_X4_add at hu
  obtain ⟨H, eH⟩ : ∃ y9 : Heap, y9 = s.heap := ⟨_, rfl⟩
  obtain ⟨locs, eL⟩ : ∃ y9 : List Loc, y9 = [] := ⟨_, rfl⟩
  rw [← eL] at hS ⊢
  have hP : va_P D vwCl (mw cI cJ cZ am ak an ac ae ag aq vth vmo vfg vtp vkd vng vcc vqq vrs vct vun vre vks vms vcs ves vdg vog) H := by rw [eH]; exact hP
  have hS : va_S A s.heap H locs := by rw [eH]; exact hS
  suffices goal9 : W p l e rm_X4_add s m args below meth c H locs 0 0 Q (F0 m 0 ls []) from by rw [← eH]; exact goal9
  have hl : lv_has ls 6 [(0, .ref am), (1, .int p0), (2, .int p1), (3, .int (bI p2))] := hl
  have hi4 : ∀ w ∈ wsX40, w ∈ gW := inW_X4
  refine lv_aload_n hx hb dX4_add_0 rfl (lv_at hl 0 rfl) ?_
  refine va_get (D := D) (ci := 5) (v := .ref an) (C := RX4) (T := TX4) (N := 18) hx hb hts hi4 hown hK hP 0 rfl rfl 2 (by decide) (hts (.fieldLink RX4 13 "DecimalWordsModel" "minus" "[Z") (inW_8 _ (List.mem_of_getElem? (i := 31) rfl))) (fun _ h9 => h9) rfl dX4_add_1 ?_
  refine lv_iload_n hx hb dX4_add_4 rfl (lv_at hl 2 rfl) ?_
  obtain ⟨h_101, hs⟩ := hs
  refine va_zald hx hb hK hP 2 3 rfl rfl h_101 dX4_add_5 ?_
  refine lv_iload_n hx hb dX4_add_6 rfl (lv_at hl 3 rfl) ?_
  have J_105 : (∀ z104 : Bool, z104 = Z_X4_add_J_105 vms p1 p2 → ∀ (H : Heap) (locs : List Loc), va_P D vwCl (mw cI cJ cZ am ak an ac ae ag aq vth vmo vfg vtp vkd vng vcc vqq vrs vct vun vre vks vms vcs ves vdg vog) H → va_D A (mw cI cJ cZ am ak an ac ae ag aq vth vmo vfg vtp vkd vng vcc vqq vrs vct vun vre vks vms vcs ves vdg vog) → va_S A s.heap H locs → ∀ ls : Array Slot, lv_has ls 6 [(0, .ref am), (1, .int p0), (2, .int p1)] → W p l e rm_X4_add s m args below meth c H locs 0 0 Q (F0 m 15 ls [.int (bI z104)])) := by
    intro z104 ez104 H locs hP hD hS ls hl
    have hs := hs _ ez104
    have hu := hu _ ez104
    refine lv_istore (lv' := [(4, .int (bI z104)), (0, .ref am), (1, .int p0), (2, .int p1)]) hx hb dX4_add_15 hl (by decide) rfl (fun ls hl => ?_)
    refine lv_aload_n hx hb dX4_add_17 rfl (lv_at hl 1 rfl) ?_
    refine lv_iload_n hx hb dX4_add_18 rfl (lv_at hl 2 rfl) ?_
    refine lv_iconst (v := 1) hx hb dX4_add_19 (by decide) ?_
    obtain ⟨h_106, hs⟩ := hs
    refine x_V (As := [.int p0, .int 1]) (rest := []) hCF (c_X4_is l D cR cI cJ cZ t0 am ak an ac ae ag aq vth vmo vfg vtp vkd vng vcc vqq vrs vct vun vre vks vms vcs ves vdg vog p0 (1 : Int32) _ rfl h_106) (x_cwV 2 hts (inW_10 _ (List.mem_of_getElem? (i := 18) rfl)) (inW_10 _ (List.mem_of_getElem? (i := 19) rfl)) (inW_10 _ (List.mem_of_getElem? (i := 20) rfl)) (inW_9 _ (List.mem_of_getElem? (i := 5) rfl)) (inW_10 _ (List.mem_of_getElem? (i := 10) rfl)) rfl rfl (by decide +kernel) ⟨Nat.le_of_ble_eq_true rfl, Nat.le_of_ble_eq_true rfl⟩) hK hP hD hS hA hSt 0 rfl rfl rfl hl.1 rfl (Nat.le_of_ble_eq_true rfl) dX4_add_20 ⟨Nat.le_of_ble_eq_true rfl, Nat.le_of_ble_eq_true rfl⟩ (fun H locs hP hD hS => ?_)
    show W p l e _ s m args below meth c H locs 0 0 Q (F0 m 23 ls (.int (bI (F_X4_is vks p0 (1 : Int32))) :: []))
    refine xb_ne (tgt := 35) hx hb dX4_add_23 (by decide) (fun c_108 => ?_) (fun c_108 => ?_)
    · rw [if_pos c_108] at hs
      rw [if_pos c_108] at hu
      refine lv_aload_n hx hb dX4_add_35 rfl (lv_at hl 1 rfl) ?_
      refine lv_iload_n hx hb dX4_add_36 rfl (lv_at hl 2 rfl) ?_
      refine lv_iconst (v := 1) hx hb dX4_add_37 (by decide) ?_
      refine x_V (As := [.int p0, .int 1]) (rest := []) hCF (c_X4_is l D cR cI cJ cZ t0 am ak an ac ae ag aq vth vmo vfg vtp vkd vng vcc vqq vrs vct vun vre vks vms vcs ves vdg vog p0 (1 : Int32) _ rfl h_106) (x_cwV 2 hts (inW_10 _ (List.mem_of_getElem? (i := 18) rfl)) (inW_10 _ (List.mem_of_getElem? (i := 19) rfl)) (inW_10 _ (List.mem_of_getElem? (i := 20) rfl)) (inW_9 _ (List.mem_of_getElem? (i := 5) rfl)) (inW_10 _ (List.mem_of_getElem? (i := 10) rfl)) rfl rfl (by decide +kernel) ⟨Nat.le_of_ble_eq_true rfl, Nat.le_of_ble_eq_true rfl⟩) hK hP hD hS hA hSt 0 rfl rfl rfl hl.1 rfl (Nat.le_of_ble_eq_true rfl) dX4_add_38 ⟨Nat.le_of_ble_eq_true rfl, Nat.le_of_ble_eq_true rfl⟩ (fun H locs hP hD hS => ?_)
      show W p l e _ s m args below meth c H locs 0 0 Q (F0 m 41 ls (.int (bI (F_X4_is vks p0 (1 : Int32))) :: []))
      refine xb_eq (tgt := 71) hx hb dX4_add_41 (by decide) (fun c9 => absurd c_108 c9) (fun _ => ?_)
      refine lv_aload_n hx hb dX4_add_44 rfl (lv_at hl 1 rfl) ?_
      refine lv_iload_n hx hb dX4_add_45 rfl (lv_at hl 3 rfl) ?_
      refine lv_iconst (v := 1) hx hb dX4_add_46 (by decide) ?_
      obtain ⟨h_110, hs⟩ := hs
      refine x_V (As := [.int p1, .int 1]) (rest := []) hCF (c_X4_is l D cR cI cJ cZ t0 am ak an ac ae ag aq vth vmo vfg vtp vkd vng vcc vqq vrs vct vun vre vks vms vcs ves vdg vog p1 (1 : Int32) _ rfl h_110) (x_cwV 2 hts (inW_10 _ (List.mem_of_getElem? (i := 18) rfl)) (inW_10 _ (List.mem_of_getElem? (i := 19) rfl)) (inW_10 _ (List.mem_of_getElem? (i := 20) rfl)) (inW_9 _ (List.mem_of_getElem? (i := 5) rfl)) (inW_10 _ (List.mem_of_getElem? (i := 10) rfl)) rfl rfl (by decide +kernel) ⟨Nat.le_of_ble_eq_true rfl, Nat.le_of_ble_eq_true rfl⟩) hK hP hD hS hA hSt 0 rfl rfl rfl hl.1 rfl (Nat.le_of_ble_eq_true rfl) dX4_add_47 ⟨Nat.le_of_ble_eq_true rfl, Nat.le_of_ble_eq_true rfl⟩ (fun H locs hP hD hS => ?_)
      show W p l e _ s m args below meth c H locs 0 0 Q (F0 m 50 ls (.int (bI (F_X4_is vks p1 (1 : Int32))) :: []))
      refine xb_eq (tgt := 71) hx hb dX4_add_50 (by decide) (fun c_112 => ?_) (fun c_112 => ?_)
      · rw [if_neg c_112] at hs
        rw [if_neg c_112] at hu
        refine lv_aload_n hx hb dX4_add_71 rfl (lv_at hl 1 rfl) ?_
        refine lv_iconst (v := 1) hx hb dX4_add_72 (by decide) ?_
        refine lv_aload_n hx hb dX4_add_73 rfl (lv_at hl 1 rfl) ?_
        refine lv_iload_n hx hb dX4_add_74 rfl (lv_at hl 2 rfl) ?_
        refine lv_iconst (v := 1) hx hb dX4_add_75 (by decide) ?_
        refine x_V (As := [.int p0, .int 1]) (rest := [.int 1, .ref am]) hCF (c_X4_is l D cR cI cJ cZ t0 am ak an ac ae ag aq vth vmo vfg vtp vkd vng vcc vqq vrs vct vun vre vks vms vcs ves vdg vog p0 (1 : Int32) _ rfl h_106) (x_cwV 2 hts (inW_10 _ (List.mem_of_getElem? (i := 18) rfl)) (inW_10 _ (List.mem_of_getElem? (i := 19) rfl)) (inW_10 _ (List.mem_of_getElem? (i := 20) rfl)) (inW_9 _ (List.mem_of_getElem? (i := 5) rfl)) (inW_10 _ (List.mem_of_getElem? (i := 10) rfl)) rfl rfl (by decide +kernel) ⟨Nat.le_of_ble_eq_true rfl, Nat.le_of_ble_eq_true rfl⟩) hK hP hD hS hA hSt 0 rfl rfl rfl hl.1 rfl (Nat.le_of_ble_eq_true rfl) dX4_add_76 ⟨Nat.le_of_ble_eq_true rfl, Nat.le_of_ble_eq_true rfl⟩ (fun H locs hP hD hS => ?_)
        show W p l e _ s m args below meth c H locs 0 0 Q (F0 m 79 ls (.int (bI (F_X4_is vks p0 (1 : Int32))) :: [.int 1, .ref am]))
        refine xb_eq (tgt := 91) hx hb dX4_add_79 (by decide) (fun c9 => absurd c_108 c9) (fun _ => ?_)
        refine lv_aload_n hx hb dX4_add_82 rfl (lv_at hl 1 rfl) ?_
        refine va_get (D := D) (ci := 5) (v := .ref an) (C := RX4) (T := TX4) (N := 18) hx hb hts hi4 hown hK hP 0 rfl rfl 2 (by decide) (hts (.fieldLink RX4 13 "DecimalWordsModel" "minus" "[Z") (inW_8 _ (List.mem_of_getElem? (i := 31) rfl))) (fun _ h9 => h9) rfl dX4_add_83 ?_
        refine lv_iload_n hx hb dX4_add_86 rfl (lv_at hl 2 rfl) ?_
        have h_114 := hs
        refine va_zald hx hb hK hP 2 3 rfl rfl h_114 dX4_add_87 ?_
        refine lv_goto (tgt := 93) hx hb dX4_add_88 (by decide) ?_
        refine lv_lconst (v := 0) hx hb dX4_add_93 (by decide) ?_
        refine lv_iconst (v := 0) hx hb dX4_add_94 (by decide) ?_
        obtain ⟨u115, eu115⟩ : ∃ y9 : Int32 × Bool × Int64 × Int32, y9 = F_X4_be (1 : Int32) (vms p0.toNatClampNeg) (0 : Int64) (0 : Int32) := ⟨_, rfl⟩
        have hu := hu _ eu115
        refine x_V (As := [.int 1, .int (bI (vms p0.toNatClampNeg)), .long 0, .int 0]) (rest := []) hCF (c_X4_be l D cR cI cJ cZ t0 am ak an ac ae ag aq vth vmo vfg vtp vkd vng vcc vqq vrs vct vun vre vks vms vcs ves vdg vog (1 : Int32) (vms p0.toNatClampNeg) (0 : Int64) (0 : Int32) u115 eu115) (x_cwV 4 hts (inW_9 _ (List.mem_of_getElem? (i := 18) rfl)) (inW_9 _ (List.mem_of_getElem? (i := 19) rfl)) (inW_9 _ (List.mem_of_getElem? (i := 20) rfl)) (inW_9 _ (List.mem_of_getElem? (i := 5) rfl)) (inW_9 _ (List.mem_of_getElem? (i := 11) rfl)) rfl rfl (by decide +kernel) ⟨Nat.le_of_ble_eq_true rfl, Nat.le_of_ble_eq_true rfl⟩) hK hP hD hS hA hSt 0 rfl rfl rfl hl.1 rfl (Nat.le_of_ble_eq_true rfl) dX4_add_95 ⟨Nat.le_of_ble_eq_true rfl, Nat.le_of_ble_eq_true rfl⟩ (fun H locs hP hD hS => ?_)
        show W p l e _ s m args below meth c H locs 0 0 Q (F0 m 98 ls [])
        have e9 := Eq.symm hu; subst e9
        exact x_vret hx hb hr hlocks hQ hK hP hD hS rfl dX4_add_98
      · rw [if_pos c_112] at hs
        rw [if_pos c_112] at hu
        refine lv_aload_n hx hb dX4_add_53 rfl (lv_at hl 1 rfl) ?_
        refine va_get (D := D) (ci := 5) (v := .ref an) (C := RX4) (T := TX4) (N := 18) hx hb hts hi4 hown hK hP 0 rfl rfl 2 (by decide) (hts (.fieldLink RX4 13 "DecimalWordsModel" "minus" "[Z") (inW_8 _ (List.mem_of_getElem? (i := 31) rfl))) (fun _ h9 => h9) rfl dX4_add_54 ?_
        refine lv_iload_n hx hb dX4_add_57 rfl (lv_at hl 2 rfl) ?_
        have h_117 := hs
        refine va_zald hx hb hK hP 2 3 rfl rfl h_117 dX4_add_58 ?_
        refine lv_iload hx hb dX4_add_59 (lv_at hl 0 rfl) ?_
        refine xbb_eq (tgt := 71) hx hb dX4_add_61 (by decide) (fun c_118 => ?_) (fun c_118 => ?_)
        · rw [if_pos c_118] at hu
          refine lv_aload_n hx hb dX4_add_71 rfl (lv_at hl 1 rfl) ?_
          refine lv_iconst (v := 1) hx hb dX4_add_72 (by decide) ?_
          refine lv_aload_n hx hb dX4_add_73 rfl (lv_at hl 1 rfl) ?_
          refine lv_iload_n hx hb dX4_add_74 rfl (lv_at hl 2 rfl) ?_
          refine lv_iconst (v := 1) hx hb dX4_add_75 (by decide) ?_
          refine x_V (As := [.int p0, .int 1]) (rest := [.int 1, .ref am]) hCF (c_X4_is l D cR cI cJ cZ t0 am ak an ac ae ag aq vth vmo vfg vtp vkd vng vcc vqq vrs vct vun vre vks vms vcs ves vdg vog p0 (1 : Int32) _ rfl h_106) (x_cwV 2 hts (inW_10 _ (List.mem_of_getElem? (i := 18) rfl)) (inW_10 _ (List.mem_of_getElem? (i := 19) rfl)) (inW_10 _ (List.mem_of_getElem? (i := 20) rfl)) (inW_9 _ (List.mem_of_getElem? (i := 5) rfl)) (inW_10 _ (List.mem_of_getElem? (i := 10) rfl)) rfl rfl (by decide +kernel) ⟨Nat.le_of_ble_eq_true rfl, Nat.le_of_ble_eq_true rfl⟩) hK hP hD hS hA hSt 0 rfl rfl rfl hl.1 rfl (Nat.le_of_ble_eq_true rfl) dX4_add_76 ⟨Nat.le_of_ble_eq_true rfl, Nat.le_of_ble_eq_true rfl⟩ (fun H locs hP hD hS => ?_)
          show W p l e _ s m args below meth c H locs 0 0 Q (F0 m 79 ls (.int (bI (F_X4_is vks p0 (1 : Int32))) :: [.int 1, .ref am]))
          refine xb_eq (tgt := 91) hx hb dX4_add_79 (by decide) (fun c9 => absurd c_108 c9) (fun _ => ?_)
          refine lv_aload_n hx hb dX4_add_82 rfl (lv_at hl 1 rfl) ?_
          refine va_get (D := D) (ci := 5) (v := .ref an) (C := RX4) (T := TX4) (N := 18) hx hb hts hi4 hown hK hP 0 rfl rfl 2 (by decide) (hts (.fieldLink RX4 13 "DecimalWordsModel" "minus" "[Z") (inW_8 _ (List.mem_of_getElem? (i := 31) rfl))) (fun _ h9 => h9) rfl dX4_add_83 ?_
          refine lv_iload_n hx hb dX4_add_86 rfl (lv_at hl 2 rfl) ?_
          refine va_zald hx hb hK hP 2 3 rfl rfl h_117 dX4_add_87 ?_
          refine lv_goto (tgt := 93) hx hb dX4_add_88 (by decide) ?_
          refine lv_lconst (v := 0) hx hb dX4_add_93 (by decide) ?_
          refine lv_iconst (v := 0) hx hb dX4_add_94 (by decide) ?_
          obtain ⟨u120, eu120⟩ : ∃ y9 : Int32 × Bool × Int64 × Int32, y9 = F_X4_be (1 : Int32) (vms p0.toNatClampNeg) (0 : Int64) (0 : Int32) := ⟨_, rfl⟩
          have hu := hu _ eu120
          refine x_V (As := [.int 1, .int (bI (vms p0.toNatClampNeg)), .long 0, .int 0]) (rest := []) hCF (c_X4_be l D cR cI cJ cZ t0 am ak an ac ae ag aq vth vmo vfg vtp vkd vng vcc vqq vrs vct vun vre vks vms vcs ves vdg vog (1 : Int32) (vms p0.toNatClampNeg) (0 : Int64) (0 : Int32) u120 eu120) (x_cwV 4 hts (inW_9 _ (List.mem_of_getElem? (i := 18) rfl)) (inW_9 _ (List.mem_of_getElem? (i := 19) rfl)) (inW_9 _ (List.mem_of_getElem? (i := 20) rfl)) (inW_9 _ (List.mem_of_getElem? (i := 5) rfl)) (inW_9 _ (List.mem_of_getElem? (i := 11) rfl)) rfl rfl (by decide +kernel) ⟨Nat.le_of_ble_eq_true rfl, Nat.le_of_ble_eq_true rfl⟩) hK hP hD hS hA hSt 0 rfl rfl rfl hl.1 rfl (Nat.le_of_ble_eq_true rfl) dX4_add_95 ⟨Nat.le_of_ble_eq_true rfl, Nat.le_of_ble_eq_true rfl⟩ (fun H locs hP hD hS => ?_)
          show W p l e _ s m args below meth c H locs 0 0 Q (F0 m 98 ls [])
          have e9 := Eq.symm hu; subst e9
          exact x_vret hx hb hr hlocks hQ hK hP hD hS rfl dX4_add_98
        · rw [if_neg c_118] at hu
          refine lv_aload_n hx hb dX4_add_64 rfl (lv_at hl 1 rfl) ?_
          obtain ⟨u122, eu122⟩ : ∃ y9 : Int32 × Bool × Int64 × Int32 × Int32, y9 = F_X4_invalid vrs := ⟨_, rfl⟩
          have hu := hu _ eu122
          refine x_V (As := []) (rest := []) hCF (c_X4_invalid l D cR cI cJ cZ t0 am ak an ac ae ag aq vth vmo vfg vtp vkd vng vcc vqq vrs vct vun vre vks vms vcs ves vdg vog u122 eu122) (x_cwV 0 hts (inW_10 _ (List.mem_of_getElem? (i := 21) rfl)) (inW_10 _ (List.mem_of_getElem? (i := 22) rfl)) (inW_10 _ (List.mem_of_getElem? (i := 23) rfl)) (inW_9 _ (List.mem_of_getElem? (i := 5) rfl)) (inW_9 _ (List.mem_of_getElem? (i := 16) rfl)) rfl rfl (by decide +kernel) ⟨Nat.le_of_ble_eq_true rfl, Nat.le_of_ble_eq_true rfl⟩) hK hP hD hS hA hSt 0 rfl rfl rfl hl.1 rfl (Nat.le_of_ble_eq_true rfl) dX4_add_65 ⟨Nat.le_of_ble_eq_true rfl, Nat.le_of_ble_eq_true rfl⟩ (fun H locs hP hD hS => ?_)
          show W p l e _ s m args below meth c H locs 0 0 Q (F0 m 68 ls [])
          refine lv_goto (tgt := 98) hx hb dX4_add_68 (by decide) ?_
          have e9 := Eq.symm hu; subst e9
          exact x_vret hx hb hr hlocks hQ hK hP hD hS rfl dX4_add_98
    · rw [if_neg c_108] at hs
      rw [if_neg c_108] at hu
      refine lv_aload_n hx hb dX4_add_26 rfl (lv_at hl 1 rfl) ?_
      refine lv_iload_n hx hb dX4_add_27 rfl (lv_at hl 3 rfl) ?_
      refine lv_iconst (v := 1) hx hb dX4_add_28 (by decide) ?_
      obtain ⟨h_124, hs⟩ := hs
      refine x_V (As := [.int p1, .int 1]) (rest := []) hCF (c_X4_is l D cR cI cJ cZ t0 am ak an ac ae ag aq vth vmo vfg vtp vkd vng vcc vqq vrs vct vun vre vks vms vcs ves vdg vog p1 (1 : Int32) _ rfl h_124) (x_cwV 2 hts (inW_10 _ (List.mem_of_getElem? (i := 18) rfl)) (inW_10 _ (List.mem_of_getElem? (i := 19) rfl)) (inW_10 _ (List.mem_of_getElem? (i := 20) rfl)) (inW_9 _ (List.mem_of_getElem? (i := 5) rfl)) (inW_10 _ (List.mem_of_getElem? (i := 10) rfl)) rfl rfl (by decide +kernel) ⟨Nat.le_of_ble_eq_true rfl, Nat.le_of_ble_eq_true rfl⟩) hK hP hD hS hA hSt 0 rfl rfl rfl hl.1 rfl (Nat.le_of_ble_eq_true rfl) dX4_add_29 ⟨Nat.le_of_ble_eq_true rfl, Nat.le_of_ble_eq_true rfl⟩ (fun H locs hP hD hS => ?_)
      show W p l e _ s m args below meth c H locs 0 0 Q (F0 m 32 ls (.int (bI (F_X4_is vks p1 (1 : Int32))) :: []))
      refine xb_eq (tgt := 99) hx hb dX4_add_32 (by decide) (fun c_126 => ?_) (fun c_126 => ?_)
      · rw [if_neg c_126] at hs
        rw [if_neg c_126] at hu
        refine lv_aload_n hx hb dX4_add_99 rfl (lv_at hl 1 rfl) ?_
        refine lv_aload_n hx hb dX4_add_100 rfl (lv_at hl 1 rfl) ?_
        refine va_get (D := D) (ci := 5) (v := .ref ae) (C := RX4) (T := TX4) (N := 18) hx hb hts hi4 hown hK hP 0 rfl rfl 4 (by decide) (hts (.fieldLink RX4 21 "DecimalWordsModel" "exponents" "[I") (inW_8 _ (List.mem_of_getElem? (i := 34) rfl))) (fun _ h9 => h9) rfl dX4_add_101 ?_
        refine lv_iload_n hx hb dX4_add_104 rfl (lv_at hl 2 rfl) ?_
        obtain ⟨h_127, hs⟩ := hs
        refine va_iald hx hb hK hP 4 1 rfl rfl h_127 dX4_add_105 ?_
        refine lv_aload_n hx hb dX4_add_106 rfl (lv_at hl 1 rfl) ?_
        refine va_get (D := D) (ci := 5) (v := .ref ae) (C := RX4) (T := TX4) (N := 18) hx hb hts hi4 hown hK hP 0 rfl rfl 4 (by decide) (hts (.fieldLink RX4 21 "DecimalWordsModel" "exponents" "[I") (inW_8 _ (List.mem_of_getElem? (i := 34) rfl))) (fun _ h9 => h9) rfl dX4_add_107 ?_
        refine lv_iload_n hx hb dX4_add_110 rfl (lv_at hl 3 rfl) ?_
        refine va_iald hx hb hK hP 4 1 rfl rfl h_101 dX4_add_111 ?_
        have J_131 : (∀ z130 : Int32, z130 = Z_X4_add_J_131 ves p0 p1 → ∀ (H : Heap) (locs : List Loc), va_P D vwCl (mw cI cJ cZ am ak an ac ae ag aq vth vmo vfg vtp vkd vng vcc vqq vrs vct vun vre vks vms vcs ves vdg vog) H → va_D A (mw cI cJ cZ am ak an ac ae ag aq vth vmo vfg vtp vkd vng vcc vqq vrs vct vun vre vks vms vcs ves vdg vog) → va_S A s.heap H locs → ∀ ls : Array Slot, lv_has ls 6 [(0, .ref am), (1, .int p0), (2, .int p1), (4, .int (bI z104))] → W p l e rm_X4_add s m args below meth c H locs 0 0 Q (F0 m 130 ls [.int z130, .ref am])) := by
          intro z130 ez130 H locs hP hD hS ls hl
          have hs := hs _ ez130
          have hu := hu _ ez130
          refine va_put (D := D) (ci := 5) (v := .int z130) (ty := .int) (C := RX4) (T := TX4) (N := 18) hx hb hts hi4 tyX4 tyX4_ok nmX4 hown hK hP hD hS 0 rfl rfl 16 (by decide) (hts (.fieldLink RX4 86 "DecimalWordsModel" "unit" "I") (inW_9 _ (List.mem_of_getElem? (i := 33) rfl))) (fun _ h9 => h9) rfl (by decide +kernel) rfl rfl (Nat.le_of_ble_eq_true rfl) dX4_add_130 (fun H locs hP hD hS => ?_)
          have hP : va_P D vwCl (mw cI cJ cZ am ak an ac ae ag aq vth vmo vfg vtp vkd vng vcc vqq vrs vct z130 vre vks vms vcs ves vdg vog) H := hP
          have hD : va_D A (mw cI cJ cZ am ak an ac ae ag aq vth vmo vfg vtp vkd vng vcc vqq vrs vct z130 vre vks vms vcs ves vdg vog) := hD
          refine lv_aload_n hx hb dX4_add_133 rfl (lv_at hl 0 rfl) ?_
          refine lv_iconst (v := 0) hx hb dX4_add_134 (by decide) ?_
          refine va_put (D := D) (ci := 5) (v := .int (bI false)) (ty := .boolean) (C := RX4) (T := TX4) (N := 18) hx hb hts hi4 tyX4 tyX4_ok nmX4 hown hK hP hD hS 0 rfl rfl 17 (by decide) (hts (.fieldLink RX4 71 "DecimalWordsModel" "rest" "Z") (inW_9 _ (List.mem_of_getElem? (i := 23) rfl))) (fun _ h9 => h9) rfl (by decide +kernel) (bI_nar false) (bI_fit false) (Nat.le_of_ble_eq_true rfl) dX4_add_135 (fun H locs hP hD hS => ?_)
          have hP : va_P D vwCl (mw cI cJ cZ am ak an ac ae ag aq vth vmo vfg vtp vkd vng vcc vqq vrs vct z130 false vks vms vcs ves vdg vog) H := hP
          have hD : va_D A (mw cI cJ cZ am ak an ac ae ag aq vth vmo vfg vtp vkd vng vcc vqq vrs vct z130 false vks vms vcs ves vdg vog) := hD
          refine lv_aload_n hx hb dX4_add_138 rfl (lv_at hl 0 rfl) ?_
          refine lv_aload_n hx hb dX4_add_139 rfl (lv_at hl 0 rfl) ?_
          refine va_get (D := D) (ci := 5) (v := .ref ac) (C := RX4) (T := TX4) (N := 18) hx hb hts hi4 hown hK hP 0 rfl rfl 3 (by decide) (hts (.fieldLink RX4 17 "DecimalWordsModel" "coefficients" "[J") (inW_8 _ (List.mem_of_getElem? (i := 33) rfl))) (fun _ h9 => h9) rfl dX4_add_140 ?_
          refine lv_iload_n hx hb dX4_add_143 rfl (lv_at hl 1 rfl) ?_
          refine va_lald hx hb hK hP 3 2 rfl rfl h_127 dX4_add_144 ?_
          refine lv_aload_n hx hb dX4_add_145 rfl (lv_at hl 0 rfl) ?_
          refine va_get (D := D) (ci := 5) (v := .ref ae) (C := RX4) (T := TX4) (N := 18) hx hb hts hi4 hown hK hP 0 rfl rfl 4 (by decide) (hts (.fieldLink RX4 21 "DecimalWordsModel" "exponents" "[I") (inW_8 _ (List.mem_of_getElem? (i := 34) rfl))) (fun _ h9 => h9) rfl dX4_add_146 ?_
          refine lv_iload_n hx hb dX4_add_149 rfl (lv_at hl 1 rfl) ?_
          refine va_iald hx hb hK hP 4 1 rfl rfl h_127 dX4_add_150 ?_
          refine lv_aload_n hx hb dX4_add_151 rfl (lv_at hl 0 rfl) ?_
          refine va_get (D := D) (ci := 5) (v := .int z130) (C := RX4) (T := TX4) (N := 18) hx hb hts hi4 hown hK hP 0 rfl rfl 16 (by decide) (hts (.fieldLink RX4 86 "DecimalWordsModel" "unit" "I") (inW_9 _ (List.mem_of_getElem? (i := 33) rfl))) (fun _ h9 => h9) rfl dX4_add_152 ?_
          refine lv_isub hx hb dX4_add_155 ?_
          obtain ⟨h_134, hs⟩ := hs
          obtain ⟨u135, eu135⟩ : ∃ y9 : (Nat → Int32), y9 = F_X4_lay vdg (vcs p0.toNatClampNeg) ((ves p0.toNatClampNeg) - z130) := ⟨_, rfl⟩
          have hs := hs _ eu135
          have hu := hu _ eu135
          refine x_V (As := [.long (vcs p0.toNatClampNeg), .int ((ves p0.toNatClampNeg) - z130)]) (rest := []) hCF (c_X4_lay l D cR cI cJ cZ t0 am ak an ac ae ag aq vth vmo vfg vtp vkd vng vcc vqq vrs vct z130 false vks vms vcs ves vdg vog (vcs p0.toNatClampNeg) ((ves p0.toNatClampNeg) - z130) u135 eu135 h_134) (x_cwV 2 hts (inW_10 _ (List.mem_of_getElem? (i := 24) rfl)) (inW_10 _ (List.mem_of_getElem? (i := 25) rfl)) (inW_10 _ (List.mem_of_getElem? (i := 26) rfl)) (inW_9 _ (List.mem_of_getElem? (i := 5) rfl)) (inW_9 _ (List.mem_of_getElem? (i := 0) rfl)) rfl rfl (by decide +kernel) ⟨Nat.le_of_ble_eq_true rfl, Nat.le_of_ble_eq_true rfl⟩) hK hP hD hS hA hSt 0 rfl rfl rfl hl.1 rfl (Nat.le_of_ble_eq_true rfl) dX4_add_156 ⟨Nat.le_of_ble_eq_true rfl, Nat.le_of_ble_eq_true rfl⟩ (fun H locs hP hD hS => ?_)
          show W p l e _ s m args below meth c H locs 0 0 Q (F0 m 159 ls [])
          refine lv_aload_n hx hb dX4_add_159 rfl (lv_at hl 0 rfl) ?_
          refine lv_aload_n hx hb dX4_add_160 rfl (lv_at hl 0 rfl) ?_
          refine va_get (D := D) (ci := 5) (v := .ref ac) (C := RX4) (T := TX4) (N := 18) hx hb hts hi4 hown hK hP 0 rfl rfl 3 (by decide) (hts (.fieldLink RX4 17 "DecimalWordsModel" "coefficients" "[J") (inW_8 _ (List.mem_of_getElem? (i := 33) rfl))) (fun _ h9 => h9) rfl dX4_add_161 ?_
          refine lv_iload_n hx hb dX4_add_164 rfl (lv_at hl 2 rfl) ?_
          refine va_lald hx hb hK hP 3 2 rfl rfl h_101 dX4_add_165 ?_
          refine lv_aload_n hx hb dX4_add_166 rfl (lv_at hl 0 rfl) ?_
          refine va_get (D := D) (ci := 5) (v := .ref ae) (C := RX4) (T := TX4) (N := 18) hx hb hts hi4 hown hK hP 0 rfl rfl 4 (by decide) (hts (.fieldLink RX4 21 "DecimalWordsModel" "exponents" "[I") (inW_8 _ (List.mem_of_getElem? (i := 34) rfl))) (fun _ h9 => h9) rfl dX4_add_167 ?_
          refine lv_iload_n hx hb dX4_add_170 rfl (lv_at hl 2 rfl) ?_
          refine va_iald hx hb hK hP 4 1 rfl rfl h_101 dX4_add_171 ?_
          refine lv_aload_n hx hb dX4_add_172 rfl (lv_at hl 0 rfl) ?_
          refine va_get (D := D) (ci := 5) (v := .int z130) (C := RX4) (T := TX4) (N := 18) hx hb hts hi4 hown hK hP 0 rfl rfl 16 (by decide) (hts (.fieldLink RX4 86 "DecimalWordsModel" "unit" "I") (inW_9 _ (List.mem_of_getElem? (i := 33) rfl))) (fun _ h9 => h9) rfl dX4_add_173 ?_
          refine lv_isub hx hb dX4_add_176 ?_
          obtain ⟨h_137, hs⟩ := hs
          obtain ⟨u138, eu138⟩ : ∃ y9 : (Nat → Int32), y9 = F_X4_layOther vog (vcs p1.toNatClampNeg) ((ves p1.toNatClampNeg) - z130) := ⟨_, rfl⟩
          have hs := hs _ eu138
          have hu := hu _ eu138
          refine x_V (As := [.long (vcs p1.toNatClampNeg), .int ((ves p1.toNatClampNeg) - z130)]) (rest := []) hCF (c_X4_layOther l D cR cI cJ cZ t0 am ak an ac ae ag aq vth vmo vfg vtp vkd vng vcc vqq vrs vct z130 false vks vms vcs ves u135 vog (vcs p1.toNatClampNeg) ((ves p1.toNatClampNeg) - z130) u138 eu138 h_137) (x_cwV 2 hts (inW_10 _ (List.mem_of_getElem? (i := 27) rfl)) (inW_10 _ (List.mem_of_getElem? (i := 28) rfl)) (inW_10 _ (List.mem_of_getElem? (i := 29) rfl)) (inW_9 _ (List.mem_of_getElem? (i := 5) rfl)) (inW_9 _ (List.mem_of_getElem? (i := 6) rfl)) rfl rfl (by decide +kernel) ⟨Nat.le_of_ble_eq_true rfl, Nat.le_of_ble_eq_true rfl⟩) hK hP hD hS hA hSt 0 rfl rfl rfl hl.1 rfl (Nat.le_of_ble_eq_true rfl) dX4_add_177 ⟨Nat.le_of_ble_eq_true rfl, Nat.le_of_ble_eq_true rfl⟩ (fun H locs hP hD hS => ?_)
          show W p l e _ s m args below meth c H locs 0 0 Q (F0 m 180 ls [])
          refine lv_aload_n hx hb dX4_add_180 rfl (lv_at hl 0 rfl) ?_
          refine va_get (D := D) (ci := 5) (v := .ref an) (C := RX4) (T := TX4) (N := 18) hx hb hts hi4 hown hK hP 0 rfl rfl 2 (by decide) (hts (.fieldLink RX4 13 "DecimalWordsModel" "minus" "[Z") (inW_8 _ (List.mem_of_getElem? (i := 31) rfl))) (fun _ h9 => h9) rfl dX4_add_181 ?_
          refine lv_iload_n hx hb dX4_add_184 rfl (lv_at hl 1 rfl) ?_
          refine va_zald hx hb hK hP 2 3 rfl rfl h_127 dX4_add_185 ?_
          refine x_topb (fun n140 en140 => ?_)
          have hs := hs _ en140
          have hu := hu _ en140
          refine lv_istore (lv' := [(5, .int (bI n140)), (0, .ref am), (1, .int p0), (2, .int p1), (4, .int (bI z104))]) hx hb dX4_add_186 hl (by decide) rfl (fun ls hl => ?_)
          refine lv_aload_n hx hb dX4_add_188 rfl (lv_at hl 1 rfl) ?_
          refine va_get (D := D) (ci := 5) (v := .ref an) (C := RX4) (T := TX4) (N := 18) hx hb hts hi4 hown hK hP 0 rfl rfl 2 (by decide) (hts (.fieldLink RX4 13 "DecimalWordsModel" "minus" "[Z") (inW_8 _ (List.mem_of_getElem? (i := 31) rfl))) (fun _ h9 => h9) rfl dX4_add_189 ?_
          refine lv_iload_n hx hb dX4_add_192 rfl (lv_at hl 2 rfl) ?_
          refine va_zald hx hb hK hP 2 3 rfl rfl h_127 dX4_add_193 ?_
          refine lv_iload hx hb dX4_add_194 (lv_at hl 4 rfl) ?_
          have J_151 : (∀ z150 : Bool × (Nat → Int32), z150 = Z_X4_add_J_151 vms p0 z104 u135 u138 n140 → ∀ (H : Heap) (locs : List Loc), va_P D vwCl (mw cI cJ cZ am ak an ac ae ag aq vth vmo vfg vtp vkd vng vcc vqq vrs vct z130 false vks vms vcs ves z150.2 u138) H → va_D A (mw cI cJ cZ am ak an ac ae ag aq vth vmo vfg vtp vkd vng vcc vqq vrs vct z130 false vks vms vcs ves z150.2 u138) → va_S A s.heap H locs → ∀ ls : Array Slot, lv_has ls 6 [(0, .ref am), (1, .int p0), (4, .int (bI z104)), (5, .int (bI z150.1))] → W p l e rm_X4_add s m args below meth c H locs 0 0 Q (F0 m 217 ls [])) := by
            intro z150 ez150 H locs hP hD hS ls hl
            have hs := hs.2
            have hs := hs _ ez150
            have hu := hu _ ez150
            refine lv_aload_n hx hb dX4_add_217 rfl (lv_at hl 0 rfl) ?_
            obtain ⟨h_152, hs⟩ := hs
            obtain ⟨u153, eu153⟩ : ∃ y9 : Int32, y9 = F_X4_trim z150.2 := ⟨_, rfl⟩
            have hs := hs _ eu153
            have hu := hu _ eu153
            refine x_V (As := []) (rest := []) hCF (c_X4_trim l D cR cI cJ cZ t0 am ak an ac ae ag aq vth vmo vfg vtp vkd vng vcc vqq vrs vct z130 false vks vms vcs ves z150.2 u138 u153 eu153 h_152) (x_cwV 0 hts (inW_9 _ (List.mem_of_getElem? (i := 36) rfl)) (inW_9 _ (List.mem_of_getElem? (i := 37) rfl)) (inW_9 _ (List.mem_of_getElem? (i := 38) rfl)) (inW_9 _ (List.mem_of_getElem? (i := 5) rfl)) (inW_9 _ (List.mem_of_getElem? (i := 7) rfl)) rfl rfl (by decide +kernel) ⟨Nat.le_of_ble_eq_true rfl, Nat.le_of_ble_eq_true rfl⟩) hK hP hD hS hA hSt 0 rfl rfl rfl hl.1 rfl (Nat.le_of_ble_eq_true rfl) dX4_add_218 ⟨Nat.le_of_ble_eq_true rfl, Nat.le_of_ble_eq_true rfl⟩ (fun H locs hP hD hS => ?_)
            show W p l e _ s m args below meth c H locs 0 0 Q (F0 m 221 ls [])
            refine lv_aload_n hx hb dX4_add_221 rfl (lv_at hl 0 rfl) ?_
            refine va_get (D := D) (ci := 5) (v := .int u153) (C := RX4) (T := TX4) (N := 18) hx hb hts hi4 hown hK hP 0 rfl rfl 13 (by decide) (hts (.fieldLink RX4 39 "DecimalWordsModel" "count" "I") (inW_9 _ (List.mem_of_getElem? (i := 8) rfl))) (fun _ h9 => h9) rfl dX4_add_222 ?_
            have J_163 : (∀ z162 : Bool, z162 = Z_X4_add_J_163 vmo vms p0 z104 z150 u153 → ∀ (H : Heap) (locs : List Loc), va_P D vwCl (mw cI cJ cZ am ak an ac ae ag aq vth vmo vfg vtp vkd vng vcc vqq vrs u153 z130 false vks vms vcs ves z150.2 u138) H → va_D A (mw cI cJ cZ am ak an ac ae ag aq vth vmo vfg vtp vkd vng vcc vqq vrs u153 z130 false vks vms vcs ves z150.2 u138) → va_S A s.heap H locs → ∀ ls : Array Slot, lv_has ls 6 [(0, .ref am), (5, .int (bI z162))] → W p l e rm_X4_add s m args below meth c H locs 0 0 Q (F0 m 263 ls [])) := by
              intro z162 ez162 H locs hP hD hS ls hl
              have hs := hs _ ez162
              have hu := hu _ ez162
              refine lv_aload_n hx hb dX4_add_263 rfl (lv_at hl 0 rfl) ?_
              refine lv_iload hx hb dX4_add_264 (lv_at hl 1 rfl) ?_
              refine lv_aload_n hx hb dX4_add_266 rfl (lv_at hl 0 rfl) ?_
              refine va_get (D := D) (ci := 5) (v := .int z130) (C := RX4) (T := TX4) (N := 18) hx hb hts hi4 hown hK hP 0 rfl rfl 16 (by decide) (hts (.fieldLink RX4 86 "DecimalWordsModel" "unit" "I") (inW_9 _ (List.mem_of_getElem? (i := 33) rfl))) (fun _ h9 => h9) rfl dX4_add_267 ?_
              have h_164 := hs
              obtain ⟨u165, eu165⟩ : ∃ y9 : Int32 × Bool × Int64 × Int32 × Int32 × Int32, y9 = F_X4_fit vmo vrs z130 false z150.2 z162 z130 := ⟨_, rfl⟩
              have hu := hu _ eu165
              refine x_V (As := [.int (bI z162), .int z130]) (rest := []) hCF (c_X4_fit l D cR cI cJ cZ t0 am ak an ac ae ag aq vth vmo vfg vtp vkd vng vcc vqq vrs u153 z130 false vks vms vcs ves z150.2 u138 z162 z130 u165 eu165 h_164) (x_cwV 2 hts (inW_10 _ (List.mem_of_getElem? (i := 36) rfl)) (inW_10 _ (List.mem_of_getElem? (i := 37) rfl)) (inW_10 _ (List.mem_of_getElem? (i := 38) rfl)) (inW_9 _ (List.mem_of_getElem? (i := 5) rfl)) (inW_9 _ (List.mem_of_getElem? (i := 32) rfl)) rfl rfl (by decide +kernel) ⟨Nat.le_of_ble_eq_true rfl, Nat.le_of_ble_eq_true rfl⟩) hK hP hD hS hA hSt 0 rfl rfl rfl hl.1 rfl (Nat.le_of_ble_eq_true rfl) dX4_add_270 ⟨Nat.le_of_ble_eq_true rfl, Nat.le_of_ble_eq_true rfl⟩ (fun H locs hP hD hS => ?_)
              show W p l e _ s m args below meth c H locs 0 0 Q (F0 m 273 ls [])
              have e9 := Eq.symm hu; subst e9
              exact x_vret hx hb hr hlocks hQ hK hP hD hS rfl dX4_add_273
            obtain ⟨z9, ez9⟩ : ∃ y9 : Bool, y9 = Z_X4_add_J_163 vmo vms p0 z104 z150 u153 := ⟨_, rfl⟩
            have hz := rZ_X4_add_J_163 vmo vms p0 z104 z150 u153 ez9
            unfold RZ_X4_add_J_163 at hz
            refine lv_if_ne (tgt := 263) hx hb dX4_add_225 (by decide) (fun c_155 => ?_) (fun c_155 => ?_)
            · rw [if_neg c_155] at hz
              have e9 := Eq.symm hz; subst e9
              exact J_163 _ ez9 H locs hP hD hS ls (lv_sub hl [0, 3] rfl)
            · rw [if_pos c_155] at hz
              refine lv_aload_n hx hb dX4_add_228 rfl (lv_at hl 0 rfl) ?_
              refine va_get (D := D) (ci := 5) (v := .ref an) (C := RX4) (T := TX4) (N := 18) hx hb hts hi4 hown hK hP 0 rfl rfl 2 (by decide) (hts (.fieldLink RX4 13 "DecimalWordsModel" "minus" "[Z") (inW_8 _ (List.mem_of_getElem? (i := 31) rfl))) (fun _ h9 => h9) rfl dX4_add_229 ?_
              refine lv_iload_n hx hb dX4_add_232 rfl (lv_at hl 1 rfl) ?_
              refine va_zald hx hb hK hP 2 3 rfl rfl h_127 dX4_add_233 ?_
              refine lv_iload hx hb dX4_add_234 (lv_at hl 2 rfl) ?_
              have J_160 : (∀ z159 : Bool, z159 = Z_X4_add_J_160 vmo vms p0 z104 → ∀ (H : Heap) (locs : List Loc), va_P D vwCl (mw cI cJ cZ am ak an ac ae ag aq vth vmo vfg vtp vkd vng vcc vqq vrs u153 z130 false vks vms vcs ves z150.2 u138) H → va_D A (mw cI cJ cZ am ak an ac ae ag aq vth vmo vfg vtp vkd vng vcc vqq vrs u153 z130 false vks vms vcs ves z150.2 u138) → va_S A s.heap H locs → ∀ ls : Array Slot, lv_has ls 6 [(0, .ref am)] → W p l e rm_X4_add s m args below meth c H locs 0 0 Q (F0 m 261 ls [.int (bI z159)])) := by
                intro z159 ez159 H locs hP hD hS ls hl
                have hz := hz _ ez159
                refine lv_istore (lv' := [(5, .int (bI z159)), (0, .ref am)]) hx hb dX4_add_261 hl (by decide) rfl (fun ls hl => ?_)
                have e9 := Eq.symm hz; subst e9
                exact J_163 _ ez9 H locs hP hD hS ls (lv_sub hl [1, 0] rfl)
              obtain ⟨z9, ez9⟩ : ∃ y9 : Bool, y9 = Z_X4_add_J_160 vmo vms p0 z104 := ⟨_, rfl⟩
              have hz := rZ_X4_add_J_160 vmo vms p0 z104 ez9
              unfold RZ_X4_add_J_160 at hz
              refine xbb_ne (tgt := 248) hx hb dX4_add_236 (by decide) (fun c_156 => ?_) (fun c_156 => ?_)
              · rw [if_neg c_156] at hz
                refine lv_aload_n hx hb dX4_add_248 rfl (lv_at hl 0 rfl) ?_
                refine va_get (D := D) (ci := 5) (v := .int vmo) (C := RX4) (T := TX4) (N := 18) hx hb hts hi4 hown hK hP 0 rfl rfl 5 (by decide) (hts (.fieldLink RX4 74 "DecimalWordsModel" "mode" "I") (inW_9 _ (List.mem_of_getElem? (i := 24) rfl))) (fun _ h9 => h9) rfl dX4_add_249 ?_
                refine lv_iconst (v := 4) hx hb dX4_add_252 (by decide) ?_
                refine lv_icmp_ne (tgt := 260) hx hb dX4_add_253 (by decide) (fun c_157 => ?_) (fun c_157 => ?_)
                · rw [if_neg c_157] at hz
                  refine lv_iconst (v := 0) hx hb dX4_add_260 (by decide) ?_
                  have e9 := Eq.symm hz; subst e9
                  exact J_160 _ ez9 H locs hP hD hS ls (lv_sub hl [0] rfl)
                · rw [if_pos c_157] at hz
                  refine lv_iconst (v := 1) hx hb dX4_add_256 (by decide) ?_
                  refine lv_goto (tgt := 261) hx hb dX4_add_257 (by decide) ?_
                  have e9 := Eq.symm hz; subst e9
                  exact J_160 _ ez9 H locs hP hD hS ls (lv_sub hl [0] rfl)
              · rw [if_pos c_156] at hz
                refine lv_aload_n hx hb dX4_add_239 rfl (lv_at hl 0 rfl) ?_
                refine va_get (D := D) (ci := 5) (v := .ref an) (C := RX4) (T := TX4) (N := 18) hx hb hts hi4 hown hK hP 0 rfl rfl 2 (by decide) (hts (.fieldLink RX4 13 "DecimalWordsModel" "minus" "[Z") (inW_8 _ (List.mem_of_getElem? (i := 31) rfl))) (fun _ h9 => h9) rfl dX4_add_240 ?_
                refine lv_iload_n hx hb dX4_add_243 rfl (lv_at hl 1 rfl) ?_
                refine va_zald hx hb hK hP 2 3 rfl rfl h_127 dX4_add_244 ?_
                refine lv_goto (tgt := 261) hx hb dX4_add_245 (by decide) ?_
                have e9 := Eq.symm hz; subst e9
                exact J_160 _ ez9 H locs hP hD hS ls (lv_sub hl [0] rfl)
          have hs := hs.1
          obtain ⟨z9, ez9⟩ : ∃ y9 : Bool × (Nat → Int32), y9 = Z_X4_add_J_151 vms p0 z104 u135 u138 n140 := ⟨_, rfl⟩
          have hz := rZ_X4_add_J_151 vms p0 z104 u135 u138 n140 ez9
          unfold RZ_X4_add_J_151 at hz
          refine xbb_ne (tgt := 206) hx hb dX4_add_196 (by decide) (fun c_141 => ?_) (fun c_141 => ?_)
          · rw [if_neg c_141] at hs
            rw [if_neg c_141] at hz
            refine lv_aload_n hx hb dX4_add_206 rfl (lv_at hl 1 rfl) ?_
            have h_142 := hs
            obtain ⟨u143, eu143⟩ : ∃ y9 : Bool × (Nat → Int32), y9 = F_X4_subtractDigits u135 u138 := ⟨_, rfl⟩
            have hz := hz _ eu143
            refine x_V (As := []) (rest := []) hCF (c_X4_subtractDigits l D cR cI cJ cZ t0 am ak an ac ae ag aq vth vmo vfg vtp vkd vng vcc vqq vrs vct z130 false vks vms vcs ves u135 u138 u143 eu143 h_142) (x_cwV 0 hts (inW_10 _ (List.mem_of_getElem? (i := 33) rfl)) (inW_10 _ (List.mem_of_getElem? (i := 34) rfl)) (inW_10 _ (List.mem_of_getElem? (i := 35) rfl)) (inW_9 _ (List.mem_of_getElem? (i := 5) rfl)) (inW_10 _ (List.mem_of_getElem? (i := 13) rfl)) rfl rfl (by decide +kernel) ⟨Nat.le_of_ble_eq_true rfl, Nat.le_of_ble_eq_true rfl⟩) hK hP hD hS hA hSt 0 rfl rfl rfl hl.1 rfl (Nat.le_of_ble_eq_true rfl) dX4_add_207 ⟨Nat.le_of_ble_eq_true rfl, Nat.le_of_ble_eq_true rfl⟩ (fun H locs hP hD hS => ?_)
            show W p l e _ s m args below meth c H locs 0 0 Q (F0 m 210 ls (.int (bI u143.1) :: []))
            refine xb_eq (tgt := 217) hx hb dX4_add_210 (by decide) (fun c_145 => ?_) (fun c_145 => ?_)
            · rw [if_neg c_145] at hz
              have e9 := Eq.symm hz; subst e9
              exact J_151 _ ez9 H locs hP hD hS ls (lv_sub hl [1, 2, 4, 0] rfl)
            · rw [if_pos c_145] at hz
              refine lv_iload hx hb dX4_add_213 (lv_at hl 4 rfl) ?_
              refine lv_istore (lv' := [(5, .int (bI z104)), (0, .ref am), (1, .int p0), (2, .int p1), (4, .int (bI z104))]) hx hb dX4_add_215 hl (by decide) rfl (fun ls hl => ?_)
              have e9 := Eq.symm hz; subst e9
              exact J_151 _ ez9 H locs hP hD hS ls (lv_sub hl [1, 2, 4, 0] rfl)
          · rw [if_pos c_141] at hs
            rw [if_pos c_141] at hz
            refine lv_aload_n hx hb dX4_add_199 rfl (lv_at hl 1 rfl) ?_
            have h_146 := hs
            obtain ⟨u147, eu147⟩ : ∃ y9 : (Nat → Int32), y9 = F_X4_addDigits u135 u138 := ⟨_, rfl⟩
            have hz := hz _ eu147
            refine x_V (As := []) (rest := []) hCF (c_X4_addDigits l D cR cI cJ cZ t0 am ak an ac ae ag aq vth vmo vfg vtp vkd vng vcc vqq vrs vct z130 false vks vms vcs ves u135 u138 u147 eu147 h_146) (x_cwV 0 hts (inW_10 _ (List.mem_of_getElem? (i := 30) rfl)) (inW_10 _ (List.mem_of_getElem? (i := 31) rfl)) (inW_10 _ (List.mem_of_getElem? (i := 32) rfl)) (inW_9 _ (List.mem_of_getElem? (i := 5) rfl)) (inW_10 _ (List.mem_of_getElem? (i := 12) rfl)) rfl rfl (by decide +kernel) ⟨Nat.le_of_ble_eq_true rfl, Nat.le_of_ble_eq_true rfl⟩) hK hP hD hS hA hSt 0 rfl rfl rfl hl.1 rfl (Nat.le_of_ble_eq_true rfl) dX4_add_200 ⟨Nat.le_of_ble_eq_true rfl, Nat.le_of_ble_eq_true rfl⟩ (fun H locs hP hD hS => ?_)
            show W p l e _ s m args below meth c H locs 0 0 Q (F0 m 203 ls [])
            refine lv_goto (tgt := 217) hx hb dX4_add_203 (by decide) ?_
            have e9 := Eq.symm hz; subst e9
            exact J_151 _ ez9 H locs hP hD hS ls (lv_sub hl [1, 2, 4, 0] rfl)
        obtain ⟨z9, ez9⟩ : ∃ y9 : Int32, y9 = Z_X4_add_J_131 ves p0 p1 := ⟨_, rfl⟩
        have hz := rZ_X4_add_J_131 ves p0 p1 ez9
        unfold RZ_X4_add_J_131 at hz
        refine lv_icmp_ge (tgt := 124) hx hb dX4_add_112 (by decide) (fun c_128 => ?_) (fun c_128 => ?_)
        · rw [if_pos c_128] at hz
          refine lv_aload_n hx hb dX4_add_124 rfl (lv_at hl 1 rfl) ?_
          refine va_get (D := D) (ci := 5) (v := .ref ae) (C := RX4) (T := TX4) (N := 18) hx hb hts hi4 hown hK hP 0 rfl rfl 4 (by decide) (hts (.fieldLink RX4 21 "DecimalWordsModel" "exponents" "[I") (inW_8 _ (List.mem_of_getElem? (i := 34) rfl))) (fun _ h9 => h9) rfl dX4_add_125 ?_
          refine lv_iload_n hx hb dX4_add_128 rfl (lv_at hl 3 rfl) ?_
          refine va_iald hx hb hK hP 4 1 rfl rfl h_101 dX4_add_129 ?_
          have e9 := Eq.symm hz; subst e9
          exact J_131 _ ez9 H locs hP hD hS ls (lv_sub hl [1, 2, 3, 0] rfl)
        · rw [if_neg c_128] at hz
          refine lv_aload_n hx hb dX4_add_115 rfl (lv_at hl 1 rfl) ?_
          refine va_get (D := D) (ci := 5) (v := .ref ae) (C := RX4) (T := TX4) (N := 18) hx hb hts hi4 hown hK hP 0 rfl rfl 4 (by decide) (hts (.fieldLink RX4 21 "DecimalWordsModel" "exponents" "[I") (inW_8 _ (List.mem_of_getElem? (i := 34) rfl))) (fun _ h9 => h9) rfl dX4_add_116 ?_
          refine lv_iload_n hx hb dX4_add_119 rfl (lv_at hl 2 rfl) ?_
          refine va_iald hx hb hK hP 4 1 rfl rfl h_127 dX4_add_120 ?_
          refine lv_goto (tgt := 130) hx hb dX4_add_121 (by decide) ?_
          have e9 := Eq.symm hz; subst e9
          exact J_131 _ ez9 H locs hP hD hS ls (lv_sub hl [1, 2, 3, 0] rfl)
      · rw [if_pos c_126] at hu
        refine lv_aload_n hx hb dX4_add_35 rfl (lv_at hl 1 rfl) ?_
        refine lv_iload_n hx hb dX4_add_36 rfl (lv_at hl 2 rfl) ?_
        refine lv_iconst (v := 1) hx hb dX4_add_37 (by decide) ?_
        refine x_V (As := [.int p0, .int 1]) (rest := []) hCF (c_X4_is l D cR cI cJ cZ t0 am ak an ac ae ag aq vth vmo vfg vtp vkd vng vcc vqq vrs vct vun vre vks vms vcs ves vdg vog p0 (1 : Int32) _ rfl h_106) (x_cwV 2 hts (inW_10 _ (List.mem_of_getElem? (i := 18) rfl)) (inW_10 _ (List.mem_of_getElem? (i := 19) rfl)) (inW_10 _ (List.mem_of_getElem? (i := 20) rfl)) (inW_9 _ (List.mem_of_getElem? (i := 5) rfl)) (inW_10 _ (List.mem_of_getElem? (i := 10) rfl)) rfl rfl (by decide +kernel) ⟨Nat.le_of_ble_eq_true rfl, Nat.le_of_ble_eq_true rfl⟩) hK hP hD hS hA hSt 0 rfl rfl rfl hl.1 rfl (Nat.le_of_ble_eq_true rfl) dX4_add_38 ⟨Nat.le_of_ble_eq_true rfl, Nat.le_of_ble_eq_true rfl⟩ (fun H locs hP hD hS => ?_)
        show W p l e _ s m args below meth c H locs 0 0 Q (F0 m 41 ls (.int (bI (F_X4_is vks p0 (1 : Int32))) :: []))
        refine xb_eq (tgt := 71) hx hb dX4_add_41 (by decide) (fun _ => ?_) (fun c9 => absurd c9 c_108)
        refine lv_aload_n hx hb dX4_add_71 rfl (lv_at hl 1 rfl) ?_
        refine lv_iconst (v := 1) hx hb dX4_add_72 (by decide) ?_
        refine lv_aload_n hx hb dX4_add_73 rfl (lv_at hl 1 rfl) ?_
        refine lv_iload_n hx hb dX4_add_74 rfl (lv_at hl 2 rfl) ?_
        refine lv_iconst (v := 1) hx hb dX4_add_75 (by decide) ?_
        refine x_V (As := [.int p0, .int 1]) (rest := [.int 1, .ref am]) hCF (c_X4_is l D cR cI cJ cZ t0 am ak an ac ae ag aq vth vmo vfg vtp vkd vng vcc vqq vrs vct vun vre vks vms vcs ves vdg vog p0 (1 : Int32) _ rfl h_106) (x_cwV 2 hts (inW_10 _ (List.mem_of_getElem? (i := 18) rfl)) (inW_10 _ (List.mem_of_getElem? (i := 19) rfl)) (inW_10 _ (List.mem_of_getElem? (i := 20) rfl)) (inW_9 _ (List.mem_of_getElem? (i := 5) rfl)) (inW_10 _ (List.mem_of_getElem? (i := 10) rfl)) rfl rfl (by decide +kernel) ⟨Nat.le_of_ble_eq_true rfl, Nat.le_of_ble_eq_true rfl⟩) hK hP hD hS hA hSt 0 rfl rfl rfl hl.1 rfl (Nat.le_of_ble_eq_true rfl) dX4_add_76 ⟨Nat.le_of_ble_eq_true rfl, Nat.le_of_ble_eq_true rfl⟩ (fun H locs hP hD hS => ?_)
        show W p l e _ s m args below meth c H locs 0 0 Q (F0 m 79 ls (.int (bI (F_X4_is vks p0 (1 : Int32))) :: [.int 1, .ref am]))
        refine xb_eq (tgt := 91) hx hb dX4_add_79 (by decide) (fun _ => ?_) (fun c9 => absurd c9 c_108)
        refine lv_iload hx hb dX4_add_91 (lv_at hl 0 rfl) ?_
        refine lv_lconst (v := 0) hx hb dX4_add_93 (by decide) ?_
        refine lv_iconst (v := 0) hx hb dX4_add_94 (by decide) ?_
        obtain ⟨u169, eu169⟩ : ∃ y9 : Int32 × Bool × Int64 × Int32, y9 = F_X4_be (1 : Int32) z104 (0 : Int64) (0 : Int32) := ⟨_, rfl⟩
        have hu := hu _ eu169
        refine x_V (As := [.int 1, .int (bI z104), .long 0, .int 0]) (rest := []) hCF (c_X4_be l D cR cI cJ cZ t0 am ak an ac ae ag aq vth vmo vfg vtp vkd vng vcc vqq vrs vct vun vre vks vms vcs ves vdg vog (1 : Int32) z104 (0 : Int64) (0 : Int32) u169 eu169) (x_cwV 4 hts (inW_9 _ (List.mem_of_getElem? (i := 18) rfl)) (inW_9 _ (List.mem_of_getElem? (i := 19) rfl)) (inW_9 _ (List.mem_of_getElem? (i := 20) rfl)) (inW_9 _ (List.mem_of_getElem? (i := 5) rfl)) (inW_9 _ (List.mem_of_getElem? (i := 11) rfl)) rfl rfl (by decide +kernel) ⟨Nat.le_of_ble_eq_true rfl, Nat.le_of_ble_eq_true rfl⟩) hK hP hD hS hA hSt 0 rfl rfl rfl hl.1 rfl (Nat.le_of_ble_eq_true rfl) dX4_add_95 ⟨Nat.le_of_ble_eq_true rfl, Nat.le_of_ble_eq_true rfl⟩ (fun H locs hP hD hS => ?_)
        show W p l e _ s m args below meth c H locs 0 0 Q (F0 m 98 ls [])
        have e9 := Eq.symm hu; subst e9
        exact x_vret hx hb hr hlocks hQ hK hP hD hS rfl dX4_add_98
  obtain ⟨z9, ez9⟩ : ∃ y9 : Bool, y9 = Z_X4_add_J_105 vms p1 p2 := ⟨_, rfl⟩
  have hz := rZ_X4_add_J_105 vms p1 p2 ez9
  unfold RZ_X4_add_J_105 at hz
  refine xbb_eq (tgt := 14) hx hb dX4_add_7 (by decide) (fun c_102 => ?_) (fun c_102 => ?_)
  · rw [if_pos c_102] at hz
    refine lv_iconst (v := 0) hx hb dX4_add_14 (by decide) ?_
    have e9 := Eq.symm hz; subst e9
    exact J_105 _ ez9 H locs hP hD hS ls (lv_sub hl [0, 1, 2] rfl)
  · rw [if_neg c_102] at hz
    refine lv_iconst (v := 1) hx hb dX4_add_10 (by decide) ?_
    refine lv_goto (tgt := 15) hx hb dX4_add_11 (by decide) ?_
    have e9 := Eq.symm hz; subst e9
    exact J_105 _ ez9 H locs hP hD hS ls (lv_sub hl [0, 1, 2] rfl)

def B_X4_multiply_179 (u133 : (Nat → Int32)) (t_152 : Int64 × Int32 × (Nat → Int32)) (n140 : Int32) (t_179 : Int32 × (Nat → Int32)) : Int32 × (Nat → Int32) := (if 16 ≤ t_179.1 then t_179 else (bnd ((t_179.2 (t_152.2.1 + t_179.1).toNatClampNeg) + (n140 * (u133 t_179.1.toNatClampNeg))) (fun f145 : Int32 => (bnd (va_up t_179.2 (t_152.2.1 + t_179.1).toNatClampNeg f145) (fun w146 : Nat → Int32 => (bnd (t_179.1 + 1) (fun n148 : Int32 => (n148, w146))))))))
def G_X4_multiply_179 (u133 : (Nat → Int32)) (t_152 : Int64 × Int32 × (Nat → Int32)) (n140 : Int32) (t_179 : Int32 × (Nat → Int32)) : Bool := (if 16 ≤ t_179.1 then false else (bnd ((t_179.2 (t_152.2.1 + t_179.1).toNatClampNeg) + (n140 * (u133 t_179.1.toNatClampNeg))) (fun f145 : Int32 => (bnd (va_up t_179.2 (t_152.2.1 + t_179.1).toNatClampNeg f145) (fun w146 : Nat → Int32 => (bnd (t_179.1 + 1) (fun n148 : Int32 => true)))))))
def RB_X4_multiply_179 (u133 : (Nat → Int32)) (t_152 : Int64 × Int32 × (Nat → Int32)) (n140 : Int32) (t_179 : Int32 × (Nat → Int32)) (u9 : Int32 × (Nat → Int32)) : Prop := (if 16 ≤ t_179.1 then True else (∀ f145 : Int32, f145 = (t_179.2 (t_152.2.1 + t_179.1).toNatClampNeg) + (n140 * (u133 t_179.1.toNatClampNeg)) → (∀ w146 : Nat → Int32, w146 = va_up t_179.2 (t_152.2.1 + t_179.1).toNatClampNeg f145 → (∀ n148 : Int32, n148 = t_179.1 + 1 → u9 = (n148, w146)))))
def RG_X4_multiply_179 (u133 : (Nat → Int32)) (t_152 : Int64 × Int32 × (Nat → Int32)) (n140 : Int32) (t_179 : Int32 × (Nat → Int32)) (u9 : Bool) : Prop := (if 16 ≤ t_179.1 then u9 = false else u9 = true)
theorem rB_X4_multiply_179 (u133 : (Nat → Int32)) (t_152 : Int64 × Int32 × (Nat → Int32)) (n140 : Int32) (t_179 : Int32 × (Nat → Int32)) {u9 : Int32 × (Nat → Int32)} (hu : u9 = B_X4_multiply_179 u133 t_152 n140 t_179) : RB_X4_multiply_179 u133 t_152 n140 t_179 u9 := by
  unfold RB_X4_multiply_179
  refine ite_P (fun c_142 => ?_) (fun c_142 => ?_)
  · have hu := hu.trans (if_pos c_142)
    trivial
  · have hu := hu.trans (if_neg c_142)
    intro f145 ef145
    have hu := bnd_n hu ef145
    intro w146 ew146
    have hu := bnd_n hu ew146
    intro n148 en148
    have hu := bnd_n hu en148
    exact hu
theorem rG_X4_multiply_179 (u133 : (Nat → Int32)) (t_152 : Int64 × Int32 × (Nat → Int32)) (n140 : Int32) (t_179 : Int32 × (Nat → Int32)) {u9 : Bool} (hu : u9 = G_X4_multiply_179 u133 t_152 n140 t_179) : RG_X4_multiply_179 u133 t_152 n140 t_179 u9 := by
  unfold RG_X4_multiply_179
  refine ite_P (fun c_142 => ?_) (fun c_142 => ?_)
  · have hu := hu.trans (if_pos c_142)
    exact hu
  · have hu := hu.trans (if_neg c_142)
    exact hu
def SB_X4_multiply_179 (u133 : (Nat → Int32)) (t_152 : Int64 × Int32 × (Nat → Int32)) (n140 : Int32) (t_179 : Int32 × (Nat → Int32)) : Prop := (if 16 ≤ t_179.1 then True else (vp_in (t_152.2.1 + t_179.1) 900) ∧ vp_in t_179.1 900)
def B_X4_multiply_152 (u133 : (Nat → Int32)) (t_152 : Int64 × Int32 × (Nat → Int32)) : Int64 × Int32 × (Nat → Int32) := (if t_152.1 ≤ 0 then t_152 else (bnd ((jremL t_152.1 10).toInt32) (fun n140 : Int32 => (bnd (t_152.1 / 10) (fun n141 : Int64 => (bnd (wl (G_X4_multiply_179 u133 t_152 n140) (B_X4_multiply_179 u133 t_152 n140) 901 (0, t_152.2.2)) (fun z149 : Int32 × (Nat → Int32) => (bnd (t_152.2.1 + 1) (fun n154 : Int32 => (n141, n154, z149.2))))))))))
def G_X4_multiply_152 (u133 : (Nat → Int32)) (t_152 : Int64 × Int32 × (Nat → Int32)) : Bool := (if t_152.1 ≤ 0 then false else (bnd ((jremL t_152.1 10).toInt32) (fun n140 : Int32 => (bnd (t_152.1 / 10) (fun n141 : Int64 => (bnd (wl (G_X4_multiply_179 u133 t_152 n140) (B_X4_multiply_179 u133 t_152 n140) 901 (0, t_152.2.2)) (fun z149 : Int32 × (Nat → Int32) => (bnd (t_152.2.1 + 1) (fun n154 : Int32 => true)))))))))
def RB_X4_multiply_152 (u133 : (Nat → Int32)) (t_152 : Int64 × Int32 × (Nat → Int32)) (u9 : Int64 × Int32 × (Nat → Int32)) : Prop := (if t_152.1 ≤ 0 then True else (∀ n140 : Int32, n140 = (jremL t_152.1 10).toInt32 → (∀ n141 : Int64, n141 = t_152.1 / 10 → (∀ z149 : Int32 × (Nat → Int32), z149 = wl (G_X4_multiply_179 u133 t_152 n140) (B_X4_multiply_179 u133 t_152 n140) 901 (0, t_152.2.2) → (∀ n154 : Int32, n154 = t_152.2.1 + 1 → u9 = (n141, n154, z149.2))))))
def RG_X4_multiply_152 (u133 : (Nat → Int32)) (t_152 : Int64 × Int32 × (Nat → Int32)) (u9 : Bool) : Prop := (if t_152.1 ≤ 0 then u9 = false else u9 = true)
theorem rB_X4_multiply_152 (u133 : (Nat → Int32)) (t_152 : Int64 × Int32 × (Nat → Int32)) {u9 : Int64 × Int32 × (Nat → Int32)} (hu : u9 = B_X4_multiply_152 u133 t_152) : RB_X4_multiply_152 u133 t_152 u9 := by
  unfold RB_X4_multiply_152
  refine ite_P (fun c_139 => ?_) (fun c_139 => ?_)
  · have hu := hu.trans (if_pos c_139)
    trivial
  · have hu := hu.trans (if_neg c_139)
    intro n140 en140
    have hu := bnd_n hu en140
    intro n141 en141
    have hu := bnd_n hu en141
    intro z149 ez149
    have hu := bnd_n hu ez149
    intro n154 en154
    have hu := bnd_n hu en154
    exact hu
theorem rG_X4_multiply_152 (u133 : (Nat → Int32)) (t_152 : Int64 × Int32 × (Nat → Int32)) {u9 : Bool} (hu : u9 = G_X4_multiply_152 u133 t_152) : RG_X4_multiply_152 u133 t_152 u9 := by
  unfold RG_X4_multiply_152
  refine ite_P (fun c_139 => ?_) (fun c_139 => ?_)
  · have hu := hu.trans (if_pos c_139)
    exact hu
  · have hu := hu.trans (if_neg c_139)
    exact hu
def SB_X4_multiply_152 (u133 : (Nat → Int32)) (t_152 : Int64 × Int32 × (Nat → Int32)) : Prop := (if t_152.1 ≤ 0 then True else (∀ n140 : Int32, n140 = (jremL t_152.1 10).toInt32 → (∀ n141 : Int64, n141 = t_152.1 / 10 → (∀ j : Nat, j < nW (G_X4_multiply_179 u133 t_152 n140) (B_X4_multiply_179 u133 t_152 n140) 901 (0, t_152.2.2) → SB_X4_multiply_179 u133 t_152 n140 (itn (B_X4_multiply_179 u133 t_152 n140) j (0, t_152.2.2))) ∧ G_X4_multiply_179 u133 t_152 n140 (wl (G_X4_multiply_179 u133 t_152 n140) (B_X4_multiply_179 u133 t_152 n140) 901 (0, t_152.2.2)) = false)))
def B_X4_multiply_227  (t_227 : Int32 × Int32 × (Nat → Int32)) : Int32 × Int32 × (Nat → Int32) := (if 40 ≤ t_227.2.1 then t_227 else (bnd ((t_227.2.2 t_227.2.1.toNatClampNeg) + t_227.1) (fun n162 : Int32 => (bnd (jrem n162 10) (fun f163 : Int32 => (bnd (va_up t_227.2.2 t_227.2.1.toNatClampNeg f163) (fun w164 : Nat → Int32 => (bnd (n162 / 10) (fun n166 : Int32 => (bnd (t_227.2.1 + 1) (fun n167 : Int32 => (n166, n167, w164))))))))))))
def G_X4_multiply_227  (t_227 : Int32 × Int32 × (Nat → Int32)) : Bool := (if 40 ≤ t_227.2.1 then false else (bnd ((t_227.2.2 t_227.2.1.toNatClampNeg) + t_227.1) (fun n162 : Int32 => (bnd (jrem n162 10) (fun f163 : Int32 => (bnd (va_up t_227.2.2 t_227.2.1.toNatClampNeg f163) (fun w164 : Nat → Int32 => (bnd (n162 / 10) (fun n166 : Int32 => (bnd (t_227.2.1 + 1) (fun n167 : Int32 => true)))))))))))
def RB_X4_multiply_227  (t_227 : Int32 × Int32 × (Nat → Int32)) (u9 : Int32 × Int32 × (Nat → Int32)) : Prop := (if 40 ≤ t_227.2.1 then True else (∀ n162 : Int32, n162 = (t_227.2.2 t_227.2.1.toNatClampNeg) + t_227.1 → (∀ f163 : Int32, f163 = jrem n162 10 → (∀ w164 : Nat → Int32, w164 = va_up t_227.2.2 t_227.2.1.toNatClampNeg f163 → (∀ n166 : Int32, n166 = n162 / 10 → (∀ n167 : Int32, n167 = t_227.2.1 + 1 → u9 = (n166, n167, w164)))))))
def RG_X4_multiply_227  (t_227 : Int32 × Int32 × (Nat → Int32)) (u9 : Bool) : Prop := (if 40 ≤ t_227.2.1 then u9 = false else u9 = true)
theorem rB_X4_multiply_227  (t_227 : Int32 × Int32 × (Nat → Int32)) {u9 : Int32 × Int32 × (Nat → Int32)} (hu : u9 = B_X4_multiply_227  t_227) : RB_X4_multiply_227  t_227 u9 := by
  unfold RB_X4_multiply_227
  refine ite_P (fun c_160 => ?_) (fun c_160 => ?_)
  · have hu := hu.trans (if_pos c_160)
    trivial
  · have hu := hu.trans (if_neg c_160)
    intro n162 en162
    have hu := bnd_n hu en162
    intro f163 ef163
    have hu := bnd_n hu ef163
    intro w164 ew164
    have hu := bnd_n hu ew164
    intro n166 en166
    have hu := bnd_n hu en166
    intro n167 en167
    have hu := bnd_n hu en167
    exact hu
theorem rG_X4_multiply_227  (t_227 : Int32 × Int32 × (Nat → Int32)) {u9 : Bool} (hu : u9 = G_X4_multiply_227  t_227) : RG_X4_multiply_227  t_227 u9 := by
  unfold RG_X4_multiply_227
  refine ite_P (fun c_160 => ?_) (fun c_160 => ?_)
  · have hu := hu.trans (if_pos c_160)
    exact hu
  · have hu := hu.trans (if_neg c_160)
    exact hu
def SB_X4_multiply_227  (t_227 : Int32 × Int32 × (Nat → Int32)) : Prop := (if 40 ≤ t_227.2.1 then True else vp_in t_227.2.1 900)
def Z_X4_multiply_J_130 (vks : Nat → Int32) (vcs : Nat → Int64) (p0 : Int32) (p1 : Int32) : Bool := (if F_X4_is vks p0 (0 : Int32) = true then (if vcs p0.toNatClampNeg = 0 then true else (if F_X4_is vks p1 (0 : Int32) = true then (if vcs p1.toNatClampNeg = 0 then true else false) else false)) else (if F_X4_is vks p1 (0 : Int32) = true then (if vcs p1.toNatClampNeg = 0 then true else false) else false))
def RZ_X4_multiply_J_130 (vks : Nat → Int32) (vcs : Nat → Int64) (p0 : Int32) (p1 : Int32) (u9 : Bool) : Prop := (if F_X4_is vks p0 (0 : Int32) = true then (if vcs p0.toNatClampNeg = 0 then u9 = true else (if F_X4_is vks p1 (0 : Int32) = true then (if vcs p1.toNatClampNeg = 0 then u9 = true else u9 = false) else u9 = false)) else (if F_X4_is vks p1 (0 : Int32) = true then (if vcs p1.toNatClampNeg = 0 then u9 = true else u9 = false) else u9 = false))
theorem rZ_X4_multiply_J_130 (vks : Nat → Int32) (vcs : Nat → Int64) (p0 : Int32) (p1 : Int32) {u9 : Bool} (hu : u9 = Z_X4_multiply_J_130 vks vcs p0 p1) : RZ_X4_multiply_J_130 vks vcs p0 p1 u9 := by
  unfold RZ_X4_multiply_J_130
  refine ite_P (fun c_118 => ?_) (fun c_118 => ?_)
  · have hu := hu.trans (if_pos c_118)
    refine ite_P (fun c_123 => ?_) (fun c_123 => ?_)
    · have hu := hu.trans (if_pos c_123)
      exact hu
    · have hu := hu.trans (if_neg c_123)
      refine ite_P (fun c_126 => ?_) (fun c_126 => ?_)
      · have hu := hu.trans (if_pos c_126)
        refine ite_P (fun c_127 => ?_) (fun c_127 => ?_)
        · have hu := hu.trans (if_pos c_127)
          exact hu
        · have hu := hu.trans (if_neg c_127)
          exact hu
      · have hu := hu.trans (if_neg c_126)
        exact hu
  · have hu := hu.trans (if_neg c_118)
    refine ite_P (fun c_121 => ?_) (fun c_121 => ?_)
    · have hu := hu.trans (if_pos c_121)
      refine ite_P (fun c_122 => ?_) (fun c_122 => ?_)
      · have hu := hu.trans (if_pos c_122)
        exact hu
      · have hu := hu.trans (if_neg c_122)
        exact hu
    · have hu := hu.trans (if_neg c_121)
      exact hu
def Z_X4_multiply_J_115 (vks : Nat → Int32) (p0 : Int32) (p1 : Int32) : Bool := (if F_X4_is vks p0 (1 : Int32) = true then true else (if F_X4_is vks p1 (1 : Int32) = true then true else false))
def RZ_X4_multiply_J_115 (vks : Nat → Int32) (p0 : Int32) (p1 : Int32) (u9 : Bool) : Prop := (if F_X4_is vks p0 (1 : Int32) = true then u9 = true else (if F_X4_is vks p1 (1 : Int32) = true then u9 = true else u9 = false))
theorem rZ_X4_multiply_J_115 (vks : Nat → Int32) (p0 : Int32) (p1 : Int32) {u9 : Bool} (hu : u9 = Z_X4_multiply_J_115 vks p0 p1) : RZ_X4_multiply_J_115 vks p0 p1 u9 := by
  unfold RZ_X4_multiply_J_115
  refine ite_P (fun c_109 => ?_) (fun c_109 => ?_)
  · have hu := hu.trans (if_pos c_109)
    exact hu
  · have hu := hu.trans (if_neg c_109)
    refine ite_P (fun c_112 => ?_) (fun c_112 => ?_)
    · have hu := hu.trans (if_pos c_112)
      exact hu
    · have hu := hu.trans (if_neg c_112)
      exact hu
def Z_X4_multiply_J_106 (vms : Nat → Bool) (p0 : Int32) (p1 : Int32) : Bool := (if vms p0.toNatClampNeg = vms p1.toNatClampNeg then false else true)
def RZ_X4_multiply_J_106 (vms : Nat → Bool) (p0 : Int32) (p1 : Int32) (u9 : Bool) : Prop := (if vms p0.toNatClampNeg = vms p1.toNatClampNeg then u9 = false else u9 = true)
theorem rZ_X4_multiply_J_106 (vms : Nat → Bool) (p0 : Int32) (p1 : Int32) {u9 : Bool} (hu : u9 = Z_X4_multiply_J_106 vms p0 p1) : RZ_X4_multiply_J_106 vms p0 p1 u9 := by
  unfold RZ_X4_multiply_J_106
  refine ite_P (fun c_103 => ?_) (fun c_103 => ?_)
  · have hu := hu.trans (if_pos c_103)
    exact hu
  · have hu := hu.trans (if_neg c_103)
    exact hu
def F_X4_multiply (vmo : Int32) (vrs : Int32) (vct : Int32) (vun : Int32) (vre : Bool) (vks : Nat → Int32) (vms : Nat → Bool) (vcs : Nat → Int64) (ves : Nat → Int32) (vdg : Nat → Int32) (vog : Nat → Int32) (p0 : Int32) (p1 : Int32) : Int32 × Bool × Int64 × Int32 × Int32 × Int32 × Int32 × Bool × (Nat → Int32) × (Nat → Int32) := (bnd (Z_X4_multiply_J_106 vms p0 p1) (fun z105 : Bool => (bnd (Z_X4_multiply_J_115 vks p0 p1) (fun z114 : Bool => (bnd (Z_X4_multiply_J_130 vks vcs p0 p1) (fun z129 : Bool => (if z114 = true then (if z129 = true then (bnd (F_X4_invalid vrs) (fun u184 : Int32 × Bool × Int64 × Int32 × Int32 => (u184.1, u184.2.1, u184.2.2.1, u184.2.2.2.1, u184.2.2.2.2, vct, vun, vre, vdg, vog))) else (bnd (F_X4_be (1 : Int32) z105 (0 : Int64) (0 : Int32)) (fun u182 : Int32 × Bool × Int64 × Int32 => (u182.1, u182.2.1, u182.2.2.1, u182.2.2.2, vrs, vct, vun, vre, vdg, vog)))) else (bnd (F_X4_layOther vog (vcs p1.toNatClampNeg) (0 : Int32)) (fun u133 : (Nat → Int32) => (bnd (vcs p0.toNatClampNeg) (fun n135 : Int64 => (bnd (F_X4_clear vdg) (fun u137 : (Nat → Int32) => (bnd (wl (G_X4_multiply_152 u133) (B_X4_multiply_152 u133) 901 (n135, 0, u137)) (fun z155 : Int64 × Int32 × (Nat → Int32) => (bnd (wl (G_X4_multiply_227) (B_X4_multiply_227) 901 (0, 0, z155.2.2)) (fun z168 : Int32 × Int32 × (Nat → Int32) => (bnd ((ves p0.toNatClampNeg) + (ves p1.toNatClampNeg)) (fun f175 : Int32 => (bnd (F_X4_fit vmo vrs f175 false z168.2.2 z105 f175) (fun u179 : Int32 × Bool × Int64 × Int32 × Int32 × Int32 => (u179.1, u179.2.1, u179.2.2.1, u179.2.2.2.1, u179.2.2.2.2.1, u179.2.2.2.2.2, f175, false, z168.2.2, u133))))))))))))))))))))))
def RF_X4_multiply (vmo : Int32) (vrs : Int32) (vct : Int32) (vun : Int32) (vre : Bool) (vks : Nat → Int32) (vms : Nat → Bool) (vcs : Nat → Int64) (ves : Nat → Int32) (vdg : Nat → Int32) (vog : Nat → Int32) (p0 : Int32) (p1 : Int32) (u9 : Int32 × Bool × Int64 × Int32 × Int32 × Int32 × Int32 × Bool × (Nat → Int32) × (Nat → Int32)) : Prop := (∀ z105 : Bool, z105 = Z_X4_multiply_J_106 vms p0 p1 → (∀ z114 : Bool, z114 = Z_X4_multiply_J_115 vks p0 p1 → (∀ z129 : Bool, z129 = Z_X4_multiply_J_130 vks vcs p0 p1 → (if z114 = true then (if z129 = true then (∀ u184 : Int32 × Bool × Int64 × Int32 × Int32, u184 = F_X4_invalid vrs → u9 = (u184.1, u184.2.1, u184.2.2.1, u184.2.2.2.1, u184.2.2.2.2, vct, vun, vre, vdg, vog)) else (∀ u182 : Int32 × Bool × Int64 × Int32, u182 = F_X4_be (1 : Int32) z105 (0 : Int64) (0 : Int32) → u9 = (u182.1, u182.2.1, u182.2.2.1, u182.2.2.2, vrs, vct, vun, vre, vdg, vog))) else (∀ u133 : (Nat → Int32), u133 = F_X4_layOther vog (vcs p1.toNatClampNeg) (0 : Int32) → (∀ n135 : Int64, n135 = vcs p0.toNatClampNeg → (∀ u137 : (Nat → Int32), u137 = F_X4_clear vdg → (∀ z155 : Int64 × Int32 × (Nat → Int32), z155 = wl (G_X4_multiply_152 u133) (B_X4_multiply_152 u133) 901 (n135, 0, u137) → (∀ z168 : Int32 × Int32 × (Nat → Int32), z168 = wl (G_X4_multiply_227) (B_X4_multiply_227) 901 (0, 0, z155.2.2) → (∀ f175 : Int32, f175 = (ves p0.toNatClampNeg) + (ves p1.toNatClampNeg) → (∀ u179 : Int32 × Bool × Int64 × Int32 × Int32 × Int32, u179 = F_X4_fit vmo vrs f175 false z168.2.2 z105 f175 → u9 = (u179.1, u179.2.1, u179.2.2.1, u179.2.2.2.1, u179.2.2.2.2.1, u179.2.2.2.2.2, f175, false, z168.2.2, u133))))))))))))
theorem rF_X4_multiply (vmo : Int32) (vrs : Int32) (vct : Int32) (vun : Int32) (vre : Bool) (vks : Nat → Int32) (vms : Nat → Bool) (vcs : Nat → Int64) (ves : Nat → Int32) (vdg : Nat → Int32) (vog : Nat → Int32) (p0 : Int32) (p1 : Int32) {u9 : Int32 × Bool × Int64 × Int32 × Int32 × Int32 × Int32 × Bool × (Nat → Int32) × (Nat → Int32)} (hu : u9 = F_X4_multiply vmo vrs vct vun vre vks vms vcs ves vdg vog p0 p1) : RF_X4_multiply vmo vrs vct vun vre vks vms vcs ves vdg vog p0 p1 u9 := by
  unfold RF_X4_multiply
  intro z105 ez105
  have hu := bnd_n hu ez105
  intro z114 ez114
  have hu := bnd_n hu ez114
  intro z129 ez129
  have hu := bnd_n hu ez129
  refine ite_P (fun c_131 => ?_) (fun c_131 => ?_)
  · have hu := hu.trans (if_pos c_131)
    refine ite_P (fun c_181 => ?_) (fun c_181 => ?_)
    · have hu := hu.trans (if_pos c_181)
      intro u184 eu184
      have hu := bnd_n hu eu184
      exact hu
    · have hu := hu.trans (if_neg c_181)
      intro u182 eu182
      have hu := bnd_n hu eu182
      exact hu
  · have hu := hu.trans (if_neg c_131)
    intro u133 eu133
    have hu := bnd_n hu eu133
    intro n135 en135
    have hu := bnd_n hu en135
    intro u137 eu137
    have hu := bnd_n hu eu137
    intro z155 ez155
    have hu := bnd_n hu ez155
    intro z168 ez168
    have hu := bnd_n hu ez168
    intro f175 ef175
    have hu := bnd_n hu ef175
    intro u179 eu179
    have hu := bnd_n hu eu179
    exact hu
def S_X4_multiply (vmo : Int32) (vrs : Int32) (vct : Int32) (vun : Int32) (vre : Bool) (vks : Nat → Int32) (vms : Nat → Bool) (vcs : Nat → Int64) (ves : Nat → Int32) (vdg : Nat → Int32) (vog : Nat → Int32) (p0 : Int32) (p1 : Int32) : Prop := (vp_in p0 8) ∧ (vp_in p1 8) ∧ (∀ z105 : Bool, z105 = Z_X4_multiply_J_106 vms p0 p1 → (S_X4_is vks p0 (1 : Int32)) ∧ ((if F_X4_is vks p0 (1 : Int32) = true then True else S_X4_is vks p1 (1 : Int32))) ∧ (∀ z114 : Bool, z114 = Z_X4_multiply_J_115 vks p0 p1 → (S_X4_is vks p0 (0 : Int32)) ∧ ((if F_X4_is vks p0 (0 : Int32) = true then (if vcs p0.toNatClampNeg = 0 then True else S_X4_is vks p1 (0 : Int32)) else S_X4_is vks p1 (0 : Int32))) ∧ (∀ z129 : Bool, z129 = Z_X4_multiply_J_130 vks vcs p0 p1 → (if z114 = true then True else (S_X4_layOther vog (vcs p1.toNatClampNeg) (0 : Int32)) ∧ (∀ u133 : (Nat → Int32), u133 = F_X4_layOther vog (vcs p1.toNatClampNeg) (0 : Int32) → (∀ n135 : Int64, n135 = vcs p0.toNatClampNeg → (S_X4_clear vdg) ∧ (∀ u137 : (Nat → Int32), u137 = F_X4_clear vdg → (∀ j : Nat, j < nW (G_X4_multiply_152 u133) (B_X4_multiply_152 u133) 901 (n135, 0, u137) → SB_X4_multiply_152 u133 (itn (B_X4_multiply_152 u133) j (n135, 0, u137))) ∧ G_X4_multiply_152 u133 (wl (G_X4_multiply_152 u133) (B_X4_multiply_152 u133) 901 (n135, 0, u137)) = false ∧ (∀ z155 : Int64 × Int32 × (Nat → Int32), z155 = wl (G_X4_multiply_152 u133) (B_X4_multiply_152 u133) 901 (n135, 0, u137) → (∀ j : Nat, j < nW (G_X4_multiply_227) (B_X4_multiply_227) 901 (0, 0, z155.2.2) → SB_X4_multiply_227  (itn (B_X4_multiply_227) j (0, 0, z155.2.2))) ∧ G_X4_multiply_227  (wl (G_X4_multiply_227) (B_X4_multiply_227) 901 (0, 0, z155.2.2)) = false ∧ (∀ z168 : Int32 × Int32 × (Nat → Int32), z168 = wl (G_X4_multiply_227) (B_X4_multiply_227) 901 (0, 0, z155.2.2) → (vp_in p0 8) ∧ (vp_in p1 8) ∧ (∀ f175 : Int32, f175 = (ves p0.toNatClampNeg) + (ves p1.toNatClampNeg) → S_X4_fit vmo vrs f175 false z168.2.2 z105 f175))))))))))
def rm_X4_multiply : Room := { frames := 3, cells := 0, slots := 0, locals := 85 }
set_option maxHeartbeats 4000000 in
set_option maxRecDepth 100000 in
theorem c_X4_multiply (l : Launch) (D : va_G) (cR cI cJ cZ : ClassId) (t0 : Nat) (am ak an ac ae ag aq : Nat) (vth : Int32) (vmo : Int32) (vfg : Int32) (vtp : Int32) (vkd : Int32) (vng : Bool) (vcc : Int64) (vqq : Int32) (vrs : Int32) (vct : Int32) (vun : Int32) (vre : Bool) (vks : Nat → Int32) (vms : Nat → Bool) (vcs : Nat → Int64) (ves : Nat → Int32) (vdg : Nat → Int32) (vog : Nat → Int32) (p0 : Int32) (p1 : Int32) (u : Int32 × Bool × Int64 × Int32 × Int32 × Int32 × Int32 × Bool × (Nat → Int32) × (Nat → Int32)) (hu : u = F_X4_multiply vmo vrs vct vun vre vks vms vcs ves vdg vog p0 p1) (hs : S_X4_multiply vmo vrs vct vun vre vks vms vcs ves vdg vog p0 p1) : XM l D (xty cR cI cJ cZ) t0 yX4_multiply cX4_multiply 11 none rm_X4_multiply [.ref am, .int p0, .int p1] none (mw cI cJ cZ am ak an ac ae ag aq vth vmo vfg vtp vkd vng vcc vqq vrs vct vun vre vks vms vcs ves vdg vog) (mw cI cJ cZ am ak an ac ae ag aq vth vmo vfg vtp u.1 u.2.1 u.2.2.1 u.2.2.2.1 u.2.2.2.2.1 u.2.2.2.2.2.1 u.2.2.2.2.2.2.1 u.2.2.2.2.2.2.2.1 vks vms vcs ves u.2.2.2.2.2.2.2.2.1 u.2.2.2.2.2.2.2.2.2) := by
  refine XM.of (by decide) (Nat.le_of_ble_eq_true rfl) ?_
  intro p e s m args below meth c A Q F hK hP hD hA hSt hS hQ ls hl
  obtain ⟨hx, hb, hr, hts, hown, hlocks, hml⟩ := F
  have hCF : CallFix p m c cX4_multiply 11 s args gW RX4 := ⟨hx, hb, hml, hown, hts⟩
  unfold S_X4_multiply at hs
  have hu := rF_X4_multiply vmo vrs vct vun vre vks vms vcs ves vdg vog p0 p1 hu
  unfold RF_X4_multiply at hu
  obtain ⟨H, eH⟩ : ∃ y9 : Heap, y9 = s.heap := ⟨_, rfl⟩
  obtain ⟨locs, eL⟩ : ∃ y9 : List Loc, y9 = [] := ⟨_, rfl⟩
  rw [← eL] at hS ⊢
  have hP : va_P D vwCl (mw cI cJ cZ am ak an ac ae ag aq vth vmo vfg vtp vkd vng vcc vqq vrs vct vun vre vks vms vcs ves vdg vog) H := by rw [eH]; exact hP
  have hS : va_S A s.heap H locs := by rw [eH]; exact hS
  suffices goal9 : W p l e rm_X4_multiply s m args below meth c H locs 0 0 Q (F0 m 0 ls []) from by rw [← eH]; exact goal9
  have hl : lv_has ls 11 [(0, .ref am), (1, .int p0), (2, .int p1)] := hl
  have hi4 : ∀ w ∈ wsX40, w ∈ gW := inW_X4
  refine lv_aload_n hx hb dX4_multiply_0 rfl (lv_at hl 0 rfl) ?_
  refine va_get (D := D) (ci := 5) (v := .ref an) (C := RX4) (T := TX4) (N := 18) hx hb hts hi4 hown hK hP 0 rfl rfl 2 (by decide) (hts (.fieldLink RX4 13 "DecimalWordsModel" "minus" "[Z") (inW_8 _ (List.mem_of_getElem? (i := 31) rfl))) (fun _ h9 => h9) rfl dX4_multiply_1 ?_
  refine lv_iload_n hx hb dX4_multiply_4 rfl (lv_at hl 1 rfl) ?_
  obtain ⟨h_101, hs⟩ := hs
  refine va_zald hx hb hK hP 2 3 rfl rfl h_101 dX4_multiply_5 ?_
  refine lv_aload_n hx hb dX4_multiply_6 rfl (lv_at hl 0 rfl) ?_
  refine va_get (D := D) (ci := 5) (v := .ref an) (C := RX4) (T := TX4) (N := 18) hx hb hts hi4 hown hK hP 0 rfl rfl 2 (by decide) (hts (.fieldLink RX4 13 "DecimalWordsModel" "minus" "[Z") (inW_8 _ (List.mem_of_getElem? (i := 31) rfl))) (fun _ h9 => h9) rfl dX4_multiply_7 ?_
  refine lv_iload_n hx hb dX4_multiply_10 rfl (lv_at hl 2 rfl) ?_
  obtain ⟨h_102, hs⟩ := hs
  refine va_zald hx hb hK hP 2 3 rfl rfl h_102 dX4_multiply_11 ?_
  have J_106 : (∀ z105 : Bool, z105 = Z_X4_multiply_J_106 vms p0 p1 → ∀ (H : Heap) (locs : List Loc), va_P D vwCl (mw cI cJ cZ am ak an ac ae ag aq vth vmo vfg vtp vkd vng vcc vqq vrs vct vun vre vks vms vcs ves vdg vog) H → va_D A (mw cI cJ cZ am ak an ac ae ag aq vth vmo vfg vtp vkd vng vcc vqq vrs vct vun vre vks vms vcs ves vdg vog) → va_S A s.heap H locs → ∀ ls : Array Slot, lv_has ls 11 [(0, .ref am), (1, .int p0), (2, .int p1)] → W p l e rm_X4_multiply s m args below meth c H locs 0 0 Q (F0 m 20 ls [.int (bI z105)])) := by
    intro z105 ez105 H locs hP hD hS ls hl
    have hs := hs _ ez105
    have hu := hu _ ez105
    refine lv_istore_n (lv' := [(3, .int (bI z105)), (0, .ref am), (1, .int p0), (2, .int p1)]) hx hb dX4_multiply_20 rfl hl (by decide) rfl (fun ls hl => ?_)
    refine lv_aload_n hx hb dX4_multiply_21 rfl (lv_at hl 1 rfl) ?_
    refine lv_iload_n hx hb dX4_multiply_22 rfl (lv_at hl 2 rfl) ?_
    refine lv_iconst (v := 1) hx hb dX4_multiply_23 (by decide) ?_
    obtain ⟨h_107, hs⟩ := hs
    refine x_V (As := [.int p0, .int 1]) (rest := []) hCF (c_X4_is l D cR cI cJ cZ t0 am ak an ac ae ag aq vth vmo vfg vtp vkd vng vcc vqq vrs vct vun vre vks vms vcs ves vdg vog p0 (1 : Int32) _ rfl h_107) (x_cwV 2 hts (inW_10 _ (List.mem_of_getElem? (i := 18) rfl)) (inW_10 _ (List.mem_of_getElem? (i := 19) rfl)) (inW_10 _ (List.mem_of_getElem? (i := 20) rfl)) (inW_9 _ (List.mem_of_getElem? (i := 5) rfl)) (inW_10 _ (List.mem_of_getElem? (i := 10) rfl)) rfl rfl (by decide +kernel) ⟨Nat.le_of_ble_eq_true rfl, Nat.le_of_ble_eq_true rfl⟩) hK hP hD hS hA hSt 0 rfl rfl rfl hl.1 rfl (Nat.le_of_ble_eq_true rfl) dX4_multiply_24 ⟨Nat.le_of_ble_eq_true rfl, Nat.le_of_ble_eq_true rfl⟩ (fun H locs hP hD hS => ?_)
    show W p l e _ s m args below meth c H locs 0 0 Q (F0 m 27 ls (.int (bI (F_X4_is vks p0 (1 : Int32))) :: []))
    have J_115 : (∀ z114 : Bool, z114 = Z_X4_multiply_J_115 vks p0 p1 → ∀ (H : Heap) (locs : List Loc), va_P D vwCl (mw cI cJ cZ am ak an ac ae ag aq vth vmo vfg vtp vkd vng vcc vqq vrs vct vun vre vks vms vcs ves vdg vog) H → va_D A (mw cI cJ cZ am ak an ac ae ag aq vth vmo vfg vtp vkd vng vcc vqq vrs vct vun vre vks vms vcs ves vdg vog) → va_S A s.heap H locs → ∀ ls : Array Slot, lv_has ls 11 [(0, .ref am), (1, .int p0), (2, .int p1), (3, .int (bI z105))] → W p l e rm_X4_multiply s m args below meth c H locs 0 0 Q (F0 m 44 ls [.int (bI z114)])) := by
      intro z114 ez114 H locs hP hD hS ls hl
      have hs := hs.2
      have hs := hs _ ez114
      have hu := hu _ ez114
      refine lv_istore (lv' := [(4, .int (bI z114)), (0, .ref am), (1, .int p0), (2, .int p1), (3, .int (bI z105))]) hx hb dX4_multiply_44 hl (by decide) rfl (fun ls hl => ?_)
      refine lv_aload_n hx hb dX4_multiply_46 rfl (lv_at hl 1 rfl) ?_
      refine lv_iload_n hx hb dX4_multiply_47 rfl (lv_at hl 2 rfl) ?_
      refine lv_iconst (v := 0) hx hb dX4_multiply_48 (by decide) ?_
      obtain ⟨h_116, hs⟩ := hs
      refine x_V (As := [.int p0, .int 0]) (rest := []) hCF (c_X4_is l D cR cI cJ cZ t0 am ak an ac ae ag aq vth vmo vfg vtp vkd vng vcc vqq vrs vct vun vre vks vms vcs ves vdg vog p0 (0 : Int32) _ rfl h_116) (x_cwV 2 hts (inW_10 _ (List.mem_of_getElem? (i := 18) rfl)) (inW_10 _ (List.mem_of_getElem? (i := 19) rfl)) (inW_10 _ (List.mem_of_getElem? (i := 20) rfl)) (inW_9 _ (List.mem_of_getElem? (i := 5) rfl)) (inW_10 _ (List.mem_of_getElem? (i := 10) rfl)) rfl rfl (by decide +kernel) ⟨Nat.le_of_ble_eq_true rfl, Nat.le_of_ble_eq_true rfl⟩) hK hP hD hS hA hSt 0 rfl rfl rfl hl.1 rfl (Nat.le_of_ble_eq_true rfl) dX4_multiply_49 ⟨Nat.le_of_ble_eq_true rfl, Nat.le_of_ble_eq_true rfl⟩ (fun H locs hP hD hS => ?_)
      show W p l e _ s m args below meth c H locs 0 0 Q (F0 m 52 ls (.int (bI (F_X4_is vks p0 (0 : Int32))) :: []))
      have J_130 : (∀ z129 : Bool, z129 = Z_X4_multiply_J_130 vks vcs p0 p1 → ∀ (H : Heap) (locs : List Loc), va_P D vwCl (mw cI cJ cZ am ak an ac ae ag aq vth vmo vfg vtp vkd vng vcc vqq vrs vct vun vre vks vms vcs ves vdg vog) H → va_D A (mw cI cJ cZ am ak an ac ae ag aq vth vmo vfg vtp vkd vng vcc vqq vrs vct vun vre vks vms vcs ves vdg vog) → va_S A s.heap H locs → ∀ ls : Array Slot, lv_has ls 11 [(0, .ref am), (1, .int p0), (2, .int p1), (3, .int (bI z105)), (4, .int (bI z114))] → W p l e rm_X4_multiply s m args below meth c H locs 0 0 Q (F0 m 91 ls [.int (bI z129)])) := by
        intro z129 ez129 H locs hP hD hS ls hl
        have hs := hs.2
        have hs := hs _ ez129
        have hu := hu _ ez129
        refine lv_istore (lv' := [(5, .int (bI z129)), (0, .ref am), (1, .int p0), (2, .int p1), (3, .int (bI z105)), (4, .int (bI z114))]) hx hb dX4_multiply_91 hl (by decide) rfl (fun ls hl => ?_)
        refine lv_iload hx hb dX4_multiply_93 (lv_at hl 5 rfl) ?_
        refine xb_eq (tgt := 110) hx hb dX4_multiply_95 (by decide) (fun c_131 => ?_) (fun c_131 => ?_)
        · rw [if_neg c_131] at hs
          rw [if_neg c_131] at hu
          refine lv_iload hx hb dX4_multiply_110 (lv_at hl 5 rfl) ?_
          refine xb_eq (tgt := 126) hx hb dX4_multiply_112 (by decide) (fun _ => ?_) (fun c9 => absurd c9 c_131)
          refine lv_aload_n hx hb dX4_multiply_126 rfl (lv_at hl 1 rfl) ?_
          refine lv_aload_n hx hb dX4_multiply_127 rfl (lv_at hl 1 rfl) ?_
          refine va_get (D := D) (ci := 5) (v := .ref ac) (C := RX4) (T := TX4) (N := 18) hx hb hts hi4 hown hK hP 0 rfl rfl 3 (by decide) (hts (.fieldLink RX4 17 "DecimalWordsModel" "coefficients" "[J") (inW_8 _ (List.mem_of_getElem? (i := 33) rfl))) (fun _ h9 => h9) rfl dX4_multiply_128 ?_
          refine lv_iload_n hx hb dX4_multiply_131 rfl (lv_at hl 3 rfl) ?_
          refine va_lald hx hb hK hP 3 2 rfl rfl h_102 dX4_multiply_132 ?_
          refine lv_iconst (v := 0) hx hb dX4_multiply_133 (by decide) ?_
          obtain ⟨h_132, hs⟩ := hs
          obtain ⟨u133, eu133⟩ : ∃ y9 : (Nat → Int32), y9 = F_X4_layOther vog (vcs p1.toNatClampNeg) (0 : Int32) := ⟨_, rfl⟩
          have hs := hs _ eu133
          have hu := hu _ eu133
          refine x_V (As := [.long (vcs p1.toNatClampNeg), .int 0]) (rest := []) hCF (c_X4_layOther l D cR cI cJ cZ t0 am ak an ac ae ag aq vth vmo vfg vtp vkd vng vcc vqq vrs vct vun vre vks vms vcs ves vdg vog (vcs p1.toNatClampNeg) (0 : Int32) u133 eu133 h_132) (x_cwV 2 hts (inW_10 _ (List.mem_of_getElem? (i := 27) rfl)) (inW_10 _ (List.mem_of_getElem? (i := 28) rfl)) (inW_10 _ (List.mem_of_getElem? (i := 29) rfl)) (inW_9 _ (List.mem_of_getElem? (i := 5) rfl)) (inW_9 _ (List.mem_of_getElem? (i := 6) rfl)) rfl rfl (by decide +kernel) ⟨Nat.le_of_ble_eq_true rfl, Nat.le_of_ble_eq_true rfl⟩) hK hP hD hS hA hSt 0 rfl rfl rfl hl.1 rfl (Nat.le_of_ble_eq_true rfl) dX4_multiply_134 ⟨Nat.le_of_ble_eq_true rfl, Nat.le_of_ble_eq_true rfl⟩ (fun H locs hP hD hS => ?_)
          show W p l e _ s m args below meth c H locs 0 0 Q (F0 m 137 ls [])
          refine lv_aload_n hx hb dX4_multiply_137 rfl (lv_at hl 1 rfl) ?_
          refine va_get (D := D) (ci := 5) (v := .ref ac) (C := RX4) (T := TX4) (N := 18) hx hb hts hi4 hown hK hP 0 rfl rfl 3 (by decide) (hts (.fieldLink RX4 17 "DecimalWordsModel" "coefficients" "[J") (inW_8 _ (List.mem_of_getElem? (i := 33) rfl))) (fun _ h9 => h9) rfl dX4_multiply_138 ?_
          refine lv_iload_n hx hb dX4_multiply_141 rfl (lv_at hl 2 rfl) ?_
          refine va_lald hx hb hK hP 3 2 rfl rfl h_101 dX4_multiply_142 ?_
          refine lv_topl (fun n135 en135 => ?_)
          have hs := hs _ en135
          have hu := hu _ en135
          refine lv_lstore (lv' := [(6, .long n135), (5, .int (bI z129)), (0, .ref am), (1, .int p0), (2, .int p1), (3, .int (bI z105)), (4, .int (bI z114))]) hx hb dX4_multiply_143 hl (by decide) rfl (fun ls hl => ?_)
          refine lv_aload_n hx hb dX4_multiply_145 rfl (lv_at hl 2 rfl) ?_
          obtain ⟨h_136, hs⟩ := hs
          obtain ⟨u137, eu137⟩ : ∃ y9 : (Nat → Int32), y9 = F_X4_clear vdg := ⟨_, rfl⟩
          have hs := hs _ eu137
          have hu := hu _ eu137
          refine x_V (As := []) (rest := []) hCF (c_X4_clear l D cR cI cJ cZ t0 am ak an ac ae ag aq vth vmo vfg vtp vkd vng vcc vqq vrs vct vun vre vks vms vcs ves vdg u133 u137 eu137 h_136) (x_cwV 0 hts (inW_9 _ (List.mem_of_getElem? (i := 2) rfl)) (inW_9 _ (List.mem_of_getElem? (i := 3) rfl)) (inW_9 _ (List.mem_of_getElem? (i := 4) rfl)) (inW_9 _ (List.mem_of_getElem? (i := 5) rfl)) (inW_8 _ (List.mem_of_getElem? (i := 39) rfl)) rfl rfl (by decide +kernel) ⟨Nat.le_of_ble_eq_true rfl, Nat.le_of_ble_eq_true rfl⟩) hK hP hD hS hA hSt 0 rfl rfl rfl hl.1 rfl (Nat.le_of_ble_eq_true rfl) dX4_multiply_146 ⟨Nat.le_of_ble_eq_true rfl, Nat.le_of_ble_eq_true rfl⟩ (fun H locs hP hD hS => ?_)
          show W p l e _ s m args below meth c H locs 0 0 Q (F0 m 149 ls [])
          refine lv_iconst (v := 0) hx hb dX4_multiply_149 (by decide) ?_
          refine lv_istore (lv' := [(8, .int 0), (6, .long n135), (5, .int (bI z129)), (0, .ref am), (1, .int p0), (2, .int p1), (3, .int (bI z105)), (4, .int (bI z114))]) hx hb dX4_multiply_150 hl (by decide) rfl (fun ls hl => ?_)
          have L_186 : ∀ (n9 : Nat) (t_152 : Int64 × Int32 × (Nat → Int32)), (∀ j : Nat, j < n9 → G_X4_multiply_152 u133 (itn (B_X4_multiply_152 u133) j t_152) = true) → (∀ j : Nat, j < n9 → SB_X4_multiply_152 u133 (itn (B_X4_multiply_152 u133) j t_152)) → (∀ (H : Heap) (locs : List Loc), va_P D vwCl (mw cI cJ cZ am ak an ac ae ag aq vth vmo vfg vtp vkd vng vcc vqq vrs vct vun vre vks vms vcs ves ((itn (B_X4_multiply_152 u133) n9 t_152).2.2) u133) H → va_D A (mw cI cJ cZ am ak an ac ae ag aq vth vmo vfg vtp vkd vng vcc vqq vrs vct vun vre vks vms vcs ves ((itn (B_X4_multiply_152 u133) n9 t_152).2.2) u133) → va_S A s.heap H locs → ∀ ls : Array Slot, lv_has ls 11 [(0, .ref am), (1, .int p0), (2, .int p1), (3, .int (bI z105)), (6, .long ((itn (B_X4_multiply_152 u133) n9 t_152).1)), (8, .int ((itn (B_X4_multiply_152 u133) n9 t_152).2.1))] → W p l e rm_X4_multiply s m args below meth c H locs 0 0 Q (F0 m 152 ls [])) → ∀ (H : Heap) (locs : List Loc), va_P D vwCl (mw cI cJ cZ am ak an ac ae ag aq vth vmo vfg vtp vkd vng vcc vqq vrs vct vun vre vks vms vcs ves t_152.2.2 u133) H → va_D A (mw cI cJ cZ am ak an ac ae ag aq vth vmo vfg vtp vkd vng vcc vqq vrs vct vun vre vks vms vcs ves t_152.2.2 u133) → va_S A s.heap H locs → ∀ ls : Array Slot, lv_has ls 11 [(0, .ref am), (1, .int p0), (2, .int p1), (3, .int (bI z105)), (6, .long t_152.1), (8, .int t_152.2.1)] → W p l e rm_X4_multiply s m args below meth c H locs 0 0 Q (F0 m 152 ls []) := by
            intro n9
            induction n9 with
            | zero => exact fun _ _ _ k9 => k9
            | succ n9 ih9 =>
              intro t_152 hG9 hs9 k9 H locs hP hD hS ls hl
              have hG0 : G_X4_multiply_152 u133 t_152 = true := hG9 0 (Nat.succ_pos n9)
              have hg := rG_X4_multiply_152 u133 t_152 (Eq.symm hG0)
              unfold RG_X4_multiply_152 at hg
              obtain ⟨t9, et9⟩ : ∃ y9 : Int64 × Int32 × (Nat → Int32), y9 = (B_X4_multiply_152 u133) t_152 := ⟨_, rfl⟩
              have hb9 := rB_X4_multiply_152 u133 t_152 et9
              unfold RB_X4_multiply_152 at hb9
              have hs : SB_X4_multiply_152 u133 t_152 := hs9 0 (Nat.succ_pos n9)
              unfold SB_X4_multiply_152 at hs
              refine lv_lload hx hb dX4_multiply_152 (lv_at hl 4 rfl) ?_
              refine lv_lconst (v := 0) hx hb dX4_multiply_154 (by decide) ?_
              refine xl_le (tgt := 221) hx hb dX4_multiply_155 dX4_multiply_156 (by decide) (fun c_139 => ?_) (fun c_139 => ?_)
              · rw [if_pos c_139] at hg
                exact absurd hg (by decide)
              · rw [if_neg c_139] at hs
                rw [if_neg c_139] at hg
                rw [if_neg c_139] at hb9
                refine lv_lload hx hb dX4_multiply_159 (lv_at hl 4 rfl) ?_
                refine lv_ldc2 (v := 10) hx hb hown (hts (.constantLong RX4 37 (10)) (inW_9 _ (List.mem_of_getElem? (i := 1) rfl))) dX4_multiply_161 ?_
                refine x_lrem hx hb dX4_multiply_164 (by decide) ?_
                refine x_l2i hx hb dX4_multiply_165 ?_
                refine lv_topi (fun n140 en140 => ?_)
                have hs := hs _ en140
                have hb9 := hb9 _ en140
                refine lv_istore (lv' := [(9, .int n140), (0, .ref am), (1, .int p0), (2, .int p1), (3, .int (bI z105)), (6, .long t_152.1), (8, .int t_152.2.1)]) hx hb dX4_multiply_166 hl (by decide) rfl (fun ls hl => ?_)
                refine lv_lload hx hb dX4_multiply_168 (lv_at hl 5 rfl) ?_
                refine lv_ldc2 (v := 10) hx hb hown (hts (.constantLong RX4 37 (10)) (inW_9 _ (List.mem_of_getElem? (i := 1) rfl))) dX4_multiply_170 ?_
                refine lv_ldiv hx hb dX4_multiply_173 (by decide) ?_
                refine lv_topl (fun n141 en141 => ?_)
                have hs := hs _ en141
                have hb9 := hb9 _ en141
                refine lv_lstore (lv' := [(6, .long n141), (9, .int n140), (0, .ref am), (1, .int p0), (2, .int p1), (3, .int (bI z105)), (8, .int t_152.2.1)]) hx hb dX4_multiply_174 hl (by decide) rfl (fun ls hl => ?_)
                refine lv_iconst (v := 0) hx hb dX4_multiply_176 (by decide) ?_
                refine lv_istore (lv' := [(10, .int 0), (6, .long n141), (9, .int n140), (0, .ref am), (1, .int p0), (2, .int p1), (3, .int (bI z105)), (8, .int t_152.2.1)]) hx hb dX4_multiply_177 hl (by decide) rfl (fun ls hl => ?_)
                have L_187 : ∀ (n9 : Nat) (t_179 : Int32 × (Nat → Int32)), (∀ j : Nat, j < n9 → G_X4_multiply_179 u133 t_152 n140 (itn (B_X4_multiply_179 u133 t_152 n140) j t_179) = true) → (∀ j : Nat, j < n9 → SB_X4_multiply_179 u133 t_152 n140 (itn (B_X4_multiply_179 u133 t_152 n140) j t_179)) → (∀ (H : Heap) (locs : List Loc), va_P D vwCl (mw cI cJ cZ am ak an ac ae ag aq vth vmo vfg vtp vkd vng vcc vqq vrs vct vun vre vks vms vcs ves ((itn (B_X4_multiply_179 u133 t_152 n140) n9 t_179).2) u133) H → va_D A (mw cI cJ cZ am ak an ac ae ag aq vth vmo vfg vtp vkd vng vcc vqq vrs vct vun vre vks vms vcs ves ((itn (B_X4_multiply_179 u133 t_152 n140) n9 t_179).2) u133) → va_S A s.heap H locs → ∀ ls : Array Slot, lv_has ls 11 [(0, .ref am), (1, .int p0), (2, .int p1), (3, .int (bI z105)), (6, .long n141), (8, .int t_152.2.1), (9, .int n140), (10, .int ((itn (B_X4_multiply_179 u133 t_152 n140) n9 t_179).1))] → W p l e rm_X4_multiply s m args below meth c H locs 0 0 Q (F0 m 179 ls [])) → ∀ (H : Heap) (locs : List Loc), va_P D vwCl (mw cI cJ cZ am ak an ac ae ag aq vth vmo vfg vtp vkd vng vcc vqq vrs vct vun vre vks vms vcs ves t_179.2 u133) H → va_D A (mw cI cJ cZ am ak an ac ae ag aq vth vmo vfg vtp vkd vng vcc vqq vrs vct vun vre vks vms vcs ves t_179.2 u133) → va_S A s.heap H locs → ∀ ls : Array Slot, lv_has ls 11 [(0, .ref am), (1, .int p0), (2, .int p1), (3, .int (bI z105)), (6, .long n141), (8, .int t_152.2.1), (9, .int n140), (10, .int t_179.1)] → W p l e rm_X4_multiply s m args below meth c H locs 0 0 Q (F0 m 179 ls []) := by
                  intro n9
                  induction n9 with
                  | zero => exact fun _ _ _ k9 => k9
                  | succ n9 ih9 =>
                    intro t_179 hG9 hs9 k9 H locs hP hD hS ls hl
                    have hG0 : G_X4_multiply_179 u133 t_152 n140 t_179 = true := hG9 0 (Nat.succ_pos n9)
                    have hg := rG_X4_multiply_179 u133 t_152 n140 t_179 (Eq.symm hG0)
                    unfold RG_X4_multiply_179 at hg
                    obtain ⟨t9, et9⟩ : ∃ y9 : Int32 × (Nat → Int32), y9 = (B_X4_multiply_179 u133 t_152 n140) t_179 := ⟨_, rfl⟩
                    have hb9 := rB_X4_multiply_179 u133 t_152 n140 t_179 et9
                    unfold RB_X4_multiply_179 at hb9
                    have hs : SB_X4_multiply_179 u133 t_152 n140 t_179 := hs9 0 (Nat.succ_pos n9)
                    unfold SB_X4_multiply_179 at hs
                    refine lv_iload hx hb dX4_multiply_179 (lv_at hl 7 rfl) ?_
                    refine lv_bipush (v := 16) hx hb dX4_multiply_181 (by decide) ?_
                    refine lv_icmp_ge (tgt := 215) hx hb dX4_multiply_183 (by decide) (fun c_142 => ?_) (fun c_142 => ?_)
                    · rw [if_pos c_142] at hg
                      exact absurd hg (by decide)
                    · rw [if_neg c_142] at hs
                      rw [if_neg c_142] at hg
                      rw [if_neg c_142] at hb9
                      refine lv_aload_n hx hb dX4_multiply_186 rfl (lv_at hl 0 rfl) ?_
                      refine va_get (D := D) (ci := 5) (v := .ref ag) (C := RX4) (T := TX4) (N := 18) hx hb hts hi4 hown hK hP 0 rfl rfl 14 (by decide) (hts (.fieldLink RX4 24 "DecimalWordsModel" "digits" "[I") (inW_8 _ (List.mem_of_getElem? (i := 35) rfl))) (fun _ h9 => h9) rfl dX4_multiply_187 ?_
                      refine lv_iload hx hb dX4_multiply_190 (lv_at hl 5 rfl) ?_
                      refine lv_iload hx hb dX4_multiply_192 (lv_at hl 7 rfl) ?_
                      refine lv_iadd hx hb dX4_multiply_194 ?_
                      refine lv_dup2_11 hx hb dX4_multiply_195 rfl rfl ?_
                      obtain ⟨h_143, hs⟩ := hs
                      refine va_iald hx hb hK hP 5 1 rfl rfl h_143 dX4_multiply_196 ?_
                      refine lv_iload hx hb dX4_multiply_197 (lv_at hl 6 rfl) ?_
                      refine lv_aload_n hx hb dX4_multiply_199 rfl (lv_at hl 0 rfl) ?_
                      refine va_get (D := D) (ci := 5) (v := .ref aq) (C := RX4) (T := TX4) (N := 18) hx hb hts hi4 hown hK hP 0 rfl rfl 15 (by decide) (hts (.fieldLink RX4 27 "DecimalWordsModel" "others" "[I") (inW_8 _ (List.mem_of_getElem? (i := 36) rfl))) (fun _ h9 => h9) rfl dX4_multiply_200 ?_
                      refine lv_iload hx hb dX4_multiply_203 (lv_at hl 7 rfl) ?_
                      have h_144 := hs
                      refine va_iald hx hb hK hP 6 1 rfl rfl h_144 dX4_multiply_205 ?_
                      refine lv_imul hx hb dX4_multiply_206 ?_
                      refine lv_iadd hx hb dX4_multiply_207 ?_
                      refine lv_topi (fun f145 ef145 => ?_)
                      have hb9 := hb9 _ ef145
                      refine va_iast hx hb hK hP hD hS 5 1 rfl rfl h_143 dX4_multiply_208 (fun H locs hP hD hS => ?_)
                      obtain ⟨w146, ew146⟩ : ∃ y9 : Nat → Int32, y9 = va_up t_179.2 (t_152.2.1 + t_179.1).toNatClampNeg f145 := ⟨_, rfl⟩
                      have hb9 := hb9 _ ew146
                      have hP : va_P D vwCl (mw cI cJ cZ am ak an ac ae ag aq vth vmo vfg vtp vkd vng vcc vqq vrs vct vun vre vks vms vcs ves w146 u133) H := by rw [ew146]; exact hP
                      have hD : va_D A (mw cI cJ cZ am ak an ac ae ag aq vth vmo vfg vtp vkd vng vcc vqq vrs vct vun vre vks vms vcs ves w146 u133) := by rw [ew146]; exact hD
                      obtain ⟨n148, en148⟩ : ∃ y9 : Int32, y9 = t_179.1 + 1 := ⟨_, rfl⟩
                      have hb9 := hb9 _ en148
                      refine lv_iinc (v := n148) (lv' := [(10, .int n148), (0, .ref am), (1, .int p0), (2, .int p1), (3, .int (bI z105)), (6, .long n141), (8, .int t_152.2.1), (9, .int n140)]) hx hb dX4_multiply_209 hl (k := 7) rfl (by rw [en148]; rfl) (by decide) rfl (fun ls hl => ?_)
                      refine lv_goto (tgt := 179) hx hb dX4_multiply_212 (by decide) ?_
                      have e9 := Eq.symm hb9; subst e9
                      have key9 := ih9 ((B_X4_multiply_179 u133 t_152 n140) t_179) (fun j hj => hG9 (j + 1) (Nat.succ_lt_succ hj)) (fun j hj => hs9 (j + 1) (Nat.succ_lt_succ hj)) k9
                      rw [← et9] at key9
                      exact key9 H locs hP hD hS ls (lv_sub hl [1, 2, 3, 4, 5, 6, 7, 0] rfl)
                obtain ⟨hsL, hG1⟩ := hs
                refine L_187 (nW (G_X4_multiply_179 u133 t_152 n140) (B_X4_multiply_179 u133 t_152 n140) 901 (0, t_152.2.2)) (0, t_152.2.2) (nW_lt _ _ _ _) hsL (fun H locs hP hD hS ls hl => ?_) H locs hP hD hS ls (lv_sub hl [3, 4, 5, 6, 1, 7, 2, 0] rfl)
                obtain ⟨z149, ez149⟩ : ∃ y9 : Int32 × (Nat → Int32), y9 = wl (G_X4_multiply_179 u133 t_152 n140) (B_X4_multiply_179 u133 t_152 n140) 901 (0, t_152.2.2) := ⟨_, rfl⟩
                have e9 : z149 = itn (B_X4_multiply_179 u133 t_152 n140) (nW (G_X4_multiply_179 u133 t_152 n140) (B_X4_multiply_179 u133 t_152 n140) 901 (0, t_152.2.2)) (0, t_152.2.2) := ez149
                try rw [← e9] at hP
                try rw [← e9] at hD
                try rw [← e9] at hl
                rw [← ez149] at hG1
                clear e9
                have hg := rG_X4_multiply_179 u133 t_152 n140 z149 (Eq.symm hG1)
                unfold RG_X4_multiply_179 at hg
                have hb9 := hb9 _ ez149
                refine lv_iload hx hb dX4_multiply_179 (lv_at hl 7 rfl) ?_
                refine lv_bipush (v := 16) hx hb dX4_multiply_181 (by decide) ?_
                have J_153 : ∀ (H : Heap) (locs : List Loc), va_P D vwCl (mw cI cJ cZ am ak an ac ae ag aq vth vmo vfg vtp vkd vng vcc vqq vrs vct vun vre vks vms vcs ves z149.2 u133) H → va_D A (mw cI cJ cZ am ak an ac ae ag aq vth vmo vfg vtp vkd vng vcc vqq vrs vct vun vre vks vms vcs ves z149.2 u133) → va_S A s.heap H locs → ∀ ls : Array Slot, lv_has ls 11 [(0, .ref am), (1, .int p0), (2, .int p1), (3, .int (bI z105)), (6, .long n141), (8, .int t_152.2.1)] → W p l e rm_X4_multiply s m args below meth c H locs 0 0 Q (F0 m 215 ls []) := by
                  intro H locs hP hD hS ls hl
                  obtain ⟨n154, en154⟩ : ∃ y9 : Int32, y9 = t_152.2.1 + 1 := ⟨_, rfl⟩
                  have hb9 := hb9 _ en154
                  refine lv_iinc (v := n154) (lv' := [(8, .int n154), (0, .ref am), (1, .int p0), (2, .int p1), (3, .int (bI z105)), (6, .long n141)]) hx hb dX4_multiply_215 hl (k := 5) rfl (by rw [en154]; rfl) (by decide) rfl (fun ls hl => ?_)
                  refine lv_goto (tgt := 152) hx hb dX4_multiply_218 (by decide) ?_
                  have e9 := Eq.symm hb9; subst e9
                  have key9 := ih9 ((B_X4_multiply_152 u133) t_152) (fun j hj => hG9 (j + 1) (Nat.succ_lt_succ hj)) (fun j hj => hs9 (j + 1) (Nat.succ_lt_succ hj)) k9
                  rw [← et9] at key9
                  exact key9 H locs hP hD hS ls (lv_sub hl [1, 2, 3, 4, 5, 0] rfl)
                refine lv_icmp_ge (tgt := 215) hx hb dX4_multiply_183 (by decide) (fun c_151 => ?_) (fun c_151 => ?_)
                · rw [if_pos c_151] at hg
                  exact J_153 H locs hP hD hS ls (lv_sub hl [0, 1, 2, 3, 4, 5] rfl)
                · rw [if_neg c_151] at hg
                  exact absurd hg (by decide)
          obtain ⟨hsL, hG1, hs⟩ := hs
          refine L_186 (nW (G_X4_multiply_152 u133) (B_X4_multiply_152 u133) 901 (n135, 0, u137)) (n135, 0, u137) (nW_lt _ _ _ _) hsL (fun H locs hP hD hS ls hl => ?_) H locs hP hD hS ls (lv_sub hl [3, 4, 5, 6, 1, 0] rfl)
          obtain ⟨z155, ez155⟩ : ∃ y9 : Int64 × Int32 × (Nat → Int32), y9 = wl (G_X4_multiply_152 u133) (B_X4_multiply_152 u133) 901 (n135, 0, u137) := ⟨_, rfl⟩
          have e9 : z155 = itn (B_X4_multiply_152 u133) (nW (G_X4_multiply_152 u133) (B_X4_multiply_152 u133) 901 (n135, 0, u137)) (n135, 0, u137) := ez155
          try rw [← e9] at hP
          try rw [← e9] at hD
          try rw [← e9] at hl
          rw [← ez155] at hG1
          clear e9
          have hg := rG_X4_multiply_152 u133 z155 (Eq.symm hG1)
          unfold RG_X4_multiply_152 at hg
          have hs := hs _ ez155
          have hu := hu _ ez155
          refine lv_lload hx hb dX4_multiply_152 (lv_at hl 4 rfl) ?_
          refine lv_lconst (v := 0) hx hb dX4_multiply_154 (by decide) ?_
          have J_159 : ∀ (H : Heap) (locs : List Loc), va_P D vwCl (mw cI cJ cZ am ak an ac ae ag aq vth vmo vfg vtp vkd vng vcc vqq vrs vct vun vre vks vms vcs ves z155.2.2 u133) H → va_D A (mw cI cJ cZ am ak an ac ae ag aq vth vmo vfg vtp vkd vng vcc vqq vrs vct vun vre vks vms vcs ves z155.2.2 u133) → va_S A s.heap H locs → ∀ ls : Array Slot, lv_has ls 11 [(0, .ref am), (1, .int p0), (2, .int p1), (3, .int (bI z105))] → W p l e rm_X4_multiply s m args below meth c H locs 0 0 Q (F0 m 221 ls []) := by
            intro H locs hP hD hS ls hl
            refine lv_iconst (v := 0) hx hb dX4_multiply_221 (by decide) ?_
            refine lv_istore (lv' := [(8, .int 0), (0, .ref am), (1, .int p0), (2, .int p1), (3, .int (bI z105))]) hx hb dX4_multiply_222 hl (by decide) rfl (fun ls hl => ?_)
            refine lv_iconst (v := 0) hx hb dX4_multiply_224 (by decide) ?_
            refine lv_istore (lv' := [(9, .int 0), (8, .int 0), (0, .ref am), (1, .int p0), (2, .int p1), (3, .int (bI z105))]) hx hb dX4_multiply_225 hl (by decide) rfl (fun ls hl => ?_)
            have L_188 : ∀ (n9 : Nat) (t_227 : Int32 × Int32 × (Nat → Int32)), (∀ j : Nat, j < n9 → G_X4_multiply_227  (itn (B_X4_multiply_227) j t_227) = true) → (∀ j : Nat, j < n9 → SB_X4_multiply_227  (itn (B_X4_multiply_227) j t_227)) → (∀ (H : Heap) (locs : List Loc), va_P D vwCl (mw cI cJ cZ am ak an ac ae ag aq vth vmo vfg vtp vkd vng vcc vqq vrs vct vun vre vks vms vcs ves ((itn (B_X4_multiply_227) n9 t_227).2.2) u133) H → va_D A (mw cI cJ cZ am ak an ac ae ag aq vth vmo vfg vtp vkd vng vcc vqq vrs vct vun vre vks vms vcs ves ((itn (B_X4_multiply_227) n9 t_227).2.2) u133) → va_S A s.heap H locs → ∀ ls : Array Slot, lv_has ls 11 [(0, .ref am), (1, .int p0), (2, .int p1), (3, .int (bI z105)), (8, .int ((itn (B_X4_multiply_227) n9 t_227).1)), (9, .int ((itn (B_X4_multiply_227) n9 t_227).2.1))] → W p l e rm_X4_multiply s m args below meth c H locs 0 0 Q (F0 m 227 ls [])) → ∀ (H : Heap) (locs : List Loc), va_P D vwCl (mw cI cJ cZ am ak an ac ae ag aq vth vmo vfg vtp vkd vng vcc vqq vrs vct vun vre vks vms vcs ves t_227.2.2 u133) H → va_D A (mw cI cJ cZ am ak an ac ae ag aq vth vmo vfg vtp vkd vng vcc vqq vrs vct vun vre vks vms vcs ves t_227.2.2 u133) → va_S A s.heap H locs → ∀ ls : Array Slot, lv_has ls 11 [(0, .ref am), (1, .int p0), (2, .int p1), (3, .int (bI z105)), (8, .int t_227.1), (9, .int t_227.2.1)] → W p l e rm_X4_multiply s m args below meth c H locs 0 0 Q (F0 m 227 ls []) := by
              intro n9
              induction n9 with
              | zero => exact fun _ _ _ k9 => k9
              | succ n9 ih9 =>
                intro t_227 hG9 hs9 k9 H locs hP hD hS ls hl
                have hG0 : G_X4_multiply_227  t_227 = true := hG9 0 (Nat.succ_pos n9)
                have hg := rG_X4_multiply_227  t_227 (Eq.symm hG0)
                unfold RG_X4_multiply_227 at hg
                obtain ⟨t9, et9⟩ : ∃ y9 : Int32 × Int32 × (Nat → Int32), y9 = (B_X4_multiply_227) t_227 := ⟨_, rfl⟩
                have hb9 := rB_X4_multiply_227  t_227 et9
                unfold RB_X4_multiply_227 at hb9
                have hs : SB_X4_multiply_227  t_227 := hs9 0 (Nat.succ_pos n9)
                unfold SB_X4_multiply_227 at hs
                refine lv_iload hx hb dX4_multiply_227 (lv_at hl 5 rfl) ?_
                refine lv_bipush (v := 40) hx hb dX4_multiply_229 (by decide) ?_
                refine lv_icmp_ge (tgt := 271) hx hb dX4_multiply_231 (by decide) (fun c_160 => ?_) (fun c_160 => ?_)
                · rw [if_pos c_160] at hg
                  exact absurd hg (by decide)
                · rw [if_neg c_160] at hs
                  rw [if_neg c_160] at hg
                  rw [if_neg c_160] at hb9
                  refine lv_aload_n hx hb dX4_multiply_234 rfl (lv_at hl 0 rfl) ?_
                  refine va_get (D := D) (ci := 5) (v := .ref ag) (C := RX4) (T := TX4) (N := 18) hx hb hts hi4 hown hK hP 0 rfl rfl 14 (by decide) (hts (.fieldLink RX4 24 "DecimalWordsModel" "digits" "[I") (inW_8 _ (List.mem_of_getElem? (i := 35) rfl))) (fun _ h9 => h9) rfl dX4_multiply_235 ?_
                  refine lv_iload hx hb dX4_multiply_238 (lv_at hl 5 rfl) ?_
                  have h_161 := hs
                  refine va_iald hx hb hK hP 5 1 rfl rfl h_161 dX4_multiply_240 ?_
                  refine lv_iload hx hb dX4_multiply_241 (lv_at hl 4 rfl) ?_
                  refine lv_iadd hx hb dX4_multiply_243 ?_
                  refine lv_topi (fun n162 en162 => ?_)
                  have hb9 := hb9 _ en162
                  refine lv_istore (lv' := [(10, .int n162), (0, .ref am), (1, .int p0), (2, .int p1), (3, .int (bI z105)), (8, .int t_227.1), (9, .int t_227.2.1)]) hx hb dX4_multiply_244 hl (by decide) rfl (fun ls hl => ?_)
                  refine lv_aload_n hx hb dX4_multiply_246 rfl (lv_at hl 1 rfl) ?_
                  refine va_get (D := D) (ci := 5) (v := .ref ag) (C := RX4) (T := TX4) (N := 18) hx hb hts hi4 hown hK hP 0 rfl rfl 14 (by decide) (hts (.fieldLink RX4 24 "DecimalWordsModel" "digits" "[I") (inW_8 _ (List.mem_of_getElem? (i := 35) rfl))) (fun _ h9 => h9) rfl dX4_multiply_247 ?_
                  refine lv_iload hx hb dX4_multiply_250 (lv_at hl 6 rfl) ?_
                  refine lv_iload hx hb dX4_multiply_252 (lv_at hl 0 rfl) ?_
                  refine lv_bipush (v := 10) hx hb dX4_multiply_254 (by decide) ?_
                  refine x_irem hx hb dX4_multiply_256 (by decide) ?_
                  refine lv_topi (fun f163 ef163 => ?_)
                  have hb9 := hb9 _ ef163
                  refine va_iast hx hb hK hP hD hS 5 1 rfl rfl h_161 dX4_multiply_257 (fun H locs hP hD hS => ?_)
                  obtain ⟨w164, ew164⟩ : ∃ y9 : Nat → Int32, y9 = va_up t_227.2.2 t_227.2.1.toNatClampNeg f163 := ⟨_, rfl⟩
                  have hb9 := hb9 _ ew164
                  have hP : va_P D vwCl (mw cI cJ cZ am ak an ac ae ag aq vth vmo vfg vtp vkd vng vcc vqq vrs vct vun vre vks vms vcs ves w164 u133) H := by rw [ew164]; exact hP
                  have hD : va_D A (mw cI cJ cZ am ak an ac ae ag aq vth vmo vfg vtp vkd vng vcc vqq vrs vct vun vre vks vms vcs ves w164 u133) := by rw [ew164]; exact hD
                  refine lv_iload hx hb dX4_multiply_258 (lv_at hl 0 rfl) ?_
                  refine lv_bipush (v := 10) hx hb dX4_multiply_260 (by decide) ?_
                  refine lv_idiv hx hb dX4_multiply_262 (by decide) ?_
                  refine lv_topi (fun n166 en166 => ?_)
                  have hb9 := hb9 _ en166
                  refine lv_istore (lv' := [(8, .int n166), (10, .int n162), (0, .ref am), (1, .int p0), (2, .int p1), (3, .int (bI z105)), (9, .int t_227.2.1)]) hx hb dX4_multiply_263 hl (by decide) rfl (fun ls hl => ?_)
                  obtain ⟨n167, en167⟩ : ∃ y9 : Int32, y9 = t_227.2.1 + 1 := ⟨_, rfl⟩
                  have hb9 := hb9 _ en167
                  refine lv_iinc (v := n167) (lv' := [(9, .int n167), (8, .int n166), (10, .int n162), (0, .ref am), (1, .int p0), (2, .int p1), (3, .int (bI z105))]) hx hb dX4_multiply_265 hl (k := 6) rfl (by rw [en167]; rfl) (by decide) rfl (fun ls hl => ?_)
                  refine lv_goto (tgt := 227) hx hb dX4_multiply_268 (by decide) ?_
                  have e9 := Eq.symm hb9; subst e9
                  have key9 := ih9 ((B_X4_multiply_227) t_227) (fun j hj => hG9 (j + 1) (Nat.succ_lt_succ hj)) (fun j hj => hs9 (j + 1) (Nat.succ_lt_succ hj)) k9
                  rw [← et9] at key9
                  exact key9 H locs hP hD hS ls (lv_sub hl [3, 4, 5, 6, 1, 0] rfl)
            obtain ⟨hsL, hG1, hs⟩ := hs
            refine L_188 (nW (G_X4_multiply_227) (B_X4_multiply_227) 901 (0, 0, z155.2.2)) (0, 0, z155.2.2) (nW_lt _ _ _ _) hsL (fun H locs hP hD hS ls hl => ?_) H locs hP hD hS ls (lv_sub hl [2, 3, 4, 5, 1, 0] rfl)
            obtain ⟨z168, ez168⟩ : ∃ y9 : Int32 × Int32 × (Nat → Int32), y9 = wl (G_X4_multiply_227) (B_X4_multiply_227) 901 (0, 0, z155.2.2) := ⟨_, rfl⟩
            have e9 : z168 = itn (B_X4_multiply_227) (nW (G_X4_multiply_227) (B_X4_multiply_227) 901 (0, 0, z155.2.2)) (0, 0, z155.2.2) := ez168
            try rw [← e9] at hP
            try rw [← e9] at hD
            try rw [← e9] at hl
            rw [← ez168] at hG1
            clear e9
            have hg := rG_X4_multiply_227  z168 (Eq.symm hG1)
            unfold RG_X4_multiply_227 at hg
            have hs := hs _ ez168
            have hu := hu _ ez168
            refine lv_iload hx hb dX4_multiply_227 (lv_at hl 5 rfl) ?_
            refine lv_bipush (v := 40) hx hb dX4_multiply_229 (by decide) ?_
            have J_172 : ∀ (H : Heap) (locs : List Loc), va_P D vwCl (mw cI cJ cZ am ak an ac ae ag aq vth vmo vfg vtp vkd vng vcc vqq vrs vct vun vre vks vms vcs ves z168.2.2 u133) H → va_D A (mw cI cJ cZ am ak an ac ae ag aq vth vmo vfg vtp vkd vng vcc vqq vrs vct vun vre vks vms vcs ves z168.2.2 u133) → va_S A s.heap H locs → ∀ ls : Array Slot, lv_has ls 11 [(0, .ref am), (1, .int p0), (2, .int p1), (3, .int (bI z105))] → W p l e rm_X4_multiply s m args below meth c H locs 0 0 Q (F0 m 271 ls []) := by
              intro H locs hP hD hS ls hl
              refine lv_aload_n hx hb dX4_multiply_271 rfl (lv_at hl 0 rfl) ?_
              refine lv_aload_n hx hb dX4_multiply_272 rfl (lv_at hl 0 rfl) ?_
              refine va_get (D := D) (ci := 5) (v := .ref ae) (C := RX4) (T := TX4) (N := 18) hx hb hts hi4 hown hK hP 0 rfl rfl 4 (by decide) (hts (.fieldLink RX4 21 "DecimalWordsModel" "exponents" "[I") (inW_8 _ (List.mem_of_getElem? (i := 34) rfl))) (fun _ h9 => h9) rfl dX4_multiply_273 ?_
              refine lv_iload_n hx hb dX4_multiply_276 rfl (lv_at hl 1 rfl) ?_
              obtain ⟨h_173, hs⟩ := hs
              refine va_iald hx hb hK hP 4 1 rfl rfl h_173 dX4_multiply_277 ?_
              refine lv_aload_n hx hb dX4_multiply_278 rfl (lv_at hl 0 rfl) ?_
              refine va_get (D := D) (ci := 5) (v := .ref ae) (C := RX4) (T := TX4) (N := 18) hx hb hts hi4 hown hK hP 0 rfl rfl 4 (by decide) (hts (.fieldLink RX4 21 "DecimalWordsModel" "exponents" "[I") (inW_8 _ (List.mem_of_getElem? (i := 34) rfl))) (fun _ h9 => h9) rfl dX4_multiply_279 ?_
              refine lv_iload_n hx hb dX4_multiply_282 rfl (lv_at hl 2 rfl) ?_
              obtain ⟨h_174, hs⟩ := hs
              refine va_iald hx hb hK hP 4 1 rfl rfl h_174 dX4_multiply_283 ?_
              refine lv_iadd hx hb dX4_multiply_284 ?_
              refine lv_topi (fun f175 ef175 => ?_)
              have hs := hs _ ef175
              have hu := hu _ ef175
              refine va_put (D := D) (ci := 5) (v := .int f175) (ty := .int) (C := RX4) (T := TX4) (N := 18) hx hb hts hi4 tyX4 tyX4_ok nmX4 hown hK hP hD hS 0 rfl rfl 16 (by decide) (hts (.fieldLink RX4 86 "DecimalWordsModel" "unit" "I") (inW_9 _ (List.mem_of_getElem? (i := 33) rfl))) (fun _ h9 => h9) rfl (by decide +kernel) rfl rfl (Nat.le_of_ble_eq_true rfl) dX4_multiply_285 (fun H locs hP hD hS => ?_)
              have hP : va_P D vwCl (mw cI cJ cZ am ak an ac ae ag aq vth vmo vfg vtp vkd vng vcc vqq vrs vct f175 vre vks vms vcs ves z168.2.2 u133) H := hP
              have hD : va_D A (mw cI cJ cZ am ak an ac ae ag aq vth vmo vfg vtp vkd vng vcc vqq vrs vct f175 vre vks vms vcs ves z168.2.2 u133) := hD
              refine lv_aload_n hx hb dX4_multiply_288 rfl (lv_at hl 0 rfl) ?_
              refine lv_iconst (v := 0) hx hb dX4_multiply_289 (by decide) ?_
              refine va_put (D := D) (ci := 5) (v := .int (bI false)) (ty := .boolean) (C := RX4) (T := TX4) (N := 18) hx hb hts hi4 tyX4 tyX4_ok nmX4 hown hK hP hD hS 0 rfl rfl 17 (by decide) (hts (.fieldLink RX4 71 "DecimalWordsModel" "rest" "Z") (inW_9 _ (List.mem_of_getElem? (i := 23) rfl))) (fun _ h9 => h9) rfl (by decide +kernel) (bI_nar false) (bI_fit false) (Nat.le_of_ble_eq_true rfl) dX4_multiply_290 (fun H locs hP hD hS => ?_)
              have hP : va_P D vwCl (mw cI cJ cZ am ak an ac ae ag aq vth vmo vfg vtp vkd vng vcc vqq vrs vct f175 false vks vms vcs ves z168.2.2 u133) H := hP
              have hD : va_D A (mw cI cJ cZ am ak an ac ae ag aq vth vmo vfg vtp vkd vng vcc vqq vrs vct f175 false vks vms vcs ves z168.2.2 u133) := hD
              refine lv_aload_n hx hb dX4_multiply_293 rfl (lv_at hl 0 rfl) ?_
              refine lv_iload_n hx hb dX4_multiply_294 rfl (lv_at hl 3 rfl) ?_
              refine lv_aload_n hx hb dX4_multiply_295 rfl (lv_at hl 0 rfl) ?_
              refine va_get (D := D) (ci := 5) (v := .int f175) (C := RX4) (T := TX4) (N := 18) hx hb hts hi4 hown hK hP 0 rfl rfl 16 (by decide) (hts (.fieldLink RX4 86 "DecimalWordsModel" "unit" "I") (inW_9 _ (List.mem_of_getElem? (i := 33) rfl))) (fun _ h9 => h9) rfl dX4_multiply_296 ?_
              have h_178 := hs
              obtain ⟨u179, eu179⟩ : ∃ y9 : Int32 × Bool × Int64 × Int32 × Int32 × Int32, y9 = F_X4_fit vmo vrs f175 false z168.2.2 z105 f175 := ⟨_, rfl⟩
              have hu := hu _ eu179
              refine x_V (As := [.int (bI z105), .int f175]) (rest := []) hCF (c_X4_fit l D cR cI cJ cZ t0 am ak an ac ae ag aq vth vmo vfg vtp vkd vng vcc vqq vrs vct f175 false vks vms vcs ves z168.2.2 u133 z105 f175 u179 eu179 h_178) (x_cwV 2 hts (inW_10 _ (List.mem_of_getElem? (i := 36) rfl)) (inW_10 _ (List.mem_of_getElem? (i := 37) rfl)) (inW_10 _ (List.mem_of_getElem? (i := 38) rfl)) (inW_9 _ (List.mem_of_getElem? (i := 5) rfl)) (inW_9 _ (List.mem_of_getElem? (i := 32) rfl)) rfl rfl (by decide +kernel) ⟨Nat.le_of_ble_eq_true rfl, Nat.le_of_ble_eq_true rfl⟩) hK hP hD hS hA hSt 0 rfl rfl rfl hl.1 rfl (Nat.le_of_ble_eq_true rfl) dX4_multiply_299 ⟨Nat.le_of_ble_eq_true rfl, Nat.le_of_ble_eq_true rfl⟩ (fun H locs hP hD hS => ?_)
              show W p l e _ s m args below meth c H locs 0 0 Q (F0 m 302 ls [])
              have e9 := Eq.symm hu; subst e9
              exact x_vret hx hb hr hlocks hQ hK hP hD hS rfl dX4_multiply_302
            refine lv_icmp_ge (tgt := 271) hx hb dX4_multiply_231 (by decide) (fun c_170 => ?_) (fun c_170 => ?_)
            · rw [if_pos c_170] at hg
              exact J_172 H locs hP hD hS ls (lv_sub hl [0, 1, 2, 3] rfl)
            · rw [if_neg c_170] at hg
              exact absurd hg (by decide)
          refine xl_le (tgt := 221) hx hb dX4_multiply_155 dX4_multiply_156 (by decide) (fun c_157 => ?_) (fun c_157 => ?_)
          · rw [if_pos c_157] at hg
            exact J_159 H locs hP hD hS ls (lv_sub hl [0, 1, 2, 3] rfl)
          · rw [if_neg c_157] at hg
            exact absurd hg (by decide)
        · rw [if_pos c_131] at hu
          refine lv_iload hx hb dX4_multiply_98 (lv_at hl 0 rfl) ?_
          refine xb_eq (tgt := 110) hx hb dX4_multiply_100 (by decide) (fun c_181 => ?_) (fun c_181 => ?_)
          · rw [if_neg c_181] at hu
            refine lv_iload hx hb dX4_multiply_110 (lv_at hl 5 rfl) ?_
            refine xb_eq (tgt := 126) hx hb dX4_multiply_112 (by decide) (fun c9 => absurd c_131 c9) (fun _ => ?_)
            refine lv_aload_n hx hb dX4_multiply_115 rfl (lv_at hl 1 rfl) ?_
            refine lv_iconst (v := 1) hx hb dX4_multiply_116 (by decide) ?_
            refine lv_iload_n hx hb dX4_multiply_117 rfl (lv_at hl 4 rfl) ?_
            refine lv_lconst (v := 0) hx hb dX4_multiply_118 (by decide) ?_
            refine lv_iconst (v := 0) hx hb dX4_multiply_119 (by decide) ?_
            obtain ⟨u182, eu182⟩ : ∃ y9 : Int32 × Bool × Int64 × Int32, y9 = F_X4_be (1 : Int32) z105 (0 : Int64) (0 : Int32) := ⟨_, rfl⟩
            have hu := hu _ eu182
            refine x_V (As := [.int 1, .int (bI z105), .long 0, .int 0]) (rest := []) hCF (c_X4_be l D cR cI cJ cZ t0 am ak an ac ae ag aq vth vmo vfg vtp vkd vng vcc vqq vrs vct vun vre vks vms vcs ves vdg vog (1 : Int32) z105 (0 : Int64) (0 : Int32) u182 eu182) (x_cwV 4 hts (inW_9 _ (List.mem_of_getElem? (i := 18) rfl)) (inW_9 _ (List.mem_of_getElem? (i := 19) rfl)) (inW_9 _ (List.mem_of_getElem? (i := 20) rfl)) (inW_9 _ (List.mem_of_getElem? (i := 5) rfl)) (inW_9 _ (List.mem_of_getElem? (i := 11) rfl)) rfl rfl (by decide +kernel) ⟨Nat.le_of_ble_eq_true rfl, Nat.le_of_ble_eq_true rfl⟩) hK hP hD hS hA hSt 0 rfl rfl rfl hl.1 rfl (Nat.le_of_ble_eq_true rfl) dX4_multiply_120 ⟨Nat.le_of_ble_eq_true rfl, Nat.le_of_ble_eq_true rfl⟩ (fun H locs hP hD hS => ?_)
            show W p l e _ s m args below meth c H locs 0 0 Q (F0 m 123 ls [])
            refine lv_goto (tgt := 302) hx hb dX4_multiply_123 (by decide) ?_
            have e9 := Eq.symm hu; subst e9
            exact x_vret hx hb hr hlocks hQ hK hP hD hS rfl dX4_multiply_302
          · rw [if_pos c_181] at hu
            refine lv_aload_n hx hb dX4_multiply_103 rfl (lv_at hl 1 rfl) ?_
            obtain ⟨u184, eu184⟩ : ∃ y9 : Int32 × Bool × Int64 × Int32 × Int32, y9 = F_X4_invalid vrs := ⟨_, rfl⟩
            have hu := hu _ eu184
            refine x_V (As := []) (rest := []) hCF (c_X4_invalid l D cR cI cJ cZ t0 am ak an ac ae ag aq vth vmo vfg vtp vkd vng vcc vqq vrs vct vun vre vks vms vcs ves vdg vog u184 eu184) (x_cwV 0 hts (inW_10 _ (List.mem_of_getElem? (i := 21) rfl)) (inW_10 _ (List.mem_of_getElem? (i := 22) rfl)) (inW_10 _ (List.mem_of_getElem? (i := 23) rfl)) (inW_9 _ (List.mem_of_getElem? (i := 5) rfl)) (inW_9 _ (List.mem_of_getElem? (i := 16) rfl)) rfl rfl (by decide +kernel) ⟨Nat.le_of_ble_eq_true rfl, Nat.le_of_ble_eq_true rfl⟩) hK hP hD hS hA hSt 0 rfl rfl rfl hl.1 rfl (Nat.le_of_ble_eq_true rfl) dX4_multiply_104 ⟨Nat.le_of_ble_eq_true rfl, Nat.le_of_ble_eq_true rfl⟩ (fun H locs hP hD hS => ?_)
            show W p l e _ s m args below meth c H locs 0 0 Q (F0 m 107 ls [])
            refine lv_goto (tgt := 302) hx hb dX4_multiply_107 (by decide) ?_
            have e9 := Eq.symm hu; subst e9
            exact x_vret hx hb hr hlocks hQ hK hP hD hS rfl dX4_multiply_302
      have hs := hs.1
      obtain ⟨z9, ez9⟩ : ∃ y9 : Bool, y9 = Z_X4_multiply_J_130 vks vcs p0 p1 := ⟨_, rfl⟩
      have hz := rZ_X4_multiply_J_130 vks vcs p0 p1 ez9
      unfold RZ_X4_multiply_J_130 at hz
      refine xb_eq (tgt := 66) hx hb dX4_multiply_52 (by decide) (fun c_118 => ?_) (fun c_118 => ?_)
      · rw [if_neg c_118] at hs
        rw [if_neg c_118] at hz
        refine lv_aload_n hx hb dX4_multiply_66 rfl (lv_at hl 1 rfl) ?_
        refine lv_iload_n hx hb dX4_multiply_67 rfl (lv_at hl 3 rfl) ?_
        refine lv_iconst (v := 0) hx hb dX4_multiply_68 (by decide) ?_
        have h_119 := hs
        refine x_V (As := [.int p1, .int 0]) (rest := []) hCF (c_X4_is l D cR cI cJ cZ t0 am ak an ac ae ag aq vth vmo vfg vtp vkd vng vcc vqq vrs vct vun vre vks vms vcs ves vdg vog p1 (0 : Int32) _ rfl h_119) (x_cwV 2 hts (inW_10 _ (List.mem_of_getElem? (i := 18) rfl)) (inW_10 _ (List.mem_of_getElem? (i := 19) rfl)) (inW_10 _ (List.mem_of_getElem? (i := 20) rfl)) (inW_9 _ (List.mem_of_getElem? (i := 5) rfl)) (inW_10 _ (List.mem_of_getElem? (i := 10) rfl)) rfl rfl (by decide +kernel) ⟨Nat.le_of_ble_eq_true rfl, Nat.le_of_ble_eq_true rfl⟩) hK hP hD hS hA hSt 0 rfl rfl rfl hl.1 rfl (Nat.le_of_ble_eq_true rfl) dX4_multiply_69 ⟨Nat.le_of_ble_eq_true rfl, Nat.le_of_ble_eq_true rfl⟩ (fun H locs hP hD hS => ?_)
        show W p l e _ s m args below meth c H locs 0 0 Q (F0 m 72 ls (.int (bI (F_X4_is vks p1 (0 : Int32))) :: []))
        refine xb_eq (tgt := 90) hx hb dX4_multiply_72 (by decide) (fun c_121 => ?_) (fun c_121 => ?_)
        · rw [if_neg c_121] at hz
          refine lv_iconst (v := 0) hx hb dX4_multiply_90 (by decide) ?_
          have e9 := Eq.symm hz; subst e9
          exact J_130 _ ez9 H locs hP hD hS ls (lv_sub hl [1, 2, 3, 4, 0] rfl)
        · rw [if_pos c_121] at hz
          refine lv_aload_n hx hb dX4_multiply_75 rfl (lv_at hl 1 rfl) ?_
          refine va_get (D := D) (ci := 5) (v := .ref ac) (C := RX4) (T := TX4) (N := 18) hx hb hts hi4 hown hK hP 0 rfl rfl 3 (by decide) (hts (.fieldLink RX4 17 "DecimalWordsModel" "coefficients" "[J") (inW_8 _ (List.mem_of_getElem? (i := 33) rfl))) (fun _ h9 => h9) rfl dX4_multiply_76 ?_
          refine lv_iload_n hx hb dX4_multiply_79 rfl (lv_at hl 3 rfl) ?_
          refine va_lald hx hb hK hP 3 2 rfl rfl h_102 dX4_multiply_80 ?_
          refine lv_lconst (v := 0) hx hb dX4_multiply_81 (by decide) ?_
          refine xl_ne (tgt := 90) hx hb dX4_multiply_82 dX4_multiply_83 (by decide) (fun c_122 => ?_) (fun c_122 => ?_)
          · rw [if_neg c_122] at hz
            refine lv_iconst (v := 0) hx hb dX4_multiply_90 (by decide) ?_
            have e9 := Eq.symm hz; subst e9
            exact J_130 _ ez9 H locs hP hD hS ls (lv_sub hl [1, 2, 3, 4, 0] rfl)
          · rw [if_pos c_122] at hz
            refine lv_iconst (v := 1) hx hb dX4_multiply_86 (by decide) ?_
            refine lv_goto (tgt := 91) hx hb dX4_multiply_87 (by decide) ?_
            have e9 := Eq.symm hz; subst e9
            exact J_130 _ ez9 H locs hP hD hS ls (lv_sub hl [1, 2, 3, 4, 0] rfl)
      · rw [if_pos c_118] at hs
        rw [if_pos c_118] at hz
        refine lv_aload_n hx hb dX4_multiply_55 rfl (lv_at hl 1 rfl) ?_
        refine va_get (D := D) (ci := 5) (v := .ref ac) (C := RX4) (T := TX4) (N := 18) hx hb hts hi4 hown hK hP 0 rfl rfl 3 (by decide) (hts (.fieldLink RX4 17 "DecimalWordsModel" "coefficients" "[J") (inW_8 _ (List.mem_of_getElem? (i := 33) rfl))) (fun _ h9 => h9) rfl dX4_multiply_56 ?_
        refine lv_iload_n hx hb dX4_multiply_59 rfl (lv_at hl 2 rfl) ?_
        refine va_lald hx hb hK hP 3 2 rfl rfl h_101 dX4_multiply_60 ?_
        refine lv_lconst (v := 0) hx hb dX4_multiply_61 (by decide) ?_
        refine xl_eq (tgt := 86) hx hb dX4_multiply_62 dX4_multiply_63 (by decide) (fun c_123 => ?_) (fun c_123 => ?_)
        · rw [if_pos c_123] at hz
          refine lv_iconst (v := 1) hx hb dX4_multiply_86 (by decide) ?_
          refine lv_goto (tgt := 91) hx hb dX4_multiply_87 (by decide) ?_
          have e9 := Eq.symm hz; subst e9
          exact J_130 _ ez9 H locs hP hD hS ls (lv_sub hl [1, 2, 3, 4, 0] rfl)
        · rw [if_neg c_123] at hs
          rw [if_neg c_123] at hz
          refine lv_aload_n hx hb dX4_multiply_66 rfl (lv_at hl 1 rfl) ?_
          refine lv_iload_n hx hb dX4_multiply_67 rfl (lv_at hl 3 rfl) ?_
          refine lv_iconst (v := 0) hx hb dX4_multiply_68 (by decide) ?_
          have h_124 := hs
          refine x_V (As := [.int p1, .int 0]) (rest := []) hCF (c_X4_is l D cR cI cJ cZ t0 am ak an ac ae ag aq vth vmo vfg vtp vkd vng vcc vqq vrs vct vun vre vks vms vcs ves vdg vog p1 (0 : Int32) _ rfl h_124) (x_cwV 2 hts (inW_10 _ (List.mem_of_getElem? (i := 18) rfl)) (inW_10 _ (List.mem_of_getElem? (i := 19) rfl)) (inW_10 _ (List.mem_of_getElem? (i := 20) rfl)) (inW_9 _ (List.mem_of_getElem? (i := 5) rfl)) (inW_10 _ (List.mem_of_getElem? (i := 10) rfl)) rfl rfl (by decide +kernel) ⟨Nat.le_of_ble_eq_true rfl, Nat.le_of_ble_eq_true rfl⟩) hK hP hD hS hA hSt 0 rfl rfl rfl hl.1 rfl (Nat.le_of_ble_eq_true rfl) dX4_multiply_69 ⟨Nat.le_of_ble_eq_true rfl, Nat.le_of_ble_eq_true rfl⟩ (fun H locs hP hD hS => ?_)
          show W p l e _ s m args below meth c H locs 0 0 Q (F0 m 72 ls (.int (bI (F_X4_is vks p1 (0 : Int32))) :: []))
          refine xb_eq (tgt := 90) hx hb dX4_multiply_72 (by decide) (fun c_126 => ?_) (fun c_126 => ?_)
          · rw [if_neg c_126] at hz
            refine lv_iconst (v := 0) hx hb dX4_multiply_90 (by decide) ?_
            have e9 := Eq.symm hz; subst e9
            exact J_130 _ ez9 H locs hP hD hS ls (lv_sub hl [1, 2, 3, 4, 0] rfl)
          · rw [if_pos c_126] at hz
            refine lv_aload_n hx hb dX4_multiply_75 rfl (lv_at hl 1 rfl) ?_
            refine va_get (D := D) (ci := 5) (v := .ref ac) (C := RX4) (T := TX4) (N := 18) hx hb hts hi4 hown hK hP 0 rfl rfl 3 (by decide) (hts (.fieldLink RX4 17 "DecimalWordsModel" "coefficients" "[J") (inW_8 _ (List.mem_of_getElem? (i := 33) rfl))) (fun _ h9 => h9) rfl dX4_multiply_76 ?_
            refine lv_iload_n hx hb dX4_multiply_79 rfl (lv_at hl 3 rfl) ?_
            refine va_lald hx hb hK hP 3 2 rfl rfl h_102 dX4_multiply_80 ?_
            refine lv_lconst (v := 0) hx hb dX4_multiply_81 (by decide) ?_
            refine xl_ne (tgt := 90) hx hb dX4_multiply_82 dX4_multiply_83 (by decide) (fun c_127 => ?_) (fun c_127 => ?_)
            · rw [if_neg c_127] at hz
              refine lv_iconst (v := 0) hx hb dX4_multiply_90 (by decide) ?_
              have e9 := Eq.symm hz; subst e9
              exact J_130 _ ez9 H locs hP hD hS ls (lv_sub hl [1, 2, 3, 4, 0] rfl)
            · rw [if_pos c_127] at hz
              refine lv_iconst (v := 1) hx hb dX4_multiply_86 (by decide) ?_
              refine lv_goto (tgt := 91) hx hb dX4_multiply_87 (by decide) ?_
              have e9 := Eq.symm hz; subst e9
              exact J_130 _ ez9 H locs hP hD hS ls (lv_sub hl [1, 2, 3, 4, 0] rfl)
    have hs := hs.1
    obtain ⟨z9, ez9⟩ : ∃ y9 : Bool, y9 = Z_X4_multiply_J_115 vks p0 p1 := ⟨_, rfl⟩
    have hz := rZ_X4_multiply_J_115 vks p0 p1 ez9
    unfold RZ_X4_multiply_J_115 at hz
    refine xb_ne (tgt := 39) hx hb dX4_multiply_27 (by decide) (fun c_109 => ?_) (fun c_109 => ?_)
    · rw [if_pos c_109] at hz
      refine lv_iconst (v := 1) hx hb dX4_multiply_39 (by decide) ?_
      refine lv_goto (tgt := 44) hx hb dX4_multiply_40 (by decide) ?_
      have e9 := Eq.symm hz; subst e9
      exact J_115 _ ez9 H locs hP hD hS ls (lv_sub hl [1, 2, 3, 0] rfl)
    · rw [if_neg c_109] at hs
      rw [if_neg c_109] at hz
      refine lv_aload_n hx hb dX4_multiply_30 rfl (lv_at hl 1 rfl) ?_
      refine lv_iload_n hx hb dX4_multiply_31 rfl (lv_at hl 3 rfl) ?_
      refine lv_iconst (v := 1) hx hb dX4_multiply_32 (by decide) ?_
      have h_110 := hs
      refine x_V (As := [.int p1, .int 1]) (rest := []) hCF (c_X4_is l D cR cI cJ cZ t0 am ak an ac ae ag aq vth vmo vfg vtp vkd vng vcc vqq vrs vct vun vre vks vms vcs ves vdg vog p1 (1 : Int32) _ rfl h_110) (x_cwV 2 hts (inW_10 _ (List.mem_of_getElem? (i := 18) rfl)) (inW_10 _ (List.mem_of_getElem? (i := 19) rfl)) (inW_10 _ (List.mem_of_getElem? (i := 20) rfl)) (inW_9 _ (List.mem_of_getElem? (i := 5) rfl)) (inW_10 _ (List.mem_of_getElem? (i := 10) rfl)) rfl rfl (by decide +kernel) ⟨Nat.le_of_ble_eq_true rfl, Nat.le_of_ble_eq_true rfl⟩) hK hP hD hS hA hSt 0 rfl rfl rfl hl.1 rfl (Nat.le_of_ble_eq_true rfl) dX4_multiply_33 ⟨Nat.le_of_ble_eq_true rfl, Nat.le_of_ble_eq_true rfl⟩ (fun H locs hP hD hS => ?_)
      show W p l e _ s m args below meth c H locs 0 0 Q (F0 m 36 ls (.int (bI (F_X4_is vks p1 (1 : Int32))) :: []))
      refine xb_eq (tgt := 43) hx hb dX4_multiply_36 (by decide) (fun c_112 => ?_) (fun c_112 => ?_)
      · rw [if_neg c_112] at hz
        refine lv_iconst (v := 0) hx hb dX4_multiply_43 (by decide) ?_
        have e9 := Eq.symm hz; subst e9
        exact J_115 _ ez9 H locs hP hD hS ls (lv_sub hl [1, 2, 3, 0] rfl)
      · rw [if_pos c_112] at hz
        refine lv_iconst (v := 1) hx hb dX4_multiply_39 (by decide) ?_
        refine lv_goto (tgt := 44) hx hb dX4_multiply_40 (by decide) ?_
        have e9 := Eq.symm hz; subst e9
        exact J_115 _ ez9 H locs hP hD hS ls (lv_sub hl [1, 2, 3, 0] rfl)
  obtain ⟨z9, ez9⟩ : ∃ y9 : Bool, y9 = Z_X4_multiply_J_106 vms p0 p1 := ⟨_, rfl⟩
  have hz := rZ_X4_multiply_J_106 vms p0 p1 ez9
  unfold RZ_X4_multiply_J_106 at hz
  refine xbb_eq (tgt := 19) hx hb dX4_multiply_12 (by decide) (fun c_103 => ?_) (fun c_103 => ?_)
  · rw [if_pos c_103] at hz
    refine lv_iconst (v := 0) hx hb dX4_multiply_19 (by decide) ?_
    have e9 := Eq.symm hz; subst e9
    exact J_106 _ ez9 H locs hP hD hS ls (lv_sub hl [0, 1, 2] rfl)
  · rw [if_neg c_103] at hz
    refine lv_iconst (v := 1) hx hb dX4_multiply_15 (by decide) ?_
    refine lv_goto (tgt := 20) hx hb dX4_multiply_16 (by decide) ?_
    have e9 := Eq.symm hz; subst e9
    exact J_106 _ ez9 H locs hP hD hS ls (lv_sub hl [0, 1, 2] rfl)

def B_X4_divide_201 (vcs : Nat → Int64) (p1 : Int32) (u131 : (Nat → Int32)) (t_201 : Int64 × Int32 × (Nat → Int32)) : Int64 × Int32 × (Nat → Int32) := (if t_201.2.1 < 0 then t_201 else (bnd ((10 * t_201.1) + ((u131 t_201.2.1.toNatClampNeg).toInt64)) (fun n138 : Int64 => (bnd ((n138 / (vcs p1.toNatClampNeg)).toInt32) (fun f141 : Int32 => (bnd (va_up t_201.2.2 t_201.2.1.toNatClampNeg f141) (fun w142 : Nat → Int32 => (bnd (jremL n138 (vcs p1.toNatClampNeg)) (fun n144 : Int64 => (bnd (t_201.2.1 + (-1)) (fun n145 : Int32 => (n144, n145, w142))))))))))))
def G_X4_divide_201 (vcs : Nat → Int64) (p1 : Int32) (u131 : (Nat → Int32)) (t_201 : Int64 × Int32 × (Nat → Int32)) : Bool := (if t_201.2.1 < 0 then false else (bnd ((10 * t_201.1) + ((u131 t_201.2.1.toNatClampNeg).toInt64)) (fun n138 : Int64 => (bnd ((n138 / (vcs p1.toNatClampNeg)).toInt32) (fun f141 : Int32 => (bnd (va_up t_201.2.2 t_201.2.1.toNatClampNeg f141) (fun w142 : Nat → Int32 => (bnd (jremL n138 (vcs p1.toNatClampNeg)) (fun n144 : Int64 => (bnd (t_201.2.1 + (-1)) (fun n145 : Int32 => true)))))))))))
def RB_X4_divide_201 (vcs : Nat → Int64) (p1 : Int32) (u131 : (Nat → Int32)) (t_201 : Int64 × Int32 × (Nat → Int32)) (u9 : Int64 × Int32 × (Nat → Int32)) : Prop := (if t_201.2.1 < 0 then True else (∀ n138 : Int64, n138 = (10 * t_201.1) + ((u131 t_201.2.1.toNatClampNeg).toInt64) → (∀ f141 : Int32, f141 = (n138 / (vcs p1.toNatClampNeg)).toInt32 → (∀ w142 : Nat → Int32, w142 = va_up t_201.2.2 t_201.2.1.toNatClampNeg f141 → (∀ n144 : Int64, n144 = jremL n138 (vcs p1.toNatClampNeg) → (∀ n145 : Int32, n145 = t_201.2.1 + (-1) → u9 = (n144, n145, w142)))))))
def RG_X4_divide_201 (vcs : Nat → Int64) (p1 : Int32) (u131 : (Nat → Int32)) (t_201 : Int64 × Int32 × (Nat → Int32)) (u9 : Bool) : Prop := (if t_201.2.1 < 0 then u9 = false else u9 = true)
theorem rB_X4_divide_201 (vcs : Nat → Int64) (p1 : Int32) (u131 : (Nat → Int32)) (t_201 : Int64 × Int32 × (Nat → Int32)) {u9 : Int64 × Int32 × (Nat → Int32)} (hu : u9 = B_X4_divide_201 vcs p1 u131 t_201) : RB_X4_divide_201 vcs p1 u131 t_201 u9 := by
  unfold RB_X4_divide_201
  refine ite_P (fun c_136 => ?_) (fun c_136 => ?_)
  · have hu := hu.trans (if_pos c_136)
    trivial
  · have hu := hu.trans (if_neg c_136)
    intro n138 en138
    have hu := bnd_n hu en138
    intro f141 ef141
    have hu := bnd_n hu ef141
    intro w142 ew142
    have hu := bnd_n hu ew142
    intro n144 en144
    have hu := bnd_n hu en144
    intro n145 en145
    have hu := bnd_n hu en145
    exact hu
theorem rG_X4_divide_201 (vcs : Nat → Int64) (p1 : Int32) (u131 : (Nat → Int32)) (t_201 : Int64 × Int32 × (Nat → Int32)) {u9 : Bool} (hu : u9 = G_X4_divide_201 vcs p1 u131 t_201) : RG_X4_divide_201 vcs p1 u131 t_201 u9 := by
  unfold RG_X4_divide_201
  refine ite_P (fun c_136 => ?_) (fun c_136 => ?_)
  · have hu := hu.trans (if_pos c_136)
    exact hu
  · have hu := hu.trans (if_neg c_136)
    exact hu
def SB_X4_divide_201 (vcs : Nat → Int64) (p1 : Int32) (u131 : (Nat → Int32)) (t_201 : Int64 × Int32 × (Nat → Int32)) : Prop := (if t_201.2.1 < 0 then True else (vp_in t_201.2.1 900) ∧ (∀ n138 : Int64, n138 = (10 * t_201.1) + ((u131 t_201.2.1.toNatClampNeg).toInt64) → (vp_in p1 8) ∧ ¬ (vcs p1.toNatClampNeg) = 0))
def Z_X4_divide_J_198 (z190 : Int64 × Int32 × (Nat → Int32)) : Bool := (if z190.1 ≤ 0 then false else true)
def RZ_X4_divide_J_198 (z190 : Int64 × Int32 × (Nat → Int32)) (u9 : Bool) : Prop := (if z190.1 ≤ 0 then u9 = false else u9 = true)
theorem rZ_X4_divide_J_198 (z190 : Int64 × Int32 × (Nat → Int32)) {u9 : Bool} (hu : u9 = Z_X4_divide_J_198 z190) : RZ_X4_divide_J_198 z190 u9 := by
  unfold RZ_X4_divide_J_198
  refine ite_P (fun c_195 => ?_) (fun c_195 => ?_)
  · have hu := hu.trans (if_pos c_195)
    exact hu
  · have hu := hu.trans (if_neg c_195)
    exact hu
def Z_X4_divide_J_120 (vks : Nat → Int32) (vcs : Nat → Int64) (p1 : Int32) : Bool := (if F_X4_is vks p1 (0 : Int32) = true then (if vcs p1.toNatClampNeg = 0 then true else false) else false)
def RZ_X4_divide_J_120 (vks : Nat → Int32) (vcs : Nat → Int64) (p1 : Int32) (u9 : Bool) : Prop := (if F_X4_is vks p1 (0 : Int32) = true then (if vcs p1.toNatClampNeg = 0 then u9 = true else u9 = false) else u9 = false)
theorem rZ_X4_divide_J_120 (vks : Nat → Int32) (vcs : Nat → Int64) (p1 : Int32) {u9 : Bool} (hu : u9 = Z_X4_divide_J_120 vks vcs p1) : RZ_X4_divide_J_120 vks vcs p1 u9 := by
  unfold RZ_X4_divide_J_120
  refine ite_P (fun c_116 => ?_) (fun c_116 => ?_)
  · have hu := hu.trans (if_pos c_116)
    refine ite_P (fun c_117 => ?_) (fun c_117 => ?_)
    · have hu := hu.trans (if_pos c_117)
      exact hu
    · have hu := hu.trans (if_neg c_117)
      exact hu
  · have hu := hu.trans (if_neg c_116)
    exact hu
def Z_X4_divide_J_113 (vks : Nat → Int32) (vcs : Nat → Int64) (p0 : Int32) : Bool := (if F_X4_is vks p0 (0 : Int32) = true then (if vcs p0.toNatClampNeg = 0 then true else false) else false)
def RZ_X4_divide_J_113 (vks : Nat → Int32) (vcs : Nat → Int64) (p0 : Int32) (u9 : Bool) : Prop := (if F_X4_is vks p0 (0 : Int32) = true then (if vcs p0.toNatClampNeg = 0 then u9 = true else u9 = false) else u9 = false)
theorem rZ_X4_divide_J_113 (vks : Nat → Int32) (vcs : Nat → Int64) (p0 : Int32) {u9 : Bool} (hu : u9 = Z_X4_divide_J_113 vks vcs p0) : RZ_X4_divide_J_113 vks vcs p0 u9 := by
  unfold RZ_X4_divide_J_113
  refine ite_P (fun c_109 => ?_) (fun c_109 => ?_)
  · have hu := hu.trans (if_pos c_109)
    refine ite_P (fun c_110 => ?_) (fun c_110 => ?_)
    · have hu := hu.trans (if_pos c_110)
      exact hu
    · have hu := hu.trans (if_neg c_110)
      exact hu
  · have hu := hu.trans (if_neg c_109)
    exact hu
def Z_X4_divide_J_106 (vms : Nat → Bool) (p0 : Int32) (p1 : Int32) : Bool := (if vms p0.toNatClampNeg = vms p1.toNatClampNeg then false else true)
def RZ_X4_divide_J_106 (vms : Nat → Bool) (p0 : Int32) (p1 : Int32) (u9 : Bool) : Prop := (if vms p0.toNatClampNeg = vms p1.toNatClampNeg then u9 = false else u9 = true)
theorem rZ_X4_divide_J_106 (vms : Nat → Bool) (p0 : Int32) (p1 : Int32) {u9 : Bool} (hu : u9 = Z_X4_divide_J_106 vms p0 p1) : RZ_X4_divide_J_106 vms p0 p1 u9 := by
  unfold RZ_X4_divide_J_106
  refine ite_P (fun c_103 => ?_) (fun c_103 => ?_)
  · have hu := hu.trans (if_pos c_103)
    exact hu
  · have hu := hu.trans (if_neg c_103)
    exact hu
def F_X4_divide (vmo : Int32) (vrs : Int32) (vct : Int32) (vun : Int32) (vre : Bool) (vks : Nat → Int32) (vms : Nat → Bool) (vcs : Nat → Int64) (ves : Nat → Int32) (vdg : Nat → Int32) (vog : Nat → Int32) (p0 : Int32) (p1 : Int32) : Int32 × Bool × Int64 × Int32 × Int32 × Int32 × Int32 × Bool × (Nat → Int32) × (Nat → Int32) := (bnd (Z_X4_divide_J_106 vms p0 p1) (fun z105 : Bool => (bnd (Z_X4_divide_J_113 vks vcs p0) (fun z112 : Bool => (bnd (Z_X4_divide_J_120 vks vcs p1) (fun z119 : Bool => (if F_X4_is vks p0 (1 : Int32) = true then (if F_X4_is vks p1 (1 : Int32) = true then (bnd (F_X4_invalid vrs) (fun u214 : Int32 × Bool × Int64 × Int32 × Int32 => (u214.1, u214.2.1, u214.2.2.1, u214.2.2.2.1, u214.2.2.2.2, vct, vun, vre, vdg, vog))) else (if z112 = true then (if z119 = true then (bnd (F_X4_invalid vrs) (fun u224 : Int32 × Bool × Int64 × Int32 × Int32 => (u224.1, u224.2.1, u224.2.2.1, u224.2.2.2.1, u224.2.2.2.2, vct, vun, vre, vdg, vog))) else (bnd (F_X4_be (1 : Int32) z105 (0 : Int64) (0 : Int32)) (fun u222 : Int32 × Bool × Int64 × Int32 => (u222.1, u222.2.1, u222.2.2.1, u222.2.2.2, vrs, vct, vun, vre, vdg, vog)))) else (bnd (F_X4_be (1 : Int32) z105 (0 : Int64) (0 : Int32)) (fun u218 : Int32 × Bool × Int64 × Int32 => (u218.1, u218.2.1, u218.2.2.1, u218.2.2.2, vrs, vct, vun, vre, vdg, vog))))) else (if z112 = true then (if z119 = true then (bnd (F_X4_invalid vrs) (fun u209 : Int32 × Bool × Int64 × Int32 × Int32 => (u209.1, u209.2.1, u209.2.2.1, u209.2.2.2.1, u209.2.2.2.2, vct, vun, vre, vdg, vog))) else (if F_X4_is vks p1 (1 : Int32) = true then (bnd (F_X4_be (0 : Int32) z105 (0 : Int64) (-398 : Int32)) (fun u207 : Int32 × Bool × Int64 × Int32 => (u207.1, u207.2.1, u207.2.2.1, u207.2.2.2, vrs, vct, vun, vre, vdg, vog))) else (bnd (F_X4_layOther vog (vcs p0.toNatClampNeg) (34 : Int32)) (fun u175 : (Nat → Int32) => (bnd (F_X4_clear vdg) (fun u178 : (Nat → Int32) => (bnd (wl (G_X4_divide_201 vcs p1 u175) (B_X4_divide_201 vcs p1 u175) 901 (0, 49, u178)) (fun z190 : Int64 × Int32 × (Nat → Int32) => (bnd (Z_X4_divide_J_198 z190) (fun z197 : Bool => (bnd (((ves p0.toNatClampNeg) - (ves p1.toNatClampNeg)) - 34) (fun f202 : Int32 => (bnd (F_X4_fit vmo vrs f202 z197 z190.2.2 z105 ((ves p0.toNatClampNeg) - (ves p1.toNatClampNeg))) (fun u205 : Int32 × Bool × Int64 × Int32 × Int32 × Int32 => (u205.1, u205.2.1, u205.2.2.1, u205.2.2.2.1, u205.2.2.2.2.1, u205.2.2.2.2.2, f202, z197, z190.2.2, u175))))))))))))))) else (if F_X4_is vks p1 (1 : Int32) = true then (bnd (F_X4_be (0 : Int32) z105 (0 : Int64) (-398 : Int32)) (fun u167 : Int32 × Bool × Int64 × Int32 => (u167.1, u167.2.1, u167.2.2.1, u167.2.2.2, vrs, vct, vun, vre, vdg, vog))) else (if z119 = true then (bnd (vrs ||| 2) (fun f163 : Int32 => (bnd (F_X4_be (1 : Int32) z105 (0 : Int64) (0 : Int32)) (fun u165 : Int32 × Bool × Int64 × Int32 => (u165.1, u165.2.1, u165.2.2.1, u165.2.2.2, f163, vct, vun, vre, vdg, vog))))) else (bnd (F_X4_layOther vog (vcs p0.toNatClampNeg) (34 : Int32)) (fun u131 : (Nat → Int32) => (bnd (F_X4_clear vdg) (fun u134 : (Nat → Int32) => (bnd (wl (G_X4_divide_201 vcs p1 u131) (B_X4_divide_201 vcs p1 u131) 901 (0, 49, u134)) (fun z146 : Int64 × Int32 × (Nat → Int32) => (bnd (Z_X4_divide_J_198 z146) (fun z153 : Bool => (bnd (((ves p0.toNatClampNeg) - (ves p1.toNatClampNeg)) - 34) (fun f158 : Int32 => (bnd (F_X4_fit vmo vrs f158 z153 z146.2.2 z105 ((ves p0.toNatClampNeg) - (ves p1.toNatClampNeg))) (fun u161 : Int32 × Bool × Int64 × Int32 × Int32 × Int32 => (u161.1, u161.2.1, u161.2.2.1, u161.2.2.2.1, u161.2.2.2.2.1, u161.2.2.2.2.2, f158, z153, z146.2.2, u131)))))))))))))))))))))))
def RF_X4_divide (vmo : Int32) (vrs : Int32) (vct : Int32) (vun : Int32) (vre : Bool) (vks : Nat → Int32) (vms : Nat → Bool) (vcs : Nat → Int64) (ves : Nat → Int32) (vdg : Nat → Int32) (vog : Nat → Int32) (p0 : Int32) (p1 : Int32) (u9 : Int32 × Bool × Int64 × Int32 × Int32 × Int32 × Int32 × Bool × (Nat → Int32) × (Nat → Int32)) : Prop := (∀ z105 : Bool, z105 = Z_X4_divide_J_106 vms p0 p1 → (∀ z112 : Bool, z112 = Z_X4_divide_J_113 vks vcs p0 → (∀ z119 : Bool, z119 = Z_X4_divide_J_120 vks vcs p1 → (if F_X4_is vks p0 (1 : Int32) = true then (if F_X4_is vks p1 (1 : Int32) = true then (∀ u214 : Int32 × Bool × Int64 × Int32 × Int32, u214 = F_X4_invalid vrs → u9 = (u214.1, u214.2.1, u214.2.2.1, u214.2.2.2.1, u214.2.2.2.2, vct, vun, vre, vdg, vog)) else (if z112 = true then (if z119 = true then (∀ u224 : Int32 × Bool × Int64 × Int32 × Int32, u224 = F_X4_invalid vrs → u9 = (u224.1, u224.2.1, u224.2.2.1, u224.2.2.2.1, u224.2.2.2.2, vct, vun, vre, vdg, vog)) else (∀ u222 : Int32 × Bool × Int64 × Int32, u222 = F_X4_be (1 : Int32) z105 (0 : Int64) (0 : Int32) → u9 = (u222.1, u222.2.1, u222.2.2.1, u222.2.2.2, vrs, vct, vun, vre, vdg, vog))) else (∀ u218 : Int32 × Bool × Int64 × Int32, u218 = F_X4_be (1 : Int32) z105 (0 : Int64) (0 : Int32) → u9 = (u218.1, u218.2.1, u218.2.2.1, u218.2.2.2, vrs, vct, vun, vre, vdg, vog)))) else (if z112 = true then (if z119 = true then (∀ u209 : Int32 × Bool × Int64 × Int32 × Int32, u209 = F_X4_invalid vrs → u9 = (u209.1, u209.2.1, u209.2.2.1, u209.2.2.2.1, u209.2.2.2.2, vct, vun, vre, vdg, vog)) else (if F_X4_is vks p1 (1 : Int32) = true then (∀ u207 : Int32 × Bool × Int64 × Int32, u207 = F_X4_be (0 : Int32) z105 (0 : Int64) (-398 : Int32) → u9 = (u207.1, u207.2.1, u207.2.2.1, u207.2.2.2, vrs, vct, vun, vre, vdg, vog)) else (∀ u175 : (Nat → Int32), u175 = F_X4_layOther vog (vcs p0.toNatClampNeg) (34 : Int32) → (∀ u178 : (Nat → Int32), u178 = F_X4_clear vdg → (∀ z190 : Int64 × Int32 × (Nat → Int32), z190 = wl (G_X4_divide_201 vcs p1 u175) (B_X4_divide_201 vcs p1 u175) 901 (0, 49, u178) → (∀ z197 : Bool, z197 = Z_X4_divide_J_198 z190 → (∀ f202 : Int32, f202 = ((ves p0.toNatClampNeg) - (ves p1.toNatClampNeg)) - 34 → (∀ u205 : Int32 × Bool × Int64 × Int32 × Int32 × Int32, u205 = F_X4_fit vmo vrs f202 z197 z190.2.2 z105 ((ves p0.toNatClampNeg) - (ves p1.toNatClampNeg)) → u9 = (u205.1, u205.2.1, u205.2.2.1, u205.2.2.2.1, u205.2.2.2.2.1, u205.2.2.2.2.2, f202, z197, z190.2.2, u175))))))))) else (if F_X4_is vks p1 (1 : Int32) = true then (∀ u167 : Int32 × Bool × Int64 × Int32, u167 = F_X4_be (0 : Int32) z105 (0 : Int64) (-398 : Int32) → u9 = (u167.1, u167.2.1, u167.2.2.1, u167.2.2.2, vrs, vct, vun, vre, vdg, vog)) else (if z119 = true then (∀ f163 : Int32, f163 = vrs ||| 2 → (∀ u165 : Int32 × Bool × Int64 × Int32, u165 = F_X4_be (1 : Int32) z105 (0 : Int64) (0 : Int32) → u9 = (u165.1, u165.2.1, u165.2.2.1, u165.2.2.2, f163, vct, vun, vre, vdg, vog))) else (∀ u131 : (Nat → Int32), u131 = F_X4_layOther vog (vcs p0.toNatClampNeg) (34 : Int32) → (∀ u134 : (Nat → Int32), u134 = F_X4_clear vdg → (∀ z146 : Int64 × Int32 × (Nat → Int32), z146 = wl (G_X4_divide_201 vcs p1 u131) (B_X4_divide_201 vcs p1 u131) 901 (0, 49, u134) → (∀ z153 : Bool, z153 = Z_X4_divide_J_198 z146 → (∀ f158 : Int32, f158 = ((ves p0.toNatClampNeg) - (ves p1.toNatClampNeg)) - 34 → (∀ u161 : Int32 × Bool × Int64 × Int32 × Int32 × Int32, u161 = F_X4_fit vmo vrs f158 z153 z146.2.2 z105 ((ves p0.toNatClampNeg) - (ves p1.toNatClampNeg)) → u9 = (u161.1, u161.2.1, u161.2.2.1, u161.2.2.2.1, u161.2.2.2.2.1, u161.2.2.2.2.2, f158, z153, z146.2.2, u131))))))))))))))
theorem rF_X4_divide (vmo : Int32) (vrs : Int32) (vct : Int32) (vun : Int32) (vre : Bool) (vks : Nat → Int32) (vms : Nat → Bool) (vcs : Nat → Int64) (ves : Nat → Int32) (vdg : Nat → Int32) (vog : Nat → Int32) (p0 : Int32) (p1 : Int32) {u9 : Int32 × Bool × Int64 × Int32 × Int32 × Int32 × Int32 × Bool × (Nat → Int32) × (Nat → Int32)} (hu : u9 = F_X4_divide vmo vrs vct vun vre vks vms vcs ves vdg vog p0 p1) : RF_X4_divide vmo vrs vct vun vre vks vms vcs ves vdg vog p0 p1 u9 := by
  unfold RF_X4_divide
  intro z105 ez105
  have hu := bnd_n hu ez105
  intro z112 ez112
  have hu := bnd_n hu ez112
  intro z119 ez119
  have hu := bnd_n hu ez119
  refine ite_P (fun c_123 => ?_) (fun c_123 => ?_)
  · have hu := hu.trans (if_pos c_123)
    refine ite_P (fun c_213 => ?_) (fun c_213 => ?_)
    · have hu := hu.trans (if_pos c_213)
      intro u214 eu214
      have hu := bnd_n hu eu214
      exact hu
    · have hu := hu.trans (if_neg c_213)
      refine ite_P (fun c_216 => ?_) (fun c_216 => ?_)
      · have hu := hu.trans (if_pos c_216)
        refine ite_P (fun c_220 => ?_) (fun c_220 => ?_)
        · have hu := hu.trans (if_pos c_220)
          intro u224 eu224
          have hu := bnd_n hu eu224
          exact hu
        · have hu := hu.trans (if_neg c_220)
          intro u222 eu222
          have hu := bnd_n hu eu222
          exact hu
      · have hu := hu.trans (if_neg c_216)
        intro u218 eu218
        have hu := bnd_n hu eu218
        exact hu
  · have hu := hu.trans (if_neg c_123)
    refine ite_P (fun c_124 => ?_) (fun c_124 => ?_)
    · have hu := hu.trans (if_pos c_124)
      refine ite_P (fun c_169 => ?_) (fun c_169 => ?_)
      · have hu := hu.trans (if_pos c_169)
        intro u209 eu209
        have hu := bnd_n hu eu209
        exact hu
      · have hu := hu.trans (if_neg c_169)
        refine ite_P (fun c_173 => ?_) (fun c_173 => ?_)
        · have hu := hu.trans (if_pos c_173)
          intro u207 eu207
          have hu := bnd_n hu eu207
          exact hu
        · have hu := hu.trans (if_neg c_173)
          intro u175 eu175
          have hu := bnd_n hu eu175
          intro u178 eu178
          have hu := bnd_n hu eu178
          intro z190 ez190
          have hu := bnd_n hu ez190
          intro z197 ez197
          have hu := bnd_n hu ez197
          intro f202 ef202
          have hu := bnd_n hu ef202
          intro u205 eu205
          have hu := bnd_n hu eu205
          exact hu
    · have hu := hu.trans (if_neg c_124)
      refine ite_P (fun c_128 => ?_) (fun c_128 => ?_)
      · have hu := hu.trans (if_pos c_128)
        intro u167 eu167
        have hu := bnd_n hu eu167
        exact hu
      · have hu := hu.trans (if_neg c_128)
        refine ite_P (fun c_129 => ?_) (fun c_129 => ?_)
        · have hu := hu.trans (if_pos c_129)
          intro f163 ef163
          have hu := bnd_n hu ef163
          intro u165 eu165
          have hu := bnd_n hu eu165
          exact hu
        · have hu := hu.trans (if_neg c_129)
          intro u131 eu131
          have hu := bnd_n hu eu131
          intro u134 eu134
          have hu := bnd_n hu eu134
          intro z146 ez146
          have hu := bnd_n hu ez146
          intro z153 ez153
          have hu := bnd_n hu ez153
          intro f158 ef158
          have hu := bnd_n hu ef158
          intro u161 eu161
          have hu := bnd_n hu eu161
          exact hu
def S_X4_divide (vmo : Int32) (vrs : Int32) (vct : Int32) (vun : Int32) (vre : Bool) (vks : Nat → Int32) (vms : Nat → Bool) (vcs : Nat → Int64) (ves : Nat → Int32) (vdg : Nat → Int32) (vog : Nat → Int32) (p0 : Int32) (p1 : Int32) : Prop := (vp_in p0 8) ∧ (vp_in p1 8) ∧ (∀ z105 : Bool, z105 = Z_X4_divide_J_106 vms p0 p1 → (S_X4_is vks p0 (0 : Int32)) ∧ (∀ z112 : Bool, z112 = Z_X4_divide_J_113 vks vcs p0 → (S_X4_is vks p1 (0 : Int32)) ∧ (∀ z119 : Bool, z119 = Z_X4_divide_J_120 vks vcs p1 → (S_X4_is vks p0 (1 : Int32)) ∧ (if F_X4_is vks p0 (1 : Int32) = true then S_X4_is vks p1 (1 : Int32) else (if z112 = true then (if z119 = true then True else (S_X4_is vks p1 (1 : Int32)) ∧ (if F_X4_is vks p1 (1 : Int32) = true then True else (S_X4_layOther vog (vcs p0.toNatClampNeg) (34 : Int32)) ∧ (∀ u175 : (Nat → Int32), u175 = F_X4_layOther vog (vcs p0.toNatClampNeg) (34 : Int32) → (S_X4_clear vdg) ∧ (∀ u178 : (Nat → Int32), u178 = F_X4_clear vdg → (∀ j : Nat, j < nW (G_X4_divide_201 vcs p1 u175) (B_X4_divide_201 vcs p1 u175) 901 (0, 49, u178) → SB_X4_divide_201 vcs p1 u175 (itn (B_X4_divide_201 vcs p1 u175) j (0, 49, u178))) ∧ G_X4_divide_201 vcs p1 u175 (wl (G_X4_divide_201 vcs p1 u175) (B_X4_divide_201 vcs p1 u175) 901 (0, 49, u178)) = false ∧ (∀ z190 : Int64 × Int32 × (Nat → Int32), z190 = wl (G_X4_divide_201 vcs p1 u175) (B_X4_divide_201 vcs p1 u175) 901 (0, 49, u178) → (∀ z197 : Bool, z197 = Z_X4_divide_J_198 z190 → (vp_in p0 8) ∧ (vp_in p1 8) ∧ (∀ f202 : Int32, f202 = ((ves p0.toNatClampNeg) - (ves p1.toNatClampNeg)) - 34 → S_X4_fit vmo vrs f202 z197 z190.2.2 z105 ((ves p0.toNatClampNeg) - (ves p1.toNatClampNeg))))))))) else (S_X4_is vks p1 (1 : Int32)) ∧ (if F_X4_is vks p1 (1 : Int32) = true then True else (if z119 = true then True else (S_X4_layOther vog (vcs p0.toNatClampNeg) (34 : Int32)) ∧ (∀ u131 : (Nat → Int32), u131 = F_X4_layOther vog (vcs p0.toNatClampNeg) (34 : Int32) → (S_X4_clear vdg) ∧ (∀ u134 : (Nat → Int32), u134 = F_X4_clear vdg → (∀ j : Nat, j < nW (G_X4_divide_201 vcs p1 u131) (B_X4_divide_201 vcs p1 u131) 901 (0, 49, u134) → SB_X4_divide_201 vcs p1 u131 (itn (B_X4_divide_201 vcs p1 u131) j (0, 49, u134))) ∧ G_X4_divide_201 vcs p1 u131 (wl (G_X4_divide_201 vcs p1 u131) (B_X4_divide_201 vcs p1 u131) 901 (0, 49, u134)) = false ∧ (∀ z146 : Int64 × Int32 × (Nat → Int32), z146 = wl (G_X4_divide_201 vcs p1 u131) (B_X4_divide_201 vcs p1 u131) 901 (0, 49, u134) → (∀ z153 : Bool, z153 = Z_X4_divide_J_198 z146 → (vp_in p0 8) ∧ (vp_in p1 8) ∧ (∀ f158 : Int32, f158 = ((ves p0.toNatClampNeg) - (ves p1.toNatClampNeg)) - 34 → S_X4_fit vmo vrs f158 z153 z146.2.2 z105 ((ves p0.toNatClampNeg) - (ves p1.toNatClampNeg))))))))))))))
def rm_X4_divide : Room := { frames := 3, cells := 0, slots := 0, locals := 85 }
set_option maxHeartbeats 4000000 in
set_option maxRecDepth 100000 in
theorem c_X4_divide (l : Launch) (D : va_G) (cR cI cJ cZ : ClassId) (t0 : Nat) (am ak an ac ae ag aq : Nat) (vth : Int32) (vmo : Int32) (vfg : Int32) (vtp : Int32) (vkd : Int32) (vng : Bool) (vcc : Int64) (vqq : Int32) (vrs : Int32) (vct : Int32) (vun : Int32) (vre : Bool) (vks : Nat → Int32) (vms : Nat → Bool) (vcs : Nat → Int64) (ves : Nat → Int32) (vdg : Nat → Int32) (vog : Nat → Int32) (p0 : Int32) (p1 : Int32) (u : Int32 × Bool × Int64 × Int32 × Int32 × Int32 × Int32 × Bool × (Nat → Int32) × (Nat → Int32)) (hu : u = F_X4_divide vmo vrs vct vun vre vks vms vcs ves vdg vog p0 p1) (hs : S_X4_divide vmo vrs vct vun vre vks vms vcs ves vdg vog p0 p1) : XM l D (xty cR cI cJ cZ) t0 yX4_divide cX4_divide 9 none rm_X4_divide [.ref am, .int p0, .int p1] none (mw cI cJ cZ am ak an ac ae ag aq vth vmo vfg vtp vkd vng vcc vqq vrs vct vun vre vks vms vcs ves vdg vog) (mw cI cJ cZ am ak an ac ae ag aq vth vmo vfg vtp u.1 u.2.1 u.2.2.1 u.2.2.2.1 u.2.2.2.2.1 u.2.2.2.2.2.1 u.2.2.2.2.2.2.1 u.2.2.2.2.2.2.2.1 vks vms vcs ves u.2.2.2.2.2.2.2.2.1 u.2.2.2.2.2.2.2.2.2) := by
  refine XM.of (by decide) (Nat.le_of_ble_eq_true rfl) ?_
  intro p e s m args below meth c A Q F hK hP hD hA hSt hS hQ ls hl
  obtain ⟨hx, hb, hr, hts, hown, hlocks, hml⟩ := F
  have hCF : CallFix p m c cX4_divide 9 s args gW RX4 := ⟨hx, hb, hml, hown, hts⟩
  unfold S_X4_divide at hs
  have hu := rF_X4_divide vmo vrs vct vun vre vks vms vcs ves vdg vog p0 p1 hu
  unfold RF_X4_divide at hu
  obtain ⟨H, eH⟩ : ∃ y9 : Heap, y9 = s.heap := ⟨_, rfl⟩
  obtain ⟨locs, eL⟩ : ∃ y9 : List Loc, y9 = [] := ⟨_, rfl⟩
  rw [← eL] at hS ⊢
  have hP : va_P D vwCl (mw cI cJ cZ am ak an ac ae ag aq vth vmo vfg vtp vkd vng vcc vqq vrs vct vun vre vks vms vcs ves vdg vog) H := by rw [eH]; exact hP
  have hS : va_S A s.heap H locs := by rw [eH]; exact hS
  suffices goal9 : W p l e rm_X4_divide s m args below meth c H locs 0 0 Q (F0 m 0 ls []) from by rw [← eH]; exact goal9
  have hl : lv_has ls 9 [(0, .ref am), (1, .int p0), (2, .int p1)] := hl
  have hi4 : ∀ w ∈ wsX40, w ∈ gW := inW_X4
  refine lv_aload_n hx hb dX4_divide_0 rfl (lv_at hl 0 rfl) ?_
  refine va_get (D := D) (ci := 5) (v := .ref an) (C := RX4) (T := TX4) (N := 18) hx hb hts hi4 hown hK hP 0 rfl rfl 2 (by decide) (hts (.fieldLink RX4 13 "DecimalWordsModel" "minus" "[Z") (inW_8 _ (List.mem_of_getElem? (i := 31) rfl))) (fun _ h9 => h9) rfl dX4_divide_1 ?_
  refine lv_iload_n hx hb dX4_divide_4 rfl (lv_at hl 1 rfl) ?_
  obtain ⟨h_101, hs⟩ := hs
  refine va_zald hx hb hK hP 2 3 rfl rfl h_101 dX4_divide_5 ?_
  refine lv_aload_n hx hb dX4_divide_6 rfl (lv_at hl 0 rfl) ?_
  refine va_get (D := D) (ci := 5) (v := .ref an) (C := RX4) (T := TX4) (N := 18) hx hb hts hi4 hown hK hP 0 rfl rfl 2 (by decide) (hts (.fieldLink RX4 13 "DecimalWordsModel" "minus" "[Z") (inW_8 _ (List.mem_of_getElem? (i := 31) rfl))) (fun _ h9 => h9) rfl dX4_divide_7 ?_
  refine lv_iload_n hx hb dX4_divide_10 rfl (lv_at hl 2 rfl) ?_
  obtain ⟨h_102, hs⟩ := hs
  refine va_zald hx hb hK hP 2 3 rfl rfl h_102 dX4_divide_11 ?_
  have J_106 : (∀ z105 : Bool, z105 = Z_X4_divide_J_106 vms p0 p1 → ∀ (H : Heap) (locs : List Loc), va_P D vwCl (mw cI cJ cZ am ak an ac ae ag aq vth vmo vfg vtp vkd vng vcc vqq vrs vct vun vre vks vms vcs ves vdg vog) H → va_D A (mw cI cJ cZ am ak an ac ae ag aq vth vmo vfg vtp vkd vng vcc vqq vrs vct vun vre vks vms vcs ves vdg vog) → va_S A s.heap H locs → ∀ ls : Array Slot, lv_has ls 9 [(0, .ref am), (1, .int p0), (2, .int p1)] → W p l e rm_X4_divide s m args below meth c H locs 0 0 Q (F0 m 20 ls [.int (bI z105)])) := by
    intro z105 ez105 H locs hP hD hS ls hl
    have hs := hs _ ez105
    have hu := hu _ ez105
    refine lv_istore_n (lv' := [(3, .int (bI z105)), (0, .ref am), (1, .int p0), (2, .int p1)]) hx hb dX4_divide_20 rfl hl (by decide) rfl (fun ls hl => ?_)
    refine lv_aload_n hx hb dX4_divide_21 rfl (lv_at hl 1 rfl) ?_
    refine lv_iload_n hx hb dX4_divide_22 rfl (lv_at hl 2 rfl) ?_
    refine lv_iconst (v := 0) hx hb dX4_divide_23 (by decide) ?_
    obtain ⟨h_107, hs⟩ := hs
    refine x_V (As := [.int p0, .int 0]) (rest := []) hCF (c_X4_is l D cR cI cJ cZ t0 am ak an ac ae ag aq vth vmo vfg vtp vkd vng vcc vqq vrs vct vun vre vks vms vcs ves vdg vog p0 (0 : Int32) _ rfl h_107) (x_cwV 2 hts (inW_10 _ (List.mem_of_getElem? (i := 18) rfl)) (inW_10 _ (List.mem_of_getElem? (i := 19) rfl)) (inW_10 _ (List.mem_of_getElem? (i := 20) rfl)) (inW_9 _ (List.mem_of_getElem? (i := 5) rfl)) (inW_10 _ (List.mem_of_getElem? (i := 10) rfl)) rfl rfl (by decide +kernel) ⟨Nat.le_of_ble_eq_true rfl, Nat.le_of_ble_eq_true rfl⟩) hK hP hD hS hA hSt 0 rfl rfl rfl hl.1 rfl (Nat.le_of_ble_eq_true rfl) dX4_divide_24 ⟨Nat.le_of_ble_eq_true rfl, Nat.le_of_ble_eq_true rfl⟩ (fun H locs hP hD hS => ?_)
    show W p l e _ s m args below meth c H locs 0 0 Q (F0 m 27 ls (.int (bI (F_X4_is vks p0 (0 : Int32))) :: []))
    have J_113 : (∀ z112 : Bool, z112 = Z_X4_divide_J_113 vks vcs p0 → ∀ (H : Heap) (locs : List Loc), va_P D vwCl (mw cI cJ cZ am ak an ac ae ag aq vth vmo vfg vtp vkd vng vcc vqq vrs vct vun vre vks vms vcs ves vdg vog) H → va_D A (mw cI cJ cZ am ak an ac ae ag aq vth vmo vfg vtp vkd vng vcc vqq vrs vct vun vre vks vms vcs ves vdg vog) → va_S A s.heap H locs → ∀ ls : Array Slot, lv_has ls 9 [(0, .ref am), (1, .int p0), (2, .int p1), (3, .int (bI z105))] → W p l e rm_X4_divide s m args below meth c H locs 0 0 Q (F0 m 46 ls [.int (bI z112)])) := by
      intro z112 ez112 H locs hP hD hS ls hl
      have hs := hs _ ez112
      have hu := hu _ ez112
      refine lv_istore (lv' := [(4, .int (bI z112)), (0, .ref am), (1, .int p0), (2, .int p1), (3, .int (bI z105))]) hx hb dX4_divide_46 hl (by decide) rfl (fun ls hl => ?_)
      refine lv_aload_n hx hb dX4_divide_48 rfl (lv_at hl 1 rfl) ?_
      refine lv_iload_n hx hb dX4_divide_49 rfl (lv_at hl 3 rfl) ?_
      refine lv_iconst (v := 0) hx hb dX4_divide_50 (by decide) ?_
      obtain ⟨h_114, hs⟩ := hs
      refine x_V (As := [.int p1, .int 0]) (rest := []) hCF (c_X4_is l D cR cI cJ cZ t0 am ak an ac ae ag aq vth vmo vfg vtp vkd vng vcc vqq vrs vct vun vre vks vms vcs ves vdg vog p1 (0 : Int32) _ rfl h_114) (x_cwV 2 hts (inW_10 _ (List.mem_of_getElem? (i := 18) rfl)) (inW_10 _ (List.mem_of_getElem? (i := 19) rfl)) (inW_10 _ (List.mem_of_getElem? (i := 20) rfl)) (inW_9 _ (List.mem_of_getElem? (i := 5) rfl)) (inW_10 _ (List.mem_of_getElem? (i := 10) rfl)) rfl rfl (by decide +kernel) ⟨Nat.le_of_ble_eq_true rfl, Nat.le_of_ble_eq_true rfl⟩) hK hP hD hS hA hSt 0 rfl rfl rfl hl.1 rfl (Nat.le_of_ble_eq_true rfl) dX4_divide_51 ⟨Nat.le_of_ble_eq_true rfl, Nat.le_of_ble_eq_true rfl⟩ (fun H locs hP hD hS => ?_)
      show W p l e _ s m args below meth c H locs 0 0 Q (F0 m 54 ls (.int (bI (F_X4_is vks p1 (0 : Int32))) :: []))
      have J_120 : (∀ z119 : Bool, z119 = Z_X4_divide_J_120 vks vcs p1 → ∀ (H : Heap) (locs : List Loc), va_P D vwCl (mw cI cJ cZ am ak an ac ae ag aq vth vmo vfg vtp vkd vng vcc vqq vrs vct vun vre vks vms vcs ves vdg vog) H → va_D A (mw cI cJ cZ am ak an ac ae ag aq vth vmo vfg vtp vkd vng vcc vqq vrs vct vun vre vks vms vcs ves vdg vog) → va_S A s.heap H locs → ∀ ls : Array Slot, lv_has ls 9 [(0, .ref am), (1, .int p0), (2, .int p1), (3, .int (bI z105)), (4, .int (bI z112))] → W p l e rm_X4_divide s m args below meth c H locs 0 0 Q (F0 m 73 ls [.int (bI z119)])) := by
        intro z119 ez119 H locs hP hD hS ls hl
        have hs := hs _ ez119
        have hu := hu _ ez119
        refine lv_istore (lv' := [(5, .int (bI z119)), (0, .ref am), (1, .int p0), (2, .int p1), (3, .int (bI z105)), (4, .int (bI z112))]) hx hb dX4_divide_73 hl (by decide) rfl (fun ls hl => ?_)
        refine lv_aload_n hx hb dX4_divide_75 rfl (lv_at hl 1 rfl) ?_
        refine lv_iload_n hx hb dX4_divide_76 rfl (lv_at hl 2 rfl) ?_
        refine lv_iconst (v := 1) hx hb dX4_divide_77 (by decide) ?_
        obtain ⟨h_121, hs⟩ := hs
        refine x_V (As := [.int p0, .int 1]) (rest := []) hCF (c_X4_is l D cR cI cJ cZ t0 am ak an ac ae ag aq vth vmo vfg vtp vkd vng vcc vqq vrs vct vun vre vks vms vcs ves vdg vog p0 (1 : Int32) _ rfl h_121) (x_cwV 2 hts (inW_10 _ (List.mem_of_getElem? (i := 18) rfl)) (inW_10 _ (List.mem_of_getElem? (i := 19) rfl)) (inW_10 _ (List.mem_of_getElem? (i := 20) rfl)) (inW_9 _ (List.mem_of_getElem? (i := 5) rfl)) (inW_10 _ (List.mem_of_getElem? (i := 10) rfl)) rfl rfl (by decide +kernel) ⟨Nat.le_of_ble_eq_true rfl, Nat.le_of_ble_eq_true rfl⟩) hK hP hD hS hA hSt 0 rfl rfl rfl hl.1 rfl (Nat.le_of_ble_eq_true rfl) dX4_divide_78 ⟨Nat.le_of_ble_eq_true rfl, Nat.le_of_ble_eq_true rfl⟩ (fun H locs hP hD hS => ?_)
        show W p l e _ s m args below meth c H locs 0 0 Q (F0 m 81 ls (.int (bI (F_X4_is vks p0 (1 : Int32))) :: []))
        refine xb_eq (tgt := 93) hx hb dX4_divide_81 (by decide) (fun c_123 => ?_) (fun c_123 => ?_)
        · rw [if_neg c_123] at hs
          rw [if_neg c_123] at hu
          refine lv_iload hx hb dX4_divide_93 (lv_at hl 5 rfl) ?_
          refine xb_eq (tgt := 110) hx hb dX4_divide_95 (by decide) (fun c_124 => ?_) (fun c_124 => ?_)
          · rw [if_neg c_124] at hs
            rw [if_neg c_124] at hu
            refine lv_aload_n hx hb dX4_divide_110 rfl (lv_at hl 1 rfl) ?_
            refine lv_iload_n hx hb dX4_divide_111 rfl (lv_at hl 2 rfl) ?_
            refine lv_iconst (v := 1) hx hb dX4_divide_112 (by decide) ?_
            refine x_V (As := [.int p0, .int 1]) (rest := []) hCF (c_X4_is l D cR cI cJ cZ t0 am ak an ac ae ag aq vth vmo vfg vtp vkd vng vcc vqq vrs vct vun vre vks vms vcs ves vdg vog p0 (1 : Int32) _ rfl h_121) (x_cwV 2 hts (inW_10 _ (List.mem_of_getElem? (i := 18) rfl)) (inW_10 _ (List.mem_of_getElem? (i := 19) rfl)) (inW_10 _ (List.mem_of_getElem? (i := 20) rfl)) (inW_9 _ (List.mem_of_getElem? (i := 5) rfl)) (inW_10 _ (List.mem_of_getElem? (i := 10) rfl)) rfl rfl (by decide +kernel) ⟨Nat.le_of_ble_eq_true rfl, Nat.le_of_ble_eq_true rfl⟩) hK hP hD hS hA hSt 0 rfl rfl rfl hl.1 rfl (Nat.le_of_ble_eq_true rfl) dX4_divide_113 ⟨Nat.le_of_ble_eq_true rfl, Nat.le_of_ble_eq_true rfl⟩ (fun H locs hP hD hS => ?_)
            show W p l e _ s m args below meth c H locs 0 0 Q (F0 m 116 ls (.int (bI (F_X4_is vks p0 (1 : Int32))) :: []))
            refine xb_eq (tgt := 130) hx hb dX4_divide_116 (by decide) (fun _ => ?_) (fun c9 => absurd c9 c_123)
            refine lv_aload_n hx hb dX4_divide_130 rfl (lv_at hl 1 rfl) ?_
            refine lv_iload_n hx hb dX4_divide_131 rfl (lv_at hl 3 rfl) ?_
            refine lv_iconst (v := 1) hx hb dX4_divide_132 (by decide) ?_
            obtain ⟨h_126, hs⟩ := hs
            refine x_V (As := [.int p1, .int 1]) (rest := []) hCF (c_X4_is l D cR cI cJ cZ t0 am ak an ac ae ag aq vth vmo vfg vtp vkd vng vcc vqq vrs vct vun vre vks vms vcs ves vdg vog p1 (1 : Int32) _ rfl h_126) (x_cwV 2 hts (inW_10 _ (List.mem_of_getElem? (i := 18) rfl)) (inW_10 _ (List.mem_of_getElem? (i := 19) rfl)) (inW_10 _ (List.mem_of_getElem? (i := 20) rfl)) (inW_9 _ (List.mem_of_getElem? (i := 5) rfl)) (inW_10 _ (List.mem_of_getElem? (i := 10) rfl)) rfl rfl (by decide +kernel) ⟨Nat.le_of_ble_eq_true rfl, Nat.le_of_ble_eq_true rfl⟩) hK hP hD hS hA hSt 0 rfl rfl rfl hl.1 rfl (Nat.le_of_ble_eq_true rfl) dX4_divide_133 ⟨Nat.le_of_ble_eq_true rfl, Nat.le_of_ble_eq_true rfl⟩ (fun H locs hP hD hS => ?_)
            show W p l e _ s m args below meth c H locs 0 0 Q (F0 m 136 ls (.int (bI (F_X4_is vks p1 (1 : Int32))) :: []))
            refine xb_eq (tgt := 152) hx hb dX4_divide_136 (by decide) (fun c_128 => ?_) (fun c_128 => ?_)
            · rw [if_neg c_128] at hs
              rw [if_neg c_128] at hu
              refine lv_iload hx hb dX4_divide_152 (lv_at hl 0 rfl) ?_
              refine xb_eq (tgt := 178) hx hb dX4_divide_154 (by decide) (fun c_129 => ?_) (fun c_129 => ?_)
              · rw [if_neg c_129] at hs
                rw [if_neg c_129] at hu
                refine lv_aload_n hx hb dX4_divide_178 rfl (lv_at hl 1 rfl) ?_
                refine lv_aload_n hx hb dX4_divide_179 rfl (lv_at hl 1 rfl) ?_
                refine va_get (D := D) (ci := 5) (v := .ref ac) (C := RX4) (T := TX4) (N := 18) hx hb hts hi4 hown hK hP 0 rfl rfl 3 (by decide) (hts (.fieldLink RX4 17 "DecimalWordsModel" "coefficients" "[J") (inW_8 _ (List.mem_of_getElem? (i := 33) rfl))) (fun _ h9 => h9) rfl dX4_divide_180 ?_
                refine lv_iload_n hx hb dX4_divide_183 rfl (lv_at hl 2 rfl) ?_
                refine va_lald hx hb hK hP 3 2 rfl rfl h_101 dX4_divide_184 ?_
                refine lv_bipush (v := 34) hx hb dX4_divide_185 (by decide) ?_
                obtain ⟨h_130, hs⟩ := hs
                obtain ⟨u131, eu131⟩ : ∃ y9 : (Nat → Int32), y9 = F_X4_layOther vog (vcs p0.toNatClampNeg) (34 : Int32) := ⟨_, rfl⟩
                have hs := hs _ eu131
                have hu := hu _ eu131
                refine x_V (As := [.long (vcs p0.toNatClampNeg), .int 34]) (rest := []) hCF (c_X4_layOther l D cR cI cJ cZ t0 am ak an ac ae ag aq vth vmo vfg vtp vkd vng vcc vqq vrs vct vun vre vks vms vcs ves vdg vog (vcs p0.toNatClampNeg) (34 : Int32) u131 eu131 h_130) (x_cwV 2 hts (inW_10 _ (List.mem_of_getElem? (i := 27) rfl)) (inW_10 _ (List.mem_of_getElem? (i := 28) rfl)) (inW_10 _ (List.mem_of_getElem? (i := 29) rfl)) (inW_9 _ (List.mem_of_getElem? (i := 5) rfl)) (inW_9 _ (List.mem_of_getElem? (i := 6) rfl)) rfl rfl (by decide +kernel) ⟨Nat.le_of_ble_eq_true rfl, Nat.le_of_ble_eq_true rfl⟩) hK hP hD hS hA hSt 0 rfl rfl rfl hl.1 rfl (Nat.le_of_ble_eq_true rfl) dX4_divide_187 ⟨Nat.le_of_ble_eq_true rfl, Nat.le_of_ble_eq_true rfl⟩ (fun H locs hP hD hS => ?_)
                show W p l e _ s m args below meth c H locs 0 0 Q (F0 m 190 ls [])
                refine lv_aload_n hx hb dX4_divide_190 rfl (lv_at hl 1 rfl) ?_
                obtain ⟨h_133, hs⟩ := hs
                obtain ⟨u134, eu134⟩ : ∃ y9 : (Nat → Int32), y9 = F_X4_clear vdg := ⟨_, rfl⟩
                have hs := hs _ eu134
                have hu := hu _ eu134
                refine x_V (As := []) (rest := []) hCF (c_X4_clear l D cR cI cJ cZ t0 am ak an ac ae ag aq vth vmo vfg vtp vkd vng vcc vqq vrs vct vun vre vks vms vcs ves vdg u131 u134 eu134 h_133) (x_cwV 0 hts (inW_9 _ (List.mem_of_getElem? (i := 2) rfl)) (inW_9 _ (List.mem_of_getElem? (i := 3) rfl)) (inW_9 _ (List.mem_of_getElem? (i := 4) rfl)) (inW_9 _ (List.mem_of_getElem? (i := 5) rfl)) (inW_8 _ (List.mem_of_getElem? (i := 39) rfl)) rfl rfl (by decide +kernel) ⟨Nat.le_of_ble_eq_true rfl, Nat.le_of_ble_eq_true rfl⟩) hK hP hD hS hA hSt 0 rfl rfl rfl hl.1 rfl (Nat.le_of_ble_eq_true rfl) dX4_divide_191 ⟨Nat.le_of_ble_eq_true rfl, Nat.le_of_ble_eq_true rfl⟩ (fun H locs hP hD hS => ?_)
                show W p l e _ s m args below meth c H locs 0 0 Q (F0 m 194 ls [])
                refine lv_lconst (v := 0) hx hb dX4_divide_194 (by decide) ?_
                refine lv_lstore (lv' := [(6, .long 0), (5, .int (bI z119)), (0, .ref am), (1, .int p0), (2, .int p1), (3, .int (bI z105)), (4, .int (bI z112))]) hx hb dX4_divide_195 hl (by decide) rfl (fun ls hl => ?_)
                refine lv_bipush (v := 49) hx hb dX4_divide_197 (by decide) ?_
                refine lv_istore (lv' := [(8, .int 49), (6, .long 0), (5, .int (bI z119)), (0, .ref am), (1, .int p0), (2, .int p1), (3, .int (bI z105)), (4, .int (bI z112))]) hx hb dX4_divide_199 hl (by decide) rfl (fun ls hl => ?_)
                have L_226 : ∀ (n9 : Nat) (t_201 : Int64 × Int32 × (Nat → Int32)), (∀ j : Nat, j < n9 → G_X4_divide_201 vcs p1 u131 (itn (B_X4_divide_201 vcs p1 u131) j t_201) = true) → (∀ j : Nat, j < n9 → SB_X4_divide_201 vcs p1 u131 (itn (B_X4_divide_201 vcs p1 u131) j t_201)) → (∀ (H : Heap) (locs : List Loc), va_P D vwCl (mw cI cJ cZ am ak an ac ae ag aq vth vmo vfg vtp vkd vng vcc vqq vrs vct vun vre vks vms vcs ves ((itn (B_X4_divide_201 vcs p1 u131) n9 t_201).2.2) u131) H → va_D A (mw cI cJ cZ am ak an ac ae ag aq vth vmo vfg vtp vkd vng vcc vqq vrs vct vun vre vks vms vcs ves ((itn (B_X4_divide_201 vcs p1 u131) n9 t_201).2.2) u131) → va_S A s.heap H locs → ∀ ls : Array Slot, lv_has ls 9 [(0, .ref am), (1, .int p0), (2, .int p1), (3, .int (bI z105)), (6, .long ((itn (B_X4_divide_201 vcs p1 u131) n9 t_201).1)), (8, .int ((itn (B_X4_divide_201 vcs p1 u131) n9 t_201).2.1))] → W p l e rm_X4_divide s m args below meth c H locs 0 0 Q (F0 m 201 ls [])) → ∀ (H : Heap) (locs : List Loc), va_P D vwCl (mw cI cJ cZ am ak an ac ae ag aq vth vmo vfg vtp vkd vng vcc vqq vrs vct vun vre vks vms vcs ves t_201.2.2 u131) H → va_D A (mw cI cJ cZ am ak an ac ae ag aq vth vmo vfg vtp vkd vng vcc vqq vrs vct vun vre vks vms vcs ves t_201.2.2 u131) → va_S A s.heap H locs → ∀ ls : Array Slot, lv_has ls 9 [(0, .ref am), (1, .int p0), (2, .int p1), (3, .int (bI z105)), (6, .long t_201.1), (8, .int t_201.2.1)] → W p l e rm_X4_divide s m args below meth c H locs 0 0 Q (F0 m 201 ls []) := by
                  intro n9
                  induction n9 with
                  | zero => exact fun _ _ _ k9 => k9
                  | succ n9 ih9 =>
                    intro t_201 hG9 hs9 k9 H locs hP hD hS ls hl
                    have hG0 : G_X4_divide_201 vcs p1 u131 t_201 = true := hG9 0 (Nat.succ_pos n9)
                    have hg := rG_X4_divide_201 vcs p1 u131 t_201 (Eq.symm hG0)
                    unfold RG_X4_divide_201 at hg
                    obtain ⟨t9, et9⟩ : ∃ y9 : Int64 × Int32 × (Nat → Int32), y9 = (B_X4_divide_201 vcs p1 u131) t_201 := ⟨_, rfl⟩
                    have hb9 := rB_X4_divide_201 vcs p1 u131 t_201 et9
                    unfold RB_X4_divide_201 at hb9
                    have hs : SB_X4_divide_201 vcs p1 u131 t_201 := hs9 0 (Nat.succ_pos n9)
                    unfold SB_X4_divide_201 at hs
                    refine lv_iload hx hb dX4_divide_201 (lv_at hl 5 rfl) ?_
                    refine lv_if_lt (tgt := 257) hx hb dX4_divide_203 (by decide) (fun c_136 => ?_) (fun c_136 => ?_)
                    · rw [if_pos c_136] at hg
                      exact absurd hg (by decide)
                    · rw [if_neg c_136] at hs
                      rw [if_neg c_136] at hg
                      rw [if_neg c_136] at hb9
                      refine lv_ldc2 (v := 10) hx hb hown (hts (.constantLong RX4 37 (10)) (inW_9 _ (List.mem_of_getElem? (i := 1) rfl))) dX4_divide_206 ?_
                      refine lv_lload hx hb dX4_divide_209 (lv_at hl 4 rfl) ?_
                      refine lv_lmul hx hb dX4_divide_211 ?_
                      refine lv_aload_n hx hb dX4_divide_212 rfl (lv_at hl 0 rfl) ?_
                      refine va_get (D := D) (ci := 5) (v := .ref aq) (C := RX4) (T := TX4) (N := 18) hx hb hts hi4 hown hK hP 0 rfl rfl 15 (by decide) (hts (.fieldLink RX4 27 "DecimalWordsModel" "others" "[I") (inW_8 _ (List.mem_of_getElem? (i := 36) rfl))) (fun _ h9 => h9) rfl dX4_divide_213 ?_
                      refine lv_iload hx hb dX4_divide_216 (lv_at hl 5 rfl) ?_
                      obtain ⟨h_137, hs⟩ := hs
                      refine va_iald hx hb hK hP 6 1 rfl rfl h_137 dX4_divide_218 ?_
                      refine x_i2l hx hb dX4_divide_219 ?_
                      refine lv_ladd hx hb dX4_divide_220 ?_
                      refine lv_topl (fun n138 en138 => ?_)
                      have hs := hs _ en138
                      have hb9 := hb9 _ en138
                      refine lv_lstore (lv' := [(6, .long n138), (0, .ref am), (1, .int p0), (2, .int p1), (3, .int (bI z105)), (8, .int t_201.2.1)]) hx hb dX4_divide_221 hl (by decide) rfl (fun ls hl => ?_)
                      refine lv_aload_n hx hb dX4_divide_223 rfl (lv_at hl 1 rfl) ?_
                      refine va_get (D := D) (ci := 5) (v := .ref ag) (C := RX4) (T := TX4) (N := 18) hx hb hts hi4 hown hK hP 0 rfl rfl 14 (by decide) (hts (.fieldLink RX4 24 "DecimalWordsModel" "digits" "[I") (inW_8 _ (List.mem_of_getElem? (i := 35) rfl))) (fun _ h9 => h9) rfl dX4_divide_224 ?_
                      refine lv_iload hx hb dX4_divide_227 (lv_at hl 5 rfl) ?_
                      refine lv_lload hx hb dX4_divide_229 (lv_at hl 0 rfl) ?_
                      refine lv_aload_n hx hb dX4_divide_231 rfl (lv_at hl 1 rfl) ?_
                      refine va_get (D := D) (ci := 5) (v := .ref ac) (C := RX4) (T := TX4) (N := 18) hx hb hts hi4 hown hK hP 0 rfl rfl 3 (by decide) (hts (.fieldLink RX4 17 "DecimalWordsModel" "coefficients" "[J") (inW_8 _ (List.mem_of_getElem? (i := 33) rfl))) (fun _ h9 => h9) rfl dX4_divide_232 ?_
                      refine lv_iload_n hx hb dX4_divide_235 rfl (lv_at hl 3 rfl) ?_
                      obtain ⟨h_139, hs⟩ := hs
                      refine va_lald hx hb hK hP 3 2 rfl rfl h_139 dX4_divide_236 ?_
                      have h_140 := hs
                      refine lv_ldiv hx hb dX4_divide_237 h_140 ?_
                      refine x_l2i hx hb dX4_divide_238 ?_
                      refine lv_topi (fun f141 ef141 => ?_)
                      have hb9 := hb9 _ ef141
                      refine va_iast hx hb hK hP hD hS 5 1 rfl rfl h_137 dX4_divide_239 (fun H locs hP hD hS => ?_)
                      obtain ⟨w142, ew142⟩ : ∃ y9 : Nat → Int32, y9 = va_up t_201.2.2 t_201.2.1.toNatClampNeg f141 := ⟨_, rfl⟩
                      have hb9 := hb9 _ ew142
                      have hP : va_P D vwCl (mw cI cJ cZ am ak an ac ae ag aq vth vmo vfg vtp vkd vng vcc vqq vrs vct vun vre vks vms vcs ves w142 u131) H := by rw [ew142]; exact hP
                      have hD : va_D A (mw cI cJ cZ am ak an ac ae ag aq vth vmo vfg vtp vkd vng vcc vqq vrs vct vun vre vks vms vcs ves w142 u131) := by rw [ew142]; exact hD
                      refine lv_lload hx hb dX4_divide_240 (lv_at hl 0 rfl) ?_
                      refine lv_aload_n hx hb dX4_divide_242 rfl (lv_at hl 1 rfl) ?_
                      refine va_get (D := D) (ci := 5) (v := .ref ac) (C := RX4) (T := TX4) (N := 18) hx hb hts hi4 hown hK hP 0 rfl rfl 3 (by decide) (hts (.fieldLink RX4 17 "DecimalWordsModel" "coefficients" "[J") (inW_8 _ (List.mem_of_getElem? (i := 33) rfl))) (fun _ h9 => h9) rfl dX4_divide_243 ?_
                      refine lv_iload_n hx hb dX4_divide_246 rfl (lv_at hl 3 rfl) ?_
                      refine va_lald hx hb hK hP 3 2 rfl rfl h_139 dX4_divide_247 ?_
                      refine x_lrem hx hb dX4_divide_248 h_140 ?_
                      refine lv_topl (fun n144 en144 => ?_)
                      have hb9 := hb9 _ en144
                      refine lv_lstore (lv' := [(6, .long n144), (0, .ref am), (1, .int p0), (2, .int p1), (3, .int (bI z105)), (8, .int t_201.2.1)]) hx hb dX4_divide_249 hl (by decide) rfl (fun ls hl => ?_)
                      obtain ⟨n145, en145⟩ : ∃ y9 : Int32, y9 = t_201.2.1 + (-1) := ⟨_, rfl⟩
                      have hb9 := hb9 _ en145
                      refine lv_iinc (v := n145) (lv' := [(8, .int n145), (6, .long n144), (0, .ref am), (1, .int p0), (2, .int p1), (3, .int (bI z105))]) hx hb dX4_divide_251 hl (k := 5) rfl (by rw [en145]; rfl) (by decide) rfl (fun ls hl => ?_)
                      refine lv_goto (tgt := 201) hx hb dX4_divide_254 (by decide) ?_
                      have e9 := Eq.symm hb9; subst e9
                      have key9 := ih9 ((B_X4_divide_201 vcs p1 u131) t_201) (fun j hj => hG9 (j + 1) (Nat.succ_lt_succ hj)) (fun j hj => hs9 (j + 1) (Nat.succ_lt_succ hj)) k9
                      rw [← et9] at key9
                      exact key9 H locs hP hD hS ls (lv_sub hl [2, 3, 4, 5, 1, 0] rfl)
                obtain ⟨hsL, hG1, hs⟩ := hs
                refine L_226 (nW (G_X4_divide_201 vcs p1 u131) (B_X4_divide_201 vcs p1 u131) 901 (0, 49, u134)) (0, 49, u134) (nW_lt _ _ _ _) hsL (fun H locs hP hD hS ls hl => ?_) H locs hP hD hS ls (lv_sub hl [3, 4, 5, 6, 1, 0] rfl)
                obtain ⟨z146, ez146⟩ : ∃ y9 : Int64 × Int32 × (Nat → Int32), y9 = wl (G_X4_divide_201 vcs p1 u131) (B_X4_divide_201 vcs p1 u131) 901 (0, 49, u134) := ⟨_, rfl⟩
                have e9 : z146 = itn (B_X4_divide_201 vcs p1 u131) (nW (G_X4_divide_201 vcs p1 u131) (B_X4_divide_201 vcs p1 u131) 901 (0, 49, u134)) (0, 49, u134) := ez146
                try rw [← e9] at hP
                try rw [← e9] at hD
                try rw [← e9] at hl
                rw [← ez146] at hG1
                clear e9
                have hg := rG_X4_divide_201 vcs p1 u131 z146 (Eq.symm hG1)
                unfold RG_X4_divide_201 at hg
                have hs := hs _ ez146
                have hu := hu _ ez146
                refine lv_iload hx hb dX4_divide_201 (lv_at hl 5 rfl) ?_
                have J_150 : ∀ (H : Heap) (locs : List Loc), va_P D vwCl (mw cI cJ cZ am ak an ac ae ag aq vth vmo vfg vtp vkd vng vcc vqq vrs vct vun vre vks vms vcs ves z146.2.2 u131) H → va_D A (mw cI cJ cZ am ak an ac ae ag aq vth vmo vfg vtp vkd vng vcc vqq vrs vct vun vre vks vms vcs ves z146.2.2 u131) → va_S A s.heap H locs → ∀ ls : Array Slot, lv_has ls 9 [(0, .ref am), (1, .int p0), (2, .int p1), (3, .int (bI z105)), (6, .long z146.1)] → W p l e rm_X4_divide s m args below meth c H locs 0 0 Q (F0 m 257 ls []) := by
                  intro H locs hP hD hS ls hl
                  refine lv_aload_n hx hb dX4_divide_257 rfl (lv_at hl 0 rfl) ?_
                  refine lv_lload hx hb dX4_divide_258 (lv_at hl 4 rfl) ?_
                  refine lv_lconst (v := 0) hx hb dX4_divide_260 (by decide) ?_
                  have J_154 : (∀ z153 : Bool, z153 = Z_X4_divide_J_198 z146 → ∀ (H : Heap) (locs : List Loc), va_P D vwCl (mw cI cJ cZ am ak an ac ae ag aq vth vmo vfg vtp vkd vng vcc vqq vrs vct vun vre vks vms vcs ves z146.2.2 u131) H → va_D A (mw cI cJ cZ am ak an ac ae ag aq vth vmo vfg vtp vkd vng vcc vqq vrs vct vun vre vks vms vcs ves z146.2.2 u131) → va_S A s.heap H locs → ∀ ls : Array Slot, lv_has ls 9 [(0, .ref am), (1, .int p0), (2, .int p1), (3, .int (bI z105))] → W p l e rm_X4_divide s m args below meth c H locs 0 0 Q (F0 m 270 ls [.int (bI z153), .ref am])) := by
                    intro z153 ez153 H locs hP hD hS ls hl
                    have hs := hs _ ez153
                    have hu := hu _ ez153
                    refine va_put (D := D) (ci := 5) (v := .int (bI z153)) (ty := .boolean) (C := RX4) (T := TX4) (N := 18) hx hb hts hi4 tyX4 tyX4_ok nmX4 hown hK hP hD hS 0 rfl rfl 17 (by decide) (hts (.fieldLink RX4 71 "DecimalWordsModel" "rest" "Z") (inW_9 _ (List.mem_of_getElem? (i := 23) rfl))) (fun _ h9 => h9) rfl (by decide +kernel) (bI_nar z153) (bI_fit z153) (Nat.le_of_ble_eq_true rfl) dX4_divide_270 (fun H locs hP hD hS => ?_)
                    have hP : va_P D vwCl (mw cI cJ cZ am ak an ac ae ag aq vth vmo vfg vtp vkd vng vcc vqq vrs vct vun z153 vks vms vcs ves z146.2.2 u131) H := hP
                    have hD : va_D A (mw cI cJ cZ am ak an ac ae ag aq vth vmo vfg vtp vkd vng vcc vqq vrs vct vun z153 vks vms vcs ves z146.2.2 u131) := hD
                    refine lv_aload_n hx hb dX4_divide_273 rfl (lv_at hl 0 rfl) ?_
                    refine lv_aload_n hx hb dX4_divide_274 rfl (lv_at hl 0 rfl) ?_
                    refine va_get (D := D) (ci := 5) (v := .ref ae) (C := RX4) (T := TX4) (N := 18) hx hb hts hi4 hown hK hP 0 rfl rfl 4 (by decide) (hts (.fieldLink RX4 21 "DecimalWordsModel" "exponents" "[I") (inW_8 _ (List.mem_of_getElem? (i := 34) rfl))) (fun _ h9 => h9) rfl dX4_divide_275 ?_
                    refine lv_iload_n hx hb dX4_divide_278 rfl (lv_at hl 1 rfl) ?_
                    obtain ⟨h_156, hs⟩ := hs
                    refine va_iald hx hb hK hP 4 1 rfl rfl h_156 dX4_divide_279 ?_
                    refine lv_aload_n hx hb dX4_divide_280 rfl (lv_at hl 0 rfl) ?_
                    refine va_get (D := D) (ci := 5) (v := .ref ae) (C := RX4) (T := TX4) (N := 18) hx hb hts hi4 hown hK hP 0 rfl rfl 4 (by decide) (hts (.fieldLink RX4 21 "DecimalWordsModel" "exponents" "[I") (inW_8 _ (List.mem_of_getElem? (i := 34) rfl))) (fun _ h9 => h9) rfl dX4_divide_281 ?_
                    refine lv_iload_n hx hb dX4_divide_284 rfl (lv_at hl 2 rfl) ?_
                    obtain ⟨h_157, hs⟩ := hs
                    refine va_iald hx hb hK hP 4 1 rfl rfl h_157 dX4_divide_285 ?_
                    refine lv_isub hx hb dX4_divide_286 ?_
                    refine lv_bipush (v := 34) hx hb dX4_divide_287 (by decide) ?_
                    refine lv_isub hx hb dX4_divide_289 ?_
                    refine lv_topi (fun f158 ef158 => ?_)
                    have hs := hs _ ef158
                    have hu := hu _ ef158
                    refine va_put (D := D) (ci := 5) (v := .int f158) (ty := .int) (C := RX4) (T := TX4) (N := 18) hx hb hts hi4 tyX4 tyX4_ok nmX4 hown hK hP hD hS 0 rfl rfl 16 (by decide) (hts (.fieldLink RX4 86 "DecimalWordsModel" "unit" "I") (inW_9 _ (List.mem_of_getElem? (i := 33) rfl))) (fun _ h9 => h9) rfl (by decide +kernel) rfl rfl (Nat.le_of_ble_eq_true rfl) dX4_divide_290 (fun H locs hP hD hS => ?_)
                    have hP : va_P D vwCl (mw cI cJ cZ am ak an ac ae ag aq vth vmo vfg vtp vkd vng vcc vqq vrs vct f158 z153 vks vms vcs ves z146.2.2 u131) H := hP
                    have hD : va_D A (mw cI cJ cZ am ak an ac ae ag aq vth vmo vfg vtp vkd vng vcc vqq vrs vct f158 z153 vks vms vcs ves z146.2.2 u131) := hD
                    refine lv_aload_n hx hb dX4_divide_293 rfl (lv_at hl 0 rfl) ?_
                    refine lv_iload_n hx hb dX4_divide_294 rfl (lv_at hl 3 rfl) ?_
                    refine lv_aload_n hx hb dX4_divide_295 rfl (lv_at hl 0 rfl) ?_
                    refine va_get (D := D) (ci := 5) (v := .ref ae) (C := RX4) (T := TX4) (N := 18) hx hb hts hi4 hown hK hP 0 rfl rfl 4 (by decide) (hts (.fieldLink RX4 21 "DecimalWordsModel" "exponents" "[I") (inW_8 _ (List.mem_of_getElem? (i := 34) rfl))) (fun _ h9 => h9) rfl dX4_divide_296 ?_
                    refine lv_iload_n hx hb dX4_divide_299 rfl (lv_at hl 1 rfl) ?_
                    refine va_iald hx hb hK hP 4 1 rfl rfl h_156 dX4_divide_300 ?_
                    refine lv_aload_n hx hb dX4_divide_301 rfl (lv_at hl 0 rfl) ?_
                    refine va_get (D := D) (ci := 5) (v := .ref ae) (C := RX4) (T := TX4) (N := 18) hx hb hts hi4 hown hK hP 0 rfl rfl 4 (by decide) (hts (.fieldLink RX4 21 "DecimalWordsModel" "exponents" "[I") (inW_8 _ (List.mem_of_getElem? (i := 34) rfl))) (fun _ h9 => h9) rfl dX4_divide_302 ?_
                    refine lv_iload_n hx hb dX4_divide_305 rfl (lv_at hl 2 rfl) ?_
                    refine va_iald hx hb hK hP 4 1 rfl rfl h_157 dX4_divide_306 ?_
                    refine lv_isub hx hb dX4_divide_307 ?_
                    have h_160 := hs
                    obtain ⟨u161, eu161⟩ : ∃ y9 : Int32 × Bool × Int64 × Int32 × Int32 × Int32, y9 = F_X4_fit vmo vrs f158 z153 z146.2.2 z105 ((ves p0.toNatClampNeg) - (ves p1.toNatClampNeg)) := ⟨_, rfl⟩
                    have hu := hu _ eu161
                    refine x_V (As := [.int (bI z105), .int ((ves p0.toNatClampNeg) - (ves p1.toNatClampNeg))]) (rest := []) hCF (c_X4_fit l D cR cI cJ cZ t0 am ak an ac ae ag aq vth vmo vfg vtp vkd vng vcc vqq vrs vct f158 z153 vks vms vcs ves z146.2.2 u131 z105 ((ves p0.toNatClampNeg) - (ves p1.toNatClampNeg)) u161 eu161 h_160) (x_cwV 2 hts (inW_10 _ (List.mem_of_getElem? (i := 36) rfl)) (inW_10 _ (List.mem_of_getElem? (i := 37) rfl)) (inW_10 _ (List.mem_of_getElem? (i := 38) rfl)) (inW_9 _ (List.mem_of_getElem? (i := 5) rfl)) (inW_9 _ (List.mem_of_getElem? (i := 32) rfl)) rfl rfl (by decide +kernel) ⟨Nat.le_of_ble_eq_true rfl, Nat.le_of_ble_eq_true rfl⟩) hK hP hD hS hA hSt 0 rfl rfl rfl hl.1 rfl (Nat.le_of_ble_eq_true rfl) dX4_divide_308 ⟨Nat.le_of_ble_eq_true rfl, Nat.le_of_ble_eq_true rfl⟩ (fun H locs hP hD hS => ?_)
                    show W p l e _ s m args below meth c H locs 0 0 Q (F0 m 311 ls [])
                    have e9 := Eq.symm hu; subst e9
                    exact x_vret hx hb hr hlocks hQ hK hP hD hS rfl dX4_divide_311
                  obtain ⟨z9, ez9⟩ : ∃ y9 : Bool, y9 = Z_X4_divide_J_198 z146 := ⟨_, rfl⟩
                  have hz := rZ_X4_divide_J_198 z146 ez9
                  unfold RZ_X4_divide_J_198 at hz
                  refine xl_le (tgt := 269) hx hb dX4_divide_261 dX4_divide_262 (by decide) (fun c_151 => ?_) (fun c_151 => ?_)
                  · rw [if_pos c_151] at hz
                    refine lv_iconst (v := 0) hx hb dX4_divide_269 (by decide) ?_
                    have e9 := Eq.symm hz; subst e9
                    exact J_154 _ ez9 H locs hP hD hS ls (lv_sub hl [0, 1, 2, 3] rfl)
                  · rw [if_neg c_151] at hz
                    refine lv_iconst (v := 1) hx hb dX4_divide_265 (by decide) ?_
                    refine lv_goto (tgt := 270) hx hb dX4_divide_266 (by decide) ?_
                    have e9 := Eq.symm hz; subst e9
                    exact J_154 _ ez9 H locs hP hD hS ls (lv_sub hl [0, 1, 2, 3] rfl)
                refine lv_if_lt (tgt := 257) hx hb dX4_divide_203 (by decide) (fun c_148 => ?_) (fun c_148 => ?_)
                · rw [if_pos c_148] at hg
                  exact J_150 H locs hP hD hS ls (lv_sub hl [0, 1, 2, 3, 4] rfl)
                · rw [if_neg c_148] at hg
                  exact absurd hg (by decide)
              · rw [if_pos c_129] at hu
                refine lv_aload_n hx hb dX4_divide_157 rfl (lv_at hl 1 rfl) ?_
                refine lv_aload_n hx hb dX4_divide_158 rfl (lv_at hl 1 rfl) ?_
                refine va_get (D := D) (ci := 5) (v := .int vrs) (C := RX4) (T := TX4) (N := 18) hx hb hts hi4 hown hK hP 0 rfl rfl 12 (by decide) (hts (.fieldLink RX4 56 "DecimalWordsModel" "raised" "I") (inW_9 _ (List.mem_of_getElem? (i := 17) rfl))) (fun _ h9 => h9) rfl dX4_divide_159 ?_
                refine lv_iconst (v := 2) hx hb dX4_divide_162 (by decide) ?_
                refine lv_ior hx hb dX4_divide_163 ?_
                refine lv_topi (fun f163 ef163 => ?_)
                have hu := hu _ ef163
                refine va_put (D := D) (ci := 5) (v := .int f163) (ty := .int) (C := RX4) (T := TX4) (N := 18) hx hb hts hi4 tyX4 tyX4_ok nmX4 hown hK hP hD hS 0 rfl rfl 12 (by decide) (hts (.fieldLink RX4 56 "DecimalWordsModel" "raised" "I") (inW_9 _ (List.mem_of_getElem? (i := 17) rfl))) (fun _ h9 => h9) rfl (by decide +kernel) rfl rfl (Nat.le_of_ble_eq_true rfl) dX4_divide_164 (fun H locs hP hD hS => ?_)
                have hP : va_P D vwCl (mw cI cJ cZ am ak an ac ae ag aq vth vmo vfg vtp vkd vng vcc vqq f163 vct vun vre vks vms vcs ves vdg vog) H := hP
                have hD : va_D A (mw cI cJ cZ am ak an ac ae ag aq vth vmo vfg vtp vkd vng vcc vqq f163 vct vun vre vks vms vcs ves vdg vog) := hD
                refine lv_aload_n hx hb dX4_divide_167 rfl (lv_at hl 1 rfl) ?_
                refine lv_iconst (v := 1) hx hb dX4_divide_168 (by decide) ?_
                refine lv_iload_n hx hb dX4_divide_169 rfl (lv_at hl 4 rfl) ?_
                refine lv_lconst (v := 0) hx hb dX4_divide_170 (by decide) ?_
                refine lv_iconst (v := 0) hx hb dX4_divide_171 (by decide) ?_
                obtain ⟨u165, eu165⟩ : ∃ y9 : Int32 × Bool × Int64 × Int32, y9 = F_X4_be (1 : Int32) z105 (0 : Int64) (0 : Int32) := ⟨_, rfl⟩
                have hu := hu _ eu165
                refine x_V (As := [.int 1, .int (bI z105), .long 0, .int 0]) (rest := []) hCF (c_X4_be l D cR cI cJ cZ t0 am ak an ac ae ag aq vth vmo vfg vtp vkd vng vcc vqq f163 vct vun vre vks vms vcs ves vdg vog (1 : Int32) z105 (0 : Int64) (0 : Int32) u165 eu165) (x_cwV 4 hts (inW_9 _ (List.mem_of_getElem? (i := 18) rfl)) (inW_9 _ (List.mem_of_getElem? (i := 19) rfl)) (inW_9 _ (List.mem_of_getElem? (i := 20) rfl)) (inW_9 _ (List.mem_of_getElem? (i := 5) rfl)) (inW_9 _ (List.mem_of_getElem? (i := 11) rfl)) rfl rfl (by decide +kernel) ⟨Nat.le_of_ble_eq_true rfl, Nat.le_of_ble_eq_true rfl⟩) hK hP hD hS hA hSt 0 rfl rfl rfl hl.1 rfl (Nat.le_of_ble_eq_true rfl) dX4_divide_172 ⟨Nat.le_of_ble_eq_true rfl, Nat.le_of_ble_eq_true rfl⟩ (fun H locs hP hD hS => ?_)
                show W p l e _ s m args below meth c H locs 0 0 Q (F0 m 175 ls [])
                refine lv_goto (tgt := 311) hx hb dX4_divide_175 (by decide) ?_
                have e9 := Eq.symm hu; subst e9
                exact x_vret hx hb hr hlocks hQ hK hP hD hS rfl dX4_divide_311
            · rw [if_pos c_128] at hu
              refine lv_aload_n hx hb dX4_divide_139 rfl (lv_at hl 1 rfl) ?_
              refine lv_iconst (v := 0) hx hb dX4_divide_140 (by decide) ?_
              refine lv_iload_n hx hb dX4_divide_141 rfl (lv_at hl 4 rfl) ?_
              refine lv_lconst (v := 0) hx hb dX4_divide_142 (by decide) ?_
              refine lv_sipush (v := (-398)) hx hb dX4_divide_143 (by decide) ?_
              obtain ⟨u167, eu167⟩ : ∃ y9 : Int32 × Bool × Int64 × Int32, y9 = F_X4_be (0 : Int32) z105 (0 : Int64) (-398 : Int32) := ⟨_, rfl⟩
              have hu := hu _ eu167
              refine x_V (As := [.int 0, .int (bI z105), .long 0, .int (-398)]) (rest := []) hCF (c_X4_be l D cR cI cJ cZ t0 am ak an ac ae ag aq vth vmo vfg vtp vkd vng vcc vqq vrs vct vun vre vks vms vcs ves vdg vog (0 : Int32) z105 (0 : Int64) (-398 : Int32) u167 eu167) (x_cwV 4 hts (inW_9 _ (List.mem_of_getElem? (i := 18) rfl)) (inW_9 _ (List.mem_of_getElem? (i := 19) rfl)) (inW_9 _ (List.mem_of_getElem? (i := 20) rfl)) (inW_9 _ (List.mem_of_getElem? (i := 5) rfl)) (inW_9 _ (List.mem_of_getElem? (i := 11) rfl)) rfl rfl (by decide +kernel) ⟨Nat.le_of_ble_eq_true rfl, Nat.le_of_ble_eq_true rfl⟩) hK hP hD hS hA hSt 0 rfl rfl rfl hl.1 rfl (Nat.le_of_ble_eq_true rfl) dX4_divide_146 ⟨Nat.le_of_ble_eq_true rfl, Nat.le_of_ble_eq_true rfl⟩ (fun H locs hP hD hS => ?_)
              show W p l e _ s m args below meth c H locs 0 0 Q (F0 m 149 ls [])
              refine lv_goto (tgt := 311) hx hb dX4_divide_149 (by decide) ?_
              have e9 := Eq.symm hu; subst e9
              exact x_vret hx hb hr hlocks hQ hK hP hD hS rfl dX4_divide_311
          · rw [if_pos c_124] at hs
            rw [if_pos c_124] at hu
            refine lv_iload hx hb dX4_divide_98 (lv_at hl 0 rfl) ?_
            refine xb_eq (tgt := 110) hx hb dX4_divide_100 (by decide) (fun c_169 => ?_) (fun c_169 => ?_)
            · rw [if_neg c_169] at hs
              rw [if_neg c_169] at hu
              refine lv_aload_n hx hb dX4_divide_110 rfl (lv_at hl 1 rfl) ?_
              refine lv_iload_n hx hb dX4_divide_111 rfl (lv_at hl 2 rfl) ?_
              refine lv_iconst (v := 1) hx hb dX4_divide_112 (by decide) ?_
              refine x_V (As := [.int p0, .int 1]) (rest := []) hCF (c_X4_is l D cR cI cJ cZ t0 am ak an ac ae ag aq vth vmo vfg vtp vkd vng vcc vqq vrs vct vun vre vks vms vcs ves vdg vog p0 (1 : Int32) _ rfl h_121) (x_cwV 2 hts (inW_10 _ (List.mem_of_getElem? (i := 18) rfl)) (inW_10 _ (List.mem_of_getElem? (i := 19) rfl)) (inW_10 _ (List.mem_of_getElem? (i := 20) rfl)) (inW_9 _ (List.mem_of_getElem? (i := 5) rfl)) (inW_10 _ (List.mem_of_getElem? (i := 10) rfl)) rfl rfl (by decide +kernel) ⟨Nat.le_of_ble_eq_true rfl, Nat.le_of_ble_eq_true rfl⟩) hK hP hD hS hA hSt 0 rfl rfl rfl hl.1 rfl (Nat.le_of_ble_eq_true rfl) dX4_divide_113 ⟨Nat.le_of_ble_eq_true rfl, Nat.le_of_ble_eq_true rfl⟩ (fun H locs hP hD hS => ?_)
              show W p l e _ s m args below meth c H locs 0 0 Q (F0 m 116 ls (.int (bI (F_X4_is vks p0 (1 : Int32))) :: []))
              refine xb_eq (tgt := 130) hx hb dX4_divide_116 (by decide) (fun _ => ?_) (fun c9 => absurd c9 c_123)
              refine lv_aload_n hx hb dX4_divide_130 rfl (lv_at hl 1 rfl) ?_
              refine lv_iload_n hx hb dX4_divide_131 rfl (lv_at hl 3 rfl) ?_
              refine lv_iconst (v := 1) hx hb dX4_divide_132 (by decide) ?_
              obtain ⟨h_171, hs⟩ := hs
              refine x_V (As := [.int p1, .int 1]) (rest := []) hCF (c_X4_is l D cR cI cJ cZ t0 am ak an ac ae ag aq vth vmo vfg vtp vkd vng vcc vqq vrs vct vun vre vks vms vcs ves vdg vog p1 (1 : Int32) _ rfl h_171) (x_cwV 2 hts (inW_10 _ (List.mem_of_getElem? (i := 18) rfl)) (inW_10 _ (List.mem_of_getElem? (i := 19) rfl)) (inW_10 _ (List.mem_of_getElem? (i := 20) rfl)) (inW_9 _ (List.mem_of_getElem? (i := 5) rfl)) (inW_10 _ (List.mem_of_getElem? (i := 10) rfl)) rfl rfl (by decide +kernel) ⟨Nat.le_of_ble_eq_true rfl, Nat.le_of_ble_eq_true rfl⟩) hK hP hD hS hA hSt 0 rfl rfl rfl hl.1 rfl (Nat.le_of_ble_eq_true rfl) dX4_divide_133 ⟨Nat.le_of_ble_eq_true rfl, Nat.le_of_ble_eq_true rfl⟩ (fun H locs hP hD hS => ?_)
              show W p l e _ s m args below meth c H locs 0 0 Q (F0 m 136 ls (.int (bI (F_X4_is vks p1 (1 : Int32))) :: []))
              refine xb_eq (tgt := 152) hx hb dX4_divide_136 (by decide) (fun c_173 => ?_) (fun c_173 => ?_)
              · rw [if_neg c_173] at hs
                rw [if_neg c_173] at hu
                refine lv_iload hx hb dX4_divide_152 (lv_at hl 0 rfl) ?_
                refine xb_eq (tgt := 178) hx hb dX4_divide_154 (by decide) (fun _ => ?_) (fun c9 => absurd c9 c_169)
                refine lv_aload_n hx hb dX4_divide_178 rfl (lv_at hl 1 rfl) ?_
                refine lv_aload_n hx hb dX4_divide_179 rfl (lv_at hl 1 rfl) ?_
                refine va_get (D := D) (ci := 5) (v := .ref ac) (C := RX4) (T := TX4) (N := 18) hx hb hts hi4 hown hK hP 0 rfl rfl 3 (by decide) (hts (.fieldLink RX4 17 "DecimalWordsModel" "coefficients" "[J") (inW_8 _ (List.mem_of_getElem? (i := 33) rfl))) (fun _ h9 => h9) rfl dX4_divide_180 ?_
                refine lv_iload_n hx hb dX4_divide_183 rfl (lv_at hl 2 rfl) ?_
                refine va_lald hx hb hK hP 3 2 rfl rfl h_101 dX4_divide_184 ?_
                refine lv_bipush (v := 34) hx hb dX4_divide_185 (by decide) ?_
                obtain ⟨h_174, hs⟩ := hs
                obtain ⟨u175, eu175⟩ : ∃ y9 : (Nat → Int32), y9 = F_X4_layOther vog (vcs p0.toNatClampNeg) (34 : Int32) := ⟨_, rfl⟩
                have hs := hs _ eu175
                have hu := hu _ eu175
                refine x_V (As := [.long (vcs p0.toNatClampNeg), .int 34]) (rest := []) hCF (c_X4_layOther l D cR cI cJ cZ t0 am ak an ac ae ag aq vth vmo vfg vtp vkd vng vcc vqq vrs vct vun vre vks vms vcs ves vdg vog (vcs p0.toNatClampNeg) (34 : Int32) u175 eu175 h_174) (x_cwV 2 hts (inW_10 _ (List.mem_of_getElem? (i := 27) rfl)) (inW_10 _ (List.mem_of_getElem? (i := 28) rfl)) (inW_10 _ (List.mem_of_getElem? (i := 29) rfl)) (inW_9 _ (List.mem_of_getElem? (i := 5) rfl)) (inW_9 _ (List.mem_of_getElem? (i := 6) rfl)) rfl rfl (by decide +kernel) ⟨Nat.le_of_ble_eq_true rfl, Nat.le_of_ble_eq_true rfl⟩) hK hP hD hS hA hSt 0 rfl rfl rfl hl.1 rfl (Nat.le_of_ble_eq_true rfl) dX4_divide_187 ⟨Nat.le_of_ble_eq_true rfl, Nat.le_of_ble_eq_true rfl⟩ (fun H locs hP hD hS => ?_)
                show W p l e _ s m args below meth c H locs 0 0 Q (F0 m 190 ls [])
                refine lv_aload_n hx hb dX4_divide_190 rfl (lv_at hl 1 rfl) ?_
                obtain ⟨h_177, hs⟩ := hs
                obtain ⟨u178, eu178⟩ : ∃ y9 : (Nat → Int32), y9 = F_X4_clear vdg := ⟨_, rfl⟩
                have hs := hs _ eu178
                have hu := hu _ eu178
                refine x_V (As := []) (rest := []) hCF (c_X4_clear l D cR cI cJ cZ t0 am ak an ac ae ag aq vth vmo vfg vtp vkd vng vcc vqq vrs vct vun vre vks vms vcs ves vdg u175 u178 eu178 h_177) (x_cwV 0 hts (inW_9 _ (List.mem_of_getElem? (i := 2) rfl)) (inW_9 _ (List.mem_of_getElem? (i := 3) rfl)) (inW_9 _ (List.mem_of_getElem? (i := 4) rfl)) (inW_9 _ (List.mem_of_getElem? (i := 5) rfl)) (inW_8 _ (List.mem_of_getElem? (i := 39) rfl)) rfl rfl (by decide +kernel) ⟨Nat.le_of_ble_eq_true rfl, Nat.le_of_ble_eq_true rfl⟩) hK hP hD hS hA hSt 0 rfl rfl rfl hl.1 rfl (Nat.le_of_ble_eq_true rfl) dX4_divide_191 ⟨Nat.le_of_ble_eq_true rfl, Nat.le_of_ble_eq_true rfl⟩ (fun H locs hP hD hS => ?_)
                show W p l e _ s m args below meth c H locs 0 0 Q (F0 m 194 ls [])
                refine lv_lconst (v := 0) hx hb dX4_divide_194 (by decide) ?_
                refine lv_lstore (lv' := [(6, .long 0), (5, .int (bI z119)), (0, .ref am), (1, .int p0), (2, .int p1), (3, .int (bI z105)), (4, .int (bI z112))]) hx hb dX4_divide_195 hl (by decide) rfl (fun ls hl => ?_)
                refine lv_bipush (v := 49) hx hb dX4_divide_197 (by decide) ?_
                refine lv_istore (lv' := [(8, .int 49), (6, .long 0), (5, .int (bI z119)), (0, .ref am), (1, .int p0), (2, .int p1), (3, .int (bI z105)), (4, .int (bI z112))]) hx hb dX4_divide_199 hl (by decide) rfl (fun ls hl => ?_)
                have L_227 : ∀ (n9 : Nat) (t_201 : Int64 × Int32 × (Nat → Int32)), (∀ j : Nat, j < n9 → G_X4_divide_201 vcs p1 u175 (itn (B_X4_divide_201 vcs p1 u175) j t_201) = true) → (∀ j : Nat, j < n9 → SB_X4_divide_201 vcs p1 u175 (itn (B_X4_divide_201 vcs p1 u175) j t_201)) → (∀ (H : Heap) (locs : List Loc), va_P D vwCl (mw cI cJ cZ am ak an ac ae ag aq vth vmo vfg vtp vkd vng vcc vqq vrs vct vun vre vks vms vcs ves ((itn (B_X4_divide_201 vcs p1 u175) n9 t_201).2.2) u175) H → va_D A (mw cI cJ cZ am ak an ac ae ag aq vth vmo vfg vtp vkd vng vcc vqq vrs vct vun vre vks vms vcs ves ((itn (B_X4_divide_201 vcs p1 u175) n9 t_201).2.2) u175) → va_S A s.heap H locs → ∀ ls : Array Slot, lv_has ls 9 [(0, .ref am), (1, .int p0), (2, .int p1), (3, .int (bI z105)), (6, .long ((itn (B_X4_divide_201 vcs p1 u175) n9 t_201).1)), (8, .int ((itn (B_X4_divide_201 vcs p1 u175) n9 t_201).2.1))] → W p l e rm_X4_divide s m args below meth c H locs 0 0 Q (F0 m 201 ls [])) → ∀ (H : Heap) (locs : List Loc), va_P D vwCl (mw cI cJ cZ am ak an ac ae ag aq vth vmo vfg vtp vkd vng vcc vqq vrs vct vun vre vks vms vcs ves t_201.2.2 u175) H → va_D A (mw cI cJ cZ am ak an ac ae ag aq vth vmo vfg vtp vkd vng vcc vqq vrs vct vun vre vks vms vcs ves t_201.2.2 u175) → va_S A s.heap H locs → ∀ ls : Array Slot, lv_has ls 9 [(0, .ref am), (1, .int p0), (2, .int p1), (3, .int (bI z105)), (6, .long t_201.1), (8, .int t_201.2.1)] → W p l e rm_X4_divide s m args below meth c H locs 0 0 Q (F0 m 201 ls []) := by
                  intro n9
                  induction n9 with
                  | zero => exact fun _ _ _ k9 => k9
                  | succ n9 ih9 =>
                    intro t_201 hG9 hs9 k9 H locs hP hD hS ls hl
                    have hG0 : G_X4_divide_201 vcs p1 u175 t_201 = true := hG9 0 (Nat.succ_pos n9)
                    have hg := rG_X4_divide_201 vcs p1 u175 t_201 (Eq.symm hG0)
                    unfold RG_X4_divide_201 at hg
                    obtain ⟨t9, et9⟩ : ∃ y9 : Int64 × Int32 × (Nat → Int32), y9 = (B_X4_divide_201 vcs p1 u175) t_201 := ⟨_, rfl⟩
                    have hb9 := rB_X4_divide_201 vcs p1 u175 t_201 et9
                    unfold RB_X4_divide_201 at hb9
                    have hs : SB_X4_divide_201 vcs p1 u175 t_201 := hs9 0 (Nat.succ_pos n9)
                    unfold SB_X4_divide_201 at hs
                    refine lv_iload hx hb dX4_divide_201 (lv_at hl 5 rfl) ?_
                    refine lv_if_lt (tgt := 257) hx hb dX4_divide_203 (by decide) (fun c_180 => ?_) (fun c_180 => ?_)
                    · rw [if_pos c_180] at hg
                      exact absurd hg (by decide)
                    · rw [if_neg c_180] at hs
                      rw [if_neg c_180] at hg
                      rw [if_neg c_180] at hb9
                      refine lv_ldc2 (v := 10) hx hb hown (hts (.constantLong RX4 37 (10)) (inW_9 _ (List.mem_of_getElem? (i := 1) rfl))) dX4_divide_206 ?_
                      refine lv_lload hx hb dX4_divide_209 (lv_at hl 4 rfl) ?_
                      refine lv_lmul hx hb dX4_divide_211 ?_
                      refine lv_aload_n hx hb dX4_divide_212 rfl (lv_at hl 0 rfl) ?_
                      refine va_get (D := D) (ci := 5) (v := .ref aq) (C := RX4) (T := TX4) (N := 18) hx hb hts hi4 hown hK hP 0 rfl rfl 15 (by decide) (hts (.fieldLink RX4 27 "DecimalWordsModel" "others" "[I") (inW_8 _ (List.mem_of_getElem? (i := 36) rfl))) (fun _ h9 => h9) rfl dX4_divide_213 ?_
                      refine lv_iload hx hb dX4_divide_216 (lv_at hl 5 rfl) ?_
                      obtain ⟨h_181, hs⟩ := hs
                      refine va_iald hx hb hK hP 6 1 rfl rfl h_181 dX4_divide_218 ?_
                      refine x_i2l hx hb dX4_divide_219 ?_
                      refine lv_ladd hx hb dX4_divide_220 ?_
                      refine lv_topl (fun n182 en182 => ?_)
                      have hs := hs _ en182
                      have hb9 := hb9 _ en182
                      refine lv_lstore (lv' := [(6, .long n182), (0, .ref am), (1, .int p0), (2, .int p1), (3, .int (bI z105)), (8, .int t_201.2.1)]) hx hb dX4_divide_221 hl (by decide) rfl (fun ls hl => ?_)
                      refine lv_aload_n hx hb dX4_divide_223 rfl (lv_at hl 1 rfl) ?_
                      refine va_get (D := D) (ci := 5) (v := .ref ag) (C := RX4) (T := TX4) (N := 18) hx hb hts hi4 hown hK hP 0 rfl rfl 14 (by decide) (hts (.fieldLink RX4 24 "DecimalWordsModel" "digits" "[I") (inW_8 _ (List.mem_of_getElem? (i := 35) rfl))) (fun _ h9 => h9) rfl dX4_divide_224 ?_
                      refine lv_iload hx hb dX4_divide_227 (lv_at hl 5 rfl) ?_
                      refine lv_lload hx hb dX4_divide_229 (lv_at hl 0 rfl) ?_
                      refine lv_aload_n hx hb dX4_divide_231 rfl (lv_at hl 1 rfl) ?_
                      refine va_get (D := D) (ci := 5) (v := .ref ac) (C := RX4) (T := TX4) (N := 18) hx hb hts hi4 hown hK hP 0 rfl rfl 3 (by decide) (hts (.fieldLink RX4 17 "DecimalWordsModel" "coefficients" "[J") (inW_8 _ (List.mem_of_getElem? (i := 33) rfl))) (fun _ h9 => h9) rfl dX4_divide_232 ?_
                      refine lv_iload_n hx hb dX4_divide_235 rfl (lv_at hl 3 rfl) ?_
                      obtain ⟨h_183, hs⟩ := hs
                      refine va_lald hx hb hK hP 3 2 rfl rfl h_183 dX4_divide_236 ?_
                      have h_184 := hs
                      refine lv_ldiv hx hb dX4_divide_237 h_184 ?_
                      refine x_l2i hx hb dX4_divide_238 ?_
                      refine lv_topi (fun f185 ef185 => ?_)
                      have hb9 := hb9 _ ef185
                      refine va_iast hx hb hK hP hD hS 5 1 rfl rfl h_181 dX4_divide_239 (fun H locs hP hD hS => ?_)
                      obtain ⟨w186, ew186⟩ : ∃ y9 : Nat → Int32, y9 = va_up t_201.2.2 t_201.2.1.toNatClampNeg f185 := ⟨_, rfl⟩
                      have hb9 := hb9 _ ew186
                      have hP : va_P D vwCl (mw cI cJ cZ am ak an ac ae ag aq vth vmo vfg vtp vkd vng vcc vqq vrs vct vun vre vks vms vcs ves w186 u175) H := by rw [ew186]; exact hP
                      have hD : va_D A (mw cI cJ cZ am ak an ac ae ag aq vth vmo vfg vtp vkd vng vcc vqq vrs vct vun vre vks vms vcs ves w186 u175) := by rw [ew186]; exact hD
                      refine lv_lload hx hb dX4_divide_240 (lv_at hl 0 rfl) ?_
                      refine lv_aload_n hx hb dX4_divide_242 rfl (lv_at hl 1 rfl) ?_
                      refine va_get (D := D) (ci := 5) (v := .ref ac) (C := RX4) (T := TX4) (N := 18) hx hb hts hi4 hown hK hP 0 rfl rfl 3 (by decide) (hts (.fieldLink RX4 17 "DecimalWordsModel" "coefficients" "[J") (inW_8 _ (List.mem_of_getElem? (i := 33) rfl))) (fun _ h9 => h9) rfl dX4_divide_243 ?_
                      refine lv_iload_n hx hb dX4_divide_246 rfl (lv_at hl 3 rfl) ?_
                      refine va_lald hx hb hK hP 3 2 rfl rfl h_183 dX4_divide_247 ?_
                      refine x_lrem hx hb dX4_divide_248 h_184 ?_
                      refine lv_topl (fun n188 en188 => ?_)
                      have hb9 := hb9 _ en188
                      refine lv_lstore (lv' := [(6, .long n188), (0, .ref am), (1, .int p0), (2, .int p1), (3, .int (bI z105)), (8, .int t_201.2.1)]) hx hb dX4_divide_249 hl (by decide) rfl (fun ls hl => ?_)
                      obtain ⟨n189, en189⟩ : ∃ y9 : Int32, y9 = t_201.2.1 + (-1) := ⟨_, rfl⟩
                      have hb9 := hb9 _ en189
                      refine lv_iinc (v := n189) (lv' := [(8, .int n189), (6, .long n188), (0, .ref am), (1, .int p0), (2, .int p1), (3, .int (bI z105))]) hx hb dX4_divide_251 hl (k := 5) rfl (by rw [en189]; rfl) (by decide) rfl (fun ls hl => ?_)
                      refine lv_goto (tgt := 201) hx hb dX4_divide_254 (by decide) ?_
                      have e9 := Eq.symm hb9; subst e9
                      have key9 := ih9 ((B_X4_divide_201 vcs p1 u175) t_201) (fun j hj => hG9 (j + 1) (Nat.succ_lt_succ hj)) (fun j hj => hs9 (j + 1) (Nat.succ_lt_succ hj)) k9
                      rw [← et9] at key9
                      exact key9 H locs hP hD hS ls (lv_sub hl [2, 3, 4, 5, 1, 0] rfl)
                obtain ⟨hsL, hG1, hs⟩ := hs
                refine L_227 (nW (G_X4_divide_201 vcs p1 u175) (B_X4_divide_201 vcs p1 u175) 901 (0, 49, u178)) (0, 49, u178) (nW_lt _ _ _ _) hsL (fun H locs hP hD hS ls hl => ?_) H locs hP hD hS ls (lv_sub hl [3, 4, 5, 6, 1, 0] rfl)
                obtain ⟨z190, ez190⟩ : ∃ y9 : Int64 × Int32 × (Nat → Int32), y9 = wl (G_X4_divide_201 vcs p1 u175) (B_X4_divide_201 vcs p1 u175) 901 (0, 49, u178) := ⟨_, rfl⟩
                have e9 : z190 = itn (B_X4_divide_201 vcs p1 u175) (nW (G_X4_divide_201 vcs p1 u175) (B_X4_divide_201 vcs p1 u175) 901 (0, 49, u178)) (0, 49, u178) := ez190
                try rw [← e9] at hP
                try rw [← e9] at hD
                try rw [← e9] at hl
                rw [← ez190] at hG1
                clear e9
                have hg := rG_X4_divide_201 vcs p1 u175 z190 (Eq.symm hG1)
                unfold RG_X4_divide_201 at hg
                have hs := hs _ ez190
                have hu := hu _ ez190
                refine lv_iload hx hb dX4_divide_201 (lv_at hl 5 rfl) ?_
                have J_194 : ∀ (H : Heap) (locs : List Loc), va_P D vwCl (mw cI cJ cZ am ak an ac ae ag aq vth vmo vfg vtp vkd vng vcc vqq vrs vct vun vre vks vms vcs ves z190.2.2 u175) H → va_D A (mw cI cJ cZ am ak an ac ae ag aq vth vmo vfg vtp vkd vng vcc vqq vrs vct vun vre vks vms vcs ves z190.2.2 u175) → va_S A s.heap H locs → ∀ ls : Array Slot, lv_has ls 9 [(0, .ref am), (1, .int p0), (2, .int p1), (3, .int (bI z105)), (6, .long z190.1)] → W p l e rm_X4_divide s m args below meth c H locs 0 0 Q (F0 m 257 ls []) := by
                  intro H locs hP hD hS ls hl
                  refine lv_aload_n hx hb dX4_divide_257 rfl (lv_at hl 0 rfl) ?_
                  refine lv_lload hx hb dX4_divide_258 (lv_at hl 4 rfl) ?_
                  refine lv_lconst (v := 0) hx hb dX4_divide_260 (by decide) ?_
                  have J_198 : (∀ z197 : Bool, z197 = Z_X4_divide_J_198 z190 → ∀ (H : Heap) (locs : List Loc), va_P D vwCl (mw cI cJ cZ am ak an ac ae ag aq vth vmo vfg vtp vkd vng vcc vqq vrs vct vun vre vks vms vcs ves z190.2.2 u175) H → va_D A (mw cI cJ cZ am ak an ac ae ag aq vth vmo vfg vtp vkd vng vcc vqq vrs vct vun vre vks vms vcs ves z190.2.2 u175) → va_S A s.heap H locs → ∀ ls : Array Slot, lv_has ls 9 [(0, .ref am), (1, .int p0), (2, .int p1), (3, .int (bI z105))] → W p l e rm_X4_divide s m args below meth c H locs 0 0 Q (F0 m 270 ls [.int (bI z197), .ref am])) := by
                    intro z197 ez197 H locs hP hD hS ls hl
                    have hs := hs _ ez197
                    have hu := hu _ ez197
                    refine va_put (D := D) (ci := 5) (v := .int (bI z197)) (ty := .boolean) (C := RX4) (T := TX4) (N := 18) hx hb hts hi4 tyX4 tyX4_ok nmX4 hown hK hP hD hS 0 rfl rfl 17 (by decide) (hts (.fieldLink RX4 71 "DecimalWordsModel" "rest" "Z") (inW_9 _ (List.mem_of_getElem? (i := 23) rfl))) (fun _ h9 => h9) rfl (by decide +kernel) (bI_nar z197) (bI_fit z197) (Nat.le_of_ble_eq_true rfl) dX4_divide_270 (fun H locs hP hD hS => ?_)
                    have hP : va_P D vwCl (mw cI cJ cZ am ak an ac ae ag aq vth vmo vfg vtp vkd vng vcc vqq vrs vct vun z197 vks vms vcs ves z190.2.2 u175) H := hP
                    have hD : va_D A (mw cI cJ cZ am ak an ac ae ag aq vth vmo vfg vtp vkd vng vcc vqq vrs vct vun z197 vks vms vcs ves z190.2.2 u175) := hD
                    refine lv_aload_n hx hb dX4_divide_273 rfl (lv_at hl 0 rfl) ?_
                    refine lv_aload_n hx hb dX4_divide_274 rfl (lv_at hl 0 rfl) ?_
                    refine va_get (D := D) (ci := 5) (v := .ref ae) (C := RX4) (T := TX4) (N := 18) hx hb hts hi4 hown hK hP 0 rfl rfl 4 (by decide) (hts (.fieldLink RX4 21 "DecimalWordsModel" "exponents" "[I") (inW_8 _ (List.mem_of_getElem? (i := 34) rfl))) (fun _ h9 => h9) rfl dX4_divide_275 ?_
                    refine lv_iload_n hx hb dX4_divide_278 rfl (lv_at hl 1 rfl) ?_
                    obtain ⟨h_200, hs⟩ := hs
                    refine va_iald hx hb hK hP 4 1 rfl rfl h_200 dX4_divide_279 ?_
                    refine lv_aload_n hx hb dX4_divide_280 rfl (lv_at hl 0 rfl) ?_
                    refine va_get (D := D) (ci := 5) (v := .ref ae) (C := RX4) (T := TX4) (N := 18) hx hb hts hi4 hown hK hP 0 rfl rfl 4 (by decide) (hts (.fieldLink RX4 21 "DecimalWordsModel" "exponents" "[I") (inW_8 _ (List.mem_of_getElem? (i := 34) rfl))) (fun _ h9 => h9) rfl dX4_divide_281 ?_
                    refine lv_iload_n hx hb dX4_divide_284 rfl (lv_at hl 2 rfl) ?_
                    obtain ⟨h_201, hs⟩ := hs
                    refine va_iald hx hb hK hP 4 1 rfl rfl h_201 dX4_divide_285 ?_
                    refine lv_isub hx hb dX4_divide_286 ?_
                    refine lv_bipush (v := 34) hx hb dX4_divide_287 (by decide) ?_
                    refine lv_isub hx hb dX4_divide_289 ?_
                    refine lv_topi (fun f202 ef202 => ?_)
                    have hs := hs _ ef202
                    have hu := hu _ ef202
                    refine va_put (D := D) (ci := 5) (v := .int f202) (ty := .int) (C := RX4) (T := TX4) (N := 18) hx hb hts hi4 tyX4 tyX4_ok nmX4 hown hK hP hD hS 0 rfl rfl 16 (by decide) (hts (.fieldLink RX4 86 "DecimalWordsModel" "unit" "I") (inW_9 _ (List.mem_of_getElem? (i := 33) rfl))) (fun _ h9 => h9) rfl (by decide +kernel) rfl rfl (Nat.le_of_ble_eq_true rfl) dX4_divide_290 (fun H locs hP hD hS => ?_)
                    have hP : va_P D vwCl (mw cI cJ cZ am ak an ac ae ag aq vth vmo vfg vtp vkd vng vcc vqq vrs vct f202 z197 vks vms vcs ves z190.2.2 u175) H := hP
                    have hD : va_D A (mw cI cJ cZ am ak an ac ae ag aq vth vmo vfg vtp vkd vng vcc vqq vrs vct f202 z197 vks vms vcs ves z190.2.2 u175) := hD
                    refine lv_aload_n hx hb dX4_divide_293 rfl (lv_at hl 0 rfl) ?_
                    refine lv_iload_n hx hb dX4_divide_294 rfl (lv_at hl 3 rfl) ?_
                    refine lv_aload_n hx hb dX4_divide_295 rfl (lv_at hl 0 rfl) ?_
                    refine va_get (D := D) (ci := 5) (v := .ref ae) (C := RX4) (T := TX4) (N := 18) hx hb hts hi4 hown hK hP 0 rfl rfl 4 (by decide) (hts (.fieldLink RX4 21 "DecimalWordsModel" "exponents" "[I") (inW_8 _ (List.mem_of_getElem? (i := 34) rfl))) (fun _ h9 => h9) rfl dX4_divide_296 ?_
                    refine lv_iload_n hx hb dX4_divide_299 rfl (lv_at hl 1 rfl) ?_
                    refine va_iald hx hb hK hP 4 1 rfl rfl h_200 dX4_divide_300 ?_
                    refine lv_aload_n hx hb dX4_divide_301 rfl (lv_at hl 0 rfl) ?_
                    refine va_get (D := D) (ci := 5) (v := .ref ae) (C := RX4) (T := TX4) (N := 18) hx hb hts hi4 hown hK hP 0 rfl rfl 4 (by decide) (hts (.fieldLink RX4 21 "DecimalWordsModel" "exponents" "[I") (inW_8 _ (List.mem_of_getElem? (i := 34) rfl))) (fun _ h9 => h9) rfl dX4_divide_302 ?_
                    refine lv_iload_n hx hb dX4_divide_305 rfl (lv_at hl 2 rfl) ?_
                    refine va_iald hx hb hK hP 4 1 rfl rfl h_201 dX4_divide_306 ?_
                    refine lv_isub hx hb dX4_divide_307 ?_
                    have h_204 := hs
                    obtain ⟨u205, eu205⟩ : ∃ y9 : Int32 × Bool × Int64 × Int32 × Int32 × Int32, y9 = F_X4_fit vmo vrs f202 z197 z190.2.2 z105 ((ves p0.toNatClampNeg) - (ves p1.toNatClampNeg)) := ⟨_, rfl⟩
                    have hu := hu _ eu205
                    refine x_V (As := [.int (bI z105), .int ((ves p0.toNatClampNeg) - (ves p1.toNatClampNeg))]) (rest := []) hCF (c_X4_fit l D cR cI cJ cZ t0 am ak an ac ae ag aq vth vmo vfg vtp vkd vng vcc vqq vrs vct f202 z197 vks vms vcs ves z190.2.2 u175 z105 ((ves p0.toNatClampNeg) - (ves p1.toNatClampNeg)) u205 eu205 h_204) (x_cwV 2 hts (inW_10 _ (List.mem_of_getElem? (i := 36) rfl)) (inW_10 _ (List.mem_of_getElem? (i := 37) rfl)) (inW_10 _ (List.mem_of_getElem? (i := 38) rfl)) (inW_9 _ (List.mem_of_getElem? (i := 5) rfl)) (inW_9 _ (List.mem_of_getElem? (i := 32) rfl)) rfl rfl (by decide +kernel) ⟨Nat.le_of_ble_eq_true rfl, Nat.le_of_ble_eq_true rfl⟩) hK hP hD hS hA hSt 0 rfl rfl rfl hl.1 rfl (Nat.le_of_ble_eq_true rfl) dX4_divide_308 ⟨Nat.le_of_ble_eq_true rfl, Nat.le_of_ble_eq_true rfl⟩ (fun H locs hP hD hS => ?_)
                    show W p l e _ s m args below meth c H locs 0 0 Q (F0 m 311 ls [])
                    have e9 := Eq.symm hu; subst e9
                    exact x_vret hx hb hr hlocks hQ hK hP hD hS rfl dX4_divide_311
                  obtain ⟨z9, ez9⟩ : ∃ y9 : Bool, y9 = Z_X4_divide_J_198 z190 := ⟨_, rfl⟩
                  have hz := rZ_X4_divide_J_198 z190 ez9
                  unfold RZ_X4_divide_J_198 at hz
                  refine xl_le (tgt := 269) hx hb dX4_divide_261 dX4_divide_262 (by decide) (fun c_195 => ?_) (fun c_195 => ?_)
                  · rw [if_pos c_195] at hz
                    refine lv_iconst (v := 0) hx hb dX4_divide_269 (by decide) ?_
                    have e9 := Eq.symm hz; subst e9
                    exact J_198 _ ez9 H locs hP hD hS ls (lv_sub hl [0, 1, 2, 3] rfl)
                  · rw [if_neg c_195] at hz
                    refine lv_iconst (v := 1) hx hb dX4_divide_265 (by decide) ?_
                    refine lv_goto (tgt := 270) hx hb dX4_divide_266 (by decide) ?_
                    have e9 := Eq.symm hz; subst e9
                    exact J_198 _ ez9 H locs hP hD hS ls (lv_sub hl [0, 1, 2, 3] rfl)
                refine lv_if_lt (tgt := 257) hx hb dX4_divide_203 (by decide) (fun c_192 => ?_) (fun c_192 => ?_)
                · rw [if_pos c_192] at hg
                  exact J_194 H locs hP hD hS ls (lv_sub hl [0, 1, 2, 3, 4] rfl)
                · rw [if_neg c_192] at hg
                  exact absurd hg (by decide)
              · rw [if_pos c_173] at hu
                refine lv_aload_n hx hb dX4_divide_139 rfl (lv_at hl 1 rfl) ?_
                refine lv_iconst (v := 0) hx hb dX4_divide_140 (by decide) ?_
                refine lv_iload_n hx hb dX4_divide_141 rfl (lv_at hl 4 rfl) ?_
                refine lv_lconst (v := 0) hx hb dX4_divide_142 (by decide) ?_
                refine lv_sipush (v := (-398)) hx hb dX4_divide_143 (by decide) ?_
                obtain ⟨u207, eu207⟩ : ∃ y9 : Int32 × Bool × Int64 × Int32, y9 = F_X4_be (0 : Int32) z105 (0 : Int64) (-398 : Int32) := ⟨_, rfl⟩
                have hu := hu _ eu207
                refine x_V (As := [.int 0, .int (bI z105), .long 0, .int (-398)]) (rest := []) hCF (c_X4_be l D cR cI cJ cZ t0 am ak an ac ae ag aq vth vmo vfg vtp vkd vng vcc vqq vrs vct vun vre vks vms vcs ves vdg vog (0 : Int32) z105 (0 : Int64) (-398 : Int32) u207 eu207) (x_cwV 4 hts (inW_9 _ (List.mem_of_getElem? (i := 18) rfl)) (inW_9 _ (List.mem_of_getElem? (i := 19) rfl)) (inW_9 _ (List.mem_of_getElem? (i := 20) rfl)) (inW_9 _ (List.mem_of_getElem? (i := 5) rfl)) (inW_9 _ (List.mem_of_getElem? (i := 11) rfl)) rfl rfl (by decide +kernel) ⟨Nat.le_of_ble_eq_true rfl, Nat.le_of_ble_eq_true rfl⟩) hK hP hD hS hA hSt 0 rfl rfl rfl hl.1 rfl (Nat.le_of_ble_eq_true rfl) dX4_divide_146 ⟨Nat.le_of_ble_eq_true rfl, Nat.le_of_ble_eq_true rfl⟩ (fun H locs hP hD hS => ?_)
                show W p l e _ s m args below meth c H locs 0 0 Q (F0 m 149 ls [])
                refine lv_goto (tgt := 311) hx hb dX4_divide_149 (by decide) ?_
                have e9 := Eq.symm hu; subst e9
                exact x_vret hx hb hr hlocks hQ hK hP hD hS rfl dX4_divide_311
            · rw [if_pos c_169] at hu
              refine lv_aload_n hx hb dX4_divide_103 rfl (lv_at hl 1 rfl) ?_
              obtain ⟨u209, eu209⟩ : ∃ y9 : Int32 × Bool × Int64 × Int32 × Int32, y9 = F_X4_invalid vrs := ⟨_, rfl⟩
              have hu := hu _ eu209
              refine x_V (As := []) (rest := []) hCF (c_X4_invalid l D cR cI cJ cZ t0 am ak an ac ae ag aq vth vmo vfg vtp vkd vng vcc vqq vrs vct vun vre vks vms vcs ves vdg vog u209 eu209) (x_cwV 0 hts (inW_10 _ (List.mem_of_getElem? (i := 21) rfl)) (inW_10 _ (List.mem_of_getElem? (i := 22) rfl)) (inW_10 _ (List.mem_of_getElem? (i := 23) rfl)) (inW_9 _ (List.mem_of_getElem? (i := 5) rfl)) (inW_9 _ (List.mem_of_getElem? (i := 16) rfl)) rfl rfl (by decide +kernel) ⟨Nat.le_of_ble_eq_true rfl, Nat.le_of_ble_eq_true rfl⟩) hK hP hD hS hA hSt 0 rfl rfl rfl hl.1 rfl (Nat.le_of_ble_eq_true rfl) dX4_divide_104 ⟨Nat.le_of_ble_eq_true rfl, Nat.le_of_ble_eq_true rfl⟩ (fun H locs hP hD hS => ?_)
              show W p l e _ s m args below meth c H locs 0 0 Q (F0 m 107 ls [])
              refine lv_goto (tgt := 311) hx hb dX4_divide_107 (by decide) ?_
              have e9 := Eq.symm hu; subst e9
              exact x_vret hx hb hr hlocks hQ hK hP hD hS rfl dX4_divide_311
        · rw [if_pos c_123] at hs
          rw [if_pos c_123] at hu
          refine lv_aload_n hx hb dX4_divide_84 rfl (lv_at hl 1 rfl) ?_
          refine lv_iload_n hx hb dX4_divide_85 rfl (lv_at hl 3 rfl) ?_
          refine lv_iconst (v := 1) hx hb dX4_divide_86 (by decide) ?_
          have h_211 := hs
          refine x_V (As := [.int p1, .int 1]) (rest := []) hCF (c_X4_is l D cR cI cJ cZ t0 am ak an ac ae ag aq vth vmo vfg vtp vkd vng vcc vqq vrs vct vun vre vks vms vcs ves vdg vog p1 (1 : Int32) _ rfl h_211) (x_cwV 2 hts (inW_10 _ (List.mem_of_getElem? (i := 18) rfl)) (inW_10 _ (List.mem_of_getElem? (i := 19) rfl)) (inW_10 _ (List.mem_of_getElem? (i := 20) rfl)) (inW_9 _ (List.mem_of_getElem? (i := 5) rfl)) (inW_10 _ (List.mem_of_getElem? (i := 10) rfl)) rfl rfl (by decide +kernel) ⟨Nat.le_of_ble_eq_true rfl, Nat.le_of_ble_eq_true rfl⟩) hK hP hD hS hA hSt 0 rfl rfl rfl hl.1 rfl (Nat.le_of_ble_eq_true rfl) dX4_divide_87 ⟨Nat.le_of_ble_eq_true rfl, Nat.le_of_ble_eq_true rfl⟩ (fun H locs hP hD hS => ?_)
          show W p l e _ s m args below meth c H locs 0 0 Q (F0 m 90 ls (.int (bI (F_X4_is vks p1 (1 : Int32))) :: []))
          refine xb_ne (tgt := 103) hx hb dX4_divide_90 (by decide) (fun c_213 => ?_) (fun c_213 => ?_)
          · rw [if_pos c_213] at hu
            refine lv_aload_n hx hb dX4_divide_103 rfl (lv_at hl 1 rfl) ?_
            obtain ⟨u214, eu214⟩ : ∃ y9 : Int32 × Bool × Int64 × Int32 × Int32, y9 = F_X4_invalid vrs := ⟨_, rfl⟩
            have hu := hu _ eu214
            refine x_V (As := []) (rest := []) hCF (c_X4_invalid l D cR cI cJ cZ t0 am ak an ac ae ag aq vth vmo vfg vtp vkd vng vcc vqq vrs vct vun vre vks vms vcs ves vdg vog u214 eu214) (x_cwV 0 hts (inW_10 _ (List.mem_of_getElem? (i := 21) rfl)) (inW_10 _ (List.mem_of_getElem? (i := 22) rfl)) (inW_10 _ (List.mem_of_getElem? (i := 23) rfl)) (inW_9 _ (List.mem_of_getElem? (i := 5) rfl)) (inW_9 _ (List.mem_of_getElem? (i := 16) rfl)) rfl rfl (by decide +kernel) ⟨Nat.le_of_ble_eq_true rfl, Nat.le_of_ble_eq_true rfl⟩) hK hP hD hS hA hSt 0 rfl rfl rfl hl.1 rfl (Nat.le_of_ble_eq_true rfl) dX4_divide_104 ⟨Nat.le_of_ble_eq_true rfl, Nat.le_of_ble_eq_true rfl⟩ (fun H locs hP hD hS => ?_)
            show W p l e _ s m args below meth c H locs 0 0 Q (F0 m 107 ls [])
            refine lv_goto (tgt := 311) hx hb dX4_divide_107 (by decide) ?_
            have e9 := Eq.symm hu; subst e9
            exact x_vret hx hb hr hlocks hQ hK hP hD hS rfl dX4_divide_311
          · rw [if_neg c_213] at hu
            refine lv_iload hx hb dX4_divide_93 (lv_at hl 5 rfl) ?_
            refine xb_eq (tgt := 110) hx hb dX4_divide_95 (by decide) (fun c_216 => ?_) (fun c_216 => ?_)
            · rw [if_neg c_216] at hu
              refine lv_aload_n hx hb dX4_divide_110 rfl (lv_at hl 1 rfl) ?_
              refine lv_iload_n hx hb dX4_divide_111 rfl (lv_at hl 2 rfl) ?_
              refine lv_iconst (v := 1) hx hb dX4_divide_112 (by decide) ?_
              refine x_V (As := [.int p0, .int 1]) (rest := []) hCF (c_X4_is l D cR cI cJ cZ t0 am ak an ac ae ag aq vth vmo vfg vtp vkd vng vcc vqq vrs vct vun vre vks vms vcs ves vdg vog p0 (1 : Int32) _ rfl h_121) (x_cwV 2 hts (inW_10 _ (List.mem_of_getElem? (i := 18) rfl)) (inW_10 _ (List.mem_of_getElem? (i := 19) rfl)) (inW_10 _ (List.mem_of_getElem? (i := 20) rfl)) (inW_9 _ (List.mem_of_getElem? (i := 5) rfl)) (inW_10 _ (List.mem_of_getElem? (i := 10) rfl)) rfl rfl (by decide +kernel) ⟨Nat.le_of_ble_eq_true rfl, Nat.le_of_ble_eq_true rfl⟩) hK hP hD hS hA hSt 0 rfl rfl rfl hl.1 rfl (Nat.le_of_ble_eq_true rfl) dX4_divide_113 ⟨Nat.le_of_ble_eq_true rfl, Nat.le_of_ble_eq_true rfl⟩ (fun H locs hP hD hS => ?_)
              show W p l e _ s m args below meth c H locs 0 0 Q (F0 m 116 ls (.int (bI (F_X4_is vks p0 (1 : Int32))) :: []))
              refine xb_eq (tgt := 130) hx hb dX4_divide_116 (by decide) (fun c9 => absurd c_123 c9) (fun _ => ?_)
              refine lv_aload_n hx hb dX4_divide_119 rfl (lv_at hl 1 rfl) ?_
              refine lv_iconst (v := 1) hx hb dX4_divide_120 (by decide) ?_
              refine lv_iload_n hx hb dX4_divide_121 rfl (lv_at hl 4 rfl) ?_
              refine lv_lconst (v := 0) hx hb dX4_divide_122 (by decide) ?_
              refine lv_iconst (v := 0) hx hb dX4_divide_123 (by decide) ?_
              obtain ⟨u218, eu218⟩ : ∃ y9 : Int32 × Bool × Int64 × Int32, y9 = F_X4_be (1 : Int32) z105 (0 : Int64) (0 : Int32) := ⟨_, rfl⟩
              have hu := hu _ eu218
              refine x_V (As := [.int 1, .int (bI z105), .long 0, .int 0]) (rest := []) hCF (c_X4_be l D cR cI cJ cZ t0 am ak an ac ae ag aq vth vmo vfg vtp vkd vng vcc vqq vrs vct vun vre vks vms vcs ves vdg vog (1 : Int32) z105 (0 : Int64) (0 : Int32) u218 eu218) (x_cwV 4 hts (inW_9 _ (List.mem_of_getElem? (i := 18) rfl)) (inW_9 _ (List.mem_of_getElem? (i := 19) rfl)) (inW_9 _ (List.mem_of_getElem? (i := 20) rfl)) (inW_9 _ (List.mem_of_getElem? (i := 5) rfl)) (inW_9 _ (List.mem_of_getElem? (i := 11) rfl)) rfl rfl (by decide +kernel) ⟨Nat.le_of_ble_eq_true rfl, Nat.le_of_ble_eq_true rfl⟩) hK hP hD hS hA hSt 0 rfl rfl rfl hl.1 rfl (Nat.le_of_ble_eq_true rfl) dX4_divide_124 ⟨Nat.le_of_ble_eq_true rfl, Nat.le_of_ble_eq_true rfl⟩ (fun H locs hP hD hS => ?_)
              show W p l e _ s m args below meth c H locs 0 0 Q (F0 m 127 ls [])
              refine lv_goto (tgt := 311) hx hb dX4_divide_127 (by decide) ?_
              have e9 := Eq.symm hu; subst e9
              exact x_vret hx hb hr hlocks hQ hK hP hD hS rfl dX4_divide_311
            · rw [if_pos c_216] at hu
              refine lv_iload hx hb dX4_divide_98 (lv_at hl 0 rfl) ?_
              refine xb_eq (tgt := 110) hx hb dX4_divide_100 (by decide) (fun c_220 => ?_) (fun c_220 => ?_)
              · rw [if_neg c_220] at hu
                refine lv_aload_n hx hb dX4_divide_110 rfl (lv_at hl 1 rfl) ?_
                refine lv_iload_n hx hb dX4_divide_111 rfl (lv_at hl 2 rfl) ?_
                refine lv_iconst (v := 1) hx hb dX4_divide_112 (by decide) ?_
                refine x_V (As := [.int p0, .int 1]) (rest := []) hCF (c_X4_is l D cR cI cJ cZ t0 am ak an ac ae ag aq vth vmo vfg vtp vkd vng vcc vqq vrs vct vun vre vks vms vcs ves vdg vog p0 (1 : Int32) _ rfl h_121) (x_cwV 2 hts (inW_10 _ (List.mem_of_getElem? (i := 18) rfl)) (inW_10 _ (List.mem_of_getElem? (i := 19) rfl)) (inW_10 _ (List.mem_of_getElem? (i := 20) rfl)) (inW_9 _ (List.mem_of_getElem? (i := 5) rfl)) (inW_10 _ (List.mem_of_getElem? (i := 10) rfl)) rfl rfl (by decide +kernel) ⟨Nat.le_of_ble_eq_true rfl, Nat.le_of_ble_eq_true rfl⟩) hK hP hD hS hA hSt 0 rfl rfl rfl hl.1 rfl (Nat.le_of_ble_eq_true rfl) dX4_divide_113 ⟨Nat.le_of_ble_eq_true rfl, Nat.le_of_ble_eq_true rfl⟩ (fun H locs hP hD hS => ?_)
                show W p l e _ s m args below meth c H locs 0 0 Q (F0 m 116 ls (.int (bI (F_X4_is vks p0 (1 : Int32))) :: []))
                refine xb_eq (tgt := 130) hx hb dX4_divide_116 (by decide) (fun c9 => absurd c_123 c9) (fun _ => ?_)
                refine lv_aload_n hx hb dX4_divide_119 rfl (lv_at hl 1 rfl) ?_
                refine lv_iconst (v := 1) hx hb dX4_divide_120 (by decide) ?_
                refine lv_iload_n hx hb dX4_divide_121 rfl (lv_at hl 4 rfl) ?_
                refine lv_lconst (v := 0) hx hb dX4_divide_122 (by decide) ?_
                refine lv_iconst (v := 0) hx hb dX4_divide_123 (by decide) ?_
                obtain ⟨u222, eu222⟩ : ∃ y9 : Int32 × Bool × Int64 × Int32, y9 = F_X4_be (1 : Int32) z105 (0 : Int64) (0 : Int32) := ⟨_, rfl⟩
                have hu := hu _ eu222
                refine x_V (As := [.int 1, .int (bI z105), .long 0, .int 0]) (rest := []) hCF (c_X4_be l D cR cI cJ cZ t0 am ak an ac ae ag aq vth vmo vfg vtp vkd vng vcc vqq vrs vct vun vre vks vms vcs ves vdg vog (1 : Int32) z105 (0 : Int64) (0 : Int32) u222 eu222) (x_cwV 4 hts (inW_9 _ (List.mem_of_getElem? (i := 18) rfl)) (inW_9 _ (List.mem_of_getElem? (i := 19) rfl)) (inW_9 _ (List.mem_of_getElem? (i := 20) rfl)) (inW_9 _ (List.mem_of_getElem? (i := 5) rfl)) (inW_9 _ (List.mem_of_getElem? (i := 11) rfl)) rfl rfl (by decide +kernel) ⟨Nat.le_of_ble_eq_true rfl, Nat.le_of_ble_eq_true rfl⟩) hK hP hD hS hA hSt 0 rfl rfl rfl hl.1 rfl (Nat.le_of_ble_eq_true rfl) dX4_divide_124 ⟨Nat.le_of_ble_eq_true rfl, Nat.le_of_ble_eq_true rfl⟩ (fun H locs hP hD hS => ?_)
                show W p l e _ s m args below meth c H locs 0 0 Q (F0 m 127 ls [])
                refine lv_goto (tgt := 311) hx hb dX4_divide_127 (by decide) ?_
                have e9 := Eq.symm hu; subst e9
                exact x_vret hx hb hr hlocks hQ hK hP hD hS rfl dX4_divide_311
              · rw [if_pos c_220] at hu
                refine lv_aload_n hx hb dX4_divide_103 rfl (lv_at hl 1 rfl) ?_
                obtain ⟨u224, eu224⟩ : ∃ y9 : Int32 × Bool × Int64 × Int32 × Int32, y9 = F_X4_invalid vrs := ⟨_, rfl⟩
                have hu := hu _ eu224
                refine x_V (As := []) (rest := []) hCF (c_X4_invalid l D cR cI cJ cZ t0 am ak an ac ae ag aq vth vmo vfg vtp vkd vng vcc vqq vrs vct vun vre vks vms vcs ves vdg vog u224 eu224) (x_cwV 0 hts (inW_10 _ (List.mem_of_getElem? (i := 21) rfl)) (inW_10 _ (List.mem_of_getElem? (i := 22) rfl)) (inW_10 _ (List.mem_of_getElem? (i := 23) rfl)) (inW_9 _ (List.mem_of_getElem? (i := 5) rfl)) (inW_9 _ (List.mem_of_getElem? (i := 16) rfl)) rfl rfl (by decide +kernel) ⟨Nat.le_of_ble_eq_true rfl, Nat.le_of_ble_eq_true rfl⟩) hK hP hD hS hA hSt 0 rfl rfl rfl hl.1 rfl (Nat.le_of_ble_eq_true rfl) dX4_divide_104 ⟨Nat.le_of_ble_eq_true rfl, Nat.le_of_ble_eq_true rfl⟩ (fun H locs hP hD hS => ?_)
                show W p l e _ s m args below meth c H locs 0 0 Q (F0 m 107 ls [])
                refine lv_goto (tgt := 311) hx hb dX4_divide_107 (by decide) ?_
                have e9 := Eq.symm hu; subst e9
                exact x_vret hx hb hr hlocks hQ hK hP hD hS rfl dX4_divide_311
      obtain ⟨z9, ez9⟩ : ∃ y9 : Bool, y9 = Z_X4_divide_J_120 vks vcs p1 := ⟨_, rfl⟩
      have hz := rZ_X4_divide_J_120 vks vcs p1 ez9
      unfold RZ_X4_divide_J_120 at hz
      refine xb_eq (tgt := 72) hx hb dX4_divide_54 (by decide) (fun c_116 => ?_) (fun c_116 => ?_)
      · rw [if_neg c_116] at hz
        refine lv_iconst (v := 0) hx hb dX4_divide_72 (by decide) ?_
        have e9 := Eq.symm hz; subst e9
        exact J_120 _ ez9 H locs hP hD hS ls (lv_sub hl [1, 2, 3, 4, 0] rfl)
      · rw [if_pos c_116] at hz
        refine lv_aload_n hx hb dX4_divide_57 rfl (lv_at hl 1 rfl) ?_
        refine va_get (D := D) (ci := 5) (v := .ref ac) (C := RX4) (T := TX4) (N := 18) hx hb hts hi4 hown hK hP 0 rfl rfl 3 (by decide) (hts (.fieldLink RX4 17 "DecimalWordsModel" "coefficients" "[J") (inW_8 _ (List.mem_of_getElem? (i := 33) rfl))) (fun _ h9 => h9) rfl dX4_divide_58 ?_
        refine lv_iload_n hx hb dX4_divide_61 rfl (lv_at hl 3 rfl) ?_
        refine va_lald hx hb hK hP 3 2 rfl rfl h_102 dX4_divide_62 ?_
        refine lv_lconst (v := 0) hx hb dX4_divide_63 (by decide) ?_
        refine xl_ne (tgt := 72) hx hb dX4_divide_64 dX4_divide_65 (by decide) (fun c_117 => ?_) (fun c_117 => ?_)
        · rw [if_neg c_117] at hz
          refine lv_iconst (v := 0) hx hb dX4_divide_72 (by decide) ?_
          have e9 := Eq.symm hz; subst e9
          exact J_120 _ ez9 H locs hP hD hS ls (lv_sub hl [1, 2, 3, 4, 0] rfl)
        · rw [if_pos c_117] at hz
          refine lv_iconst (v := 1) hx hb dX4_divide_68 (by decide) ?_
          refine lv_goto (tgt := 73) hx hb dX4_divide_69 (by decide) ?_
          have e9 := Eq.symm hz; subst e9
          exact J_120 _ ez9 H locs hP hD hS ls (lv_sub hl [1, 2, 3, 4, 0] rfl)
    obtain ⟨z9, ez9⟩ : ∃ y9 : Bool, y9 = Z_X4_divide_J_113 vks vcs p0 := ⟨_, rfl⟩
    have hz := rZ_X4_divide_J_113 vks vcs p0 ez9
    unfold RZ_X4_divide_J_113 at hz
    refine xb_eq (tgt := 45) hx hb dX4_divide_27 (by decide) (fun c_109 => ?_) (fun c_109 => ?_)
    · rw [if_neg c_109] at hz
      refine lv_iconst (v := 0) hx hb dX4_divide_45 (by decide) ?_
      have e9 := Eq.symm hz; subst e9
      exact J_113 _ ez9 H locs hP hD hS ls (lv_sub hl [1, 2, 3, 0] rfl)
    · rw [if_pos c_109] at hz
      refine lv_aload_n hx hb dX4_divide_30 rfl (lv_at hl 1 rfl) ?_
      refine va_get (D := D) (ci := 5) (v := .ref ac) (C := RX4) (T := TX4) (N := 18) hx hb hts hi4 hown hK hP 0 rfl rfl 3 (by decide) (hts (.fieldLink RX4 17 "DecimalWordsModel" "coefficients" "[J") (inW_8 _ (List.mem_of_getElem? (i := 33) rfl))) (fun _ h9 => h9) rfl dX4_divide_31 ?_
      refine lv_iload_n hx hb dX4_divide_34 rfl (lv_at hl 2 rfl) ?_
      refine va_lald hx hb hK hP 3 2 rfl rfl h_101 dX4_divide_35 ?_
      refine lv_lconst (v := 0) hx hb dX4_divide_36 (by decide) ?_
      refine xl_ne (tgt := 45) hx hb dX4_divide_37 dX4_divide_38 (by decide) (fun c_110 => ?_) (fun c_110 => ?_)
      · rw [if_neg c_110] at hz
        refine lv_iconst (v := 0) hx hb dX4_divide_45 (by decide) ?_
        have e9 := Eq.symm hz; subst e9
        exact J_113 _ ez9 H locs hP hD hS ls (lv_sub hl [1, 2, 3, 0] rfl)
      · rw [if_pos c_110] at hz
        refine lv_iconst (v := 1) hx hb dX4_divide_41 (by decide) ?_
        refine lv_goto (tgt := 46) hx hb dX4_divide_42 (by decide) ?_
        have e9 := Eq.symm hz; subst e9
        exact J_113 _ ez9 H locs hP hD hS ls (lv_sub hl [1, 2, 3, 0] rfl)
  obtain ⟨z9, ez9⟩ : ∃ y9 : Bool, y9 = Z_X4_divide_J_106 vms p0 p1 := ⟨_, rfl⟩
  have hz := rZ_X4_divide_J_106 vms p0 p1 ez9
  unfold RZ_X4_divide_J_106 at hz
  refine xbb_eq (tgt := 19) hx hb dX4_divide_12 (by decide) (fun c_103 => ?_) (fun c_103 => ?_)
  · rw [if_pos c_103] at hz
    refine lv_iconst (v := 0) hx hb dX4_divide_19 (by decide) ?_
    have e9 := Eq.symm hz; subst e9
    exact J_106 _ ez9 H locs hP hD hS ls (lv_sub hl [0, 1, 2] rfl)
  · rw [if_neg c_103] at hz
    refine lv_iconst (v := 1) hx hb dX4_divide_15 (by decide) ?_
    refine lv_goto (tgt := 20) hx hb dX4_divide_16 (by decide) ?_
    have e9 := Eq.symm hz; subst e9
    exact J_106 _ ez9 H locs hP hD hS ls (lv_sub hl [0, 1, 2] rfl)

def Z_X4_quantize_J_133 (u113 : (Nat → Int32)) (t_151 : Bool × Int32) : Bool := (if t_151.1 = true then (if u113 t_151.2.toNatClampNeg = 0 then true else false) else false)
def RZ_X4_quantize_J_133 (u113 : (Nat → Int32)) (t_151 : Bool × Int32) (u9 : Bool) : Prop := (if t_151.1 = true then (if u113 t_151.2.toNatClampNeg = 0 then u9 = true else u9 = false) else u9 = false)
theorem rZ_X4_quantize_J_133 (u113 : (Nat → Int32)) (t_151 : Bool × Int32) {u9 : Bool} (hu : u9 = Z_X4_quantize_J_133 u113 t_151) : RZ_X4_quantize_J_133 u113 t_151 u9 := by
  unfold RZ_X4_quantize_J_133
  refine ite_P (fun c_128 => ?_) (fun c_128 => ?_)
  · have hu := hu.trans (if_pos c_128)
    refine ite_P (fun c_130 => ?_) (fun c_130 => ?_)
    · have hu := hu.trans (if_pos c_130)
      exact hu
    · have hu := hu.trans (if_neg c_130)
      exact hu
  · have hu := hu.trans (if_neg c_128)
    exact hu
def B_X4_quantize_151 (n111 : Int32) (u113 : (Nat → Int32)) (u116 : Int32) (t_151 : Bool × Int32) : Bool × Int32 := (if n111 ≤ t_151.2 then t_151 else (if u116 ≤ t_151.2 then t_151 else (bnd (Z_X4_quantize_J_133 u113 t_151) (fun z132 : Bool => (bnd (t_151.2 + 1) (fun n134 : Int32 => (z132, n134)))))))
def G_X4_quantize_151 (n111 : Int32) (u113 : (Nat → Int32)) (u116 : Int32) (t_151 : Bool × Int32) : Bool := (if n111 ≤ t_151.2 then false else (if u116 ≤ t_151.2 then false else (bnd (Z_X4_quantize_J_133 u113 t_151) (fun z132 : Bool => (bnd (t_151.2 + 1) (fun n134 : Int32 => true))))))
def RB_X4_quantize_151 (n111 : Int32) (u113 : (Nat → Int32)) (u116 : Int32) (t_151 : Bool × Int32) (u9 : Bool × Int32) : Prop := (if n111 ≤ t_151.2 then True else (if u116 ≤ t_151.2 then True else (∀ z132 : Bool, z132 = Z_X4_quantize_J_133 u113 t_151 → (∀ n134 : Int32, n134 = t_151.2 + 1 → u9 = (z132, n134)))))
def RG_X4_quantize_151 (n111 : Int32) (u113 : (Nat → Int32)) (u116 : Int32) (t_151 : Bool × Int32) (u9 : Bool) : Prop := (if n111 ≤ t_151.2 then u9 = false else (if u116 ≤ t_151.2 then u9 = false else u9 = true))
theorem rB_X4_quantize_151 (n111 : Int32) (u113 : (Nat → Int32)) (u116 : Int32) (t_151 : Bool × Int32) {u9 : Bool × Int32} (hu : u9 = B_X4_quantize_151 n111 u113 u116 t_151) : RB_X4_quantize_151 n111 u113 u116 t_151 u9 := by
  unfold RB_X4_quantize_151
  refine ite_P (fun c_126 => ?_) (fun c_126 => ?_)
  · have hu := hu.trans (if_pos c_126)
    trivial
  · have hu := hu.trans (if_neg c_126)
    refine ite_P (fun c_127 => ?_) (fun c_127 => ?_)
    · have hu := hu.trans (if_pos c_127)
      trivial
    · have hu := hu.trans (if_neg c_127)
      intro z132 ez132
      have hu := bnd_n hu ez132
      intro n134 en134
      have hu := bnd_n hu en134
      exact hu
theorem rG_X4_quantize_151 (n111 : Int32) (u113 : (Nat → Int32)) (u116 : Int32) (t_151 : Bool × Int32) {u9 : Bool} (hu : u9 = G_X4_quantize_151 n111 u113 u116 t_151) : RG_X4_quantize_151 n111 u113 u116 t_151 u9 := by
  unfold RG_X4_quantize_151
  refine ite_P (fun c_126 => ?_) (fun c_126 => ?_)
  · have hu := hu.trans (if_pos c_126)
    exact hu
  · have hu := hu.trans (if_neg c_126)
    refine ite_P (fun c_127 => ?_) (fun c_127 => ?_)
    · have hu := hu.trans (if_pos c_127)
      exact hu
    · have hu := hu.trans (if_neg c_127)
      exact hu
def SB_X4_quantize_151 (n111 : Int32) (u113 : (Nat → Int32)) (u116 : Int32) (t_151 : Bool × Int32) : Prop := (if n111 ≤ t_151.2 then True else (if u116 ≤ t_151.2 then True else (if t_151.1 = true then vp_in t_151.2 900 else True)))
def Z_X4_quantize_J_144 (vrs : Int32) (z135 : Bool × Int32) : Int32 := (if z135.1 = true then vrs else vrs ||| 16)
def RZ_X4_quantize_J_144 (vrs : Int32) (z135 : Bool × Int32) (u9 : Int32) : Prop := (if z135.1 = true then u9 = vrs else u9 = vrs ||| 16)
theorem rZ_X4_quantize_J_144 (vrs : Int32) (z135 : Bool × Int32) {u9 : Int32} (hu : u9 = Z_X4_quantize_J_144 vrs z135) : RZ_X4_quantize_J_144 vrs z135 u9 := by
  unfold RZ_X4_quantize_J_144
  refine ite_P (fun c_141 => ?_) (fun c_141 => ?_)
  · have hu := hu.trans (if_pos c_141)
    exact hu
  · have hu := hu.trans (if_neg c_141)
    exact hu
def Z_X4_quantize_J_125 (vmo : Int32) (vms : Nat → Bool) (p0 : Int32) (n111 : Int32) (u113 : (Nat → Int32)) (u116 : Int32) : Int64 := (if u116 = 0 then 0 else F_X4_rounded vmo u116 false u113 n111 (vms p0.toNatClampNeg))
def RZ_X4_quantize_J_125 (vmo : Int32) (vms : Nat → Bool) (p0 : Int32) (n111 : Int32) (u113 : (Nat → Int32)) (u116 : Int32) (u9 : Int64) : Prop := (if u116 = 0 then u9 = 0 else u9 = F_X4_rounded vmo u116 false u113 n111 (vms p0.toNatClampNeg))
theorem rZ_X4_quantize_J_125 (vmo : Int32) (vms : Nat → Bool) (p0 : Int32) (n111 : Int32) (u113 : (Nat → Int32)) (u116 : Int32) {u9 : Int64} (hu : u9 = Z_X4_quantize_J_125 vmo vms p0 n111 u113 u116) : RZ_X4_quantize_J_125 vmo vms p0 n111 u113 u116 u9 := by
  unfold RZ_X4_quantize_J_125
  refine ite_P (fun c_120 => ?_) (fun c_120 => ?_)
  · have hu := hu.trans (if_pos c_120)
    exact hu
  · have hu := hu.trans (if_neg c_120)
    exact hu
def F_X4_quantize (vmo : Int32) (vrs : Int32) (vct : Int32) (vre : Bool) (vks : Nat → Int32) (vms : Nat → Bool) (vcs : Nat → Int64) (ves : Nat → Int32) (vdg : Nat → Int32) (p0 : Int32) (p1 : Int32) : Int32 × Bool × Int64 × Int32 × Int32 × Int32 × Bool × (Nat → Int32) := (if F_X4_is vks p0 (1 : Int32) = true then (if F_X4_is vks p1 (1 : Int32) = true then (bnd (F_X4_be (1 : Int32) (vms p0.toNatClampNeg) (0 : Int64) (0 : Int32)) (fun u190 : Int32 × Bool × Int64 × Int32 => (u190.1, u190.2.1, u190.2.2.1, u190.2.2.2, vrs, vct, vre, vdg))) else (bnd (F_X4_invalid vrs) (fun u187 : Int32 × Bool × Int64 × Int32 × Int32 => (u187.1, u187.2.1, u187.2.2.1, u187.2.2.2.1, u187.2.2.2.2, vct, vre, vdg)))) else (if F_X4_is vks p1 (1 : Int32) = true then (bnd (F_X4_invalid vrs) (fun u181 : Int32 × Bool × Int64 × Int32 × Int32 => (u181.1, u181.2.1, u181.2.2.1, u181.2.2.2.1, u181.2.2.2.2, vct, vre, vdg))) else (bnd (ves p1.toNatClampNeg) (fun n109 : Int32 => (bnd (n109 - (ves p0.toNatClampNeg)) (fun n111 : Int32 => (bnd (F_X4_lay vdg (vcs p0.toNatClampNeg) (0 : Int32)) (fun u113 : (Nat → Int32) => (bnd (F_X4_trim u113) (fun u116 : Int32 => (if u116 ≤ 0 then (bnd (Z_X4_quantize_J_125 vmo vms p0 n111 u113 u116) (fun z124 : Int64 => (bnd (wl (G_X4_quantize_151 n111 u113 u116) (B_X4_quantize_151 n111 u113 u116) 901 (true, 0)) (fun z135 : Bool × Int32 => (bnd (Z_X4_quantize_J_144 vrs z135) (fun z143 : Int32 => (bnd (F_X4_be (0 : Int32) (vms p0.toNatClampNeg) z124 n109) (fun u147 : Int32 × Bool × Int64 × Int32 => (u147.1, u147.2.1, u147.2.2.1, u147.2.2.2, z143, u116, false, u113))))))))) else (if u116 - n111 ≤ 16 then (bnd (Z_X4_quantize_J_125 vmo vms p0 n111 u113 u116) (fun z154 : Int64 => (bnd (wl (G_X4_quantize_151 n111 u113 u116) (B_X4_quantize_151 n111 u113 u116) 901 (true, 0)) (fun z165 : Bool × Int32 => (bnd (Z_X4_quantize_J_144 vrs z165) (fun z173 : Int32 => (bnd (F_X4_be (0 : Int32) (vms p0.toNatClampNeg) z154 n109) (fun u177 : Int32 × Bool × Int64 × Int32 => (u177.1, u177.2.1, u177.2.2.1, u177.2.2.2, z173, u116, false, u113))))))))) else (bnd (F_X4_invalid vrs) (fun u179 : Int32 × Bool × Int64 × Int32 × Int32 => (u179.1, u179.2.1, u179.2.2.1, u179.2.2.2.1, u179.2.2.2.2, u116, false, u113)))))))))))))))
def RF_X4_quantize (vmo : Int32) (vrs : Int32) (vct : Int32) (vre : Bool) (vks : Nat → Int32) (vms : Nat → Bool) (vcs : Nat → Int64) (ves : Nat → Int32) (vdg : Nat → Int32) (p0 : Int32) (p1 : Int32) (u9 : Int32 × Bool × Int64 × Int32 × Int32 × Int32 × Bool × (Nat → Int32)) : Prop := (if F_X4_is vks p0 (1 : Int32) = true then (if F_X4_is vks p1 (1 : Int32) = true then (∀ u190 : Int32 × Bool × Int64 × Int32, u190 = F_X4_be (1 : Int32) (vms p0.toNatClampNeg) (0 : Int64) (0 : Int32) → u9 = (u190.1, u190.2.1, u190.2.2.1, u190.2.2.2, vrs, vct, vre, vdg)) else (∀ u187 : Int32 × Bool × Int64 × Int32 × Int32, u187 = F_X4_invalid vrs → u9 = (u187.1, u187.2.1, u187.2.2.1, u187.2.2.2.1, u187.2.2.2.2, vct, vre, vdg))) else (if F_X4_is vks p1 (1 : Int32) = true then (∀ u181 : Int32 × Bool × Int64 × Int32 × Int32, u181 = F_X4_invalid vrs → u9 = (u181.1, u181.2.1, u181.2.2.1, u181.2.2.2.1, u181.2.2.2.2, vct, vre, vdg)) else (∀ n109 : Int32, n109 = ves p1.toNatClampNeg → (∀ n111 : Int32, n111 = n109 - (ves p0.toNatClampNeg) → (∀ u113 : (Nat → Int32), u113 = F_X4_lay vdg (vcs p0.toNatClampNeg) (0 : Int32) → (∀ u116 : Int32, u116 = F_X4_trim u113 → (if u116 ≤ 0 then (∀ z124 : Int64, z124 = Z_X4_quantize_J_125 vmo vms p0 n111 u113 u116 → (∀ z135 : Bool × Int32, z135 = wl (G_X4_quantize_151 n111 u113 u116) (B_X4_quantize_151 n111 u113 u116) 901 (true, 0) → (∀ z143 : Int32, z143 = Z_X4_quantize_J_144 vrs z135 → (∀ u147 : Int32 × Bool × Int64 × Int32, u147 = F_X4_be (0 : Int32) (vms p0.toNatClampNeg) z124 n109 → u9 = (u147.1, u147.2.1, u147.2.2.1, u147.2.2.2, z143, u116, false, u113))))) else (if u116 - n111 ≤ 16 then (∀ z154 : Int64, z154 = Z_X4_quantize_J_125 vmo vms p0 n111 u113 u116 → (∀ z165 : Bool × Int32, z165 = wl (G_X4_quantize_151 n111 u113 u116) (B_X4_quantize_151 n111 u113 u116) 901 (true, 0) → (∀ z173 : Int32, z173 = Z_X4_quantize_J_144 vrs z165 → (∀ u177 : Int32 × Bool × Int64 × Int32, u177 = F_X4_be (0 : Int32) (vms p0.toNatClampNeg) z154 n109 → u9 = (u177.1, u177.2.1, u177.2.2.1, u177.2.2.2, z173, u116, false, u113))))) else (∀ u179 : Int32 × Bool × Int64 × Int32 × Int32, u179 = F_X4_invalid vrs → u9 = (u179.1, u179.2.1, u179.2.2.1, u179.2.2.2.1, u179.2.2.2.2, u116, false, u113))))))))))
theorem rF_X4_quantize (vmo : Int32) (vrs : Int32) (vct : Int32) (vre : Bool) (vks : Nat → Int32) (vms : Nat → Bool) (vcs : Nat → Int64) (ves : Nat → Int32) (vdg : Nat → Int32) (p0 : Int32) (p1 : Int32) {u9 : Int32 × Bool × Int64 × Int32 × Int32 × Int32 × Bool × (Nat → Int32)} (hu : u9 = F_X4_quantize vmo vrs vct vre vks vms vcs ves vdg p0 p1) : RF_X4_quantize vmo vrs vct vre vks vms vcs ves vdg p0 p1 u9 := by
  unfold RF_X4_quantize
  refine ite_P (fun c_103 => ?_) (fun c_103 => ?_)
  · have hu := hu.trans (if_pos c_103)
    refine ite_P (fun c_185 => ?_) (fun c_185 => ?_)
    · have hu := hu.trans (if_pos c_185)
      intro u190 eu190
      have hu := bnd_n hu eu190
      exact hu
    · have hu := hu.trans (if_neg c_185)
      intro u187 eu187
      have hu := bnd_n hu eu187
      exact hu
  · have hu := hu.trans (if_neg c_103)
    refine ite_P (fun c_107 => ?_) (fun c_107 => ?_)
    · have hu := hu.trans (if_pos c_107)
      intro u181 eu181
      have hu := bnd_n hu eu181
      exact hu
    · have hu := hu.trans (if_neg c_107)
      intro n109 en109
      have hu := bnd_n hu en109
      intro n111 en111
      have hu := bnd_n hu en111
      intro u113 eu113
      have hu := bnd_n hu eu113
      intro u116 eu116
      have hu := bnd_n hu eu116
      refine ite_P (fun c_119 => ?_) (fun c_119 => ?_)
      · have hu := hu.trans (if_pos c_119)
        intro z124 ez124
        have hu := bnd_n hu ez124
        intro z135 ez135
        have hu := bnd_n hu ez135
        intro z143 ez143
        have hu := bnd_n hu ez143
        intro u147 eu147
        have hu := bnd_n hu eu147
        exact hu
      · have hu := hu.trans (if_neg c_119)
        refine ite_P (fun c_149 => ?_) (fun c_149 => ?_)
        · have hu := hu.trans (if_pos c_149)
          intro z154 ez154
          have hu := bnd_n hu ez154
          intro z165 ez165
          have hu := bnd_n hu ez165
          intro z173 ez173
          have hu := bnd_n hu ez173
          intro u177 eu177
          have hu := bnd_n hu eu177
          exact hu
        · have hu := hu.trans (if_neg c_149)
          intro u179 eu179
          have hu := bnd_n hu eu179
          exact hu
def S_X4_quantize (vmo : Int32) (vrs : Int32) (vct : Int32) (vre : Bool) (vks : Nat → Int32) (vms : Nat → Bool) (vcs : Nat → Int64) (ves : Nat → Int32) (vdg : Nat → Int32) (p0 : Int32) (p1 : Int32) : Prop := (S_X4_is vks p0 (1 : Int32)) ∧ (if F_X4_is vks p0 (1 : Int32) = true then (S_X4_is vks p1 (1 : Int32)) ∧ (if F_X4_is vks p1 (1 : Int32) = true then vp_in p0 8 else True) else (S_X4_is vks p1 (1 : Int32)) ∧ (if F_X4_is vks p1 (1 : Int32) = true then True else (vp_in p1 8) ∧ (∀ n109 : Int32, n109 = ves p1.toNatClampNeg → (vp_in p0 8) ∧ (∀ n111 : Int32, n111 = n109 - (ves p0.toNatClampNeg) → (S_X4_lay vdg (vcs p0.toNatClampNeg) (0 : Int32)) ∧ (∀ u113 : (Nat → Int32), u113 = F_X4_lay vdg (vcs p0.toNatClampNeg) (0 : Int32) → (S_X4_trim u113) ∧ (∀ u116 : Int32, u116 = F_X4_trim u113 → (if u116 ≤ 0 then ((if u116 = 0 then True else S_X4_rounded vmo u116 false u113 n111 (vms p0.toNatClampNeg))) ∧ (∀ z124 : Int64, z124 = Z_X4_quantize_J_125 vmo vms p0 n111 u113 u116 → (∀ j : Nat, j < nW (G_X4_quantize_151 n111 u113 u116) (B_X4_quantize_151 n111 u113 u116) 901 (true, 0) → SB_X4_quantize_151 n111 u113 u116 (itn (B_X4_quantize_151 n111 u113 u116) j (true, 0))) ∧ G_X4_quantize_151 n111 u113 u116 (wl (G_X4_quantize_151 n111 u113 u116) (B_X4_quantize_151 n111 u113 u116) 901 (true, 0)) = false ∧ (∀ z135 : Bool × Int32, z135 = wl (G_X4_quantize_151 n111 u113 u116) (B_X4_quantize_151 n111 u113 u116) 901 (true, 0) → (∀ z143 : Int32, z143 = Z_X4_quantize_J_144 vrs z135 → vp_in p0 8))) else (if u116 - n111 ≤ 16 then ((if u116 = 0 then True else S_X4_rounded vmo u116 false u113 n111 (vms p0.toNatClampNeg))) ∧ (∀ z154 : Int64, z154 = Z_X4_quantize_J_125 vmo vms p0 n111 u113 u116 → (∀ j : Nat, j < nW (G_X4_quantize_151 n111 u113 u116) (B_X4_quantize_151 n111 u113 u116) 901 (true, 0) → SB_X4_quantize_151 n111 u113 u116 (itn (B_X4_quantize_151 n111 u113 u116) j (true, 0))) ∧ G_X4_quantize_151 n111 u113 u116 (wl (G_X4_quantize_151 n111 u113 u116) (B_X4_quantize_151 n111 u113 u116) 901 (true, 0)) = false ∧ (∀ z165 : Bool × Int32, z165 = wl (G_X4_quantize_151 n111 u113 u116) (B_X4_quantize_151 n111 u113 u116) 901 (true, 0) → (∀ z173 : Int32, z173 = Z_X4_quantize_J_144 vrs z165 → vp_in p0 8))) else True))))))))
def rm_X4_quantize : Room := { frames := 2, cells := 0, slots := 0, locals := 56 }
set_option maxHeartbeats 4000000 in
set_option maxRecDepth 100000 in
theorem c_X4_quantize (l : Launch) (D : va_G) (cR cI cJ cZ : ClassId) (t0 : Nat) (am ak an ac ae ag aq : Nat) (vth : Int32) (vmo : Int32) (vfg : Int32) (vtp : Int32) (vkd : Int32) (vng : Bool) (vcc : Int64) (vqq : Int32) (vrs : Int32) (vct : Int32) (vun : Int32) (vre : Bool) (vks : Nat → Int32) (vms : Nat → Bool) (vcs : Nat → Int64) (ves : Nat → Int32) (vdg : Nat → Int32) (vog : Nat → Int32) (p0 : Int32) (p1 : Int32) (u : Int32 × Bool × Int64 × Int32 × Int32 × Int32 × Bool × (Nat → Int32)) (hu : u = F_X4_quantize vmo vrs vct vre vks vms vcs ves vdg p0 p1) (hs : S_X4_quantize vmo vrs vct vre vks vms vcs ves vdg p0 p1) : XM l D (xty cR cI cJ cZ) t0 yX4_quantize cX4_quantize 9 none rm_X4_quantize [.ref am, .int p0, .int p1] none (mw cI cJ cZ am ak an ac ae ag aq vth vmo vfg vtp vkd vng vcc vqq vrs vct vun vre vks vms vcs ves vdg vog) (mw cI cJ cZ am ak an ac ae ag aq vth vmo vfg vtp u.1 u.2.1 u.2.2.1 u.2.2.2.1 u.2.2.2.2.1 u.2.2.2.2.2.1 vun u.2.2.2.2.2.2.1 vks vms vcs ves u.2.2.2.2.2.2.2 vog) := by
  refine XM.of (by decide) (Nat.le_of_ble_eq_true rfl) ?_
  intro p e s m args below meth c A Q F hK hP hD hA hSt hS hQ ls hl
  obtain ⟨hx, hb, hr, hts, hown, hlocks, hml⟩ := F
  have hCF : CallFix p m c cX4_quantize 9 s args gW RX4 := ⟨hx, hb, hml, hown, hts⟩
  unfold S_X4_quantize at hs
  have hu := rF_X4_quantize vmo vrs vct vre vks vms vcs ves vdg p0 p1 hu
  unfold RF_X4_quantize at hu
  obtain ⟨H, eH⟩ : ∃ y9 : Heap, y9 = s.heap := ⟨_, rfl⟩
  obtain ⟨locs, eL⟩ : ∃ y9 : List Loc, y9 = [] := ⟨_, rfl⟩
  rw [← eL] at hS ⊢
  have hP : va_P D vwCl (mw cI cJ cZ am ak an ac ae ag aq vth vmo vfg vtp vkd vng vcc vqq vrs vct vun vre vks vms vcs ves vdg vog) H := by rw [eH]; exact hP
  have hS : va_S A s.heap H locs := by rw [eH]; exact hS
  suffices goal9 : W p l e rm_X4_quantize s m args below meth c H locs 0 0 Q (F0 m 0 ls []) from by rw [← eH]; exact goal9
  have hl : lv_has ls 9 [(0, .ref am), (1, .int p0), (2, .int p1)] := hl
  have hi4 : ∀ w ∈ wsX40, w ∈ gW := inW_X4
  refine lv_aload_n hx hb dX4_quantize_0 rfl (lv_at hl 0 rfl) ?_
  refine lv_iload_n hx hb dX4_quantize_1 rfl (lv_at hl 1 rfl) ?_
  refine lv_iconst (v := 1) hx hb dX4_quantize_2 (by decide) ?_
  obtain ⟨h_101, hs⟩ := hs
  refine x_V (As := [.int p0, .int 1]) (rest := []) hCF (c_X4_is l D cR cI cJ cZ t0 am ak an ac ae ag aq vth vmo vfg vtp vkd vng vcc vqq vrs vct vun vre vks vms vcs ves vdg vog p0 (1 : Int32) _ rfl h_101) (x_cwV 2 hts (inW_10 _ (List.mem_of_getElem? (i := 18) rfl)) (inW_10 _ (List.mem_of_getElem? (i := 19) rfl)) (inW_10 _ (List.mem_of_getElem? (i := 20) rfl)) (inW_9 _ (List.mem_of_getElem? (i := 5) rfl)) (inW_10 _ (List.mem_of_getElem? (i := 10) rfl)) rfl rfl (by decide +kernel) ⟨Nat.le_of_ble_eq_true rfl, Nat.le_of_ble_eq_true rfl⟩) hK hP hD hS hA hSt 0 rfl rfl rfl hl.1 rfl (Nat.le_of_ble_eq_true rfl) dX4_quantize_3 ⟨Nat.le_of_ble_eq_true rfl, Nat.le_of_ble_eq_true rfl⟩ (fun H locs hP hD hS => ?_)
  show W p l e _ s m args below meth c H locs 0 0 Q (F0 m 6 ls (.int (bI (F_X4_is vks p0 (1 : Int32))) :: []))
  refine xb_eq (tgt := 34) hx hb dX4_quantize_6 (by decide) (fun c_103 => ?_) (fun c_103 => ?_)
  · rw [if_neg c_103] at hs
    rw [if_neg c_103] at hu
    refine lv_aload_n hx hb dX4_quantize_34 rfl (lv_at hl 0 rfl) ?_
    refine lv_iload_n hx hb dX4_quantize_35 rfl (lv_at hl 1 rfl) ?_
    refine lv_iconst (v := 1) hx hb dX4_quantize_36 (by decide) ?_
    refine x_V (As := [.int p0, .int 1]) (rest := []) hCF (c_X4_is l D cR cI cJ cZ t0 am ak an ac ae ag aq vth vmo vfg vtp vkd vng vcc vqq vrs vct vun vre vks vms vcs ves vdg vog p0 (1 : Int32) _ rfl h_101) (x_cwV 2 hts (inW_10 _ (List.mem_of_getElem? (i := 18) rfl)) (inW_10 _ (List.mem_of_getElem? (i := 19) rfl)) (inW_10 _ (List.mem_of_getElem? (i := 20) rfl)) (inW_9 _ (List.mem_of_getElem? (i := 5) rfl)) (inW_10 _ (List.mem_of_getElem? (i := 10) rfl)) rfl rfl (by decide +kernel) ⟨Nat.le_of_ble_eq_true rfl, Nat.le_of_ble_eq_true rfl⟩) hK hP hD hS hA hSt 0 rfl rfl rfl hl.1 rfl (Nat.le_of_ble_eq_true rfl) dX4_quantize_37 ⟨Nat.le_of_ble_eq_true rfl, Nat.le_of_ble_eq_true rfl⟩ (fun H locs hP hD hS => ?_)
    show W p l e _ s m args below meth c H locs 0 0 Q (F0 m 40 ls (.int (bI (F_X4_is vks p0 (1 : Int32))) :: []))
    refine xb_ne (tgt := 52) hx hb dX4_quantize_40 (by decide) (fun c9 => absurd c9 c_103) (fun _ => ?_)
    refine lv_aload_n hx hb dX4_quantize_43 rfl (lv_at hl 0 rfl) ?_
    refine lv_iload_n hx hb dX4_quantize_44 rfl (lv_at hl 2 rfl) ?_
    refine lv_iconst (v := 1) hx hb dX4_quantize_45 (by decide) ?_
    obtain ⟨h_105, hs⟩ := hs
    refine x_V (As := [.int p1, .int 1]) (rest := []) hCF (c_X4_is l D cR cI cJ cZ t0 am ak an ac ae ag aq vth vmo vfg vtp vkd vng vcc vqq vrs vct vun vre vks vms vcs ves vdg vog p1 (1 : Int32) _ rfl h_105) (x_cwV 2 hts (inW_10 _ (List.mem_of_getElem? (i := 18) rfl)) (inW_10 _ (List.mem_of_getElem? (i := 19) rfl)) (inW_10 _ (List.mem_of_getElem? (i := 20) rfl)) (inW_9 _ (List.mem_of_getElem? (i := 5) rfl)) (inW_10 _ (List.mem_of_getElem? (i := 10) rfl)) rfl rfl (by decide +kernel) ⟨Nat.le_of_ble_eq_true rfl, Nat.le_of_ble_eq_true rfl⟩) hK hP hD hS hA hSt 0 rfl rfl rfl hl.1 rfl (Nat.le_of_ble_eq_true rfl) dX4_quantize_46 ⟨Nat.le_of_ble_eq_true rfl, Nat.le_of_ble_eq_true rfl⟩ (fun H locs hP hD hS => ?_)
    show W p l e _ s m args below meth c H locs 0 0 Q (F0 m 49 ls (.int (bI (F_X4_is vks p1 (1 : Int32))) :: []))
    refine xb_eq (tgt := 59) hx hb dX4_quantize_49 (by decide) (fun c_107 => ?_) (fun c_107 => ?_)
    · rw [if_neg c_107] at hs
      rw [if_neg c_107] at hu
      refine lv_aload_n hx hb dX4_quantize_59 rfl (lv_at hl 0 rfl) ?_
      refine va_get (D := D) (ci := 5) (v := .ref ae) (C := RX4) (T := TX4) (N := 18) hx hb hts hi4 hown hK hP 0 rfl rfl 4 (by decide) (hts (.fieldLink RX4 21 "DecimalWordsModel" "exponents" "[I") (inW_8 _ (List.mem_of_getElem? (i := 34) rfl))) (fun _ h9 => h9) rfl dX4_quantize_60 ?_
      refine lv_iload_n hx hb dX4_quantize_63 rfl (lv_at hl 2 rfl) ?_
      obtain ⟨h_108, hs⟩ := hs
      refine va_iald hx hb hK hP 4 1 rfl rfl h_108 dX4_quantize_64 ?_
      refine lv_topi (fun n109 en109 => ?_)
      have hs := hs _ en109
      have hu := hu _ en109
      refine lv_istore_n (lv' := [(3, .int n109), (0, .ref am), (1, .int p0), (2, .int p1)]) hx hb dX4_quantize_65 rfl hl (by decide) rfl (fun ls hl => ?_)
      refine lv_iload_n hx hb dX4_quantize_66 rfl (lv_at hl 0 rfl) ?_
      refine lv_aload_n hx hb dX4_quantize_67 rfl (lv_at hl 1 rfl) ?_
      refine va_get (D := D) (ci := 5) (v := .ref ae) (C := RX4) (T := TX4) (N := 18) hx hb hts hi4 hown hK hP 0 rfl rfl 4 (by decide) (hts (.fieldLink RX4 21 "DecimalWordsModel" "exponents" "[I") (inW_8 _ (List.mem_of_getElem? (i := 34) rfl))) (fun _ h9 => h9) rfl dX4_quantize_68 ?_
      refine lv_iload_n hx hb dX4_quantize_71 rfl (lv_at hl 2 rfl) ?_
      obtain ⟨h_110, hs⟩ := hs
      refine va_iald hx hb hK hP 4 1 rfl rfl h_110 dX4_quantize_72 ?_
      refine lv_isub hx hb dX4_quantize_73 ?_
      refine lv_topi (fun n111 en111 => ?_)
      have hs := hs _ en111
      have hu := hu _ en111
      refine lv_istore (lv' := [(4, .int n111), (3, .int n109), (0, .ref am), (1, .int p0), (2, .int p1)]) hx hb dX4_quantize_74 hl (by decide) rfl (fun ls hl => ?_)
      refine lv_aload_n hx hb dX4_quantize_76 rfl (lv_at hl 2 rfl) ?_
      refine lv_aload_n hx hb dX4_quantize_77 rfl (lv_at hl 2 rfl) ?_
      refine va_get (D := D) (ci := 5) (v := .ref ac) (C := RX4) (T := TX4) (N := 18) hx hb hts hi4 hown hK hP 0 rfl rfl 3 (by decide) (hts (.fieldLink RX4 17 "DecimalWordsModel" "coefficients" "[J") (inW_8 _ (List.mem_of_getElem? (i := 33) rfl))) (fun _ h9 => h9) rfl dX4_quantize_78 ?_
      refine lv_iload_n hx hb dX4_quantize_81 rfl (lv_at hl 3 rfl) ?_
      refine va_lald hx hb hK hP 3 2 rfl rfl h_110 dX4_quantize_82 ?_
      refine lv_iconst (v := 0) hx hb dX4_quantize_83 (by decide) ?_
      obtain ⟨h_112, hs⟩ := hs
      obtain ⟨u113, eu113⟩ : ∃ y9 : (Nat → Int32), y9 = F_X4_lay vdg (vcs p0.toNatClampNeg) (0 : Int32) := ⟨_, rfl⟩
      have hs := hs _ eu113
      have hu := hu _ eu113
      refine x_V (As := [.long (vcs p0.toNatClampNeg), .int 0]) (rest := []) hCF (c_X4_lay l D cR cI cJ cZ t0 am ak an ac ae ag aq vth vmo vfg vtp vkd vng vcc vqq vrs vct vun vre vks vms vcs ves vdg vog (vcs p0.toNatClampNeg) (0 : Int32) u113 eu113 h_112) (x_cwV 2 hts (inW_10 _ (List.mem_of_getElem? (i := 24) rfl)) (inW_10 _ (List.mem_of_getElem? (i := 25) rfl)) (inW_10 _ (List.mem_of_getElem? (i := 26) rfl)) (inW_9 _ (List.mem_of_getElem? (i := 5) rfl)) (inW_9 _ (List.mem_of_getElem? (i := 0) rfl)) rfl rfl (by decide +kernel) ⟨Nat.le_of_ble_eq_true rfl, Nat.le_of_ble_eq_true rfl⟩) hK hP hD hS hA hSt 0 rfl rfl rfl hl.1 rfl (Nat.le_of_ble_eq_true rfl) dX4_quantize_84 ⟨Nat.le_of_ble_eq_true rfl, Nat.le_of_ble_eq_true rfl⟩ (fun H locs hP hD hS => ?_)
      show W p l e _ s m args below meth c H locs 0 0 Q (F0 m 87 ls [])
      refine lv_aload_n hx hb dX4_quantize_87 rfl (lv_at hl 2 rfl) ?_
      obtain ⟨h_115, hs⟩ := hs
      obtain ⟨u116, eu116⟩ : ∃ y9 : Int32, y9 = F_X4_trim u113 := ⟨_, rfl⟩
      have hs := hs _ eu116
      have hu := hu _ eu116
      refine x_V (As := []) (rest := []) hCF (c_X4_trim l D cR cI cJ cZ t0 am ak an ac ae ag aq vth vmo vfg vtp vkd vng vcc vqq vrs vct vun vre vks vms vcs ves u113 vog u116 eu116 h_115) (x_cwV 0 hts (inW_9 _ (List.mem_of_getElem? (i := 36) rfl)) (inW_9 _ (List.mem_of_getElem? (i := 37) rfl)) (inW_9 _ (List.mem_of_getElem? (i := 38) rfl)) (inW_9 _ (List.mem_of_getElem? (i := 5) rfl)) (inW_9 _ (List.mem_of_getElem? (i := 7) rfl)) rfl rfl (by decide +kernel) ⟨Nat.le_of_ble_eq_true rfl, Nat.le_of_ble_eq_true rfl⟩) hK hP hD hS hA hSt 0 rfl rfl rfl hl.1 rfl (Nat.le_of_ble_eq_true rfl) dX4_quantize_88 ⟨Nat.le_of_ble_eq_true rfl, Nat.le_of_ble_eq_true rfl⟩ (fun H locs hP hD hS => ?_)
      show W p l e _ s m args below meth c H locs 0 0 Q (F0 m 91 ls [])
      refine lv_aload_n hx hb dX4_quantize_91 rfl (lv_at hl 2 rfl) ?_
      refine lv_iconst (v := 0) hx hb dX4_quantize_92 (by decide) ?_
      refine va_put (D := D) (ci := 5) (v := .int (bI false)) (ty := .boolean) (C := RX4) (T := TX4) (N := 18) hx hb hts hi4 tyX4 tyX4_ok nmX4 hown hK hP hD hS 0 rfl rfl 17 (by decide) (hts (.fieldLink RX4 71 "DecimalWordsModel" "rest" "Z") (inW_9 _ (List.mem_of_getElem? (i := 23) rfl))) (fun _ h9 => h9) rfl (by decide +kernel) (bI_nar false) (bI_fit false) (Nat.le_of_ble_eq_true rfl) dX4_quantize_93 (fun H locs hP hD hS => ?_)
      have hP : va_P D vwCl (mw cI cJ cZ am ak an ac ae ag aq vth vmo vfg vtp vkd vng vcc vqq vrs u116 vun false vks vms vcs ves u113 vog) H := hP
      have hD : va_D A (mw cI cJ cZ am ak an ac ae ag aq vth vmo vfg vtp vkd vng vcc vqq vrs u116 vun false vks vms vcs ves u113 vog) := hD
      refine lv_aload_n hx hb dX4_quantize_96 rfl (lv_at hl 2 rfl) ?_
      refine va_get (D := D) (ci := 5) (v := .int u116) (C := RX4) (T := TX4) (N := 18) hx hb hts hi4 hown hK hP 0 rfl rfl 13 (by decide) (hts (.fieldLink RX4 39 "DecimalWordsModel" "count" "I") (inW_9 _ (List.mem_of_getElem? (i := 8) rfl))) (fun _ h9 => h9) rfl dX4_quantize_97 ?_
      refine lv_if_le (tgt := 120) hx hb dX4_quantize_100 (by decide) (fun c_119 => ?_) (fun c_119 => ?_)
      · rw [if_pos c_119] at hs
        rw [if_pos c_119] at hu
        refine lv_aload_n hx hb dX4_quantize_120 rfl (lv_at hl 2 rfl) ?_
        refine va_get (D := D) (ci := 5) (v := .int u116) (C := RX4) (T := TX4) (N := 18) hx hb hts hi4 hown hK hP 0 rfl rfl 13 (by decide) (hts (.fieldLink RX4 39 "DecimalWordsModel" "count" "I") (inW_9 _ (List.mem_of_getElem? (i := 8) rfl))) (fun _ h9 => h9) rfl dX4_quantize_121 ?_
        have J_125 : (∀ z124 : Int64, z124 = Z_X4_quantize_J_125 vmo vms p0 n111 u113 u116 → ∀ (H : Heap) (locs : List Loc), va_P D vwCl (mw cI cJ cZ am ak an ac ae ag aq vth vmo vfg vtp vkd vng vcc vqq vrs u116 vun false vks vms vcs ves u113 vog) H → va_D A (mw cI cJ cZ am ak an ac ae ag aq vth vmo vfg vtp vkd vng vcc vqq vrs u116 vun false vks vms vcs ves u113 vog) → va_S A s.heap H locs → ∀ ls : Array Slot, lv_has ls 9 [(0, .ref am), (1, .int p0), (3, .int n109), (4, .int n111)] → W p l e rm_X4_quantize s m args below meth c H locs 0 0 Q (F0 m 143 ls [.long z124])) := by
          intro z124 ez124 H locs hP hD hS ls hl
          have hs := hs.2
          have hs := hs _ ez124
          have hu := hu _ ez124
          refine lv_lstore (lv' := [(5, .long z124), (0, .ref am), (1, .int p0), (3, .int n109), (4, .int n111)]) hx hb dX4_quantize_143 hl (by decide) rfl (fun ls hl => ?_)
          refine lv_iconst (v := 1) hx hb dX4_quantize_145 (by decide) ?_
          refine lv_istore (lv' := [(7, .int 1), (5, .long z124), (0, .ref am), (1, .int p0), (3, .int n109), (4, .int n111)]) hx hb dX4_quantize_146 hl (by decide) rfl (fun ls hl => ?_)
          refine lv_iconst (v := 0) hx hb dX4_quantize_148 (by decide) ?_
          refine lv_istore (lv' := [(8, .int 0), (7, .int 1), (5, .long z124), (0, .ref am), (1, .int p0), (3, .int n109), (4, .int n111)]) hx hb dX4_quantize_149 hl (by decide) rfl (fun ls hl => ?_)
          have L_192 : ∀ (n9 : Nat) (t_151 : Bool × Int32), (∀ j : Nat, j < n9 → G_X4_quantize_151 n111 u113 u116 (itn (B_X4_quantize_151 n111 u113 u116) j t_151) = true) → (∀ j : Nat, j < n9 → SB_X4_quantize_151 n111 u113 u116 (itn (B_X4_quantize_151 n111 u113 u116) j t_151)) → (∀ (H : Heap) (locs : List Loc), va_P D vwCl (mw cI cJ cZ am ak an ac ae ag aq vth vmo vfg vtp vkd vng vcc vqq vrs u116 vun false vks vms vcs ves u113 vog) H → va_D A (mw cI cJ cZ am ak an ac ae ag aq vth vmo vfg vtp vkd vng vcc vqq vrs u116 vun false vks vms vcs ves u113 vog) → va_S A s.heap H locs → ∀ ls : Array Slot, lv_has ls 9 [(0, .ref am), (1, .int p0), (3, .int n109), (4, .int n111), (5, .long z124), (7, .int (bI ((itn (B_X4_quantize_151 n111 u113 u116) n9 t_151).1))), (8, .int ((itn (B_X4_quantize_151 n111 u113 u116) n9 t_151).2))] → W p l e rm_X4_quantize s m args below meth c H locs 0 0 Q (F0 m 151 ls [])) → ∀ (H : Heap) (locs : List Loc), va_P D vwCl (mw cI cJ cZ am ak an ac ae ag aq vth vmo vfg vtp vkd vng vcc vqq vrs u116 vun false vks vms vcs ves u113 vog) H → va_D A (mw cI cJ cZ am ak an ac ae ag aq vth vmo vfg vtp vkd vng vcc vqq vrs u116 vun false vks vms vcs ves u113 vog) → va_S A s.heap H locs → ∀ ls : Array Slot, lv_has ls 9 [(0, .ref am), (1, .int p0), (3, .int n109), (4, .int n111), (5, .long z124), (7, .int (bI t_151.1)), (8, .int t_151.2)] → W p l e rm_X4_quantize s m args below meth c H locs 0 0 Q (F0 m 151 ls []) := by
            intro n9
            induction n9 with
            | zero => exact fun _ _ _ k9 => k9
            | succ n9 ih9 =>
              intro t_151 hG9 hs9 k9 H locs hP hD hS ls hl
              have hG0 : G_X4_quantize_151 n111 u113 u116 t_151 = true := hG9 0 (Nat.succ_pos n9)
              have hg := rG_X4_quantize_151 n111 u113 u116 t_151 (Eq.symm hG0)
              unfold RG_X4_quantize_151 at hg
              obtain ⟨t9, et9⟩ : ∃ y9 : Bool × Int32, y9 = (B_X4_quantize_151 n111 u113 u116) t_151 := ⟨_, rfl⟩
              have hb9 := rB_X4_quantize_151 n111 u113 u116 t_151 et9
              unfold RB_X4_quantize_151 at hb9
              have hs : SB_X4_quantize_151 n111 u113 u116 t_151 := hs9 0 (Nat.succ_pos n9)
              unfold SB_X4_quantize_151 at hs
              refine lv_iload hx hb dX4_quantize_151 (lv_at hl 6 rfl) ?_
              refine lv_iload hx hb dX4_quantize_153 (lv_at hl 3 rfl) ?_
              refine lv_icmp_ge (tgt := 195) hx hb dX4_quantize_155 (by decide) (fun c_126 => ?_) (fun c_126 => ?_)
              · rw [if_pos c_126] at hg
                exact absurd hg (by decide)
              · rw [if_neg c_126] at hs
                rw [if_neg c_126] at hg
                rw [if_neg c_126] at hb9
                refine lv_iload hx hb dX4_quantize_158 (lv_at hl 6 rfl) ?_
                refine lv_aload_n hx hb dX4_quantize_160 rfl (lv_at hl 0 rfl) ?_
                refine va_get (D := D) (ci := 5) (v := .int u116) (C := RX4) (T := TX4) (N := 18) hx hb hts hi4 hown hK hP 0 rfl rfl 13 (by decide) (hts (.fieldLink RX4 39 "DecimalWordsModel" "count" "I") (inW_9 _ (List.mem_of_getElem? (i := 8) rfl))) (fun _ h9 => h9) rfl dX4_quantize_161 ?_
                refine lv_icmp_ge (tgt := 195) hx hb dX4_quantize_164 (by decide) (fun c_127 => ?_) (fun c_127 => ?_)
                · rw [if_pos c_127] at hg
                  exact absurd hg (by decide)
                · rw [if_neg c_127] at hs
                  rw [if_neg c_127] at hg
                  rw [if_neg c_127] at hb9
                  refine lv_iload hx hb dX4_quantize_167 (lv_at hl 5 rfl) ?_
                  have J_133 : (∀ z132 : Bool, z132 = Z_X4_quantize_J_133 u113 t_151 → ∀ (H : Heap) (locs : List Loc), va_P D vwCl (mw cI cJ cZ am ak an ac ae ag aq vth vmo vfg vtp vkd vng vcc vqq vrs u116 vun false vks vms vcs ves u113 vog) H → va_D A (mw cI cJ cZ am ak an ac ae ag aq vth vmo vfg vtp vkd vng vcc vqq vrs u116 vun false vks vms vcs ves u113 vog) → va_S A s.heap H locs → ∀ ls : Array Slot, lv_has ls 9 [(0, .ref am), (1, .int p0), (3, .int n109), (4, .int n111), (5, .long z124), (8, .int t_151.2)] → W p l e rm_X4_quantize s m args below meth c H locs 0 0 Q (F0 m 187 ls [.int (bI z132)])) := by
                    intro z132 ez132 H locs hP hD hS ls hl
                    have hb9 := hb9 _ ez132
                    refine lv_istore (lv' := [(7, .int (bI z132)), (0, .ref am), (1, .int p0), (3, .int n109), (4, .int n111), (5, .long z124), (8, .int t_151.2)]) hx hb dX4_quantize_187 hl (by decide) rfl (fun ls hl => ?_)
                    obtain ⟨n134, en134⟩ : ∃ y9 : Int32, y9 = t_151.2 + 1 := ⟨_, rfl⟩
                    have hb9 := hb9 _ en134
                    refine lv_iinc (v := n134) (lv' := [(8, .int n134), (7, .int (bI z132)), (0, .ref am), (1, .int p0), (3, .int n109), (4, .int n111), (5, .long z124)]) hx hb dX4_quantize_189 hl (k := 6) rfl (by rw [en134]; rfl) (by decide) rfl (fun ls hl => ?_)
                    refine lv_goto (tgt := 151) hx hb dX4_quantize_192 (by decide) ?_
                    have e9 := Eq.symm hb9; subst e9
                    have key9 := ih9 ((B_X4_quantize_151 n111 u113 u116) t_151) (fun j hj => hG9 (j + 1) (Nat.succ_lt_succ hj)) (fun j hj => hs9 (j + 1) (Nat.succ_lt_succ hj)) k9
                    rw [← et9] at key9
                    exact key9 H locs hP hD hS ls (lv_sub hl [2, 3, 4, 5, 6, 1, 0] rfl)
                  obtain ⟨z9, ez9⟩ : ∃ y9 : Bool, y9 = Z_X4_quantize_J_133 u113 t_151 := ⟨_, rfl⟩
                  have hz := rZ_X4_quantize_J_133 u113 t_151 ez9
                  unfold RZ_X4_quantize_J_133 at hz
                  refine xb_eq (tgt := 186) hx hb dX4_quantize_169 (by decide) (fun c_128 => ?_) (fun c_128 => ?_)
                  · rw [if_neg c_128] at hz
                    refine lv_iconst (v := 0) hx hb dX4_quantize_186 (by decide) ?_
                    have e9 := Eq.symm hz; subst e9
                    exact J_133 _ ez9 H locs hP hD hS ls (lv_sub hl [0, 1, 2, 3, 4, 6] rfl)
                  · rw [if_pos c_128] at hs
                    rw [if_pos c_128] at hz
                    refine lv_aload_n hx hb dX4_quantize_172 rfl (lv_at hl 0 rfl) ?_
                    refine va_get (D := D) (ci := 5) (v := .ref ag) (C := RX4) (T := TX4) (N := 18) hx hb hts hi4 hown hK hP 0 rfl rfl 14 (by decide) (hts (.fieldLink RX4 24 "DecimalWordsModel" "digits" "[I") (inW_8 _ (List.mem_of_getElem? (i := 35) rfl))) (fun _ h9 => h9) rfl dX4_quantize_173 ?_
                    refine lv_iload hx hb dX4_quantize_176 (lv_at hl 6 rfl) ?_
                    have h_129 := hs
                    refine va_iald hx hb hK hP 5 1 rfl rfl h_129 dX4_quantize_178 ?_
                    refine lv_if_ne (tgt := 186) hx hb dX4_quantize_179 (by decide) (fun c_130 => ?_) (fun c_130 => ?_)
                    · rw [if_neg c_130] at hz
                      refine lv_iconst (v := 0) hx hb dX4_quantize_186 (by decide) ?_
                      have e9 := Eq.symm hz; subst e9
                      exact J_133 _ ez9 H locs hP hD hS ls (lv_sub hl [0, 1, 2, 3, 4, 6] rfl)
                    · rw [if_pos c_130] at hz
                      refine lv_iconst (v := 1) hx hb dX4_quantize_182 (by decide) ?_
                      refine lv_goto (tgt := 187) hx hb dX4_quantize_183 (by decide) ?_
                      have e9 := Eq.symm hz; subst e9
                      exact J_133 _ ez9 H locs hP hD hS ls (lv_sub hl [0, 1, 2, 3, 4, 6] rfl)
          obtain ⟨hsL, hG1, hs⟩ := hs
          refine L_192 (nW (G_X4_quantize_151 n111 u113 u116) (B_X4_quantize_151 n111 u113 u116) 901 (true, 0)) (true, 0) (nW_lt _ _ _ _) hsL (fun H locs hP hD hS ls hl => ?_) H locs hP hD hS ls (lv_sub hl [3, 4, 5, 6, 2, 1, 0] rfl)
          obtain ⟨z135, ez135⟩ : ∃ y9 : Bool × Int32, y9 = wl (G_X4_quantize_151 n111 u113 u116) (B_X4_quantize_151 n111 u113 u116) 901 (true, 0) := ⟨_, rfl⟩
          have e9 : z135 = itn (B_X4_quantize_151 n111 u113 u116) (nW (G_X4_quantize_151 n111 u113 u116) (B_X4_quantize_151 n111 u113 u116) 901 (true, 0)) (true, 0) := ez135
          try rw [← e9] at hP
          try rw [← e9] at hD
          try rw [← e9] at hl
          rw [← ez135] at hG1
          clear e9
          have hg := rG_X4_quantize_151 n111 u113 u116 z135 (Eq.symm hG1)
          unfold RG_X4_quantize_151 at hg
          have hs := hs _ ez135
          have hu := hu _ ez135
          refine lv_iload hx hb dX4_quantize_151 (lv_at hl 6 rfl) ?_
          refine lv_iload hx hb dX4_quantize_153 (lv_at hl 3 rfl) ?_
          have J_140 : ∀ (H : Heap) (locs : List Loc), va_P D vwCl (mw cI cJ cZ am ak an ac ae ag aq vth vmo vfg vtp vkd vng vcc vqq vrs u116 vun false vks vms vcs ves u113 vog) H → va_D A (mw cI cJ cZ am ak an ac ae ag aq vth vmo vfg vtp vkd vng vcc vqq vrs u116 vun false vks vms vcs ves u113 vog) → va_S A s.heap H locs → ∀ ls : Array Slot, lv_has ls 9 [(0, .ref am), (1, .int p0), (3, .int n109), (5, .long z124), (7, .int (bI z135.1))] → W p l e rm_X4_quantize s m args below meth c H locs 0 0 Q (F0 m 195 ls []) := by
            intro H locs hP hD hS ls hl
            refine lv_aload_n hx hb dX4_quantize_195 rfl (lv_at hl 0 rfl) ?_
            refine lv_iload hx hb dX4_quantize_196 (lv_at hl 4 rfl) ?_
            have J_144 : (∀ z143 : Int32, z143 = Z_X4_quantize_J_144 vrs z135 → ∀ (H : Heap) (locs : List Loc), va_P D vwCl (mw cI cJ cZ am ak an ac ae ag aq vth vmo vfg vtp vkd vng vcc vqq vrs u116 vun false vks vms vcs ves u113 vog) H → va_D A (mw cI cJ cZ am ak an ac ae ag aq vth vmo vfg vtp vkd vng vcc vqq vrs u116 vun false vks vms vcs ves u113 vog) → va_S A s.heap H locs → ∀ ls : Array Slot, lv_has ls 9 [(0, .ref am), (1, .int p0), (3, .int n109), (5, .long z124)] → W p l e rm_X4_quantize s m args below meth c H locs 0 0 Q (F0 m 215 ls [.int z143, .ref am])) := by
              intro z143 ez143 H locs hP hD hS ls hl
              have hs := hs _ ez143
              have hu := hu _ ez143
              refine va_put (D := D) (ci := 5) (v := .int z143) (ty := .int) (C := RX4) (T := TX4) (N := 18) hx hb hts hi4 tyX4 tyX4_ok nmX4 hown hK hP hD hS 0 rfl rfl 12 (by decide) (hts (.fieldLink RX4 56 "DecimalWordsModel" "raised" "I") (inW_9 _ (List.mem_of_getElem? (i := 17) rfl))) (fun _ h9 => h9) rfl (by decide +kernel) rfl rfl (Nat.le_of_ble_eq_true rfl) dX4_quantize_215 (fun H locs hP hD hS => ?_)
              have hP : va_P D vwCl (mw cI cJ cZ am ak an ac ae ag aq vth vmo vfg vtp vkd vng vcc vqq z143 u116 vun false vks vms vcs ves u113 vog) H := hP
              have hD : va_D A (mw cI cJ cZ am ak an ac ae ag aq vth vmo vfg vtp vkd vng vcc vqq z143 u116 vun false vks vms vcs ves u113 vog) := hD
              refine lv_aload_n hx hb dX4_quantize_218 rfl (lv_at hl 0 rfl) ?_
              refine lv_iconst (v := 0) hx hb dX4_quantize_219 (by decide) ?_
              refine lv_aload_n hx hb dX4_quantize_220 rfl (lv_at hl 0 rfl) ?_
              refine va_get (D := D) (ci := 5) (v := .ref an) (C := RX4) (T := TX4) (N := 18) hx hb hts hi4 hown hK hP 0 rfl rfl 2 (by decide) (hts (.fieldLink RX4 13 "DecimalWordsModel" "minus" "[Z") (inW_8 _ (List.mem_of_getElem? (i := 31) rfl))) (fun _ h9 => h9) rfl dX4_quantize_221 ?_
              refine lv_iload_n hx hb dX4_quantize_224 rfl (lv_at hl 1 rfl) ?_
              have h_146 := hs
              refine va_zald hx hb hK hP 2 3 rfl rfl h_146 dX4_quantize_225 ?_
              refine lv_lload hx hb dX4_quantize_226 (lv_at hl 3 rfl) ?_
              refine lv_iload_n hx hb dX4_quantize_228 rfl (lv_at hl 2 rfl) ?_
              obtain ⟨u147, eu147⟩ : ∃ y9 : Int32 × Bool × Int64 × Int32, y9 = F_X4_be (0 : Int32) (vms p0.toNatClampNeg) z124 n109 := ⟨_, rfl⟩
              have hu := hu _ eu147
              refine x_V (As := [.int 0, .int (bI (vms p0.toNatClampNeg)), .long z124, .int n109]) (rest := []) hCF (c_X4_be l D cR cI cJ cZ t0 am ak an ac ae ag aq vth vmo vfg vtp vkd vng vcc vqq z143 u116 vun false vks vms vcs ves u113 vog (0 : Int32) (vms p0.toNatClampNeg) z124 n109 u147 eu147) (x_cwV 4 hts (inW_9 _ (List.mem_of_getElem? (i := 18) rfl)) (inW_9 _ (List.mem_of_getElem? (i := 19) rfl)) (inW_9 _ (List.mem_of_getElem? (i := 20) rfl)) (inW_9 _ (List.mem_of_getElem? (i := 5) rfl)) (inW_9 _ (List.mem_of_getElem? (i := 11) rfl)) rfl rfl (by decide +kernel) ⟨Nat.le_of_ble_eq_true rfl, Nat.le_of_ble_eq_true rfl⟩) hK hP hD hS hA hSt 0 rfl rfl rfl hl.1 rfl (Nat.le_of_ble_eq_true rfl) dX4_quantize_229 ⟨Nat.le_of_ble_eq_true rfl, Nat.le_of_ble_eq_true rfl⟩ (fun H locs hP hD hS => ?_)
              show W p l e _ s m args below meth c H locs 0 0 Q (F0 m 232 ls [])
              have e9 := Eq.symm hu; subst e9
              exact x_vret hx hb hr hlocks hQ hK hP hD hS rfl dX4_quantize_232
            obtain ⟨z9, ez9⟩ : ∃ y9 : Int32, y9 = Z_X4_quantize_J_144 vrs z135 := ⟨_, rfl⟩
            have hz := rZ_X4_quantize_J_144 vrs z135 ez9
            unfold RZ_X4_quantize_J_144 at hz
            refine xb_eq (tgt := 208) hx hb dX4_quantize_198 (by decide) (fun c_141 => ?_) (fun c_141 => ?_)
            · rw [if_neg c_141] at hz
              refine lv_aload_n hx hb dX4_quantize_208 rfl (lv_at hl 0 rfl) ?_
              refine va_get (D := D) (ci := 5) (v := .int vrs) (C := RX4) (T := TX4) (N := 18) hx hb hts hi4 hown hK hP 0 rfl rfl 12 (by decide) (hts (.fieldLink RX4 56 "DecimalWordsModel" "raised" "I") (inW_9 _ (List.mem_of_getElem? (i := 17) rfl))) (fun _ h9 => h9) rfl dX4_quantize_209 ?_
              refine lv_bipush (v := 16) hx hb dX4_quantize_212 (by decide) ?_
              refine lv_ior hx hb dX4_quantize_214 ?_
              have e9 := Eq.symm hz; subst e9
              exact J_144 _ ez9 H locs hP hD hS ls (lv_sub hl [0, 1, 2, 3] rfl)
            · rw [if_pos c_141] at hz
              refine lv_aload_n hx hb dX4_quantize_201 rfl (lv_at hl 0 rfl) ?_
              refine va_get (D := D) (ci := 5) (v := .int vrs) (C := RX4) (T := TX4) (N := 18) hx hb hts hi4 hown hK hP 0 rfl rfl 12 (by decide) (hts (.fieldLink RX4 56 "DecimalWordsModel" "raised" "I") (inW_9 _ (List.mem_of_getElem? (i := 17) rfl))) (fun _ h9 => h9) rfl dX4_quantize_202 ?_
              refine lv_goto (tgt := 215) hx hb dX4_quantize_205 (by decide) ?_
              have e9 := Eq.symm hz; subst e9
              exact J_144 _ ez9 H locs hP hD hS ls (lv_sub hl [0, 1, 2, 3] rfl)
          refine lv_icmp_ge (tgt := 195) hx hb dX4_quantize_155 (by decide) (fun c_137 => ?_) (fun c_137 => ?_)
          · rw [if_pos c_137] at hg
            exact J_140 H locs hP hD hS ls (lv_sub hl [0, 1, 2, 4, 5] rfl)
          · rw [if_neg c_137] at hg
            refine lv_iload hx hb dX4_quantize_158 (lv_at hl 6 rfl) ?_
            refine lv_aload_n hx hb dX4_quantize_160 rfl (lv_at hl 0 rfl) ?_
            refine va_get (D := D) (ci := 5) (v := .int u116) (C := RX4) (T := TX4) (N := 18) hx hb hts hi4 hown hK hP 0 rfl rfl 13 (by decide) (hts (.fieldLink RX4 39 "DecimalWordsModel" "count" "I") (inW_9 _ (List.mem_of_getElem? (i := 8) rfl))) (fun _ h9 => h9) rfl dX4_quantize_161 ?_
            refine lv_icmp_ge (tgt := 195) hx hb dX4_quantize_164 (by decide) (fun c_138 => ?_) (fun c_138 => ?_)
            · rw [if_pos c_138] at hg
              exact J_140 H locs hP hD hS ls (lv_sub hl [0, 1, 2, 4, 5] rfl)
            · rw [if_neg c_138] at hg
              exact absurd hg (by decide)
        have hs := hs.1
        obtain ⟨z9, ez9⟩ : ∃ y9 : Int64, y9 = Z_X4_quantize_J_125 vmo vms p0 n111 u113 u116 := ⟨_, rfl⟩
        have hz := rZ_X4_quantize_J_125 vmo vms p0 n111 u113 u116 ez9
        unfold RZ_X4_quantize_J_125 at hz
        refine lv_if_ne (tgt := 131) hx hb dX4_quantize_124 (by decide) (fun c_120 => ?_) (fun c_120 => ?_)
        · rw [if_neg c_120] at hs
          rw [if_neg c_120] at hz
          refine lv_aload_n hx hb dX4_quantize_131 rfl (lv_at hl 2 rfl) ?_
          refine lv_iload hx hb dX4_quantize_132 (lv_at hl 0 rfl) ?_
          refine lv_aload_n hx hb dX4_quantize_134 rfl (lv_at hl 2 rfl) ?_
          refine va_get (D := D) (ci := 5) (v := .ref an) (C := RX4) (T := TX4) (N := 18) hx hb hts hi4 hown hK hP 0 rfl rfl 2 (by decide) (hts (.fieldLink RX4 13 "DecimalWordsModel" "minus" "[Z") (inW_8 _ (List.mem_of_getElem? (i := 31) rfl))) (fun _ h9 => h9) rfl dX4_quantize_135 ?_
          refine lv_iload_n hx hb dX4_quantize_138 rfl (lv_at hl 3 rfl) ?_
          refine va_zald hx hb hK hP 2 3 rfl rfl h_110 dX4_quantize_139 ?_
          have h_121 := hs
          refine x_V (As := [.int n111, .int (bI (vms p0.toNatClampNeg))]) (rest := []) hCF (c_X4_rounded l D cR cI cJ cZ t0 am ak an ac ae ag aq vth vmo vfg vtp vkd vng vcc vqq vrs u116 vun false vks vms vcs ves u113 vog n111 (vms p0.toNatClampNeg) _ rfl h_121) (x_cwV 2 hts (inW_10 _ (List.mem_of_getElem? (i := 7) rfl)) (inW_10 _ (List.mem_of_getElem? (i := 8) rfl)) (inW_10 _ (List.mem_of_getElem? (i := 9) rfl)) (inW_9 _ (List.mem_of_getElem? (i := 5) rfl)) (inW_9 _ (List.mem_of_getElem? (i := 22) rfl)) rfl rfl (by decide +kernel) ⟨Nat.le_of_ble_eq_true rfl, Nat.le_of_ble_eq_true rfl⟩) hK hP hD hS hA hSt 0 rfl rfl rfl hl.1 rfl (Nat.le_of_ble_eq_true rfl) dX4_quantize_140 ⟨Nat.le_of_ble_eq_true rfl, Nat.le_of_ble_eq_true rfl⟩ (fun H locs hP hD hS => ?_)
          show W p l e _ s m args below meth c H locs 0 0 Q (F0 m 143 ls (.long (F_X4_rounded vmo u116 false u113 n111 (vms p0.toNatClampNeg)) :: []))
          have e9 := Eq.symm hz; subst e9
          exact J_125 _ ez9 H locs hP hD hS ls (lv_sub hl [2, 3, 1, 0] rfl)
        · rw [if_pos c_120] at hz
          refine lv_lconst (v := 0) hx hb dX4_quantize_127 (by decide) ?_
          refine lv_goto (tgt := 143) hx hb dX4_quantize_128 (by decide) ?_
          have e9 := Eq.symm hz; subst e9
          exact J_125 _ ez9 H locs hP hD hS ls (lv_sub hl [2, 3, 1, 0] rfl)
      · rw [if_neg c_119] at hs
        rw [if_neg c_119] at hu
        refine lv_aload_n hx hb dX4_quantize_103 rfl (lv_at hl 2 rfl) ?_
        refine va_get (D := D) (ci := 5) (v := .int u116) (C := RX4) (T := TX4) (N := 18) hx hb hts hi4 hown hK hP 0 rfl rfl 13 (by decide) (hts (.fieldLink RX4 39 "DecimalWordsModel" "count" "I") (inW_9 _ (List.mem_of_getElem? (i := 8) rfl))) (fun _ h9 => h9) rfl dX4_quantize_104 ?_
        refine lv_iload hx hb dX4_quantize_107 (lv_at hl 0 rfl) ?_
        refine lv_isub hx hb dX4_quantize_109 ?_
        refine lv_bipush (v := 16) hx hb dX4_quantize_110 (by decide) ?_
        refine lv_icmp_le (tgt := 120) hx hb dX4_quantize_112 (by decide) (fun c_149 => ?_) (fun c_149 => ?_)
        · rw [if_pos c_149] at hs
          rw [if_pos c_149] at hu
          refine lv_aload_n hx hb dX4_quantize_120 rfl (lv_at hl 2 rfl) ?_
          refine va_get (D := D) (ci := 5) (v := .int u116) (C := RX4) (T := TX4) (N := 18) hx hb hts hi4 hown hK hP 0 rfl rfl 13 (by decide) (hts (.fieldLink RX4 39 "DecimalWordsModel" "count" "I") (inW_9 _ (List.mem_of_getElem? (i := 8) rfl))) (fun _ h9 => h9) rfl dX4_quantize_121 ?_
          have J_155 : (∀ z154 : Int64, z154 = Z_X4_quantize_J_125 vmo vms p0 n111 u113 u116 → ∀ (H : Heap) (locs : List Loc), va_P D vwCl (mw cI cJ cZ am ak an ac ae ag aq vth vmo vfg vtp vkd vng vcc vqq vrs u116 vun false vks vms vcs ves u113 vog) H → va_D A (mw cI cJ cZ am ak an ac ae ag aq vth vmo vfg vtp vkd vng vcc vqq vrs u116 vun false vks vms vcs ves u113 vog) → va_S A s.heap H locs → ∀ ls : Array Slot, lv_has ls 9 [(0, .ref am), (1, .int p0), (3, .int n109), (4, .int n111)] → W p l e rm_X4_quantize s m args below meth c H locs 0 0 Q (F0 m 143 ls [.long z154])) := by
            intro z154 ez154 H locs hP hD hS ls hl
            have hs := hs.2
            have hs := hs _ ez154
            have hu := hu _ ez154
            refine lv_lstore (lv' := [(5, .long z154), (0, .ref am), (1, .int p0), (3, .int n109), (4, .int n111)]) hx hb dX4_quantize_143 hl (by decide) rfl (fun ls hl => ?_)
            refine lv_iconst (v := 1) hx hb dX4_quantize_145 (by decide) ?_
            refine lv_istore (lv' := [(7, .int 1), (5, .long z154), (0, .ref am), (1, .int p0), (3, .int n109), (4, .int n111)]) hx hb dX4_quantize_146 hl (by decide) rfl (fun ls hl => ?_)
            refine lv_iconst (v := 0) hx hb dX4_quantize_148 (by decide) ?_
            refine lv_istore (lv' := [(8, .int 0), (7, .int 1), (5, .long z154), (0, .ref am), (1, .int p0), (3, .int n109), (4, .int n111)]) hx hb dX4_quantize_149 hl (by decide) rfl (fun ls hl => ?_)
            have L_193 : ∀ (n9 : Nat) (t_151 : Bool × Int32), (∀ j : Nat, j < n9 → G_X4_quantize_151 n111 u113 u116 (itn (B_X4_quantize_151 n111 u113 u116) j t_151) = true) → (∀ j : Nat, j < n9 → SB_X4_quantize_151 n111 u113 u116 (itn (B_X4_quantize_151 n111 u113 u116) j t_151)) → (∀ (H : Heap) (locs : List Loc), va_P D vwCl (mw cI cJ cZ am ak an ac ae ag aq vth vmo vfg vtp vkd vng vcc vqq vrs u116 vun false vks vms vcs ves u113 vog) H → va_D A (mw cI cJ cZ am ak an ac ae ag aq vth vmo vfg vtp vkd vng vcc vqq vrs u116 vun false vks vms vcs ves u113 vog) → va_S A s.heap H locs → ∀ ls : Array Slot, lv_has ls 9 [(0, .ref am), (1, .int p0), (3, .int n109), (4, .int n111), (5, .long z154), (7, .int (bI ((itn (B_X4_quantize_151 n111 u113 u116) n9 t_151).1))), (8, .int ((itn (B_X4_quantize_151 n111 u113 u116) n9 t_151).2))] → W p l e rm_X4_quantize s m args below meth c H locs 0 0 Q (F0 m 151 ls [])) → ∀ (H : Heap) (locs : List Loc), va_P D vwCl (mw cI cJ cZ am ak an ac ae ag aq vth vmo vfg vtp vkd vng vcc vqq vrs u116 vun false vks vms vcs ves u113 vog) H → va_D A (mw cI cJ cZ am ak an ac ae ag aq vth vmo vfg vtp vkd vng vcc vqq vrs u116 vun false vks vms vcs ves u113 vog) → va_S A s.heap H locs → ∀ ls : Array Slot, lv_has ls 9 [(0, .ref am), (1, .int p0), (3, .int n109), (4, .int n111), (5, .long z154), (7, .int (bI t_151.1)), (8, .int t_151.2)] → W p l e rm_X4_quantize s m args below meth c H locs 0 0 Q (F0 m 151 ls []) := by
              intro n9
              induction n9 with
              | zero => exact fun _ _ _ k9 => k9
              | succ n9 ih9 =>
                intro t_151 hG9 hs9 k9 H locs hP hD hS ls hl
                have hG0 : G_X4_quantize_151 n111 u113 u116 t_151 = true := hG9 0 (Nat.succ_pos n9)
                have hg := rG_X4_quantize_151 n111 u113 u116 t_151 (Eq.symm hG0)
                unfold RG_X4_quantize_151 at hg
                obtain ⟨t9, et9⟩ : ∃ y9 : Bool × Int32, y9 = (B_X4_quantize_151 n111 u113 u116) t_151 := ⟨_, rfl⟩
                have hb9 := rB_X4_quantize_151 n111 u113 u116 t_151 et9
                unfold RB_X4_quantize_151 at hb9
                have hs : SB_X4_quantize_151 n111 u113 u116 t_151 := hs9 0 (Nat.succ_pos n9)
                unfold SB_X4_quantize_151 at hs
                refine lv_iload hx hb dX4_quantize_151 (lv_at hl 6 rfl) ?_
                refine lv_iload hx hb dX4_quantize_153 (lv_at hl 3 rfl) ?_
                refine lv_icmp_ge (tgt := 195) hx hb dX4_quantize_155 (by decide) (fun c_156 => ?_) (fun c_156 => ?_)
                · rw [if_pos c_156] at hg
                  exact absurd hg (by decide)
                · rw [if_neg c_156] at hs
                  rw [if_neg c_156] at hg
                  rw [if_neg c_156] at hb9
                  refine lv_iload hx hb dX4_quantize_158 (lv_at hl 6 rfl) ?_
                  refine lv_aload_n hx hb dX4_quantize_160 rfl (lv_at hl 0 rfl) ?_
                  refine va_get (D := D) (ci := 5) (v := .int u116) (C := RX4) (T := TX4) (N := 18) hx hb hts hi4 hown hK hP 0 rfl rfl 13 (by decide) (hts (.fieldLink RX4 39 "DecimalWordsModel" "count" "I") (inW_9 _ (List.mem_of_getElem? (i := 8) rfl))) (fun _ h9 => h9) rfl dX4_quantize_161 ?_
                  refine lv_icmp_ge (tgt := 195) hx hb dX4_quantize_164 (by decide) (fun c_157 => ?_) (fun c_157 => ?_)
                  · rw [if_pos c_157] at hg
                    exact absurd hg (by decide)
                  · rw [if_neg c_157] at hs
                    rw [if_neg c_157] at hg
                    rw [if_neg c_157] at hb9
                    refine lv_iload hx hb dX4_quantize_167 (lv_at hl 5 rfl) ?_
                    have J_163 : (∀ z162 : Bool, z162 = Z_X4_quantize_J_133 u113 t_151 → ∀ (H : Heap) (locs : List Loc), va_P D vwCl (mw cI cJ cZ am ak an ac ae ag aq vth vmo vfg vtp vkd vng vcc vqq vrs u116 vun false vks vms vcs ves u113 vog) H → va_D A (mw cI cJ cZ am ak an ac ae ag aq vth vmo vfg vtp vkd vng vcc vqq vrs u116 vun false vks vms vcs ves u113 vog) → va_S A s.heap H locs → ∀ ls : Array Slot, lv_has ls 9 [(0, .ref am), (1, .int p0), (3, .int n109), (4, .int n111), (5, .long z154), (8, .int t_151.2)] → W p l e rm_X4_quantize s m args below meth c H locs 0 0 Q (F0 m 187 ls [.int (bI z162)])) := by
                      intro z162 ez162 H locs hP hD hS ls hl
                      have hb9 := hb9 _ ez162
                      refine lv_istore (lv' := [(7, .int (bI z162)), (0, .ref am), (1, .int p0), (3, .int n109), (4, .int n111), (5, .long z154), (8, .int t_151.2)]) hx hb dX4_quantize_187 hl (by decide) rfl (fun ls hl => ?_)
                      obtain ⟨n164, en164⟩ : ∃ y9 : Int32, y9 = t_151.2 + 1 := ⟨_, rfl⟩
                      have hb9 := hb9 _ en164
                      refine lv_iinc (v := n164) (lv' := [(8, .int n164), (7, .int (bI z162)), (0, .ref am), (1, .int p0), (3, .int n109), (4, .int n111), (5, .long z154)]) hx hb dX4_quantize_189 hl (k := 6) rfl (by rw [en164]; rfl) (by decide) rfl (fun ls hl => ?_)
                      refine lv_goto (tgt := 151) hx hb dX4_quantize_192 (by decide) ?_
                      have e9 := Eq.symm hb9; subst e9
                      have key9 := ih9 ((B_X4_quantize_151 n111 u113 u116) t_151) (fun j hj => hG9 (j + 1) (Nat.succ_lt_succ hj)) (fun j hj => hs9 (j + 1) (Nat.succ_lt_succ hj)) k9
                      rw [← et9] at key9
                      exact key9 H locs hP hD hS ls (lv_sub hl [2, 3, 4, 5, 6, 1, 0] rfl)
                    obtain ⟨z9, ez9⟩ : ∃ y9 : Bool, y9 = Z_X4_quantize_J_133 u113 t_151 := ⟨_, rfl⟩
                    have hz := rZ_X4_quantize_J_133 u113 t_151 ez9
                    unfold RZ_X4_quantize_J_133 at hz
                    refine xb_eq (tgt := 186) hx hb dX4_quantize_169 (by decide) (fun c_158 => ?_) (fun c_158 => ?_)
                    · rw [if_neg c_158] at hz
                      refine lv_iconst (v := 0) hx hb dX4_quantize_186 (by decide) ?_
                      have e9 := Eq.symm hz; subst e9
                      exact J_163 _ ez9 H locs hP hD hS ls (lv_sub hl [0, 1, 2, 3, 4, 6] rfl)
                    · rw [if_pos c_158] at hs
                      rw [if_pos c_158] at hz
                      refine lv_aload_n hx hb dX4_quantize_172 rfl (lv_at hl 0 rfl) ?_
                      refine va_get (D := D) (ci := 5) (v := .ref ag) (C := RX4) (T := TX4) (N := 18) hx hb hts hi4 hown hK hP 0 rfl rfl 14 (by decide) (hts (.fieldLink RX4 24 "DecimalWordsModel" "digits" "[I") (inW_8 _ (List.mem_of_getElem? (i := 35) rfl))) (fun _ h9 => h9) rfl dX4_quantize_173 ?_
                      refine lv_iload hx hb dX4_quantize_176 (lv_at hl 6 rfl) ?_
                      have h_159 := hs
                      refine va_iald hx hb hK hP 5 1 rfl rfl h_159 dX4_quantize_178 ?_
                      refine lv_if_ne (tgt := 186) hx hb dX4_quantize_179 (by decide) (fun c_160 => ?_) (fun c_160 => ?_)
                      · rw [if_neg c_160] at hz
                        refine lv_iconst (v := 0) hx hb dX4_quantize_186 (by decide) ?_
                        have e9 := Eq.symm hz; subst e9
                        exact J_163 _ ez9 H locs hP hD hS ls (lv_sub hl [0, 1, 2, 3, 4, 6] rfl)
                      · rw [if_pos c_160] at hz
                        refine lv_iconst (v := 1) hx hb dX4_quantize_182 (by decide) ?_
                        refine lv_goto (tgt := 187) hx hb dX4_quantize_183 (by decide) ?_
                        have e9 := Eq.symm hz; subst e9
                        exact J_163 _ ez9 H locs hP hD hS ls (lv_sub hl [0, 1, 2, 3, 4, 6] rfl)
            obtain ⟨hsL, hG1, hs⟩ := hs
            refine L_193 (nW (G_X4_quantize_151 n111 u113 u116) (B_X4_quantize_151 n111 u113 u116) 901 (true, 0)) (true, 0) (nW_lt _ _ _ _) hsL (fun H locs hP hD hS ls hl => ?_) H locs hP hD hS ls (lv_sub hl [3, 4, 5, 6, 2, 1, 0] rfl)
            obtain ⟨z165, ez165⟩ : ∃ y9 : Bool × Int32, y9 = wl (G_X4_quantize_151 n111 u113 u116) (B_X4_quantize_151 n111 u113 u116) 901 (true, 0) := ⟨_, rfl⟩
            have e9 : z165 = itn (B_X4_quantize_151 n111 u113 u116) (nW (G_X4_quantize_151 n111 u113 u116) (B_X4_quantize_151 n111 u113 u116) 901 (true, 0)) (true, 0) := ez165
            try rw [← e9] at hP
            try rw [← e9] at hD
            try rw [← e9] at hl
            rw [← ez165] at hG1
            clear e9
            have hg := rG_X4_quantize_151 n111 u113 u116 z165 (Eq.symm hG1)
            unfold RG_X4_quantize_151 at hg
            have hs := hs _ ez165
            have hu := hu _ ez165
            refine lv_iload hx hb dX4_quantize_151 (lv_at hl 6 rfl) ?_
            refine lv_iload hx hb dX4_quantize_153 (lv_at hl 3 rfl) ?_
            have J_170 : ∀ (H : Heap) (locs : List Loc), va_P D vwCl (mw cI cJ cZ am ak an ac ae ag aq vth vmo vfg vtp vkd vng vcc vqq vrs u116 vun false vks vms vcs ves u113 vog) H → va_D A (mw cI cJ cZ am ak an ac ae ag aq vth vmo vfg vtp vkd vng vcc vqq vrs u116 vun false vks vms vcs ves u113 vog) → va_S A s.heap H locs → ∀ ls : Array Slot, lv_has ls 9 [(0, .ref am), (1, .int p0), (3, .int n109), (5, .long z154), (7, .int (bI z165.1))] → W p l e rm_X4_quantize s m args below meth c H locs 0 0 Q (F0 m 195 ls []) := by
              intro H locs hP hD hS ls hl
              refine lv_aload_n hx hb dX4_quantize_195 rfl (lv_at hl 0 rfl) ?_
              refine lv_iload hx hb dX4_quantize_196 (lv_at hl 4 rfl) ?_
              have J_174 : (∀ z173 : Int32, z173 = Z_X4_quantize_J_144 vrs z165 → ∀ (H : Heap) (locs : List Loc), va_P D vwCl (mw cI cJ cZ am ak an ac ae ag aq vth vmo vfg vtp vkd vng vcc vqq vrs u116 vun false vks vms vcs ves u113 vog) H → va_D A (mw cI cJ cZ am ak an ac ae ag aq vth vmo vfg vtp vkd vng vcc vqq vrs u116 vun false vks vms vcs ves u113 vog) → va_S A s.heap H locs → ∀ ls : Array Slot, lv_has ls 9 [(0, .ref am), (1, .int p0), (3, .int n109), (5, .long z154)] → W p l e rm_X4_quantize s m args below meth c H locs 0 0 Q (F0 m 215 ls [.int z173, .ref am])) := by
                intro z173 ez173 H locs hP hD hS ls hl
                have hs := hs _ ez173
                have hu := hu _ ez173
                refine va_put (D := D) (ci := 5) (v := .int z173) (ty := .int) (C := RX4) (T := TX4) (N := 18) hx hb hts hi4 tyX4 tyX4_ok nmX4 hown hK hP hD hS 0 rfl rfl 12 (by decide) (hts (.fieldLink RX4 56 "DecimalWordsModel" "raised" "I") (inW_9 _ (List.mem_of_getElem? (i := 17) rfl))) (fun _ h9 => h9) rfl (by decide +kernel) rfl rfl (Nat.le_of_ble_eq_true rfl) dX4_quantize_215 (fun H locs hP hD hS => ?_)
                have hP : va_P D vwCl (mw cI cJ cZ am ak an ac ae ag aq vth vmo vfg vtp vkd vng vcc vqq z173 u116 vun false vks vms vcs ves u113 vog) H := hP
                have hD : va_D A (mw cI cJ cZ am ak an ac ae ag aq vth vmo vfg vtp vkd vng vcc vqq z173 u116 vun false vks vms vcs ves u113 vog) := hD
                refine lv_aload_n hx hb dX4_quantize_218 rfl (lv_at hl 0 rfl) ?_
                refine lv_iconst (v := 0) hx hb dX4_quantize_219 (by decide) ?_
                refine lv_aload_n hx hb dX4_quantize_220 rfl (lv_at hl 0 rfl) ?_
                refine va_get (D := D) (ci := 5) (v := .ref an) (C := RX4) (T := TX4) (N := 18) hx hb hts hi4 hown hK hP 0 rfl rfl 2 (by decide) (hts (.fieldLink RX4 13 "DecimalWordsModel" "minus" "[Z") (inW_8 _ (List.mem_of_getElem? (i := 31) rfl))) (fun _ h9 => h9) rfl dX4_quantize_221 ?_
                refine lv_iload_n hx hb dX4_quantize_224 rfl (lv_at hl 1 rfl) ?_
                have h_176 := hs
                refine va_zald hx hb hK hP 2 3 rfl rfl h_176 dX4_quantize_225 ?_
                refine lv_lload hx hb dX4_quantize_226 (lv_at hl 3 rfl) ?_
                refine lv_iload_n hx hb dX4_quantize_228 rfl (lv_at hl 2 rfl) ?_
                obtain ⟨u177, eu177⟩ : ∃ y9 : Int32 × Bool × Int64 × Int32, y9 = F_X4_be (0 : Int32) (vms p0.toNatClampNeg) z154 n109 := ⟨_, rfl⟩
                have hu := hu _ eu177
                refine x_V (As := [.int 0, .int (bI (vms p0.toNatClampNeg)), .long z154, .int n109]) (rest := []) hCF (c_X4_be l D cR cI cJ cZ t0 am ak an ac ae ag aq vth vmo vfg vtp vkd vng vcc vqq z173 u116 vun false vks vms vcs ves u113 vog (0 : Int32) (vms p0.toNatClampNeg) z154 n109 u177 eu177) (x_cwV 4 hts (inW_9 _ (List.mem_of_getElem? (i := 18) rfl)) (inW_9 _ (List.mem_of_getElem? (i := 19) rfl)) (inW_9 _ (List.mem_of_getElem? (i := 20) rfl)) (inW_9 _ (List.mem_of_getElem? (i := 5) rfl)) (inW_9 _ (List.mem_of_getElem? (i := 11) rfl)) rfl rfl (by decide +kernel) ⟨Nat.le_of_ble_eq_true rfl, Nat.le_of_ble_eq_true rfl⟩) hK hP hD hS hA hSt 0 rfl rfl rfl hl.1 rfl (Nat.le_of_ble_eq_true rfl) dX4_quantize_229 ⟨Nat.le_of_ble_eq_true rfl, Nat.le_of_ble_eq_true rfl⟩ (fun H locs hP hD hS => ?_)
                show W p l e _ s m args below meth c H locs 0 0 Q (F0 m 232 ls [])
                have e9 := Eq.symm hu; subst e9
                exact x_vret hx hb hr hlocks hQ hK hP hD hS rfl dX4_quantize_232
              obtain ⟨z9, ez9⟩ : ∃ y9 : Int32, y9 = Z_X4_quantize_J_144 vrs z165 := ⟨_, rfl⟩
              have hz := rZ_X4_quantize_J_144 vrs z165 ez9
              unfold RZ_X4_quantize_J_144 at hz
              refine xb_eq (tgt := 208) hx hb dX4_quantize_198 (by decide) (fun c_171 => ?_) (fun c_171 => ?_)
              · rw [if_neg c_171] at hz
                refine lv_aload_n hx hb dX4_quantize_208 rfl (lv_at hl 0 rfl) ?_
                refine va_get (D := D) (ci := 5) (v := .int vrs) (C := RX4) (T := TX4) (N := 18) hx hb hts hi4 hown hK hP 0 rfl rfl 12 (by decide) (hts (.fieldLink RX4 56 "DecimalWordsModel" "raised" "I") (inW_9 _ (List.mem_of_getElem? (i := 17) rfl))) (fun _ h9 => h9) rfl dX4_quantize_209 ?_
                refine lv_bipush (v := 16) hx hb dX4_quantize_212 (by decide) ?_
                refine lv_ior hx hb dX4_quantize_214 ?_
                have e9 := Eq.symm hz; subst e9
                exact J_174 _ ez9 H locs hP hD hS ls (lv_sub hl [0, 1, 2, 3] rfl)
              · rw [if_pos c_171] at hz
                refine lv_aload_n hx hb dX4_quantize_201 rfl (lv_at hl 0 rfl) ?_
                refine va_get (D := D) (ci := 5) (v := .int vrs) (C := RX4) (T := TX4) (N := 18) hx hb hts hi4 hown hK hP 0 rfl rfl 12 (by decide) (hts (.fieldLink RX4 56 "DecimalWordsModel" "raised" "I") (inW_9 _ (List.mem_of_getElem? (i := 17) rfl))) (fun _ h9 => h9) rfl dX4_quantize_202 ?_
                refine lv_goto (tgt := 215) hx hb dX4_quantize_205 (by decide) ?_
                have e9 := Eq.symm hz; subst e9
                exact J_174 _ ez9 H locs hP hD hS ls (lv_sub hl [0, 1, 2, 3] rfl)
            refine lv_icmp_ge (tgt := 195) hx hb dX4_quantize_155 (by decide) (fun c_167 => ?_) (fun c_167 => ?_)
            · rw [if_pos c_167] at hg
              exact J_170 H locs hP hD hS ls (lv_sub hl [0, 1, 2, 4, 5] rfl)
            · rw [if_neg c_167] at hg
              refine lv_iload hx hb dX4_quantize_158 (lv_at hl 6 rfl) ?_
              refine lv_aload_n hx hb dX4_quantize_160 rfl (lv_at hl 0 rfl) ?_
              refine va_get (D := D) (ci := 5) (v := .int u116) (C := RX4) (T := TX4) (N := 18) hx hb hts hi4 hown hK hP 0 rfl rfl 13 (by decide) (hts (.fieldLink RX4 39 "DecimalWordsModel" "count" "I") (inW_9 _ (List.mem_of_getElem? (i := 8) rfl))) (fun _ h9 => h9) rfl dX4_quantize_161 ?_
              refine lv_icmp_ge (tgt := 195) hx hb dX4_quantize_164 (by decide) (fun c_168 => ?_) (fun c_168 => ?_)
              · rw [if_pos c_168] at hg
                exact J_170 H locs hP hD hS ls (lv_sub hl [0, 1, 2, 4, 5] rfl)
              · rw [if_neg c_168] at hg
                exact absurd hg (by decide)
          have hs := hs.1
          obtain ⟨z9, ez9⟩ : ∃ y9 : Int64, y9 = Z_X4_quantize_J_125 vmo vms p0 n111 u113 u116 := ⟨_, rfl⟩
          have hz := rZ_X4_quantize_J_125 vmo vms p0 n111 u113 u116 ez9
          unfold RZ_X4_quantize_J_125 at hz
          refine lv_if_ne (tgt := 131) hx hb dX4_quantize_124 (by decide) (fun c_150 => ?_) (fun c_150 => ?_)
          · rw [if_neg c_150] at hs
            rw [if_neg c_150] at hz
            refine lv_aload_n hx hb dX4_quantize_131 rfl (lv_at hl 2 rfl) ?_
            refine lv_iload hx hb dX4_quantize_132 (lv_at hl 0 rfl) ?_
            refine lv_aload_n hx hb dX4_quantize_134 rfl (lv_at hl 2 rfl) ?_
            refine va_get (D := D) (ci := 5) (v := .ref an) (C := RX4) (T := TX4) (N := 18) hx hb hts hi4 hown hK hP 0 rfl rfl 2 (by decide) (hts (.fieldLink RX4 13 "DecimalWordsModel" "minus" "[Z") (inW_8 _ (List.mem_of_getElem? (i := 31) rfl))) (fun _ h9 => h9) rfl dX4_quantize_135 ?_
            refine lv_iload_n hx hb dX4_quantize_138 rfl (lv_at hl 3 rfl) ?_
            refine va_zald hx hb hK hP 2 3 rfl rfl h_110 dX4_quantize_139 ?_
            have h_151 := hs
            refine x_V (As := [.int n111, .int (bI (vms p0.toNatClampNeg))]) (rest := []) hCF (c_X4_rounded l D cR cI cJ cZ t0 am ak an ac ae ag aq vth vmo vfg vtp vkd vng vcc vqq vrs u116 vun false vks vms vcs ves u113 vog n111 (vms p0.toNatClampNeg) _ rfl h_151) (x_cwV 2 hts (inW_10 _ (List.mem_of_getElem? (i := 7) rfl)) (inW_10 _ (List.mem_of_getElem? (i := 8) rfl)) (inW_10 _ (List.mem_of_getElem? (i := 9) rfl)) (inW_9 _ (List.mem_of_getElem? (i := 5) rfl)) (inW_9 _ (List.mem_of_getElem? (i := 22) rfl)) rfl rfl (by decide +kernel) ⟨Nat.le_of_ble_eq_true rfl, Nat.le_of_ble_eq_true rfl⟩) hK hP hD hS hA hSt 0 rfl rfl rfl hl.1 rfl (Nat.le_of_ble_eq_true rfl) dX4_quantize_140 ⟨Nat.le_of_ble_eq_true rfl, Nat.le_of_ble_eq_true rfl⟩ (fun H locs hP hD hS => ?_)
            show W p l e _ s m args below meth c H locs 0 0 Q (F0 m 143 ls (.long (F_X4_rounded vmo u116 false u113 n111 (vms p0.toNatClampNeg)) :: []))
            have e9 := Eq.symm hz; subst e9
            exact J_155 _ ez9 H locs hP hD hS ls (lv_sub hl [2, 3, 1, 0] rfl)
          · rw [if_pos c_150] at hz
            refine lv_lconst (v := 0) hx hb dX4_quantize_127 (by decide) ?_
            refine lv_goto (tgt := 143) hx hb dX4_quantize_128 (by decide) ?_
            have e9 := Eq.symm hz; subst e9
            exact J_155 _ ez9 H locs hP hD hS ls (lv_sub hl [2, 3, 1, 0] rfl)
        · rw [if_neg c_149] at hu
          refine lv_aload_n hx hb dX4_quantize_115 rfl (lv_at hl 2 rfl) ?_
          obtain ⟨u179, eu179⟩ : ∃ y9 : Int32 × Bool × Int64 × Int32 × Int32, y9 = F_X4_invalid vrs := ⟨_, rfl⟩
          have hu := hu _ eu179
          refine x_V (As := []) (rest := []) hCF (c_X4_invalid l D cR cI cJ cZ t0 am ak an ac ae ag aq vth vmo vfg vtp vkd vng vcc vqq vrs u116 vun false vks vms vcs ves u113 vog u179 eu179) (x_cwV 0 hts (inW_10 _ (List.mem_of_getElem? (i := 21) rfl)) (inW_10 _ (List.mem_of_getElem? (i := 22) rfl)) (inW_10 _ (List.mem_of_getElem? (i := 23) rfl)) (inW_9 _ (List.mem_of_getElem? (i := 5) rfl)) (inW_9 _ (List.mem_of_getElem? (i := 16) rfl)) rfl rfl (by decide +kernel) ⟨Nat.le_of_ble_eq_true rfl, Nat.le_of_ble_eq_true rfl⟩) hK hP hD hS hA hSt 0 rfl rfl rfl hl.1 rfl (Nat.le_of_ble_eq_true rfl) dX4_quantize_116 ⟨Nat.le_of_ble_eq_true rfl, Nat.le_of_ble_eq_true rfl⟩ (fun H locs hP hD hS => ?_)
          show W p l e _ s m args below meth c H locs 0 0 Q (F0 m 119 ls [])
          have e9 := Eq.symm hu; subst e9
          exact x_vret hx hb hr hlocks hQ hK hP hD hS rfl dX4_quantize_119
    · rw [if_pos c_107] at hu
      refine lv_aload_n hx hb dX4_quantize_52 rfl (lv_at hl 0 rfl) ?_
      obtain ⟨u181, eu181⟩ : ∃ y9 : Int32 × Bool × Int64 × Int32 × Int32, y9 = F_X4_invalid vrs := ⟨_, rfl⟩
      have hu := hu _ eu181
      refine x_V (As := []) (rest := []) hCF (c_X4_invalid l D cR cI cJ cZ t0 am ak an ac ae ag aq vth vmo vfg vtp vkd vng vcc vqq vrs vct vun vre vks vms vcs ves vdg vog u181 eu181) (x_cwV 0 hts (inW_10 _ (List.mem_of_getElem? (i := 21) rfl)) (inW_10 _ (List.mem_of_getElem? (i := 22) rfl)) (inW_10 _ (List.mem_of_getElem? (i := 23) rfl)) (inW_9 _ (List.mem_of_getElem? (i := 5) rfl)) (inW_9 _ (List.mem_of_getElem? (i := 16) rfl)) rfl rfl (by decide +kernel) ⟨Nat.le_of_ble_eq_true rfl, Nat.le_of_ble_eq_true rfl⟩) hK hP hD hS hA hSt 0 rfl rfl rfl hl.1 rfl (Nat.le_of_ble_eq_true rfl) dX4_quantize_53 ⟨Nat.le_of_ble_eq_true rfl, Nat.le_of_ble_eq_true rfl⟩ (fun H locs hP hD hS => ?_)
      show W p l e _ s m args below meth c H locs 0 0 Q (F0 m 56 ls [])
      refine lv_goto (tgt := 232) hx hb dX4_quantize_56 (by decide) ?_
      have e9 := Eq.symm hu; subst e9
      exact x_vret hx hb hr hlocks hQ hK hP hD hS rfl dX4_quantize_232
  · rw [if_pos c_103] at hs
    rw [if_pos c_103] at hu
    refine lv_aload_n hx hb dX4_quantize_9 rfl (lv_at hl 0 rfl) ?_
    refine lv_iload_n hx hb dX4_quantize_10 rfl (lv_at hl 2 rfl) ?_
    refine lv_iconst (v := 1) hx hb dX4_quantize_11 (by decide) ?_
    obtain ⟨h_183, hs⟩ := hs
    refine x_V (As := [.int p1, .int 1]) (rest := []) hCF (c_X4_is l D cR cI cJ cZ t0 am ak an ac ae ag aq vth vmo vfg vtp vkd vng vcc vqq vrs vct vun vre vks vms vcs ves vdg vog p1 (1 : Int32) _ rfl h_183) (x_cwV 2 hts (inW_10 _ (List.mem_of_getElem? (i := 18) rfl)) (inW_10 _ (List.mem_of_getElem? (i := 19) rfl)) (inW_10 _ (List.mem_of_getElem? (i := 20) rfl)) (inW_9 _ (List.mem_of_getElem? (i := 5) rfl)) (inW_10 _ (List.mem_of_getElem? (i := 10) rfl)) rfl rfl (by decide +kernel) ⟨Nat.le_of_ble_eq_true rfl, Nat.le_of_ble_eq_true rfl⟩) hK hP hD hS hA hSt 0 rfl rfl rfl hl.1 rfl (Nat.le_of_ble_eq_true rfl) dX4_quantize_12 ⟨Nat.le_of_ble_eq_true rfl, Nat.le_of_ble_eq_true rfl⟩ (fun H locs hP hD hS => ?_)
    show W p l e _ s m args below meth c H locs 0 0 Q (F0 m 15 ls (.int (bI (F_X4_is vks p1 (1 : Int32))) :: []))
    refine xb_eq (tgt := 34) hx hb dX4_quantize_15 (by decide) (fun c_185 => ?_) (fun c_185 => ?_)
    · rw [if_neg c_185] at hu
      refine lv_aload_n hx hb dX4_quantize_34 rfl (lv_at hl 0 rfl) ?_
      refine lv_iload_n hx hb dX4_quantize_35 rfl (lv_at hl 1 rfl) ?_
      refine lv_iconst (v := 1) hx hb dX4_quantize_36 (by decide) ?_
      refine x_V (As := [.int p0, .int 1]) (rest := []) hCF (c_X4_is l D cR cI cJ cZ t0 am ak an ac ae ag aq vth vmo vfg vtp vkd vng vcc vqq vrs vct vun vre vks vms vcs ves vdg vog p0 (1 : Int32) _ rfl h_101) (x_cwV 2 hts (inW_10 _ (List.mem_of_getElem? (i := 18) rfl)) (inW_10 _ (List.mem_of_getElem? (i := 19) rfl)) (inW_10 _ (List.mem_of_getElem? (i := 20) rfl)) (inW_9 _ (List.mem_of_getElem? (i := 5) rfl)) (inW_10 _ (List.mem_of_getElem? (i := 10) rfl)) rfl rfl (by decide +kernel) ⟨Nat.le_of_ble_eq_true rfl, Nat.le_of_ble_eq_true rfl⟩) hK hP hD hS hA hSt 0 rfl rfl rfl hl.1 rfl (Nat.le_of_ble_eq_true rfl) dX4_quantize_37 ⟨Nat.le_of_ble_eq_true rfl, Nat.le_of_ble_eq_true rfl⟩ (fun H locs hP hD hS => ?_)
      show W p l e _ s m args below meth c H locs 0 0 Q (F0 m 40 ls (.int (bI (F_X4_is vks p0 (1 : Int32))) :: []))
      refine xb_ne (tgt := 52) hx hb dX4_quantize_40 (by decide) (fun _ => ?_) (fun c9 => absurd c_103 c9)
      refine lv_aload_n hx hb dX4_quantize_52 rfl (lv_at hl 0 rfl) ?_
      obtain ⟨u187, eu187⟩ : ∃ y9 : Int32 × Bool × Int64 × Int32 × Int32, y9 = F_X4_invalid vrs := ⟨_, rfl⟩
      have hu := hu _ eu187
      refine x_V (As := []) (rest := []) hCF (c_X4_invalid l D cR cI cJ cZ t0 am ak an ac ae ag aq vth vmo vfg vtp vkd vng vcc vqq vrs vct vun vre vks vms vcs ves vdg vog u187 eu187) (x_cwV 0 hts (inW_10 _ (List.mem_of_getElem? (i := 21) rfl)) (inW_10 _ (List.mem_of_getElem? (i := 22) rfl)) (inW_10 _ (List.mem_of_getElem? (i := 23) rfl)) (inW_9 _ (List.mem_of_getElem? (i := 5) rfl)) (inW_9 _ (List.mem_of_getElem? (i := 16) rfl)) rfl rfl (by decide +kernel) ⟨Nat.le_of_ble_eq_true rfl, Nat.le_of_ble_eq_true rfl⟩) hK hP hD hS hA hSt 0 rfl rfl rfl hl.1 rfl (Nat.le_of_ble_eq_true rfl) dX4_quantize_53 ⟨Nat.le_of_ble_eq_true rfl, Nat.le_of_ble_eq_true rfl⟩ (fun H locs hP hD hS => ?_)
      show W p l e _ s m args below meth c H locs 0 0 Q (F0 m 56 ls [])
      refine lv_goto (tgt := 232) hx hb dX4_quantize_56 (by decide) ?_
      have e9 := Eq.symm hu; subst e9
      exact x_vret hx hb hr hlocks hQ hK hP hD hS rfl dX4_quantize_232
    · rw [if_pos c_185] at hs
      rw [if_pos c_185] at hu
      refine lv_aload_n hx hb dX4_quantize_18 rfl (lv_at hl 0 rfl) ?_
      refine lv_iconst (v := 1) hx hb dX4_quantize_19 (by decide) ?_
      refine lv_aload_n hx hb dX4_quantize_20 rfl (lv_at hl 0 rfl) ?_
      refine va_get (D := D) (ci := 5) (v := .ref an) (C := RX4) (T := TX4) (N := 18) hx hb hts hi4 hown hK hP 0 rfl rfl 2 (by decide) (hts (.fieldLink RX4 13 "DecimalWordsModel" "minus" "[Z") (inW_8 _ (List.mem_of_getElem? (i := 31) rfl))) (fun _ h9 => h9) rfl dX4_quantize_21 ?_
      refine lv_iload_n hx hb dX4_quantize_24 rfl (lv_at hl 1 rfl) ?_
      have h_189 := hs
      refine va_zald hx hb hK hP 2 3 rfl rfl h_189 dX4_quantize_25 ?_
      refine lv_lconst (v := 0) hx hb dX4_quantize_26 (by decide) ?_
      refine lv_iconst (v := 0) hx hb dX4_quantize_27 (by decide) ?_
      obtain ⟨u190, eu190⟩ : ∃ y9 : Int32 × Bool × Int64 × Int32, y9 = F_X4_be (1 : Int32) (vms p0.toNatClampNeg) (0 : Int64) (0 : Int32) := ⟨_, rfl⟩
      have hu := hu _ eu190
      refine x_V (As := [.int 1, .int (bI (vms p0.toNatClampNeg)), .long 0, .int 0]) (rest := []) hCF (c_X4_be l D cR cI cJ cZ t0 am ak an ac ae ag aq vth vmo vfg vtp vkd vng vcc vqq vrs vct vun vre vks vms vcs ves vdg vog (1 : Int32) (vms p0.toNatClampNeg) (0 : Int64) (0 : Int32) u190 eu190) (x_cwV 4 hts (inW_9 _ (List.mem_of_getElem? (i := 18) rfl)) (inW_9 _ (List.mem_of_getElem? (i := 19) rfl)) (inW_9 _ (List.mem_of_getElem? (i := 20) rfl)) (inW_9 _ (List.mem_of_getElem? (i := 5) rfl)) (inW_9 _ (List.mem_of_getElem? (i := 11) rfl)) rfl rfl (by decide +kernel) ⟨Nat.le_of_ble_eq_true rfl, Nat.le_of_ble_eq_true rfl⟩) hK hP hD hS hA hSt 0 rfl rfl rfl hl.1 rfl (Nat.le_of_ble_eq_true rfl) dX4_quantize_28 ⟨Nat.le_of_ble_eq_true rfl, Nat.le_of_ble_eq_true rfl⟩ (fun H locs hP hD hS => ?_)
      show W p l e _ s m args below meth c H locs 0 0 Q (F0 m 31 ls [])
      refine lv_goto (tgt := 232) hx hb dX4_quantize_31 (by decide) ?_
      have e9 := Eq.symm hu; subst e9
      exact x_vret hx hb hr hlocks hQ hK hP hD hS rfl dX4_quantize_232
