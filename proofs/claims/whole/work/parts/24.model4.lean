def Z_X4_ten_J_115 (p2 : Int32) : Bool := (if p2 ≤ 7 then false else true)
def RZ_X4_ten_J_115 (p2 : Int32) (u9 : Bool) : Prop := (if p2 ≤ 7 then u9 = false else u9 = true)
theorem rZ_X4_ten_J_115 (p2 : Int32) {u9 : Bool} (hu : u9 = Z_X4_ten_J_115 p2) : RZ_X4_ten_J_115 p2 u9 := by
  unfold RZ_X4_ten_J_115
  refine ite_P (fun c_112 => ?_) (fun c_112 => ?_)
  · have hu := hu.trans (if_pos c_112)
    exact hu
  · have hu := hu.trans (if_neg c_112)
    exact hu
def Z_X4_ten_J_111 (p1 : Int32) : Int32 := (if p1 ≤ 7 then 0 else 2)
def RZ_X4_ten_J_111 (p1 : Int32) (u9 : Int32) : Prop := (if p1 ≤ 7 then u9 = 0 else u9 = 2)
theorem rZ_X4_ten_J_111 (p1 : Int32) {u9 : Int32} (hu : u9 = Z_X4_ten_J_111 p1) : RZ_X4_ten_J_111 p1 u9 := by
  unfold RZ_X4_ten_J_111
  refine ite_P (fun c_108 => ?_) (fun c_108 => ?_)
  · have hu := hu.trans (if_pos c_108)
    exact hu
  · have hu := hu.trans (if_neg c_108)
    exact hu
def Z_X4_ten_J_107 (p0 : Int32) : Int32 := (if p0 ≤ 7 then 0 else 4)
def RZ_X4_ten_J_107 (p0 : Int32) (u9 : Int32) : Prop := (if p0 ≤ 7 then u9 = 0 else u9 = 4)
theorem rZ_X4_ten_J_107 (p0 : Int32) {u9 : Int32} (hu : u9 = Z_X4_ten_J_107 p0) : RZ_X4_ten_J_107 p0 u9 := by
  unfold RZ_X4_ten_J_107
  refine ite_P (fun c_104 => ?_) (fun c_104 => ?_)
  · have hu := hu.trans (if_pos c_104)
    exact hu
  · have hu := hu.trans (if_neg c_104)
    exact hu
def F_X4_ten  (p0 : Int32) (p1 : Int32) (p2 : Int32) : Int32 := (bnd (p0 &&& 7) (fun n101 : Int32 => (bnd (p1 &&& 7) (fun n102 : Int32 => (bnd (p2 &&& 7) (fun n103 : Int32 => (bnd (Z_X4_ten_J_107 p0) (fun z106 : Int32 => (bnd (Z_X4_ten_J_111 p1) (fun z110 : Int32 => (bnd (Z_X4_ten_J_115 p2) (fun z114 : Bool => (bnd ((z106 + z110) + (bI z114)) (fun n116 : Int32 => (if n116 = 0 then ((jshl n101 7) ||| (jshl n102 4)) ||| n103 else (if n116 = 1 then (((jshl n101 7) ||| (jshl n102 4)) ||| 8) ||| (p2 &&& 1) else (if n116 = 2 then ((((jshl n101 7) ||| (jshl (jshr n103 1) 5)) ||| (jshl (p1 &&& 1) 4)) ||| 10) ||| (n103 &&& 1) else (if n116 = 3 then ((((jshl n101 7) ||| 64) ||| (jshl (p1 &&& 1) 4)) ||| 14) ||| (p2 &&& 1) else (if n116 = 4 then ((((jshl (jshr n103 1) 8) ||| (jshl (p0 &&& 1) 7)) ||| (jshl n102 4)) ||| 12) ||| (n103 &&& 1) else (if n116 = 5 then (((((jshl (jshr n102 1) 8) ||| (jshl (p0 &&& 1) 7)) ||| 32) ||| (jshl (n102 &&& 1) 4)) ||| 14) ||| (p2 &&& 1) else (if n116 = 6 then ((((jshl (jshr n103 1) 8) ||| (jshl (p0 &&& 1) 7)) ||| (jshl (p1 &&& 1) 4)) ||| 14) ||| (n103 &&& 1) else ((((jshl (p0 &&& 1) 7) ||| 96) ||| (jshl (p1 &&& 1) 4)) ||| 14) ||| (p2 &&& 1))))))))))))))))))))))
def RF_X4_ten  (p0 : Int32) (p1 : Int32) (p2 : Int32) (u9 : Int32) : Prop := (∀ n101 : Int32, n101 = p0 &&& 7 → (∀ n102 : Int32, n102 = p1 &&& 7 → (∀ n103 : Int32, n103 = p2 &&& 7 → (∀ z106 : Int32, z106 = Z_X4_ten_J_107 p0 → (∀ z110 : Int32, z110 = Z_X4_ten_J_111 p1 → (∀ z114 : Bool, z114 = Z_X4_ten_J_115 p2 → (∀ n116 : Int32, n116 = (z106 + z110) + (bI z114) → (if n116 = 0 then u9 = ((jshl n101 7) ||| (jshl n102 4)) ||| n103 else (if n116 = 1 then u9 = (((jshl n101 7) ||| (jshl n102 4)) ||| 8) ||| (p2 &&& 1) else (if n116 = 2 then u9 = ((((jshl n101 7) ||| (jshl (jshr n103 1) 5)) ||| (jshl (p1 &&& 1) 4)) ||| 10) ||| (n103 &&& 1) else (if n116 = 3 then u9 = ((((jshl n101 7) ||| 64) ||| (jshl (p1 &&& 1) 4)) ||| 14) ||| (p2 &&& 1) else (if n116 = 4 then u9 = ((((jshl (jshr n103 1) 8) ||| (jshl (p0 &&& 1) 7)) ||| (jshl n102 4)) ||| 12) ||| (n103 &&& 1) else (if n116 = 5 then u9 = (((((jshl (jshr n102 1) 8) ||| (jshl (p0 &&& 1) 7)) ||| 32) ||| (jshl (n102 &&& 1) 4)) ||| 14) ||| (p2 &&& 1) else (if n116 = 6 then u9 = ((((jshl (jshr n103 1) 8) ||| (jshl (p0 &&& 1) 7)) ||| (jshl (p1 &&& 1) 4)) ||| 14) ||| (n103 &&& 1) else u9 = ((((jshl (p0 &&& 1) 7) ||| 96) ||| (jshl (p1 &&& 1) 4)) ||| 14) ||| (p2 &&& 1)))))))))))))))
theorem rF_X4_ten  (p0 : Int32) (p1 : Int32) (p2 : Int32) {u9 : Int32} (hu : u9 = F_X4_ten p0 p1 p2) : RF_X4_ten p0 p1 p2 u9 := by
  unfold RF_X4_ten
  intro n101 en101
  have hu := bnd_n hu en101
  intro n102 en102
  have hu := bnd_n hu en102
  intro n103 en103
  have hu := bnd_n hu en103
  intro z106 ez106
  have hu := bnd_n hu ez106
  intro z110 ez110
  have hu := bnd_n hu ez110
  intro z114 ez114
  have hu := bnd_n hu ez114
  intro n116 en116
  have hu := bnd_n hu en116
  refine ite_P (fun c_117 => ?_) (fun c_117 => ?_)
  · have hu := hu.trans (if_pos c_117)
    exact hu
  have hu := hu.trans (if_neg c_117)
  refine ite_P (fun c_118 => ?_) (fun c_118 => ?_)
  · have hu := hu.trans (if_pos c_118)
    exact hu
  have hu := hu.trans (if_neg c_118)
  refine ite_P (fun c_119 => ?_) (fun c_119 => ?_)
  · have hu := hu.trans (if_pos c_119)
    exact hu
  have hu := hu.trans (if_neg c_119)
  refine ite_P (fun c_120 => ?_) (fun c_120 => ?_)
  · have hu := hu.trans (if_pos c_120)
    exact hu
  have hu := hu.trans (if_neg c_120)
  refine ite_P (fun c_121 => ?_) (fun c_121 => ?_)
  · have hu := hu.trans (if_pos c_121)
    exact hu
  have hu := hu.trans (if_neg c_121)
  refine ite_P (fun c_122 => ?_) (fun c_122 => ?_)
  · have hu := hu.trans (if_pos c_122)
    exact hu
  have hu := hu.trans (if_neg c_122)
  refine ite_P (fun c_123 => ?_) (fun c_123 => ?_)
  · have hu := hu.trans (if_pos c_123)
    exact hu
  have hu := hu.trans (if_neg c_123)
  exact hu
def rm_X4_ten : Room := { frames := 0, cells := 0, slots := 0, locals := 0 }
set_option maxHeartbeats 4000000 in
set_option maxRecDepth 100000 in
theorem c_X4_ten (l : Launch) (D : va_G) (cR cI cJ cZ : ClassId) (t0 : Nat) (am ak an ac ae ag aq : Nat) (vth : Int32) (vmo : Int32) (vfg : Int32) (vtp : Int32) (vkd : Int32) (vng : Bool) (vcc : Int64) (vqq : Int32) (vrs : Int32) (vct : Int32) (vun : Int32) (vre : Bool) (vks : Nat → Int32) (vms : Nat → Bool) (vcs : Nat → Int64) (ves : Nat → Int32) (vdg : Nat → Int32) (vog : Nat → Int32) (p0 : Int32) (p1 : Int32) (p2 : Int32) (u : Int32) (hu : u = F_X4_ten p0 p1 p2) : XM l D (xty cR cI cJ cZ) t0 yX4_ten cX4_ten 8 (some .int) rm_X4_ten [.ref am, .int p0, .int p1, .int p2] (some (.int u)) (mw cI cJ cZ am ak an ac ae ag aq vth vmo vfg vtp vkd vng vcc vqq vrs vct vun vre vks vms vcs ves vdg vog) (mw cI cJ cZ am ak an ac ae ag aq vth vmo vfg vtp vkd vng vcc vqq vrs vct vun vre vks vms vcs ves vdg vog) := by
  refine XM.of (by decide) (Nat.le_of_ble_eq_true rfl) ?_
  intro p e s m args below meth c A Q F hK hP hD hA hSt hS hQ ls hl
  obtain ⟨hx, hb, hr, hts, hown, hlocks, hml⟩ := F
  have hCF : CallFix p m c cX4_ten 8 s args gW RX4 := ⟨hx, hb, hml, hown, hts⟩
  have hu := rF_X4_ten p0 p1 p2 hu
  unfold RF_X4_ten at hu
  obtain ⟨H, eH⟩ : ∃ y9 : Heap, y9 = s.heap := ⟨_, rfl⟩
  obtain ⟨locs, eL⟩ : ∃ y9 : List Loc, y9 = [] := ⟨_, rfl⟩
  rw [← eL] at hS ⊢
  have hP : va_P D vwCl (mw cI cJ cZ am ak an ac ae ag aq vth vmo vfg vtp vkd vng vcc vqq vrs vct vun vre vks vms vcs ves vdg vog) H := by rw [eH]; exact hP
  have hS : va_S A s.heap H locs := by rw [eH]; exact hS
  suffices goal9 : W p l e rm_X4_ten s m args below meth c H locs 0 0 Q (F0 m 0 ls []) from by rw [← eH]; exact goal9
  have hl : lv_has ls 8 [(0, .ref am), (1, .int p0), (2, .int p1), (3, .int p2)] := hl
  refine lv_iload_n hx hb dX4_ten_0 rfl (lv_at hl 1 rfl) ?_
  refine lv_bipush (v := 7) hx hb dX4_ten_1 (by decide) ?_
  refine lv_iand hx hb dX4_ten_3 ?_
  refine lv_topi (fun n101 en101 => ?_)
  have hu := hu _ en101
  refine lv_istore (lv' := [(4, .int n101), (0, .ref am), (1, .int p0), (2, .int p1), (3, .int p2)]) hx hb dX4_ten_4 hl (by decide) rfl (fun ls hl => ?_)
  refine lv_iload_n hx hb dX4_ten_6 rfl (lv_at hl 3 rfl) ?_
  refine lv_bipush (v := 7) hx hb dX4_ten_7 (by decide) ?_
  refine lv_iand hx hb dX4_ten_9 ?_
  refine lv_topi (fun n102 en102 => ?_)
  have hu := hu _ en102
  refine lv_istore (lv' := [(5, .int n102), (4, .int n101), (0, .ref am), (1, .int p0), (2, .int p1), (3, .int p2)]) hx hb dX4_ten_10 hl (by decide) rfl (fun ls hl => ?_)
  refine lv_iload_n hx hb dX4_ten_12 rfl (lv_at hl 5 rfl) ?_
  refine lv_bipush (v := 7) hx hb dX4_ten_13 (by decide) ?_
  refine lv_iand hx hb dX4_ten_15 ?_
  refine lv_topi (fun n103 en103 => ?_)
  have hu := hu _ en103
  refine lv_istore (lv' := [(6, .int n103), (5, .int n102), (4, .int n101), (0, .ref am), (1, .int p0), (2, .int p1), (3, .int p2)]) hx hb dX4_ten_16 hl (by decide) rfl (fun ls hl => ?_)
  refine lv_iload_n hx hb dX4_ten_18 rfl (lv_at hl 4 rfl) ?_
  refine lv_bipush (v := 7) hx hb dX4_ten_19 (by decide) ?_
  have J_107 : (∀ z106 : Int32, z106 = Z_X4_ten_J_107 p0 → ∀ (H : Heap) (locs : List Loc), va_P D vwCl (mw cI cJ cZ am ak an ac ae ag aq vth vmo vfg vtp vkd vng vcc vqq vrs vct vun vre vks vms vcs ves vdg vog) H → va_D A (mw cI cJ cZ am ak an ac ae ag aq vth vmo vfg vtp vkd vng vcc vqq vrs vct vun vre vks vms vcs ves vdg vog) → va_S A s.heap H locs → ∀ ls : Array Slot, lv_has ls 8 [(1, .int p0), (2, .int p1), (3, .int p2), (4, .int n101), (5, .int n102), (6, .int n103)] → W p l e rm_X4_ten s m args below meth c H locs 0 0 Q (F0 m 29 ls [.int z106])) := by
    intro z106 ez106 H locs hP hD hS ls hl
    have hu := hu _ ez106
    refine lv_iload_n hx hb dX4_ten_29 rfl (lv_at hl 1 rfl) ?_
    refine lv_bipush (v := 7) hx hb dX4_ten_30 (by decide) ?_
    have J_111 : (∀ z110 : Int32, z110 = Z_X4_ten_J_111 p1 → ∀ (H : Heap) (locs : List Loc), va_P D vwCl (mw cI cJ cZ am ak an ac ae ag aq vth vmo vfg vtp vkd vng vcc vqq vrs vct vun vre vks vms vcs ves vdg vog) H → va_D A (mw cI cJ cZ am ak an ac ae ag aq vth vmo vfg vtp vkd vng vcc vqq vrs vct vun vre vks vms vcs ves vdg vog) → va_S A s.heap H locs → ∀ ls : Array Slot, lv_has ls 8 [(1, .int p0), (2, .int p1), (3, .int p2), (4, .int n101), (5, .int n102), (6, .int n103)] → W p l e rm_X4_ten s m args below meth c H locs 0 0 Q (F0 m 40 ls [.int z110, .int z106])) := by
      intro z110 ez110 H locs hP hD hS ls hl
      have hu := hu _ ez110
      refine lv_iadd hx hb dX4_ten_40 ?_
      refine lv_iload_n hx hb dX4_ten_41 rfl (lv_at hl 2 rfl) ?_
      refine lv_bipush (v := 7) hx hb dX4_ten_42 (by decide) ?_
      have J_115 : (∀ z114 : Bool, z114 = Z_X4_ten_J_115 p2 → ∀ (H : Heap) (locs : List Loc), va_P D vwCl (mw cI cJ cZ am ak an ac ae ag aq vth vmo vfg vtp vkd vng vcc vqq vrs vct vun vre vks vms vcs ves vdg vog) H → va_D A (mw cI cJ cZ am ak an ac ae ag aq vth vmo vfg vtp vkd vng vcc vqq vrs vct vun vre vks vms vcs ves vdg vog) → va_S A s.heap H locs → ∀ ls : Array Slot, lv_has ls 8 [(1, .int p0), (2, .int p1), (3, .int p2), (4, .int n101), (5, .int n102), (6, .int n103)] → W p l e rm_X4_ten s m args below meth c H locs 0 0 Q (F0 m 52 ls [.int (bI z114), .int (z106 + z110)])) := by
        intro z114 ez114 H locs hP hD hS ls hl
        have hu := hu _ ez114
        refine lv_iadd hx hb dX4_ten_52 ?_
        refine lv_topi (fun n116 en116 => ?_)
        have hu := hu _ en116
        refine lv_istore (lv' := [(7, .int n116), (1, .int p0), (2, .int p1), (3, .int p2), (4, .int n101), (5, .int n102), (6, .int n103)]) hx hb dX4_ten_53 hl (by decide) rfl (fun ls hl => ?_)
        refine lv_iload hx hb dX4_ten_55 (lv_at hl 0 rfl) ?_
        by_cases c_117 : n116 = 0
        · rw [if_pos c_117] at hu
          refine lv_tableIn (tgt := 100) hx hb dX4_ten_57 (by rw [c_117]; decide) (by rw [c_117]; decide) (by rw [c_117]; rfl) (by decide) ?_
          refine lv_iload hx hb dX4_ten_100 (lv_at hl 4 rfl) ?_
          refine lv_bipush (v := 7) hx hb dX4_ten_102 (by decide) ?_
          refine x_ishl hx hb dX4_ten_104 ?_
          refine lv_iload hx hb dX4_ten_105 (lv_at hl 5 rfl) ?_
          refine lv_iconst (v := 4) hx hb dX4_ten_107 (by decide) ?_
          refine x_ishl hx hb dX4_ten_108 ?_
          refine lv_ior hx hb dX4_ten_109 ?_
          refine lv_iload hx hb dX4_ten_110 (lv_at hl 6 rfl) ?_
          refine lv_ior hx hb dX4_ten_112 ?_
          have e9 := Eq.symm hu; subst e9
          exact x_iret hx hb hr hlocks hQ hK hP hD hS rfl rfl dX4_ten_113
        rw [if_neg c_117] at hu
        by_cases c_118 : n116 = 1
        · rw [if_pos c_118] at hu
          refine lv_tableIn (tgt := 114) hx hb dX4_ten_57 (by rw [c_118]; decide) (by rw [c_118]; decide) (by rw [c_118]; rfl) (by decide) ?_
          refine lv_iload hx hb dX4_ten_114 (lv_at hl 4 rfl) ?_
          refine lv_bipush (v := 7) hx hb dX4_ten_116 (by decide) ?_
          refine x_ishl hx hb dX4_ten_118 ?_
          refine lv_iload hx hb dX4_ten_119 (lv_at hl 5 rfl) ?_
          refine lv_iconst (v := 4) hx hb dX4_ten_121 (by decide) ?_
          refine x_ishl hx hb dX4_ten_122 ?_
          refine lv_ior hx hb dX4_ten_123 ?_
          refine lv_bipush (v := 8) hx hb dX4_ten_124 (by decide) ?_
          refine lv_ior hx hb dX4_ten_126 ?_
          refine lv_iload_n hx hb dX4_ten_127 rfl (lv_at hl 3 rfl) ?_
          refine lv_iconst (v := 1) hx hb dX4_ten_128 (by decide) ?_
          refine lv_iand hx hb dX4_ten_129 ?_
          refine lv_ior hx hb dX4_ten_130 ?_
          have e9 := Eq.symm hu; subst e9
          exact x_iret hx hb hr hlocks hQ hK hP hD hS rfl rfl dX4_ten_131
        rw [if_neg c_118] at hu
        by_cases c_119 : n116 = 2
        · rw [if_pos c_119] at hu
          refine lv_tableIn (tgt := 132) hx hb dX4_ten_57 (by rw [c_119]; decide) (by rw [c_119]; decide) (by rw [c_119]; rfl) (by decide) ?_
          refine lv_iload hx hb dX4_ten_132 (lv_at hl 4 rfl) ?_
          refine lv_bipush (v := 7) hx hb dX4_ten_134 (by decide) ?_
          refine x_ishl hx hb dX4_ten_136 ?_
          refine lv_iload hx hb dX4_ten_137 (lv_at hl 6 rfl) ?_
          refine lv_iconst (v := 1) hx hb dX4_ten_139 (by decide) ?_
          refine x_ishr hx hb dX4_ten_140 ?_
          refine lv_iconst (v := 5) hx hb dX4_ten_141 (by decide) ?_
          refine x_ishl hx hb dX4_ten_142 ?_
          refine lv_ior hx hb dX4_ten_143 ?_
          refine lv_iload_n hx hb dX4_ten_144 rfl (lv_at hl 2 rfl) ?_
          refine lv_iconst (v := 1) hx hb dX4_ten_145 (by decide) ?_
          refine lv_iand hx hb dX4_ten_146 ?_
          refine lv_iconst (v := 4) hx hb dX4_ten_147 (by decide) ?_
          refine x_ishl hx hb dX4_ten_148 ?_
          refine lv_ior hx hb dX4_ten_149 ?_
          refine lv_bipush (v := 10) hx hb dX4_ten_150 (by decide) ?_
          refine lv_ior hx hb dX4_ten_152 ?_
          refine lv_iload hx hb dX4_ten_153 (lv_at hl 6 rfl) ?_
          refine lv_iconst (v := 1) hx hb dX4_ten_155 (by decide) ?_
          refine lv_iand hx hb dX4_ten_156 ?_
          refine lv_ior hx hb dX4_ten_157 ?_
          have e9 := Eq.symm hu; subst e9
          exact x_iret hx hb hr hlocks hQ hK hP hD hS rfl rfl dX4_ten_158
        rw [if_neg c_119] at hu
        by_cases c_120 : n116 = 3
        · rw [if_pos c_120] at hu
          refine lv_tableIn (tgt := 248) hx hb dX4_ten_57 (by rw [c_120]; decide) (by rw [c_120]; decide) (by rw [c_120]; rfl) (by decide) ?_
          refine lv_iload hx hb dX4_ten_248 (lv_at hl 4 rfl) ?_
          refine lv_bipush (v := 7) hx hb dX4_ten_250 (by decide) ?_
          refine x_ishl hx hb dX4_ten_252 ?_
          refine lv_bipush (v := 64) hx hb dX4_ten_253 (by decide) ?_
          refine lv_ior hx hb dX4_ten_255 ?_
          refine lv_iload_n hx hb dX4_ten_256 rfl (lv_at hl 2 rfl) ?_
          refine lv_iconst (v := 1) hx hb dX4_ten_257 (by decide) ?_
          refine lv_iand hx hb dX4_ten_258 ?_
          refine lv_iconst (v := 4) hx hb dX4_ten_259 (by decide) ?_
          refine x_ishl hx hb dX4_ten_260 ?_
          refine lv_ior hx hb dX4_ten_261 ?_
          refine lv_bipush (v := 14) hx hb dX4_ten_262 (by decide) ?_
          refine lv_ior hx hb dX4_ten_264 ?_
          refine lv_iload_n hx hb dX4_ten_265 rfl (lv_at hl 3 rfl) ?_
          refine lv_iconst (v := 1) hx hb dX4_ten_266 (by decide) ?_
          refine lv_iand hx hb dX4_ten_267 ?_
          refine lv_ior hx hb dX4_ten_268 ?_
          have e9 := Eq.symm hu; subst e9
          exact x_iret hx hb hr hlocks hQ hK hP hD hS rfl rfl dX4_ten_269
        rw [if_neg c_120] at hu
        by_cases c_121 : n116 = 4
        · rw [if_pos c_121] at hu
          refine lv_tableIn (tgt := 159) hx hb dX4_ten_57 (by rw [c_121]; decide) (by rw [c_121]; decide) (by rw [c_121]; rfl) (by decide) ?_
          refine lv_iload hx hb dX4_ten_159 (lv_at hl 6 rfl) ?_
          refine lv_iconst (v := 1) hx hb dX4_ten_161 (by decide) ?_
          refine x_ishr hx hb dX4_ten_162 ?_
          refine lv_bipush (v := 8) hx hb dX4_ten_163 (by decide) ?_
          refine x_ishl hx hb dX4_ten_165 ?_
          refine lv_iload_n hx hb dX4_ten_166 rfl (lv_at hl 1 rfl) ?_
          refine lv_iconst (v := 1) hx hb dX4_ten_167 (by decide) ?_
          refine lv_iand hx hb dX4_ten_168 ?_
          refine lv_bipush (v := 7) hx hb dX4_ten_169 (by decide) ?_
          refine x_ishl hx hb dX4_ten_171 ?_
          refine lv_ior hx hb dX4_ten_172 ?_
          refine lv_iload hx hb dX4_ten_173 (lv_at hl 5 rfl) ?_
          refine lv_iconst (v := 4) hx hb dX4_ten_175 (by decide) ?_
          refine x_ishl hx hb dX4_ten_176 ?_
          refine lv_ior hx hb dX4_ten_177 ?_
          refine lv_bipush (v := 12) hx hb dX4_ten_178 (by decide) ?_
          refine lv_ior hx hb dX4_ten_180 ?_
          refine lv_iload hx hb dX4_ten_181 (lv_at hl 6 rfl) ?_
          refine lv_iconst (v := 1) hx hb dX4_ten_183 (by decide) ?_
          refine lv_iand hx hb dX4_ten_184 ?_
          refine lv_ior hx hb dX4_ten_185 ?_
          have e9 := Eq.symm hu; subst e9
          exact x_iret hx hb hr hlocks hQ hK hP hD hS rfl rfl dX4_ten_186
        rw [if_neg c_121] at hu
        by_cases c_122 : n116 = 5
        · rw [if_pos c_122] at hu
          refine lv_tableIn (tgt := 216) hx hb dX4_ten_57 (by rw [c_122]; decide) (by rw [c_122]; decide) (by rw [c_122]; rfl) (by decide) ?_
          refine lv_iload hx hb dX4_ten_216 (lv_at hl 5 rfl) ?_
          refine lv_iconst (v := 1) hx hb dX4_ten_218 (by decide) ?_
          refine x_ishr hx hb dX4_ten_219 ?_
          refine lv_bipush (v := 8) hx hb dX4_ten_220 (by decide) ?_
          refine x_ishl hx hb dX4_ten_222 ?_
          refine lv_iload_n hx hb dX4_ten_223 rfl (lv_at hl 1 rfl) ?_
          refine lv_iconst (v := 1) hx hb dX4_ten_224 (by decide) ?_
          refine lv_iand hx hb dX4_ten_225 ?_
          refine lv_bipush (v := 7) hx hb dX4_ten_226 (by decide) ?_
          refine x_ishl hx hb dX4_ten_228 ?_
          refine lv_ior hx hb dX4_ten_229 ?_
          refine lv_bipush (v := 32) hx hb dX4_ten_230 (by decide) ?_
          refine lv_ior hx hb dX4_ten_232 ?_
          refine lv_iload hx hb dX4_ten_233 (lv_at hl 5 rfl) ?_
          refine lv_iconst (v := 1) hx hb dX4_ten_235 (by decide) ?_
          refine lv_iand hx hb dX4_ten_236 ?_
          refine lv_iconst (v := 4) hx hb dX4_ten_237 (by decide) ?_
          refine x_ishl hx hb dX4_ten_238 ?_
          refine lv_ior hx hb dX4_ten_239 ?_
          refine lv_bipush (v := 14) hx hb dX4_ten_240 (by decide) ?_
          refine lv_ior hx hb dX4_ten_242 ?_
          refine lv_iload_n hx hb dX4_ten_243 rfl (lv_at hl 3 rfl) ?_
          refine lv_iconst (v := 1) hx hb dX4_ten_244 (by decide) ?_
          refine lv_iand hx hb dX4_ten_245 ?_
          refine lv_ior hx hb dX4_ten_246 ?_
          have e9 := Eq.symm hu; subst e9
          exact x_iret hx hb hr hlocks hQ hK hP hD hS rfl rfl dX4_ten_247
        rw [if_neg c_122] at hu
        by_cases c_123 : n116 = 6
        · rw [if_pos c_123] at hu
          refine lv_tableIn (tgt := 187) hx hb dX4_ten_57 (by rw [c_123]; decide) (by rw [c_123]; decide) (by rw [c_123]; rfl) (by decide) ?_
          refine lv_iload hx hb dX4_ten_187 (lv_at hl 6 rfl) ?_
          refine lv_iconst (v := 1) hx hb dX4_ten_189 (by decide) ?_
          refine x_ishr hx hb dX4_ten_190 ?_
          refine lv_bipush (v := 8) hx hb dX4_ten_191 (by decide) ?_
          refine x_ishl hx hb dX4_ten_193 ?_
          refine lv_iload_n hx hb dX4_ten_194 rfl (lv_at hl 1 rfl) ?_
          refine lv_iconst (v := 1) hx hb dX4_ten_195 (by decide) ?_
          refine lv_iand hx hb dX4_ten_196 ?_
          refine lv_bipush (v := 7) hx hb dX4_ten_197 (by decide) ?_
          refine x_ishl hx hb dX4_ten_199 ?_
          refine lv_ior hx hb dX4_ten_200 ?_
          refine lv_iload_n hx hb dX4_ten_201 rfl (lv_at hl 2 rfl) ?_
          refine lv_iconst (v := 1) hx hb dX4_ten_202 (by decide) ?_
          refine lv_iand hx hb dX4_ten_203 ?_
          refine lv_iconst (v := 4) hx hb dX4_ten_204 (by decide) ?_
          refine x_ishl hx hb dX4_ten_205 ?_
          refine lv_ior hx hb dX4_ten_206 ?_
          refine lv_bipush (v := 14) hx hb dX4_ten_207 (by decide) ?_
          refine lv_ior hx hb dX4_ten_209 ?_
          refine lv_iload hx hb dX4_ten_210 (lv_at hl 6 rfl) ?_
          refine lv_iconst (v := 1) hx hb dX4_ten_212 (by decide) ?_
          refine lv_iand hx hb dX4_ten_213 ?_
          refine lv_ior hx hb dX4_ten_214 ?_
          have e9 := Eq.symm hu; subst e9
          exact x_iret hx hb hr hlocks hQ hK hP hD hS rfl rfl dX4_ten_215
        rw [if_neg c_123] at hu
        refine lv_tableOut (tgt := 270) hx hb dX4_ten_57 (by have kc_117 := lv_neT c_117 (a := 0) (by decide); have kc_118 := lv_neT c_118 (a := 1) (by decide); have kc_119 := lv_neT c_119 (a := 2) (by decide); have kc_120 := lv_neT c_120 (a := 3) (by decide); have kc_121 := lv_neT c_121 (a := 4) (by decide); have kc_122 := lv_neT c_122 (a := 5) (by decide); have kc_123 := lv_neT c_123 (a := 6) (by decide); omega) (by decide) ?_
        refine lv_iload_n hx hb dX4_ten_270 rfl (lv_at hl 1 rfl) ?_
        refine lv_iconst (v := 1) hx hb dX4_ten_271 (by decide) ?_
        refine lv_iand hx hb dX4_ten_272 ?_
        refine lv_bipush (v := 7) hx hb dX4_ten_273 (by decide) ?_
        refine x_ishl hx hb dX4_ten_275 ?_
        refine lv_bipush (v := 96) hx hb dX4_ten_276 (by decide) ?_
        refine lv_ior hx hb dX4_ten_278 ?_
        refine lv_iload_n hx hb dX4_ten_279 rfl (lv_at hl 2 rfl) ?_
        refine lv_iconst (v := 1) hx hb dX4_ten_280 (by decide) ?_
        refine lv_iand hx hb dX4_ten_281 ?_
        refine lv_iconst (v := 4) hx hb dX4_ten_282 (by decide) ?_
        refine x_ishl hx hb dX4_ten_283 ?_
        refine lv_ior hx hb dX4_ten_284 ?_
        refine lv_bipush (v := 14) hx hb dX4_ten_285 (by decide) ?_
        refine lv_ior hx hb dX4_ten_287 ?_
        refine lv_iload_n hx hb dX4_ten_288 rfl (lv_at hl 3 rfl) ?_
        refine lv_iconst (v := 1) hx hb dX4_ten_289 (by decide) ?_
        refine lv_iand hx hb dX4_ten_290 ?_
        refine lv_ior hx hb dX4_ten_291 ?_
        have e9 := Eq.symm hu; subst e9
        exact x_iret hx hb hr hlocks hQ hK hP hD hS rfl rfl dX4_ten_292
      obtain ⟨z9, ez9⟩ : ∃ y9 : Bool, y9 = Z_X4_ten_J_115 p2 := ⟨_, rfl⟩
      have hz := rZ_X4_ten_J_115 p2 ez9
      unfold RZ_X4_ten_J_115 at hz
      refine lv_icmp_le (tgt := 51) hx hb dX4_ten_44 (by decide) (fun c_112 => ?_) (fun c_112 => ?_)
      · rw [if_pos c_112] at hz
        refine lv_iconst (v := 0) hx hb dX4_ten_51 (by decide) ?_
        have e9 := Eq.symm hz; subst e9
        exact J_115 _ ez9 H locs hP hD hS ls (lv_sub hl [0, 1, 2, 3, 4, 5] rfl)
      · rw [if_neg c_112] at hz
        refine lv_iconst (v := 1) hx hb dX4_ten_47 (by decide) ?_
        refine lv_goto (tgt := 52) hx hb dX4_ten_48 (by decide) ?_
        have e9 := Eq.symm hz; subst e9
        exact J_115 _ ez9 H locs hP hD hS ls (lv_sub hl [0, 1, 2, 3, 4, 5] rfl)
    obtain ⟨z9, ez9⟩ : ∃ y9 : Int32, y9 = Z_X4_ten_J_111 p1 := ⟨_, rfl⟩
    have hz := rZ_X4_ten_J_111 p1 ez9
    unfold RZ_X4_ten_J_111 at hz
    refine lv_icmp_le (tgt := 39) hx hb dX4_ten_32 (by decide) (fun c_108 => ?_) (fun c_108 => ?_)
    · rw [if_pos c_108] at hz
      refine lv_iconst (v := 0) hx hb dX4_ten_39 (by decide) ?_
      have e9 := Eq.symm hz; subst e9
      exact J_111 _ ez9 H locs hP hD hS ls (lv_sub hl [0, 1, 2, 3, 4, 5] rfl)
    · rw [if_neg c_108] at hz
      refine lv_iconst (v := 2) hx hb dX4_ten_35 (by decide) ?_
      refine lv_goto (tgt := 40) hx hb dX4_ten_36 (by decide) ?_
      have e9 := Eq.symm hz; subst e9
      exact J_111 _ ez9 H locs hP hD hS ls (lv_sub hl [0, 1, 2, 3, 4, 5] rfl)
  obtain ⟨z9, ez9⟩ : ∃ y9 : Int32, y9 = Z_X4_ten_J_107 p0 := ⟨_, rfl⟩
  have hz := rZ_X4_ten_J_107 p0 ez9
  unfold RZ_X4_ten_J_107 at hz
  refine lv_icmp_le (tgt := 28) hx hb dX4_ten_21 (by decide) (fun c_104 => ?_) (fun c_104 => ?_)
  · rw [if_pos c_104] at hz
    refine lv_iconst (v := 0) hx hb dX4_ten_28 (by decide) ?_
    have e9 := Eq.symm hz; subst e9
    exact J_107 _ ez9 H locs hP hD hS ls (lv_sub hl [4, 5, 6, 2, 1, 0] rfl)
  · rw [if_neg c_104] at hz
    refine lv_iconst (v := 4) hx hb dX4_ten_24 (by decide) ?_
    refine lv_goto (tgt := 29) hx hb dX4_ten_25 (by decide) ?_
    have e9 := Eq.symm hz; subst e9
    exact J_107 _ ez9 H locs hP hD hS ls (lv_sub hl [4, 5, 6, 2, 1, 0] rfl)

def Z_X4_three_J_128 (n102 : Int32) (n104 : Int32) (n105 : Int32) (n112 : Int32) : Int32 := (if n105 = 1 then (2 * n104) + (n102 &&& 1) else n112)
def RZ_X4_three_J_128 (n102 : Int32) (n104 : Int32) (n105 : Int32) (n112 : Int32) (u9 : Int32) : Prop := (if n105 = 1 then u9 = (2 * n104) + (n102 &&& 1) else u9 = n112)
theorem rZ_X4_three_J_128 (n102 : Int32) (n104 : Int32) (n105 : Int32) (n112 : Int32) {u9 : Int32} (hu : u9 = Z_X4_three_J_128 n102 n104 n105 n112) : RZ_X4_three_J_128 n102 n104 n105 n112 u9 := by
  unfold RZ_X4_three_J_128
  refine ite_P (fun c_125 => ?_) (fun c_125 => ?_)
  · have hu := hu.trans (if_pos c_125)
    exact hu
  · have hu := hu.trans (if_neg c_125)
    exact hu
def Z_X4_three_J_124 (n101 : Int32) (n105 : Int32) (n111 : Int32) : Int32 := (if n105 = 2 then n101 else n111)
def RZ_X4_three_J_124 (n101 : Int32) (n105 : Int32) (n111 : Int32) (u9 : Int32) : Prop := (if n105 = 2 then u9 = n101 else u9 = n111)
theorem rZ_X4_three_J_124 (n101 : Int32) (n105 : Int32) (n111 : Int32) {u9 : Int32} (hu : u9 = Z_X4_three_J_124 n101 n105 n111) : RZ_X4_three_J_124 n101 n105 n111 u9 := by
  unfold RZ_X4_three_J_124
  refine ite_P (fun c_121 => ?_) (fun c_121 => ?_)
  · have hu := hu.trans (if_pos c_121)
    exact hu
  · have hu := hu.trans (if_neg c_121)
    exact hu
def Z_X4_three_J_120 (n104 : Int32) (n105 : Int32) (n106 : Int32) : Int32 := (if n105 = 0 then (2 * n104) + n106 else 8 + n106)
def RZ_X4_three_J_120 (n104 : Int32) (n105 : Int32) (n106 : Int32) (u9 : Int32) : Prop := (if n105 = 0 then u9 = (2 * n104) + n106 else u9 = 8 + n106)
theorem rZ_X4_three_J_120 (n104 : Int32) (n105 : Int32) (n106 : Int32) {u9 : Int32} (hu : u9 = Z_X4_three_J_120 n104 n105 n106) : RZ_X4_three_J_120 n104 n105 n106 u9 := by
  unfold RZ_X4_three_J_120
  refine ite_P (fun c_117 => ?_) (fun c_117 => ?_)
  · have hu := hu.trans (if_pos c_117)
    exact hu
  · have hu := hu.trans (if_neg c_117)
    exact hu
def Z_X4_three_J_134 (n101 : Int32) (n102 : Int32) (n103 : Int32) (n104 : Int32) (n105 : Int32) (n106 : Int32) (z109 : Int32) (n111 : Int32) (n112 : Int32) : Int32 × Int32 × Int32 := (if z109 = 1 then (bnd (8 + n106) (fun n131 : Int32 => (n101, n102, n131))) else (if z109 = 2 then (bnd ((2 * n105) + n106) (fun n130 : Int32 => (n101, n112, n130))) else (if z109 = 3 then (bnd ((2 * n104) + n106) (fun n129 : Int32 => (n111, n102, n129))) else (if z109 = 4 then (bnd (Z_X4_three_J_120 n104 n105 n106) (fun z119 : Int32 => (bnd (Z_X4_three_J_124 n101 n105 n111) (fun z123 : Int32 => (bnd (Z_X4_three_J_128 n102 n104 n105 n112) (fun z127 : Int32 => (z123, z127, z119))))))) else (n101, n102, n103)))))
def RZ_X4_three_J_134 (n101 : Int32) (n102 : Int32) (n103 : Int32) (n104 : Int32) (n105 : Int32) (n106 : Int32) (z109 : Int32) (n111 : Int32) (n112 : Int32) (u9 : Int32 × Int32 × Int32) : Prop := (if z109 = 1 then (∀ n131 : Int32, n131 = 8 + n106 → u9 = (n101, n102, n131)) else (if z109 = 2 then (∀ n130 : Int32, n130 = (2 * n105) + n106 → u9 = (n101, n112, n130)) else (if z109 = 3 then (∀ n129 : Int32, n129 = (2 * n104) + n106 → u9 = (n111, n102, n129)) else (if z109 = 4 then (∀ z119 : Int32, z119 = Z_X4_three_J_120 n104 n105 n106 → (∀ z123 : Int32, z123 = Z_X4_three_J_124 n101 n105 n111 → (∀ z127 : Int32, z127 = Z_X4_three_J_128 n102 n104 n105 n112 → u9 = (z123, z127, z119)))) else u9 = (n101, n102, n103)))))
theorem rZ_X4_three_J_134 (n101 : Int32) (n102 : Int32) (n103 : Int32) (n104 : Int32) (n105 : Int32) (n106 : Int32) (z109 : Int32) (n111 : Int32) (n112 : Int32) {u9 : Int32 × Int32 × Int32} (hu : u9 = Z_X4_three_J_134 n101 n102 n103 n104 n105 n106 z109 n111 n112) : RZ_X4_three_J_134 n101 n102 n103 n104 n105 n106 z109 n111 n112 u9 := by
  unfold RZ_X4_three_J_134
  refine ite_P (fun c_113 => ?_) (fun c_113 => ?_)
  · have hu := hu.trans (if_pos c_113)
    intro n131 en131
    have hu := bnd_n hu en131
    exact hu
  · have hu := hu.trans (if_neg c_113)
    refine ite_P (fun c_114 => ?_) (fun c_114 => ?_)
    · have hu := hu.trans (if_pos c_114)
      intro n130 en130
      have hu := bnd_n hu en130
      exact hu
    · have hu := hu.trans (if_neg c_114)
      refine ite_P (fun c_115 => ?_) (fun c_115 => ?_)
      · have hu := hu.trans (if_pos c_115)
        intro n129 en129
        have hu := bnd_n hu en129
        exact hu
      · have hu := hu.trans (if_neg c_115)
        refine ite_P (fun c_116 => ?_) (fun c_116 => ?_)
        · have hu := hu.trans (if_pos c_116)
          intro z119 ez119
          have hu := bnd_n hu ez119
          intro z123 ez123
          have hu := bnd_n hu ez123
          intro z127 ez127
          have hu := bnd_n hu ez127
          exact hu
        · have hu := hu.trans (if_neg c_116)
          exact hu
def Z_X4_three_J_110 (p0 : Int32) : Int32 := (if (jshr p0 3) &&& 1 = 0 then 0 else 1 + ((jshr p0 1) &&& 3))
def RZ_X4_three_J_110 (p0 : Int32) (u9 : Int32) : Prop := (if (jshr p0 3) &&& 1 = 0 then u9 = 0 else u9 = 1 + ((jshr p0 1) &&& 3))
theorem rZ_X4_three_J_110 (p0 : Int32) {u9 : Int32} (hu : u9 = Z_X4_three_J_110 p0) : RZ_X4_three_J_110 p0 u9 := by
  unfold RZ_X4_three_J_110
  refine ite_P (fun c_107 => ?_) (fun c_107 => ?_)
  · have hu := hu.trans (if_pos c_107)
    exact hu
  · have hu := hu.trans (if_neg c_107)
    exact hu
def F_X4_three  (p0 : Int32) : Int32 := (bnd ((jshr p0 7) &&& 7) (fun n101 : Int32 => (bnd ((jshr p0 4) &&& 7) (fun n102 : Int32 => (bnd (p0 &&& 7) (fun n103 : Int32 => (bnd ((jshr p0 8) &&& 3) (fun n104 : Int32 => (bnd ((jshr p0 5) &&& 3) (fun n105 : Int32 => (bnd (p0 &&& 1) (fun n106 : Int32 => (bnd (Z_X4_three_J_110 p0) (fun z109 : Int32 => (bnd (8 + (n101 &&& 1)) (fun n111 : Int32 => (bnd (8 + (n102 &&& 1)) (fun n112 : Int32 => (bnd (Z_X4_three_J_134 n101 n102 n103 n104 n105 n106 z109 n111 n112) (fun z133 : Int32 × Int32 × Int32 => ((100 * z133.1) + (10 * z133.2.1)) + z133.2.2))))))))))))))))))))
def RF_X4_three  (p0 : Int32) (u9 : Int32) : Prop := (∀ n101 : Int32, n101 = (jshr p0 7) &&& 7 → (∀ n102 : Int32, n102 = (jshr p0 4) &&& 7 → (∀ n103 : Int32, n103 = p0 &&& 7 → (∀ n104 : Int32, n104 = (jshr p0 8) &&& 3 → (∀ n105 : Int32, n105 = (jshr p0 5) &&& 3 → (∀ n106 : Int32, n106 = p0 &&& 1 → (∀ z109 : Int32, z109 = Z_X4_three_J_110 p0 → (∀ n111 : Int32, n111 = 8 + (n101 &&& 1) → (∀ n112 : Int32, n112 = 8 + (n102 &&& 1) → (∀ z133 : Int32 × Int32 × Int32, z133 = Z_X4_three_J_134 n101 n102 n103 n104 n105 n106 z109 n111 n112 → u9 = ((100 * z133.1) + (10 * z133.2.1)) + z133.2.2))))))))))
theorem rF_X4_three  (p0 : Int32) {u9 : Int32} (hu : u9 = F_X4_three p0) : RF_X4_three p0 u9 := by
  unfold RF_X4_three
  intro n101 en101
  have hu := bnd_n hu en101
  intro n102 en102
  have hu := bnd_n hu en102
  intro n103 en103
  have hu := bnd_n hu en103
  intro n104 en104
  have hu := bnd_n hu en104
  intro n105 en105
  have hu := bnd_n hu en105
  intro n106 en106
  have hu := bnd_n hu en106
  intro z109 ez109
  have hu := bnd_n hu ez109
  intro n111 en111
  have hu := bnd_n hu en111
  intro n112 en112
  have hu := bnd_n hu en112
  intro z133 ez133
  have hu := bnd_n hu ez133
  exact hu
def rm_X4_three : Room := { frames := 0, cells := 0, slots := 0, locals := 0 }
set_option maxHeartbeats 4000000 in
set_option maxRecDepth 100000 in
theorem c_X4_three (l : Launch) (D : va_G) (cR cI cJ cZ : ClassId) (t0 : Nat) (am ak an ac ae ag aq : Nat) (vth : Int32) (vmo : Int32) (vfg : Int32) (vtp : Int32) (vkd : Int32) (vng : Bool) (vcc : Int64) (vqq : Int32) (vrs : Int32) (vct : Int32) (vun : Int32) (vre : Bool) (vks : Nat → Int32) (vms : Nat → Bool) (vcs : Nat → Int64) (ves : Nat → Int32) (vdg : Nat → Int32) (vog : Nat → Int32) (p0 : Int32) (u : Int32) (hu : u = F_X4_three p0) : XM l D (xty cR cI cJ cZ) t0 yX4_three cX4_three 11 (some .int) rm_X4_three [.ref am, .int p0] (some (.int u)) (mw cI cJ cZ am ak an ac ae ag aq vth vmo vfg vtp vkd vng vcc vqq vrs vct vun vre vks vms vcs ves vdg vog) (mw cI cJ cZ am ak an ac ae ag aq vth vmo vfg vtp vkd vng vcc vqq vrs vct vun vre vks vms vcs ves vdg vog) := by
  refine XM.of (by decide) (Nat.le_of_ble_eq_true rfl) ?_
  intro p e s m args below meth c A Q F hK hP hD hA hSt hS hQ ls hl
  obtain ⟨hx, hb, hr, hts, hown, hlocks, hml⟩ := F
  have hCF : CallFix p m c cX4_three 11 s args gW RX4 := ⟨hx, hb, hml, hown, hts⟩
  have hu := rF_X4_three p0 hu
  unfold RF_X4_three at hu
  obtain ⟨H, eH⟩ : ∃ y9 : Heap, y9 = s.heap := ⟨_, rfl⟩
  obtain ⟨locs, eL⟩ : ∃ y9 : List Loc, y9 = [] := ⟨_, rfl⟩
  rw [← eL] at hS ⊢
  have hP : va_P D vwCl (mw cI cJ cZ am ak an ac ae ag aq vth vmo vfg vtp vkd vng vcc vqq vrs vct vun vre vks vms vcs ves vdg vog) H := by rw [eH]; exact hP
  have hS : va_S A s.heap H locs := by rw [eH]; exact hS
  suffices goal9 : W p l e rm_X4_three s m args below meth c H locs 0 0 Q (F0 m 0 ls []) from by rw [← eH]; exact goal9
  have hl : lv_has ls 11 [(0, .ref am), (1, .int p0)] := hl
  refine lv_iload_n hx hb dX4_three_0 rfl (lv_at hl 1 rfl) ?_
  refine lv_bipush (v := 7) hx hb dX4_three_1 (by decide) ?_
  refine x_ishr hx hb dX4_three_3 ?_
  refine lv_bipush (v := 7) hx hb dX4_three_4 (by decide) ?_
  refine lv_iand hx hb dX4_three_6 ?_
  refine lv_topi (fun n101 en101 => ?_)
  have hu := hu _ en101
  refine lv_istore_n (lv' := [(2, .int n101), (0, .ref am), (1, .int p0)]) hx hb dX4_three_7 rfl hl (by decide) rfl (fun ls hl => ?_)
  refine lv_iload_n hx hb dX4_three_8 rfl (lv_at hl 2 rfl) ?_
  refine lv_iconst (v := 4) hx hb dX4_three_9 (by decide) ?_
  refine x_ishr hx hb dX4_three_10 ?_
  refine lv_bipush (v := 7) hx hb dX4_three_11 (by decide) ?_
  refine lv_iand hx hb dX4_three_13 ?_
  refine lv_topi (fun n102 en102 => ?_)
  have hu := hu _ en102
  refine lv_istore_n (lv' := [(3, .int n102), (2, .int n101), (0, .ref am), (1, .int p0)]) hx hb dX4_three_14 rfl hl (by decide) rfl (fun ls hl => ?_)
  refine lv_iload_n hx hb dX4_three_15 rfl (lv_at hl 3 rfl) ?_
  refine lv_bipush (v := 7) hx hb dX4_three_16 (by decide) ?_
  refine lv_iand hx hb dX4_three_18 ?_
  refine lv_topi (fun n103 en103 => ?_)
  have hu := hu _ en103
  refine lv_istore (lv' := [(4, .int n103), (3, .int n102), (2, .int n101), (0, .ref am), (1, .int p0)]) hx hb dX4_three_19 hl (by decide) rfl (fun ls hl => ?_)
  refine lv_iload_n hx hb dX4_three_21 rfl (lv_at hl 4 rfl) ?_
  refine lv_bipush (v := 8) hx hb dX4_three_22 (by decide) ?_
  refine x_ishr hx hb dX4_three_24 ?_
  refine lv_iconst (v := 3) hx hb dX4_three_25 (by decide) ?_
  refine lv_iand hx hb dX4_three_26 ?_
  refine lv_topi (fun n104 en104 => ?_)
  have hu := hu _ en104
  refine lv_istore (lv' := [(5, .int n104), (4, .int n103), (3, .int n102), (2, .int n101), (0, .ref am), (1, .int p0)]) hx hb dX4_three_27 hl (by decide) rfl (fun ls hl => ?_)
  refine lv_iload_n hx hb dX4_three_29 rfl (lv_at hl 5 rfl) ?_
  refine lv_iconst (v := 5) hx hb dX4_three_30 (by decide) ?_
  refine x_ishr hx hb dX4_three_31 ?_
  refine lv_iconst (v := 3) hx hb dX4_three_32 (by decide) ?_
  refine lv_iand hx hb dX4_three_33 ?_
  refine lv_topi (fun n105 en105 => ?_)
  have hu := hu _ en105
  refine lv_istore (lv' := [(6, .int n105), (5, .int n104), (4, .int n103), (3, .int n102), (2, .int n101), (0, .ref am), (1, .int p0)]) hx hb dX4_three_34 hl (by decide) rfl (fun ls hl => ?_)
  refine lv_iload_n hx hb dX4_three_36 rfl (lv_at hl 6 rfl) ?_
  refine lv_iconst (v := 1) hx hb dX4_three_37 (by decide) ?_
  refine lv_iand hx hb dX4_three_38 ?_
  refine lv_topi (fun n106 en106 => ?_)
  have hu := hu _ en106
  refine lv_istore (lv' := [(7, .int n106), (6, .int n105), (5, .int n104), (4, .int n103), (3, .int n102), (2, .int n101), (0, .ref am), (1, .int p0)]) hx hb dX4_three_39 hl (by decide) rfl (fun ls hl => ?_)
  refine lv_iload_n hx hb dX4_three_41 rfl (lv_at hl 7 rfl) ?_
  refine lv_iconst (v := 3) hx hb dX4_three_42 (by decide) ?_
  refine x_ishr hx hb dX4_three_43 ?_
  refine lv_iconst (v := 1) hx hb dX4_three_44 (by decide) ?_
  refine lv_iand hx hb dX4_three_45 ?_
  have J_110 : (∀ z109 : Int32, z109 = Z_X4_three_J_110 p0 → ∀ (H : Heap) (locs : List Loc), va_P D vwCl (mw cI cJ cZ am ak an ac ae ag aq vth vmo vfg vtp vkd vng vcc vqq vrs vct vun vre vks vms vcs ves vdg vog) H → va_D A (mw cI cJ cZ am ak an ac ae ag aq vth vmo vfg vtp vkd vng vcc vqq vrs vct vun vre vks vms vcs ves vdg vog) → va_S A s.heap H locs → ∀ ls : Array Slot, lv_has ls 11 [(2, .int n101), (3, .int n102), (4, .int n103), (5, .int n104), (6, .int n105), (7, .int n106)] → W p l e rm_X4_three s m args below meth c H locs 0 0 Q (F0 m 60 ls [.int z109])) := by
    intro z109 ez109 H locs hP hD hS ls hl
    have hu := hu _ ez109
    refine lv_istore (lv' := [(8, .int z109), (2, .int n101), (3, .int n102), (4, .int n103), (5, .int n104), (6, .int n105), (7, .int n106)]) hx hb dX4_three_60 hl (by decide) rfl (fun ls hl => ?_)
    refine lv_bipush (v := 8) hx hb dX4_three_62 (by decide) ?_
    refine lv_iload_n hx hb dX4_three_64 rfl (lv_at hl 1 rfl) ?_
    refine lv_iconst (v := 1) hx hb dX4_three_65 (by decide) ?_
    refine lv_iand hx hb dX4_three_66 ?_
    refine lv_iadd hx hb dX4_three_67 ?_
    refine lv_topi (fun n111 en111 => ?_)
    have hu := hu _ en111
    refine lv_istore (lv' := [(9, .int n111), (8, .int z109), (2, .int n101), (3, .int n102), (4, .int n103), (5, .int n104), (6, .int n105), (7, .int n106)]) hx hb dX4_three_68 hl (by decide) rfl (fun ls hl => ?_)
    refine lv_bipush (v := 8) hx hb dX4_three_70 (by decide) ?_
    refine lv_iload_n hx hb dX4_three_72 rfl (lv_at hl 3 rfl) ?_
    refine lv_iconst (v := 1) hx hb dX4_three_73 (by decide) ?_
    refine lv_iand hx hb dX4_three_74 ?_
    refine lv_iadd hx hb dX4_three_75 ?_
    refine lv_topi (fun n112 en112 => ?_)
    have hu := hu _ en112
    refine lv_istore (lv' := [(10, .int n112), (9, .int n111), (8, .int z109), (2, .int n101), (3, .int n102), (4, .int n103), (5, .int n104), (6, .int n105), (7, .int n106)]) hx hb dX4_three_76 hl (by decide) rfl (fun ls hl => ?_)
    refine lv_iload hx hb dX4_three_78 (lv_at hl 2 rfl) ?_
    refine lv_iconst (v := 1) hx hb dX4_three_80 (by decide) ?_
    have J_134 : (∀ z133 : Int32 × Int32 × Int32, z133 = Z_X4_three_J_134 n101 n102 n103 n104 n105 n106 z109 n111 n112 → ∀ (H : Heap) (locs : List Loc), va_P D vwCl (mw cI cJ cZ am ak an ac ae ag aq vth vmo vfg vtp vkd vng vcc vqq vrs vct vun vre vks vms vcs ves vdg vog) H → va_D A (mw cI cJ cZ am ak an ac ae ag aq vth vmo vfg vtp vkd vng vcc vqq vrs vct vun vre vks vms vcs ves vdg vog) → va_S A s.heap H locs → ∀ ls : Array Slot, lv_has ls 11 [(2, .int z133.1), (3, .int z133.2.1), (4, .int z133.2.2)] → W p l e rm_X4_three s m args below meth c H locs 0 0 Q (F0 m 197 ls [])) := by
      intro z133 ez133 H locs hP hD hS ls hl
      have hu := hu _ ez133
      refine lv_bipush (v := 100) hx hb dX4_three_197 (by decide) ?_
      refine lv_iload_n hx hb dX4_three_199 rfl (lv_at hl 0 rfl) ?_
      refine lv_imul hx hb dX4_three_200 ?_
      refine lv_bipush (v := 10) hx hb dX4_three_201 (by decide) ?_
      refine lv_iload_n hx hb dX4_three_203 rfl (lv_at hl 1 rfl) ?_
      refine lv_imul hx hb dX4_three_204 ?_
      refine lv_iadd hx hb dX4_three_205 ?_
      refine lv_iload hx hb dX4_three_206 (lv_at hl 2 rfl) ?_
      refine lv_iadd hx hb dX4_three_208 ?_
      have e9 := Eq.symm hu; subst e9
      exact x_iret hx hb hr hlocks hQ hK hP hD hS rfl rfl dX4_three_209
    obtain ⟨z9, ez9⟩ : ∃ y9 : Int32 × Int32 × Int32, y9 = Z_X4_three_J_134 n101 n102 n103 n104 n105 n106 z109 n111 n112 := ⟨_, rfl⟩
    have hz := rZ_X4_three_J_134 n101 n102 n103 n104 n105 n106 z109 n111 n112 ez9
    unfold RZ_X4_three_J_134 at hz
    refine lv_icmp_ne (tgt := 94) hx hb dX4_three_81 (by decide) (fun c_113 => ?_) (fun c_113 => ?_)
    · rw [if_neg c_113] at hz
      refine lv_iload hx hb dX4_three_94 (lv_at hl 2 rfl) ?_
      refine lv_iconst (v := 2) hx hb dX4_three_96 (by decide) ?_
      refine lv_icmp_ne (tgt := 115) hx hb dX4_three_97 (by decide) (fun c_114 => ?_) (fun c_114 => ?_)
      · rw [if_neg c_114] at hz
        refine lv_iload hx hb dX4_three_115 (lv_at hl 2 rfl) ?_
        refine lv_iconst (v := 3) hx hb dX4_three_117 (by decide) ?_
        refine lv_icmp_ne (tgt := 136) hx hb dX4_three_118 (by decide) (fun c_115 => ?_) (fun c_115 => ?_)
        · rw [if_neg c_115] at hz
          refine lv_iload hx hb dX4_three_136 (lv_at hl 2 rfl) ?_
          refine lv_iconst (v := 4) hx hb dX4_three_138 (by decide) ?_
          refine lv_icmp_ne (tgt := 197) hx hb dX4_three_139 (by decide) (fun c_116 => ?_) (fun c_116 => ?_)
          · rw [if_neg c_116] at hz
            have e9 := Eq.symm hz; subst e9
            exact J_134 _ ez9 H locs hP hD hS ls (lv_sub hl [3, 4, 5] rfl)
          · rw [if_pos c_116] at hz
            refine lv_iload hx hb dX4_three_142 (lv_at hl 7 rfl) ?_
            have J_120 : (∀ z119 : Int32, z119 = Z_X4_three_J_120 n104 n105 n106 → ∀ (H : Heap) (locs : List Loc), va_P D vwCl (mw cI cJ cZ am ak an ac ae ag aq vth vmo vfg vtp vkd vng vcc vqq vrs vct vun vre vks vms vcs ves vdg vog) H → va_D A (mw cI cJ cZ am ak an ac ae ag aq vth vmo vfg vtp vkd vng vcc vqq vrs vct vun vre vks vms vcs ves vdg vog) → va_S A s.heap H locs → ∀ ls : Array Slot, lv_has ls 11 [(2, .int n101), (3, .int n102), (5, .int n104), (6, .int n105), (9, .int n111), (10, .int n112)] → W p l e rm_X4_three s m args below meth c H locs 0 0 Q (F0 m 162 ls [.int z119])) := by
              intro z119 ez119 H locs hP hD hS ls hl
              have hz := hz _ ez119
              refine lv_istore (lv' := [(4, .int z119), (2, .int n101), (3, .int n102), (5, .int n104), (6, .int n105), (9, .int n111), (10, .int n112)]) hx hb dX4_three_162 hl (by decide) rfl (fun ls hl => ?_)
              refine lv_iload hx hb dX4_three_164 (lv_at hl 4 rfl) ?_
              refine lv_iconst (v := 2) hx hb dX4_three_166 (by decide) ?_
              have J_124 : (∀ z123 : Int32, z123 = Z_X4_three_J_124 n101 n105 n111 → ∀ (H : Heap) (locs : List Loc), va_P D vwCl (mw cI cJ cZ am ak an ac ae ag aq vth vmo vfg vtp vkd vng vcc vqq vrs vct vun vre vks vms vcs ves vdg vog) H → va_D A (mw cI cJ cZ am ak an ac ae ag aq vth vmo vfg vtp vkd vng vcc vqq vrs vct vun vre vks vms vcs ves vdg vog) → va_S A s.heap H locs → ∀ ls : Array Slot, lv_has ls 11 [(3, .int n102), (4, .int z119), (5, .int n104), (6, .int n105), (10, .int n112)] → W p l e rm_X4_three s m args below meth c H locs 0 0 Q (F0 m 176 ls [.int z123])) := by
                intro z123 ez123 H locs hP hD hS ls hl
                have hz := hz _ ez123
                refine lv_istore_n (lv' := [(2, .int z123), (3, .int n102), (4, .int z119), (5, .int n104), (6, .int n105), (10, .int n112)]) hx hb dX4_three_176 rfl hl (by decide) rfl (fun ls hl => ?_)
                refine lv_iload hx hb dX4_three_177 (lv_at hl 4 rfl) ?_
                refine lv_iconst (v := 1) hx hb dX4_three_179 (by decide) ?_
                have J_128 : (∀ z127 : Int32, z127 = Z_X4_three_J_128 n102 n104 n105 n112 → ∀ (H : Heap) (locs : List Loc), va_P D vwCl (mw cI cJ cZ am ak an ac ae ag aq vth vmo vfg vtp vkd vng vcc vqq vrs vct vun vre vks vms vcs ves vdg vog) H → va_D A (mw cI cJ cZ am ak an ac ae ag aq vth vmo vfg vtp vkd vng vcc vqq vrs vct vun vre vks vms vcs ves vdg vog) → va_S A s.heap H locs → ∀ ls : Array Slot, lv_has ls 11 [(2, .int z123), (4, .int z119)] → W p l e rm_X4_three s m args below meth c H locs 0 0 Q (F0 m 196 ls [.int z127])) := by
                  intro z127 ez127 H locs hP hD hS ls hl
                  have hz := hz _ ez127
                  refine lv_istore_n (lv' := [(3, .int z127), (2, .int z123), (4, .int z119)]) hx hb dX4_three_196 rfl hl (by decide) rfl (fun ls hl => ?_)
                  have e9 := Eq.symm hz; subst e9
                  exact J_134 _ ez9 H locs hP hD hS ls (lv_sub hl [1, 0, 2] rfl)
                obtain ⟨z9, ez9⟩ : ∃ y9 : Int32, y9 = Z_X4_three_J_128 n102 n104 n105 n112 := ⟨_, rfl⟩
                have hz := rZ_X4_three_J_128 n102 n104 n105 n112 ez9
                unfold RZ_X4_three_J_128 at hz
                refine lv_icmp_ne (tgt := 194) hx hb dX4_three_180 (by decide) (fun c_125 => ?_) (fun c_125 => ?_)
                · rw [if_neg c_125] at hz
                  refine lv_iload hx hb dX4_three_194 (lv_at hl 5 rfl) ?_
                  have e9 := Eq.symm hz; subst e9
                  exact J_128 _ ez9 H locs hP hD hS ls (lv_sub hl [0, 2] rfl)
                · rw [if_pos c_125] at hz
                  refine lv_iconst (v := 2) hx hb dX4_three_183 (by decide) ?_
                  refine lv_iload hx hb dX4_three_184 (lv_at hl 3 rfl) ?_
                  refine lv_imul hx hb dX4_three_186 ?_
                  refine lv_iload_n hx hb dX4_three_187 rfl (lv_at hl 1 rfl) ?_
                  refine lv_iconst (v := 1) hx hb dX4_three_188 (by decide) ?_
                  refine lv_iand hx hb dX4_three_189 ?_
                  refine lv_iadd hx hb dX4_three_190 ?_
                  refine lv_goto (tgt := 196) hx hb dX4_three_191 (by decide) ?_
                  have e9 := Eq.symm hz; subst e9
                  exact J_128 _ ez9 H locs hP hD hS ls (lv_sub hl [0, 2] rfl)
              obtain ⟨z9, ez9⟩ : ∃ y9 : Int32, y9 = Z_X4_three_J_124 n101 n105 n111 := ⟨_, rfl⟩
              have hz := rZ_X4_three_J_124 n101 n105 n111 ez9
              unfold RZ_X4_three_J_124 at hz
              refine lv_icmp_ne (tgt := 174) hx hb dX4_three_167 (by decide) (fun c_121 => ?_) (fun c_121 => ?_)
              · rw [if_neg c_121] at hz
                refine lv_iload hx hb dX4_three_174 (lv_at hl 5 rfl) ?_
                have e9 := Eq.symm hz; subst e9
                exact J_124 _ ez9 H locs hP hD hS ls (lv_sub hl [2, 0, 3, 4, 6] rfl)
              · rw [if_pos c_121] at hz
                refine lv_iload_n hx hb dX4_three_170 rfl (lv_at hl 1 rfl) ?_
                refine lv_goto (tgt := 176) hx hb dX4_three_171 (by decide) ?_
                have e9 := Eq.symm hz; subst e9
                exact J_124 _ ez9 H locs hP hD hS ls (lv_sub hl [2, 0, 3, 4, 6] rfl)
            obtain ⟨z9, ez9⟩ : ∃ y9 : Int32, y9 = Z_X4_three_J_120 n104 n105 n106 := ⟨_, rfl⟩
            have hz := rZ_X4_three_J_120 n104 n105 n106 ez9
            unfold RZ_X4_three_J_120 at hz
            refine lv_if_ne (tgt := 157) hx hb dX4_three_144 (by decide) (fun c_117 => ?_) (fun c_117 => ?_)
            · rw [if_neg c_117] at hz
              refine lv_bipush (v := 8) hx hb dX4_three_157 (by decide) ?_
              refine lv_iload hx hb dX4_three_159 (lv_at hl 8 rfl) ?_
              refine lv_iadd hx hb dX4_three_161 ?_
              have e9 := Eq.symm hz; subst e9
              exact J_120 _ ez9 H locs hP hD hS ls (lv_sub hl [3, 4, 6, 7, 1, 0] rfl)
            · rw [if_pos c_117] at hz
              refine lv_iconst (v := 2) hx hb dX4_three_147 (by decide) ?_
              refine lv_iload hx hb dX4_three_148 (lv_at hl 6 rfl) ?_
              refine lv_imul hx hb dX4_three_150 ?_
              refine lv_iload hx hb dX4_three_151 (lv_at hl 8 rfl) ?_
              refine lv_iadd hx hb dX4_three_153 ?_
              refine lv_goto (tgt := 162) hx hb dX4_three_154 (by decide) ?_
              have e9 := Eq.symm hz; subst e9
              exact J_120 _ ez9 H locs hP hD hS ls (lv_sub hl [3, 4, 6, 7, 1, 0] rfl)
        · rw [if_pos c_115] at hz
          refine lv_iconst (v := 2) hx hb dX4_three_121 (by decide) ?_
          refine lv_iload hx hb dX4_three_122 (lv_at hl 6 rfl) ?_
          refine lv_imul hx hb dX4_three_124 ?_
          refine lv_iload hx hb dX4_three_125 (lv_at hl 8 rfl) ?_
          refine lv_iadd hx hb dX4_three_127 ?_
          refine lv_topi (fun n129 en129 => ?_)
          have hz := hz _ en129
          refine lv_istore (lv' := [(4, .int n129), (10, .int n112), (9, .int n111), (8, .int z109), (2, .int n101), (3, .int n102), (5, .int n104), (6, .int n105), (7, .int n106)]) hx hb dX4_three_128 hl (by decide) rfl (fun ls hl => ?_)
          refine lv_iload hx hb dX4_three_130 (lv_at hl 2 rfl) ?_
          refine lv_istore_n (lv' := [(2, .int n111), (4, .int n129), (10, .int n112), (9, .int n111), (8, .int z109), (3, .int n102), (5, .int n104), (6, .int n105), (7, .int n106)]) hx hb dX4_three_132 rfl hl (by decide) rfl (fun ls hl => ?_)
          refine lv_goto (tgt := 197) hx hb dX4_three_133 (by decide) ?_
          have e9 := Eq.symm hz; subst e9
          exact J_134 _ ez9 H locs hP hD hS ls (lv_sub hl [0, 5, 1] rfl)
      · rw [if_pos c_114] at hz
        refine lv_iconst (v := 2) hx hb dX4_three_100 (by decide) ?_
        refine lv_iload hx hb dX4_three_101 (lv_at hl 7 rfl) ?_
        refine lv_imul hx hb dX4_three_103 ?_
        refine lv_iload hx hb dX4_three_104 (lv_at hl 8 rfl) ?_
        refine lv_iadd hx hb dX4_three_106 ?_
        refine lv_topi (fun n130 en130 => ?_)
        have hz := hz _ en130
        refine lv_istore (lv' := [(4, .int n130), (10, .int n112), (9, .int n111), (8, .int z109), (2, .int n101), (3, .int n102), (5, .int n104), (6, .int n105), (7, .int n106)]) hx hb dX4_three_107 hl (by decide) rfl (fun ls hl => ?_)
        refine lv_iload hx hb dX4_three_109 (lv_at hl 1 rfl) ?_
        refine lv_istore_n (lv' := [(3, .int n112), (4, .int n130), (10, .int n112), (9, .int n111), (8, .int z109), (2, .int n101), (5, .int n104), (6, .int n105), (7, .int n106)]) hx hb dX4_three_111 rfl hl (by decide) rfl (fun ls hl => ?_)
        refine lv_goto (tgt := 197) hx hb dX4_three_112 (by decide) ?_
        have e9 := Eq.symm hz; subst e9
        exact J_134 _ ez9 H locs hP hD hS ls (lv_sub hl [5, 0, 1] rfl)
    · rw [if_pos c_113] at hz
      refine lv_bipush (v := 8) hx hb dX4_three_84 (by decide) ?_
      refine lv_iload hx hb dX4_three_86 (lv_at hl 8 rfl) ?_
      refine lv_iadd hx hb dX4_three_88 ?_
      refine lv_topi (fun n131 en131 => ?_)
      have hz := hz _ en131
      refine lv_istore (lv' := [(4, .int n131), (10, .int n112), (9, .int n111), (8, .int z109), (2, .int n101), (3, .int n102), (5, .int n104), (6, .int n105), (7, .int n106)]) hx hb dX4_three_89 hl (by decide) rfl (fun ls hl => ?_)
      refine lv_goto (tgt := 197) hx hb dX4_three_91 (by decide) ?_
      have e9 := Eq.symm hz; subst e9
      exact J_134 _ ez9 H locs hP hD hS ls (lv_sub hl [4, 5, 0] rfl)
  obtain ⟨z9, ez9⟩ : ∃ y9 : Int32, y9 = Z_X4_three_J_110 p0 := ⟨_, rfl⟩
  have hz := rZ_X4_three_J_110 p0 ez9
  unfold RZ_X4_three_J_110 at hz
  refine lv_if_ne (tgt := 53) hx hb dX4_three_46 (by decide) (fun c_107 => ?_) (fun c_107 => ?_)
  · rw [if_neg c_107] at hz
    refine lv_iconst (v := 1) hx hb dX4_three_53 (by decide) ?_
    refine lv_iload_n hx hb dX4_three_54 rfl (lv_at hl 7 rfl) ?_
    refine lv_iconst (v := 1) hx hb dX4_three_55 (by decide) ?_
    refine x_ishr hx hb dX4_three_56 ?_
    refine lv_iconst (v := 3) hx hb dX4_three_57 (by decide) ?_
    refine lv_iand hx hb dX4_three_58 ?_
    refine lv_iadd hx hb dX4_three_59 ?_
    have e9 := Eq.symm hz; subst e9
    exact J_110 _ ez9 H locs hP hD hS ls (lv_sub hl [5, 4, 3, 2, 1, 0] rfl)
  · rw [if_pos c_107] at hz
    refine lv_iconst (v := 0) hx hb dX4_three_49 (by decide) ?_
    refine lv_goto (tgt := 60) hx hb dX4_three_50 (by decide) ?_
    have e9 := Eq.symm hz; subst e9
    exact J_110 _ ez9 H locs hP hD hS ls (lv_sub hl [5, 4, 3, 2, 1, 0] rfl)

def B_X4_packDigits_26  (t_26 : Int64 × Int64 × Int32) : Int64 × Int64 × Int32 := (if 5 ≤ t_26.2.2 then t_26 else (bnd ((jremL t_26.1 1000).toInt32) (fun n105 : Int32 => (bnd (t_26.1 / 1000) (fun n106 : Int64 => (bnd (t_26.2.1 ||| (jshlL ((F_X4_ten (n105 / 100) (jrem (n105 / 10) 10) (jrem n105 10)).toInt64) (10 * t_26.2.2))) (fun n108 : Int64 => (bnd (t_26.2.2 + 1) (fun n109 : Int32 => (n106, n108, n109))))))))))
def G_X4_packDigits_26  (t_26 : Int64 × Int64 × Int32) : Bool := (if 5 ≤ t_26.2.2 then false else (bnd ((jremL t_26.1 1000).toInt32) (fun n105 : Int32 => (bnd (t_26.1 / 1000) (fun n106 : Int64 => (bnd (t_26.2.1 ||| (jshlL ((F_X4_ten (n105 / 100) (jrem (n105 / 10) 10) (jrem n105 10)).toInt64) (10 * t_26.2.2))) (fun n108 : Int64 => (bnd (t_26.2.2 + 1) (fun n109 : Int32 => true)))))))))
def RB_X4_packDigits_26  (t_26 : Int64 × Int64 × Int32) (u9 : Int64 × Int64 × Int32) : Prop := (if 5 ≤ t_26.2.2 then True else (∀ n105 : Int32, n105 = (jremL t_26.1 1000).toInt32 → (∀ n106 : Int64, n106 = t_26.1 / 1000 → (∀ n108 : Int64, n108 = t_26.2.1 ||| (jshlL ((F_X4_ten (n105 / 100) (jrem (n105 / 10) 10) (jrem n105 10)).toInt64) (10 * t_26.2.2)) → (∀ n109 : Int32, n109 = t_26.2.2 + 1 → u9 = (n106, n108, n109))))))
def RG_X4_packDigits_26  (t_26 : Int64 × Int64 × Int32) (u9 : Bool) : Prop := (if 5 ≤ t_26.2.2 then u9 = false else u9 = true)
theorem rB_X4_packDigits_26  (t_26 : Int64 × Int64 × Int32) {u9 : Int64 × Int64 × Int32} (hu : u9 = B_X4_packDigits_26  t_26) : RB_X4_packDigits_26  t_26 u9 := by
  unfold RB_X4_packDigits_26
  refine ite_P (fun c_104 => ?_) (fun c_104 => ?_)
  · have hu := hu.trans (if_pos c_104)
    trivial
  · have hu := hu.trans (if_neg c_104)
    intro n105 en105
    have hu := bnd_n hu en105
    intro n106 en106
    have hu := bnd_n hu en106
    intro n108 en108
    have hu := bnd_n hu en108
    intro n109 en109
    have hu := bnd_n hu en109
    exact hu
theorem rG_X4_packDigits_26  (t_26 : Int64 × Int64 × Int32) {u9 : Bool} (hu : u9 = G_X4_packDigits_26  t_26) : RG_X4_packDigits_26  t_26 u9 := by
  unfold RG_X4_packDigits_26
  refine ite_P (fun c_104 => ?_) (fun c_104 => ?_)
  · have hu := hu.trans (if_pos c_104)
    exact hu
  · have hu := hu.trans (if_neg c_104)
    exact hu
def F_X4_packDigits (vcs : Nat → Int64) (ves : Nat → Int32) (p0 : Int32) : Int64 := (bnd (vcs p0.toNatClampNeg) (fun n102 : Int64 => (bnd (((ves p0.toNatClampNeg) - (-398)).toInt64) (fun n103 : Int64 => (bnd (wl (G_X4_packDigits_26) (B_X4_packDigits_26) 901 (n102, 0, 0)) (fun z110 : Int64 × Int64 × Int32 => (bnd (z110.2.1 ||| (jshlL (jremL n103 256) 50)) (fun n115 : Int64 => (if 8 ≤ z110.1 then ((n115 ||| 6917529027641081856) ||| (jshlL (n103 / 256) 59)) ||| (jshlL (z110.1 - 8) 58) else (n115 ||| (jshlL (n103 / 256) 61)) ||| (jshlL z110.1 58))))))))))
def RF_X4_packDigits (vcs : Nat → Int64) (ves : Nat → Int32) (p0 : Int32) (u9 : Int64) : Prop := (∀ n102 : Int64, n102 = vcs p0.toNatClampNeg → (∀ n103 : Int64, n103 = ((ves p0.toNatClampNeg) - (-398)).toInt64 → (∀ z110 : Int64 × Int64 × Int32, z110 = wl (G_X4_packDigits_26) (B_X4_packDigits_26) 901 (n102, 0, 0) → (∀ n115 : Int64, n115 = z110.2.1 ||| (jshlL (jremL n103 256) 50) → (if 8 ≤ z110.1 then u9 = ((n115 ||| 6917529027641081856) ||| (jshlL (n103 / 256) 59)) ||| (jshlL (z110.1 - 8) 58) else u9 = (n115 ||| (jshlL (n103 / 256) 61)) ||| (jshlL z110.1 58))))))
theorem rF_X4_packDigits (vcs : Nat → Int64) (ves : Nat → Int32) (p0 : Int32) {u9 : Int64} (hu : u9 = F_X4_packDigits vcs ves p0) : RF_X4_packDigits vcs ves p0 u9 := by
  unfold RF_X4_packDigits
  intro n102 en102
  have hu := bnd_n hu en102
  intro n103 en103
  have hu := bnd_n hu en103
  intro z110 ez110
  have hu := bnd_n hu ez110
  intro n115 en115
  have hu := bnd_n hu en115
  refine ite_P (fun c_116 => ?_) (fun c_116 => ?_)
  · have hu := hu.trans (if_pos c_116)
    exact hu
  · have hu := hu.trans (if_neg c_116)
    exact hu
def S_X4_packDigits (vcs : Nat → Int64) (ves : Nat → Int32) (p0 : Int32) : Prop := (vp_in p0 8) ∧ (∀ n102 : Int64, n102 = vcs p0.toNatClampNeg → (∀ n103 : Int64, n103 = ((ves p0.toNatClampNeg) - (-398)).toInt64 → G_X4_packDigits_26  (wl (G_X4_packDigits_26) (B_X4_packDigits_26) 901 (n102, 0, 0)) = false))
def rm_X4_packDigits : Room := { frames := 1, cells := 0, slots := 0, locals := 27 }
set_option maxHeartbeats 4000000 in
set_option maxRecDepth 100000 in
theorem c_X4_packDigits (l : Launch) (D : va_G) (cR cI cJ cZ : ClassId) (t0 : Nat) (am ak an ac ae ag aq : Nat) (vth : Int32) (vmo : Int32) (vfg : Int32) (vtp : Int32) (vkd : Int32) (vng : Bool) (vcc : Int64) (vqq : Int32) (vrs : Int32) (vct : Int32) (vun : Int32) (vre : Bool) (vks : Nat → Int32) (vms : Nat → Bool) (vcs : Nat → Int64) (ves : Nat → Int32) (vdg : Nat → Int32) (vog : Nat → Int32) (p0 : Int32) (u : Int64) (hu : u = F_X4_packDigits vcs ves p0) (hs : S_X4_packDigits vcs ves p0) : XM l D (xty cR cI cJ cZ) t0 yX4_packDigits cX4_packDigits 10 (some .long) rm_X4_packDigits [.ref am, .int p0] (some (.long u)) (mw cI cJ cZ am ak an ac ae ag aq vth vmo vfg vtp vkd vng vcc vqq vrs vct vun vre vks vms vcs ves vdg vog) (mw cI cJ cZ am ak an ac ae ag aq vth vmo vfg vtp vkd vng vcc vqq vrs vct vun vre vks vms vcs ves vdg vog) := by
  refine XM.of (by decide) (Nat.le_of_ble_eq_true rfl) ?_
  intro p e s m args below meth c A Q F hK hP hD hA hSt hS hQ ls hl
  obtain ⟨hx, hb, hr, hts, hown, hlocks, hml⟩ := F
  have hCF : CallFix p m c cX4_packDigits 10 s args gW RX4 := ⟨hx, hb, hml, hown, hts⟩
  unfold S_X4_packDigits at hs
  have hu := rF_X4_packDigits vcs ves p0 hu
  unfold RF_X4_packDigits at hu
  obtain ⟨H, eH⟩ : ∃ y9 : Heap, y9 = s.heap := ⟨_, rfl⟩
  obtain ⟨locs, eL⟩ : ∃ y9 : List Loc, y9 = [] := ⟨_, rfl⟩
  rw [← eL] at hS ⊢
  have hP : va_P D vwCl (mw cI cJ cZ am ak an ac ae ag aq vth vmo vfg vtp vkd vng vcc vqq vrs vct vun vre vks vms vcs ves vdg vog) H := by rw [eH]; exact hP
  have hS : va_S A s.heap H locs := by rw [eH]; exact hS
  suffices goal9 : W p l e rm_X4_packDigits s m args below meth c H locs 0 0 Q (F0 m 0 ls []) from by rw [← eH]; exact goal9
  have hl : lv_has ls 10 [(0, .ref am), (1, .int p0)] := hl
  have hi4 : ∀ w ∈ wsX40, w ∈ gW := inW_X4
  refine lv_aload_n hx hb dX4_packDigits_0 rfl (lv_at hl 0 rfl) ?_
  refine va_get (D := D) (ci := 5) (v := .ref ac) (C := RX4) (T := TX4) (N := 18) hx hb hts hi4 hown hK hP 0 rfl rfl 3 (by decide) (hts (.fieldLink RX4 17 "DecimalWordsModel" "coefficients" "[J") (inW_8 _ (List.mem_of_getElem? (i := 33) rfl))) (fun _ h9 => h9) rfl dX4_packDigits_1 ?_
  refine lv_iload_n hx hb dX4_packDigits_4 rfl (lv_at hl 1 rfl) ?_
  obtain ⟨h_101, hs⟩ := hs
  refine va_lald hx hb hK hP 3 2 rfl rfl h_101 dX4_packDigits_5 ?_
  refine lv_topl (fun n102 en102 => ?_)
  have hs := hs _ en102
  have hu := hu _ en102
  refine lv_lstore_n (lv' := [(2, .long n102), (0, .ref am), (1, .int p0)]) hx hb dX4_packDigits_6 rfl hl (by decide) rfl (fun ls hl => ?_)
  refine lv_aload_n hx hb dX4_packDigits_7 rfl (lv_at hl 1 rfl) ?_
  refine va_get (D := D) (ci := 5) (v := .ref ae) (C := RX4) (T := TX4) (N := 18) hx hb hts hi4 hown hK hP 0 rfl rfl 4 (by decide) (hts (.fieldLink RX4 21 "DecimalWordsModel" "exponents" "[I") (inW_8 _ (List.mem_of_getElem? (i := 34) rfl))) (fun _ h9 => h9) rfl dX4_packDigits_8 ?_
  refine lv_iload_n hx hb dX4_packDigits_11 rfl (lv_at hl 2 rfl) ?_
  refine va_iald hx hb hK hP 4 1 rfl rfl h_101 dX4_packDigits_12 ?_
  refine lv_sipush (v := (-398)) hx hb dX4_packDigits_13 (by decide) ?_
  refine lv_isub hx hb dX4_packDigits_16 ?_
  refine x_i2l hx hb dX4_packDigits_17 ?_
  refine lv_topl (fun n103 en103 => ?_)
  have hs := hs _ en103
  have hu := hu _ en103
  refine lv_lstore (lv' := [(4, .long n103), (2, .long n102), (0, .ref am), (1, .int p0)]) hx hb dX4_packDigits_18 hl (by decide) rfl (fun ls hl => ?_)
  refine lv_lconst (v := 0) hx hb dX4_packDigits_20 (by decide) ?_
  refine lv_lstore (lv' := [(6, .long 0), (4, .long n103), (2, .long n102), (0, .ref am), (1, .int p0)]) hx hb dX4_packDigits_21 hl (by decide) rfl (fun ls hl => ?_)
  refine lv_iconst (v := 0) hx hb dX4_packDigits_23 (by decide) ?_
  refine lv_istore (lv' := [(8, .int 0), (6, .long 0), (4, .long n103), (2, .long n102), (0, .ref am), (1, .int p0)]) hx hb dX4_packDigits_24 hl (by decide) rfl (fun ls hl => ?_)
  have L_117 : ∀ (n9 : Nat) (t_26 : Int64 × Int64 × Int32), (∀ j : Nat, j < n9 → G_X4_packDigits_26  (itn (B_X4_packDigits_26) j t_26) = true) → (∀ (H : Heap) (locs : List Loc), va_P D vwCl (mw cI cJ cZ am ak an ac ae ag aq vth vmo vfg vtp vkd vng vcc vqq vrs vct vun vre vks vms vcs ves vdg vog) H → va_D A (mw cI cJ cZ am ak an ac ae ag aq vth vmo vfg vtp vkd vng vcc vqq vrs vct vun vre vks vms vcs ves vdg vog) → va_S A s.heap H locs → ∀ ls : Array Slot, lv_has ls 10 [(0, .ref am), (2, .long ((itn (B_X4_packDigits_26) n9 t_26).1)), (4, .long n103), (6, .long ((itn (B_X4_packDigits_26) n9 t_26).2.1)), (8, .int ((itn (B_X4_packDigits_26) n9 t_26).2.2))] → W p l e rm_X4_packDigits s m args below meth c H locs 0 0 Q (F0 m 26 ls [])) → ∀ (H : Heap) (locs : List Loc), va_P D vwCl (mw cI cJ cZ am ak an ac ae ag aq vth vmo vfg vtp vkd vng vcc vqq vrs vct vun vre vks vms vcs ves vdg vog) H → va_D A (mw cI cJ cZ am ak an ac ae ag aq vth vmo vfg vtp vkd vng vcc vqq vrs vct vun vre vks vms vcs ves vdg vog) → va_S A s.heap H locs → ∀ ls : Array Slot, lv_has ls 10 [(0, .ref am), (2, .long t_26.1), (4, .long n103), (6, .long t_26.2.1), (8, .int t_26.2.2)] → W p l e rm_X4_packDigits s m args below meth c H locs 0 0 Q (F0 m 26 ls []) := by
    intro n9
    induction n9 with
    | zero => exact fun _ _ k9 => k9
    | succ n9 ih9 =>
      intro t_26 hG9 k9 H locs hP hD hS ls hl
      have hG0 : G_X4_packDigits_26  t_26 = true := hG9 0 (Nat.succ_pos n9)
      have hg := rG_X4_packDigits_26  t_26 (Eq.symm hG0)
      unfold RG_X4_packDigits_26 at hg
      obtain ⟨t9, et9⟩ : ∃ y9 : Int64 × Int64 × Int32, y9 = (B_X4_packDigits_26) t_26 := ⟨_, rfl⟩
      have hb9 := rB_X4_packDigits_26  t_26 et9
      unfold RB_X4_packDigits_26 at hb9
      refine lv_iload hx hb dX4_packDigits_26 (lv_at hl 4 rfl) ?_
      refine lv_iconst (v := 5) hx hb dX4_packDigits_28 (by decide) ?_
      refine lv_icmp_ge (tgt := 86) hx hb dX4_packDigits_29 (by decide) (fun c_104 => ?_) (fun c_104 => ?_)
      · rw [if_pos c_104] at hg
        exact absurd hg (by decide)
      · rw [if_neg c_104] at hg
        rw [if_neg c_104] at hb9
        refine lv_lload_n hx hb dX4_packDigits_32 rfl (lv_at hl 1 rfl) ?_
        refine lv_ldc2 (v := 1000) hx hb hown (hts (.constantLong RX4 184 (1000)) (inW_12 _ (List.mem_of_getElem? (i := 22) rfl))) dX4_packDigits_33 ?_
        refine x_lrem hx hb dX4_packDigits_36 (by decide) ?_
        refine x_l2i hx hb dX4_packDigits_37 ?_
        refine lv_topi (fun n105 en105 => ?_)
        have hb9 := hb9 _ en105
        refine lv_istore (lv' := [(9, .int n105), (0, .ref am), (2, .long t_26.1), (4, .long n103), (6, .long t_26.2.1), (8, .int t_26.2.2)]) hx hb dX4_packDigits_38 hl (by decide) rfl (fun ls hl => ?_)
        refine lv_lload_n hx hb dX4_packDigits_40 rfl (lv_at hl 2 rfl) ?_
        refine lv_ldc2 (v := 1000) hx hb hown (hts (.constantLong RX4 184 (1000)) (inW_12 _ (List.mem_of_getElem? (i := 22) rfl))) dX4_packDigits_41 ?_
        refine lv_ldiv hx hb dX4_packDigits_44 (by decide) ?_
        refine lv_topl (fun n106 en106 => ?_)
        have hb9 := hb9 _ en106
        refine lv_lstore_n (lv' := [(2, .long n106), (9, .int n105), (0, .ref am), (4, .long n103), (6, .long t_26.2.1), (8, .int t_26.2.2)]) hx hb dX4_packDigits_45 rfl hl (by decide) rfl (fun ls hl => ?_)
        refine lv_lload hx hb dX4_packDigits_46 (lv_at hl 4 rfl) ?_
        refine lv_aload_n hx hb dX4_packDigits_48 rfl (lv_at hl 2 rfl) ?_
        refine lv_iload hx hb dX4_packDigits_49 (lv_at hl 1 rfl) ?_
        refine lv_bipush (v := 100) hx hb dX4_packDigits_51 (by decide) ?_
        refine lv_idiv hx hb dX4_packDigits_53 (by decide) ?_
        refine lv_iload hx hb dX4_packDigits_54 (lv_at hl 1 rfl) ?_
        refine lv_bipush (v := 10) hx hb dX4_packDigits_56 (by decide) ?_
        refine lv_idiv hx hb dX4_packDigits_58 (by decide) ?_
        refine lv_bipush (v := 10) hx hb dX4_packDigits_59 (by decide) ?_
        refine x_irem hx hb dX4_packDigits_61 (by decide) ?_
        refine lv_iload hx hb dX4_packDigits_62 (lv_at hl 1 rfl) ?_
        refine lv_bipush (v := 10) hx hb dX4_packDigits_64 (by decide) ?_
        refine x_irem hx hb dX4_packDigits_66 (by decide) ?_
        refine x_V (As := [.int (n105 / 100), .int (jrem (n105 / 10) 10), .int (jrem n105 10)]) (rest := [.long t_26.2.1]) hCF (c_X4_ten l D cR cI cJ cZ t0 am ak an ac ae ag aq vth vmo vfg vtp vkd vng vcc vqq vrs vct vun vre vks vms vcs ves vdg vog (n105 / 100) (jrem (n105 / 10) 10) (jrem n105 10) _ rfl) (x_cwV 3 hts (inW_12 _ (List.mem_of_getElem? (i := 26) rfl)) (inW_12 _ (List.mem_of_getElem? (i := 27) rfl)) (inW_12 _ (List.mem_of_getElem? (i := 28) rfl)) (inW_9 _ (List.mem_of_getElem? (i := 5) rfl)) (inW_12 _ (List.mem_of_getElem? (i := 19) rfl)) rfl rfl (by decide +kernel) ⟨Nat.le_of_ble_eq_true rfl, Nat.le_of_ble_eq_true rfl⟩) hK hP hD hS hA hSt 0 rfl rfl rfl hl.1 rfl (Nat.le_of_ble_eq_true rfl) dX4_packDigits_67 ⟨Nat.le_of_ble_eq_true rfl, Nat.le_of_ble_eq_true rfl⟩ (fun H locs hP hD hS => ?_)
        show W p l e _ s m args below meth c H locs 0 0 Q (F0 m 70 ls (.int (F_X4_ten (n105 / 100) (jrem (n105 / 10) 10) (jrem n105 10)) :: [.long t_26.2.1]))
        refine x_i2l hx hb dX4_packDigits_70 ?_
        refine lv_bipush (v := 10) hx hb dX4_packDigits_71 (by decide) ?_
        refine lv_iload hx hb dX4_packDigits_73 (lv_at hl 5 rfl) ?_
        refine lv_imul hx hb dX4_packDigits_75 ?_
        refine x_lshl hx hb dX4_packDigits_76 ?_
        refine lv_lor hx hb dX4_packDigits_77 ?_
        refine lv_topl (fun n108 en108 => ?_)
        have hb9 := hb9 _ en108
        refine lv_lstore (lv' := [(6, .long n108), (2, .long n106), (9, .int n105), (0, .ref am), (4, .long n103), (8, .int t_26.2.2)]) hx hb dX4_packDigits_78 hl (by decide) rfl (fun ls hl => ?_)
        obtain ⟨n109, en109⟩ : ∃ y9 : Int32, y9 = t_26.2.2 + 1 := ⟨_, rfl⟩
        have hb9 := hb9 _ en109
        refine lv_iinc (v := n109) (lv' := [(8, .int n109), (6, .long n108), (2, .long n106), (9, .int n105), (0, .ref am), (4, .long n103)]) hx hb dX4_packDigits_80 hl (k := 5) rfl (by rw [en109]; rfl) (by decide) rfl (fun ls hl => ?_)
        refine lv_goto (tgt := 26) hx hb dX4_packDigits_83 (by decide) ?_
        have e9 := Eq.symm hb9; subst e9
        have key9 := ih9 ((B_X4_packDigits_26) t_26) (fun j hj => hG9 (j + 1) (Nat.succ_lt_succ hj)) k9
        rw [← et9] at key9
        exact key9 H locs hP hD hS ls (lv_sub hl [4, 2, 5, 1, 0] rfl)
  have hG1 := hs
  refine L_117 (nW (G_X4_packDigits_26) (B_X4_packDigits_26) 901 (n102, 0, 0)) (n102, 0, 0) (nW_lt _ _ _ _) (fun H locs hP hD hS ls hl => ?_) H locs hP hD hS ls (lv_sub hl [4, 3, 2, 1, 0] rfl)
  obtain ⟨z110, ez110⟩ : ∃ y9 : Int64 × Int64 × Int32, y9 = wl (G_X4_packDigits_26) (B_X4_packDigits_26) 901 (n102, 0, 0) := ⟨_, rfl⟩
  have e9 : z110 = itn (B_X4_packDigits_26) (nW (G_X4_packDigits_26) (B_X4_packDigits_26) 901 (n102, 0, 0)) (n102, 0, 0) := ez110
  try rw [← e9] at hP
  try rw [← e9] at hD
  try rw [← e9] at hl
  rw [← ez110] at hG1
  clear e9
  have hg := rG_X4_packDigits_26  z110 (Eq.symm hG1)
  unfold RG_X4_packDigits_26 at hg
  have hu := hu _ ez110
  refine lv_iload hx hb dX4_packDigits_26 (lv_at hl 4 rfl) ?_
  refine lv_iconst (v := 5) hx hb dX4_packDigits_28 (by decide) ?_
  have J_114 : ∀ (H : Heap) (locs : List Loc), va_P D vwCl (mw cI cJ cZ am ak an ac ae ag aq vth vmo vfg vtp vkd vng vcc vqq vrs vct vun vre vks vms vcs ves vdg vog) H → va_D A (mw cI cJ cZ am ak an ac ae ag aq vth vmo vfg vtp vkd vng vcc vqq vrs vct vun vre vks vms vcs ves vdg vog) → va_S A s.heap H locs → ∀ ls : Array Slot, lv_has ls 10 [(2, .long z110.1), (4, .long n103), (6, .long z110.2.1)] → W p l e rm_X4_packDigits s m args below meth c H locs 0 0 Q (F0 m 86 ls []) := by
    intro H locs hP hD hS ls hl
    refine lv_lload hx hb dX4_packDigits_86 (lv_at hl 2 rfl) ?_
    refine lv_lload hx hb dX4_packDigits_88 (lv_at hl 1 rfl) ?_
    refine lv_ldc2 (v := 256) hx hb hown (hts (.constantLong RX4 189 (256)) (inW_12 _ (List.mem_of_getElem? (i := 23) rfl))) dX4_packDigits_90 ?_
    refine x_lrem hx hb dX4_packDigits_93 (by decide) ?_
    refine lv_bipush (v := 50) hx hb dX4_packDigits_94 (by decide) ?_
    refine x_lshl hx hb dX4_packDigits_96 ?_
    refine lv_lor hx hb dX4_packDigits_97 ?_
    refine lv_topl (fun n115 en115 => ?_)
    have hu := hu _ en115
    refine lv_lstore (lv' := [(6, .long n115), (2, .long z110.1), (4, .long n103)]) hx hb dX4_packDigits_98 hl (by decide) rfl (fun ls hl => ?_)
    refine lv_lload_n hx hb dX4_packDigits_100 rfl (lv_at hl 1 rfl) ?_
    refine lv_ldc2 (v := 8) hx hb hown (hts (.constantLong RX4 191 (8)) (inW_12 _ (List.mem_of_getElem? (i := 24) rfl))) dX4_packDigits_101 ?_
    refine xl_ge (tgt := 128) hx hb dX4_packDigits_104 dX4_packDigits_105 (by decide) (fun c_116 => ?_) (fun c_116 => ?_)
    · rw [if_pos c_116] at hu
      refine lv_lload hx hb dX4_packDigits_128 (lv_at hl 0 rfl) ?_
      refine lv_ldc2 (v := 6917529027641081856) hx hb hown (hts (.constantLong RX4 193 (6917529027641081856)) (inW_12 _ (List.mem_of_getElem? (i := 25) rfl))) dX4_packDigits_130 ?_
      refine lv_lor hx hb dX4_packDigits_133 ?_
      refine lv_lload hx hb dX4_packDigits_134 (lv_at hl 2 rfl) ?_
      refine lv_ldc2 (v := 256) hx hb hown (hts (.constantLong RX4 189 (256)) (inW_12 _ (List.mem_of_getElem? (i := 23) rfl))) dX4_packDigits_136 ?_
      refine lv_ldiv hx hb dX4_packDigits_139 (by decide) ?_
      refine lv_bipush (v := 59) hx hb dX4_packDigits_140 (by decide) ?_
      refine x_lshl hx hb dX4_packDigits_142 ?_
      refine lv_lor hx hb dX4_packDigits_143 ?_
      refine lv_lload_n hx hb dX4_packDigits_144 rfl (lv_at hl 1 rfl) ?_
      refine lv_ldc2 (v := 8) hx hb hown (hts (.constantLong RX4 191 (8)) (inW_12 _ (List.mem_of_getElem? (i := 24) rfl))) dX4_packDigits_145 ?_
      refine lv_lsub hx hb dX4_packDigits_148 ?_
      refine lv_bipush (v := 58) hx hb dX4_packDigits_149 (by decide) ?_
      refine x_lshl hx hb dX4_packDigits_151 ?_
      refine lv_lor hx hb dX4_packDigits_152 ?_
      have e9 := Eq.symm hu; subst e9
      exact x_lret hx hb hr hlocks hQ hK hP hD hS rfl rfl dX4_packDigits_153
    · rw [if_neg c_116] at hu
      refine lv_lload hx hb dX4_packDigits_108 (lv_at hl 0 rfl) ?_
      refine lv_lload hx hb dX4_packDigits_110 (lv_at hl 2 rfl) ?_
      refine lv_ldc2 (v := 256) hx hb hown (hts (.constantLong RX4 189 (256)) (inW_12 _ (List.mem_of_getElem? (i := 23) rfl))) dX4_packDigits_112 ?_
      refine lv_ldiv hx hb dX4_packDigits_115 (by decide) ?_
      refine lv_bipush (v := 61) hx hb dX4_packDigits_116 (by decide) ?_
      refine x_lshl hx hb dX4_packDigits_118 ?_
      refine lv_lor hx hb dX4_packDigits_119 ?_
      refine lv_lload_n hx hb dX4_packDigits_120 rfl (lv_at hl 1 rfl) ?_
      refine lv_bipush (v := 58) hx hb dX4_packDigits_121 (by decide) ?_
      refine x_lshl hx hb dX4_packDigits_123 ?_
      refine lv_lor hx hb dX4_packDigits_124 ?_
      refine lv_goto (tgt := 153) hx hb dX4_packDigits_125 (by decide) ?_
      have e9 := Eq.symm hu; subst e9
      exact x_lret hx hb hr hlocks hQ hK hP hD hS rfl rfl dX4_packDigits_153
  refine lv_icmp_ge (tgt := 86) hx hb dX4_packDigits_29 (by decide) (fun c_112 => ?_) (fun c_112 => ?_)
  · rw [if_pos c_112] at hg
    exact J_114 H locs hP hD hS ls (lv_sub hl [1, 2, 3] rfl)
  · rw [if_neg c_112] at hg
    exact absurd hg (by decide)

def Z_X4_pack_J_129 (vks : Nat → Int32) (p0 : Int32) : Int64 := (if F_X4_is vks p0 (1 : Int32) = true then 30 else 31)
def RZ_X4_pack_J_129 (vks : Nat → Int32) (p0 : Int32) (u9 : Int64) : Prop := (if F_X4_is vks p0 (1 : Int32) = true then u9 = 30 else u9 = 31)
theorem rZ_X4_pack_J_129 (vks : Nat → Int32) (p0 : Int32) {u9 : Int64} (hu : u9 = Z_X4_pack_J_129 vks p0) : RZ_X4_pack_J_129 vks p0 u9 := by
  unfold RZ_X4_pack_J_129
  refine ite_P (fun c_126 => ?_) (fun c_126 => ?_)
  · have hu := hu.trans (if_pos c_126)
    exact hu
  · have hu := hu.trans (if_neg c_126)
    exact hu
def Z_X4_pack_J_114 (vms : Nat → Bool) (p0 : Int32) : Int64 := (if vms p0.toNatClampNeg = true then (-9223372036854775808) else 0)
def RZ_X4_pack_J_114 (vms : Nat → Bool) (p0 : Int32) (u9 : Int64) : Prop := (if vms p0.toNatClampNeg = true then u9 = (-9223372036854775808) else u9 = 0)
theorem rZ_X4_pack_J_114 (vms : Nat → Bool) (p0 : Int32) {u9 : Int64} (hu : u9 = Z_X4_pack_J_114 vms p0) : RZ_X4_pack_J_114 vms p0 u9 := by
  unfold RZ_X4_pack_J_114
  refine ite_P (fun c_111 => ?_) (fun c_111 => ?_)
  · have hu := hu.trans (if_pos c_111)
    exact hu
  · have hu := hu.trans (if_neg c_111)
    exact hu
def Z_X4_pack_J_107 (p0 : Int32) (p1 : Int32) : Int32 := (if F_X4_noRegister p0 = true then 1 else (if p1 < 0 then 2 else (if p1 ≤ 1 then 0 else 2)))
def RZ_X4_pack_J_107 (p0 : Int32) (p1 : Int32) (u9 : Int32) : Prop := (if F_X4_noRegister p0 = true then u9 = 1 else (if p1 < 0 then u9 = 2 else (if p1 ≤ 1 then u9 = 0 else u9 = 2)))
theorem rZ_X4_pack_J_107 (p0 : Int32) (p1 : Int32) {u9 : Int32} (hu : u9 = Z_X4_pack_J_107 p0 p1) : RZ_X4_pack_J_107 p0 p1 u9 := by
  unfold RZ_X4_pack_J_107
  refine ite_P (fun c_102 => ?_) (fun c_102 => ?_)
  · have hu := hu.trans (if_pos c_102)
    exact hu
  · have hu := hu.trans (if_neg c_102)
    refine ite_P (fun c_103 => ?_) (fun c_103 => ?_)
    · have hu := hu.trans (if_pos c_103)
      exact hu
    · have hu := hu.trans (if_neg c_103)
      refine ite_P (fun c_104 => ?_) (fun c_104 => ?_)
      · have hu := hu.trans (if_pos c_104)
        exact hu
      · have hu := hu.trans (if_neg c_104)
        exact hu
def F_X4_pack (vks : Nat → Int32) (vms : Nat → Bool) (vcs : Nat → Int64) (ves : Nat → Int32) (p0 : Int32) (p1 : Int32) : Int64 × Int32 := (bnd (Z_X4_pack_J_107 p0 p1) (fun z106 : Int32 => (if z106 = 0 then (bnd (Z_X4_pack_J_114 vms p0) (fun z113 : Int64 => (if F_X4_is vks p0 (0 : Int32) = true then (if p1 = 1 then (z113 ||| (F_X4_packDigits vcs ves p0), z106) else (bnd (((ves p0.toNatClampNeg) - (-398)).toInt64) (fun n119 : Int64 => (bnd (vcs p0.toNatClampNeg) (fun n120 : Int64 => (if 9007199254740992 ≤ n120 then (((z113 ||| 6917529027641081856) ||| (jshlL n119 51)) ||| (n120 - 9007199254740992), z106) else ((z113 ||| (jshlL n119 53)) ||| n120, z106))))))) else (bnd (Z_X4_pack_J_129 vks p0) (fun z128 : Int64 => (z113 ||| (jshlL z128 58), z106)))))) else (0, z106))))
def RF_X4_pack (vks : Nat → Int32) (vms : Nat → Bool) (vcs : Nat → Int64) (ves : Nat → Int32) (p0 : Int32) (p1 : Int32) (u9 : Int64 × Int32) : Prop := (∀ z106 : Int32, z106 = Z_X4_pack_J_107 p0 p1 → (if z106 = 0 then (∀ z113 : Int64, z113 = Z_X4_pack_J_114 vms p0 → (if F_X4_is vks p0 (0 : Int32) = true then (if p1 = 1 then u9 = (z113 ||| (F_X4_packDigits vcs ves p0), z106) else (∀ n119 : Int64, n119 = ((ves p0.toNatClampNeg) - (-398)).toInt64 → (∀ n120 : Int64, n120 = vcs p0.toNatClampNeg → (if 9007199254740992 ≤ n120 then u9 = (((z113 ||| 6917529027641081856) ||| (jshlL n119 51)) ||| (n120 - 9007199254740992), z106) else u9 = ((z113 ||| (jshlL n119 53)) ||| n120, z106))))) else (∀ z128 : Int64, z128 = Z_X4_pack_J_129 vks p0 → u9 = (z113 ||| (jshlL z128 58), z106)))) else u9 = (0, z106)))
theorem rF_X4_pack (vks : Nat → Int32) (vms : Nat → Bool) (vcs : Nat → Int64) (ves : Nat → Int32) (p0 : Int32) (p1 : Int32) {u9 : Int64 × Int32} (hu : u9 = F_X4_pack vks vms vcs ves p0 p1) : RF_X4_pack vks vms vcs ves p0 p1 u9 := by
  unfold RF_X4_pack
  intro z106 ez106
  have hu := bnd_n hu ez106
  refine ite_P (fun c_109 => ?_) (fun c_109 => ?_)
  · have hu := hu.trans (if_pos c_109)
    intro z113 ez113
    have hu := bnd_n hu ez113
    refine ite_P (fun c_117 => ?_) (fun c_117 => ?_)
    · have hu := hu.trans (if_pos c_117)
      refine ite_P (fun c_118 => ?_) (fun c_118 => ?_)
      · have hu := hu.trans (if_pos c_118)
        exact hu
      · have hu := hu.trans (if_neg c_118)
        intro n119 en119
        have hu := bnd_n hu en119
        intro n120 en120
        have hu := bnd_n hu en120
        refine ite_P (fun c_121 => ?_) (fun c_121 => ?_)
        · have hu := hu.trans (if_pos c_121)
          exact hu
        · have hu := hu.trans (if_neg c_121)
          exact hu
    · have hu := hu.trans (if_neg c_117)
      intro z128 ez128
      have hu := bnd_n hu ez128
      exact hu
  · have hu := hu.trans (if_neg c_109)
    exact hu
def S_X4_pack (vks : Nat → Int32) (vms : Nat → Bool) (vcs : Nat → Int64) (ves : Nat → Int32) (p0 : Int32) (p1 : Int32) : Prop := (∀ z106 : Int32, z106 = Z_X4_pack_J_107 p0 p1 → (if z106 = 0 then (vp_in p0 8) ∧ (∀ z113 : Int64, z113 = Z_X4_pack_J_114 vms p0 → (S_X4_is vks p0 (0 : Int32)) ∧ (if F_X4_is vks p0 (0 : Int32) = true then (if p1 = 1 then S_X4_packDigits vcs ves p0 else True) else S_X4_is vks p0 (1 : Int32))) else True))
def rm_X4_pack : Room := { frames := 2, cells := 0, slots := 0, locals := 56 }
set_option maxHeartbeats 4000000 in
set_option maxRecDepth 100000 in
theorem c_X4_pack (l : Launch) (D : va_G) (cR cI cJ cZ : ClassId) (t0 : Nat) (am ak an ac ae ag aq : Nat) (vth : Int32) (vmo : Int32) (vfg : Int32) (vtp : Int32) (vkd : Int32) (vng : Bool) (vcc : Int64) (vqq : Int32) (vrs : Int32) (vct : Int32) (vun : Int32) (vre : Bool) (vks : Nat → Int32) (vms : Nat → Bool) (vcs : Nat → Int64) (ves : Nat → Int32) (vdg : Nat → Int32) (vog : Nat → Int32) (p0 : Int32) (p1 : Int32) (u : Int64 × Int32) (hu : u = F_X4_pack vks vms vcs ves p0 p1) (hs : S_X4_pack vks vms vcs ves p0 p1) : XM l D (xty cR cI cJ cZ) t0 yX4_pack cX4_pack 9 (some .long) rm_X4_pack [.ref am, .int p0, .int p1] (some (.long u.1)) (mw cI cJ cZ am ak an ac ae ag aq vth vmo vfg vtp vkd vng vcc vqq vrs vct vun vre vks vms vcs ves vdg vog) (mw cI cJ cZ am ak an ac ae ag aq u.2 vmo vfg vtp vkd vng vcc vqq vrs vct vun vre vks vms vcs ves vdg vog) := by
  refine XM.of (by decide) (Nat.le_of_ble_eq_true rfl) ?_
  intro p e s m args below meth c A Q F hK hP hD hA hSt hS hQ ls hl
  obtain ⟨hx, hb, hr, hts, hown, hlocks, hml⟩ := F
  have hCF : CallFix p m c cX4_pack 9 s args gW RX4 := ⟨hx, hb, hml, hown, hts⟩
  unfold S_X4_pack at hs
  have hu := rF_X4_pack vks vms vcs ves p0 p1 hu
  unfold RF_X4_pack at hu
  obtain ⟨H, eH⟩ : ∃ y9 : Heap, y9 = s.heap := ⟨_, rfl⟩
  obtain ⟨locs, eL⟩ : ∃ y9 : List Loc, y9 = [] := ⟨_, rfl⟩
  rw [← eL] at hS ⊢
  have hP : va_P D vwCl (mw cI cJ cZ am ak an ac ae ag aq vth vmo vfg vtp vkd vng vcc vqq vrs vct vun vre vks vms vcs ves vdg vog) H := by rw [eH]; exact hP
  have hS : va_S A s.heap H locs := by rw [eH]; exact hS
  suffices goal9 : W p l e rm_X4_pack s m args below meth c H locs 0 0 Q (F0 m 0 ls []) from by rw [← eH]; exact goal9
  have hl : lv_has ls 9 [(0, .ref am), (1, .int p0), (2, .int p1)] := hl
  have hi4 : ∀ w ∈ wsX40, w ∈ gW := inW_X4
  refine lv_aload_n hx hb dX4_pack_0 rfl (lv_at hl 0 rfl) ?_
  refine lv_aload_n hx hb dX4_pack_1 rfl (lv_at hl 0 rfl) ?_
  refine lv_iload_n hx hb dX4_pack_2 rfl (lv_at hl 1 rfl) ?_
  refine x_V (As := [.int p0]) (rest := [.ref am]) hCF (c_X4_noRegister l D cR cI cJ cZ t0 am ak an ac ae ag aq vth vmo vfg vtp vkd vng vcc vqq vrs vct vun vre vks vms vcs ves vdg vog p0 _ rfl) (x_cwV 1 hts (inW_12 _ (List.mem_of_getElem? (i := 4) rfl)) (inW_12 _ (List.mem_of_getElem? (i := 5) rfl)) (inW_12 _ (List.mem_of_getElem? (i := 6) rfl)) (inW_9 _ (List.mem_of_getElem? (i := 5) rfl)) (inW_11 _ (List.mem_of_getElem? (i := 39) rfl)) rfl rfl (by decide +kernel) ⟨Nat.le_of_ble_eq_true rfl, Nat.le_of_ble_eq_true rfl⟩) hK hP hD hS hA hSt 0 rfl rfl rfl hl.1 rfl (Nat.le_of_ble_eq_true rfl) dX4_pack_3 ⟨Nat.le_of_ble_eq_true rfl, Nat.le_of_ble_eq_true rfl⟩ (fun H locs hP hD hS => ?_)
  show W p l e _ s m args below meth c H locs 0 0 Q (F0 m 6 ls (.int (bI (F_X4_noRegister p0)) :: [.ref am]))
  have J_107 : (∀ z106 : Int32, z106 = Z_X4_pack_J_107 p0 p1 → ∀ (H : Heap) (locs : List Loc), va_P D vwCl (mw cI cJ cZ am ak an ac ae ag aq vth vmo vfg vtp vkd vng vcc vqq vrs vct vun vre vks vms vcs ves vdg vog) H → va_D A (mw cI cJ cZ am ak an ac ae ag aq vth vmo vfg vtp vkd vng vcc vqq vrs vct vun vre vks vms vcs ves vdg vog) → va_S A s.heap H locs → ∀ ls : Array Slot, lv_has ls 9 [(0, .ref am), (1, .int p0), (2, .int p1)] → W p l e rm_X4_pack s m args below meth c H locs 0 0 Q (F0 m 27 ls [.int z106, .ref am])) := by
    intro z106 ez106 H locs hP hD hS ls hl
    have hs := hs _ ez106
    have hu := hu _ ez106
    refine va_put (D := D) (ci := 5) (v := .int z106) (ty := .int) (C := RX4) (T := TX4) (N := 18) hx hb hts hi4 tyX4 tyX4_ok nmX4 hown hK hP hD hS 0 rfl rfl 0 (by decide) (hts (.fieldLink RX4 30 "DecimalWordsModel" "thrown" "I") (inW_8 _ (List.mem_of_getElem? (i := 38) rfl))) (fun _ h9 => h9) rfl (by decide +kernel) rfl rfl (Nat.le_of_ble_eq_true rfl) dX4_pack_27 (fun H locs hP hD hS => ?_)
    have hP : va_P D vwCl (mw cI cJ cZ am ak an ac ae ag aq z106 vmo vfg vtp vkd vng vcc vqq vrs vct vun vre vks vms vcs ves vdg vog) H := hP
    have hD : va_D A (mw cI cJ cZ am ak an ac ae ag aq z106 vmo vfg vtp vkd vng vcc vqq vrs vct vun vre vks vms vcs ves vdg vog) := hD
    refine lv_aload_n hx hb dX4_pack_30 rfl (lv_at hl 0 rfl) ?_
    refine va_get (D := D) (ci := 5) (v := .int z106) (C := RX4) (T := TX4) (N := 18) hx hb hts hi4 hown hK hP 0 rfl rfl 0 (by decide) (hts (.fieldLink RX4 30 "DecimalWordsModel" "thrown" "I") (inW_8 _ (List.mem_of_getElem? (i := 38) rfl))) (fun _ h9 => h9) rfl dX4_pack_31 ?_
    refine lv_if_eq (tgt := 39) hx hb dX4_pack_34 (by decide) (fun c_109 => ?_) (fun c_109 => ?_)
    · rw [if_pos c_109] at hs
      rw [if_pos c_109] at hu
      refine lv_aload_n hx hb dX4_pack_39 rfl (lv_at hl 0 rfl) ?_
      refine va_get (D := D) (ci := 5) (v := .ref an) (C := RX4) (T := TX4) (N := 18) hx hb hts hi4 hown hK hP 0 rfl rfl 2 (by decide) (hts (.fieldLink RX4 13 "DecimalWordsModel" "minus" "[Z") (inW_8 _ (List.mem_of_getElem? (i := 31) rfl))) (fun _ h9 => h9) rfl dX4_pack_40 ?_
      refine lv_iload_n hx hb dX4_pack_43 rfl (lv_at hl 1 rfl) ?_
      obtain ⟨h_110, hs⟩ := hs
      refine va_zald hx hb hK hP 2 3 rfl rfl h_110 dX4_pack_44 ?_
      have J_114 : (∀ z113 : Int64, z113 = Z_X4_pack_J_114 vms p0 → ∀ (H : Heap) (locs : List Loc), va_P D vwCl (mw cI cJ cZ am ak an ac ae ag aq z106 vmo vfg vtp vkd vng vcc vqq vrs vct vun vre vks vms vcs ves vdg vog) H → va_D A (mw cI cJ cZ am ak an ac ae ag aq z106 vmo vfg vtp vkd vng vcc vqq vrs vct vun vre vks vms vcs ves vdg vog) → va_S A s.heap H locs → ∀ ls : Array Slot, lv_has ls 9 [(0, .ref am), (1, .int p0), (2, .int p1)] → W p l e rm_X4_pack s m args below meth c H locs 0 0 Q (F0 m 55 ls [.long z113])) := by
        intro z113 ez113 H locs hP hD hS ls hl
        have hs := hs _ ez113
        have hu := hu _ ez113
        refine lv_lstore_n (lv' := [(3, .long z113), (0, .ref am), (1, .int p0), (2, .int p1)]) hx hb dX4_pack_55 rfl hl (by decide) rfl (fun ls hl => ?_)
        refine lv_aload_n hx hb dX4_pack_56 rfl (lv_at hl 1 rfl) ?_
        refine lv_iload_n hx hb dX4_pack_57 rfl (lv_at hl 2 rfl) ?_
        refine lv_iconst (v := 0) hx hb dX4_pack_58 (by decide) ?_
        obtain ⟨h_115, hs⟩ := hs
        refine x_V (As := [.int p0, .int 0]) (rest := []) hCF (c_X4_is l D cR cI cJ cZ t0 am ak an ac ae ag aq z106 vmo vfg vtp vkd vng vcc vqq vrs vct vun vre vks vms vcs ves vdg vog p0 (0 : Int32) _ rfl h_115) (x_cwV 2 hts (inW_10 _ (List.mem_of_getElem? (i := 18) rfl)) (inW_10 _ (List.mem_of_getElem? (i := 19) rfl)) (inW_10 _ (List.mem_of_getElem? (i := 20) rfl)) (inW_9 _ (List.mem_of_getElem? (i := 5) rfl)) (inW_10 _ (List.mem_of_getElem? (i := 10) rfl)) rfl rfl (by decide +kernel) ⟨Nat.le_of_ble_eq_true rfl, Nat.le_of_ble_eq_true rfl⟩) hK hP hD hS hA hSt 0 rfl rfl rfl hl.1 rfl (Nat.le_of_ble_eq_true rfl) dX4_pack_59 ⟨Nat.le_of_ble_eq_true rfl, Nat.le_of_ble_eq_true rfl⟩ (fun H locs hP hD hS => ?_)
        show W p l e _ s m args below meth c H locs 0 0 Q (F0 m 62 ls (.int (bI (F_X4_is vks p0 (0 : Int32))) :: []))
        refine xb_ne (tgt := 89) hx hb dX4_pack_62 (by decide) (fun c_117 => ?_) (fun c_117 => ?_)
        · rw [if_pos c_117] at hs
          rw [if_pos c_117] at hu
          refine lv_iload_n hx hb dX4_pack_89 rfl (lv_at hl 3 rfl) ?_
          refine lv_iconst (v := 1) hx hb dX4_pack_90 (by decide) ?_
          refine lv_icmp_ne (tgt := 102) hx hb dX4_pack_91 (by decide) (fun c_118 => ?_) (fun c_118 => ?_)
          · rw [if_neg c_118] at hu
            refine lv_aload_n hx hb dX4_pack_102 rfl (lv_at hl 1 rfl) ?_
            refine va_get (D := D) (ci := 5) (v := .ref ae) (C := RX4) (T := TX4) (N := 18) hx hb hts hi4 hown hK hP 0 rfl rfl 4 (by decide) (hts (.fieldLink RX4 21 "DecimalWordsModel" "exponents" "[I") (inW_8 _ (List.mem_of_getElem? (i := 34) rfl))) (fun _ h9 => h9) rfl dX4_pack_103 ?_
            refine lv_iload_n hx hb dX4_pack_106 rfl (lv_at hl 2 rfl) ?_
            refine va_iald hx hb hK hP 4 1 rfl rfl h_110 dX4_pack_107 ?_
            refine lv_sipush (v := (-398)) hx hb dX4_pack_108 (by decide) ?_
            refine lv_isub hx hb dX4_pack_111 ?_
            refine x_i2l hx hb dX4_pack_112 ?_
            refine lv_topl (fun n119 en119 => ?_)
            have hu := hu _ en119
            refine lv_lstore (lv' := [(5, .long n119), (3, .long z113), (0, .ref am), (1, .int p0), (2, .int p1)]) hx hb dX4_pack_113 hl (by decide) rfl (fun ls hl => ?_)
            refine lv_aload_n hx hb dX4_pack_115 rfl (lv_at hl 2 rfl) ?_
            refine va_get (D := D) (ci := 5) (v := .ref ac) (C := RX4) (T := TX4) (N := 18) hx hb hts hi4 hown hK hP 0 rfl rfl 3 (by decide) (hts (.fieldLink RX4 17 "DecimalWordsModel" "coefficients" "[J") (inW_8 _ (List.mem_of_getElem? (i := 33) rfl))) (fun _ h9 => h9) rfl dX4_pack_116 ?_
            refine lv_iload_n hx hb dX4_pack_119 rfl (lv_at hl 3 rfl) ?_
            refine va_lald hx hb hK hP 3 2 rfl rfl h_110 dX4_pack_120 ?_
            refine lv_topl (fun n120 en120 => ?_)
            have hu := hu _ en120
            refine lv_lstore (lv' := [(7, .long n120), (5, .long n119), (3, .long z113), (0, .ref am), (1, .int p0), (2, .int p1)]) hx hb dX4_pack_121 hl (by decide) rfl (fun ls hl => ?_)
            refine lv_lload hx hb dX4_pack_123 (lv_at hl 0 rfl) ?_
            refine lv_ldc2 (v := 9007199254740992) hx hb hown (hts (.constantLong RX4 204 (9007199254740992)) (inW_12 _ (List.mem_of_getElem? (i := 33) rfl))) dX4_pack_125 ?_
            refine xl_ge (tgt := 145) hx hb dX4_pack_128 dX4_pack_129 (by decide) (fun c_121 => ?_) (fun c_121 => ?_)
            · rw [if_pos c_121] at hu
              refine lv_lload_n hx hb dX4_pack_145 rfl (lv_at hl 2 rfl) ?_
              refine lv_ldc2 (v := 6917529027641081856) hx hb hown (hts (.constantLong RX4 193 (6917529027641081856)) (inW_12 _ (List.mem_of_getElem? (i := 25) rfl))) dX4_pack_146 ?_
              refine lv_lor hx hb dX4_pack_149 ?_
              refine lv_lload hx hb dX4_pack_150 (lv_at hl 1 rfl) ?_
              refine lv_bipush (v := 51) hx hb dX4_pack_152 (by decide) ?_
              refine x_lshl hx hb dX4_pack_154 ?_
              refine lv_lor hx hb dX4_pack_155 ?_
              refine lv_lload hx hb dX4_pack_156 (lv_at hl 0 rfl) ?_
              refine lv_ldc2 (v := 9007199254740992) hx hb hown (hts (.constantLong RX4 204 (9007199254740992)) (inW_12 _ (List.mem_of_getElem? (i := 33) rfl))) dX4_pack_158 ?_
              refine lv_lsub hx hb dX4_pack_161 ?_
              refine lv_lor hx hb dX4_pack_162 ?_
              have e9 := Eq.symm hu; subst e9
              exact x_lret hx hb hr hlocks hQ hK hP hD hS rfl rfl dX4_pack_163
            · rw [if_neg c_121] at hu
              refine lv_lload_n hx hb dX4_pack_132 rfl (lv_at hl 2 rfl) ?_
              refine lv_lload hx hb dX4_pack_133 (lv_at hl 1 rfl) ?_
              refine lv_bipush (v := 53) hx hb dX4_pack_135 (by decide) ?_
              refine x_lshl hx hb dX4_pack_137 ?_
              refine lv_lor hx hb dX4_pack_138 ?_
              refine lv_lload hx hb dX4_pack_139 (lv_at hl 0 rfl) ?_
              refine lv_lor hx hb dX4_pack_141 ?_
              refine lv_goto (tgt := 163) hx hb dX4_pack_142 (by decide) ?_
              have e9 := Eq.symm hu; subst e9
              exact x_lret hx hb hr hlocks hQ hK hP hD hS rfl rfl dX4_pack_163
          · rw [if_pos c_118] at hs
            rw [if_pos c_118] at hu
            refine lv_lload_n hx hb dX4_pack_94 rfl (lv_at hl 0 rfl) ?_
            refine lv_aload_n hx hb dX4_pack_95 rfl (lv_at hl 1 rfl) ?_
            refine lv_iload_n hx hb dX4_pack_96 rfl (lv_at hl 2 rfl) ?_
            have h_122 := hs
            refine x_V (As := [.int p0]) (rest := [.long z113]) hCF (c_X4_packDigits l D cR cI cJ cZ t0 am ak an ac ae ag aq z106 vmo vfg vtp vkd vng vcc vqq vrs vct vun vre vks vms vcs ves vdg vog p0 _ rfl h_122) (x_cwV 1 hts (inW_12 _ (List.mem_of_getElem? (i := 34) rfl)) (inW_12 _ (List.mem_of_getElem? (i := 35) rfl)) (inW_12 _ (List.mem_of_getElem? (i := 36) rfl)) (inW_9 _ (List.mem_of_getElem? (i := 5) rfl)) (inW_12 _ (List.mem_of_getElem? (i := 21) rfl)) rfl rfl (by decide +kernel) ⟨Nat.le_of_ble_eq_true rfl, Nat.le_of_ble_eq_true rfl⟩) hK hP hD hS hA hSt 0 rfl rfl rfl hl.1 rfl (Nat.le_of_ble_eq_true rfl) dX4_pack_97 ⟨Nat.le_of_ble_eq_true rfl, Nat.le_of_ble_eq_true rfl⟩ (fun H locs hP hD hS => ?_)
            show W p l e _ s m args below meth c H locs 0 0 Q (F0 m 100 ls (.long (F_X4_packDigits vcs ves p0) :: [.long z113]))
            refine lv_lor hx hb dX4_pack_100 ?_
            have e9 := Eq.symm hu; subst e9
            exact x_lret hx hb hr hlocks hQ hK hP hD hS rfl rfl dX4_pack_101
        · rw [if_neg c_117] at hs
          rw [if_neg c_117] at hu
          refine lv_lload_n hx hb dX4_pack_65 rfl (lv_at hl 0 rfl) ?_
          refine lv_aload_n hx hb dX4_pack_66 rfl (lv_at hl 1 rfl) ?_
          refine lv_iload_n hx hb dX4_pack_67 rfl (lv_at hl 2 rfl) ?_
          refine lv_iconst (v := 1) hx hb dX4_pack_68 (by decide) ?_
          have h_124 := hs
          refine x_V (As := [.int p0, .int 1]) (rest := [.long z113]) hCF (c_X4_is l D cR cI cJ cZ t0 am ak an ac ae ag aq z106 vmo vfg vtp vkd vng vcc vqq vrs vct vun vre vks vms vcs ves vdg vog p0 (1 : Int32) _ rfl h_124) (x_cwV 2 hts (inW_10 _ (List.mem_of_getElem? (i := 18) rfl)) (inW_10 _ (List.mem_of_getElem? (i := 19) rfl)) (inW_10 _ (List.mem_of_getElem? (i := 20) rfl)) (inW_9 _ (List.mem_of_getElem? (i := 5) rfl)) (inW_10 _ (List.mem_of_getElem? (i := 10) rfl)) rfl rfl (by decide +kernel) ⟨Nat.le_of_ble_eq_true rfl, Nat.le_of_ble_eq_true rfl⟩) hK hP hD hS hA hSt 0 rfl rfl rfl hl.1 rfl (Nat.le_of_ble_eq_true rfl) dX4_pack_69 ⟨Nat.le_of_ble_eq_true rfl, Nat.le_of_ble_eq_true rfl⟩ (fun H locs hP hD hS => ?_)
          show W p l e _ s m args below meth c H locs 0 0 Q (F0 m 72 ls (.int (bI (F_X4_is vks p0 (1 : Int32))) :: [.long z113]))
          have J_129 : (∀ z128 : Int64, z128 = Z_X4_pack_J_129 vks p0 → ∀ (H : Heap) (locs : List Loc), va_P D vwCl (mw cI cJ cZ am ak an ac ae ag aq z106 vmo vfg vtp vkd vng vcc vqq vrs vct vun vre vks vms vcs ves vdg vog) H → va_D A (mw cI cJ cZ am ak an ac ae ag aq z106 vmo vfg vtp vkd vng vcc vqq vrs vct vun vre vks vms vcs ves vdg vog) → va_S A s.heap H locs → ∀ ls : Array Slot, lv_has ls 9 [] → W p l e rm_X4_pack s m args below meth c H locs 0 0 Q (F0 m 84 ls [.long z128, .long z113])) := by
            intro z128 ez128 H locs hP hD hS ls hl
            have hu := hu _ ez128
            refine lv_bipush (v := 58) hx hb dX4_pack_84 (by decide) ?_
            refine x_lshl hx hb dX4_pack_86 ?_
            refine lv_lor hx hb dX4_pack_87 ?_
            have e9 := Eq.symm hu; subst e9
            exact x_lret hx hb hr hlocks hQ hK hP hD hS rfl rfl dX4_pack_88
          obtain ⟨z9, ez9⟩ : ∃ y9 : Int64, y9 = Z_X4_pack_J_129 vks p0 := ⟨_, rfl⟩
          have hz := rZ_X4_pack_J_129 vks p0 ez9
          unfold RZ_X4_pack_J_129 at hz
          refine xb_eq (tgt := 81) hx hb dX4_pack_72 (by decide) (fun c_126 => ?_) (fun c_126 => ?_)
          · rw [if_neg c_126] at hz
            refine lv_ldc2 (v := 31) hx hb hown (hts (.constantLong RX4 199 (31)) (inW_12 _ (List.mem_of_getElem? (i := 32) rfl))) dX4_pack_81 ?_
            have e9 := Eq.symm hz; subst e9
            exact J_129 _ ez9 H locs hP hD hS ls (lv_sub hl [] rfl)
          · rw [if_pos c_126] at hz
            refine lv_ldc2 (v := 30) hx hb hown (hts (.constantLong RX4 197 (30)) (inW_12 _ (List.mem_of_getElem? (i := 31) rfl))) dX4_pack_75 ?_
            refine lv_goto (tgt := 84) hx hb dX4_pack_78 (by decide) ?_
            have e9 := Eq.symm hz; subst e9
            exact J_129 _ ez9 H locs hP hD hS ls (lv_sub hl [] rfl)
      obtain ⟨z9, ez9⟩ : ∃ y9 : Int64, y9 = Z_X4_pack_J_114 vms p0 := ⟨_, rfl⟩
      have hz := rZ_X4_pack_J_114 vms p0 ez9
      unfold RZ_X4_pack_J_114 at hz
      refine xb_eq (tgt := 54) hx hb dX4_pack_45 (by decide) (fun c_111 => ?_) (fun c_111 => ?_)
      · rw [if_neg c_111] at hz
        refine lv_lconst (v := 0) hx hb dX4_pack_54 (by decide) ?_
        have e9 := Eq.symm hz; subst e9
        exact J_114 _ ez9 H locs hP hD hS ls (lv_sub hl [0, 1, 2] rfl)
      · rw [if_pos c_111] at hz
        refine lv_ldc2 (v := (-9223372036854775808)) hx hb hown (hts (.constantLong RX4 195 (-9223372036854775808)) (inW_12 _ (List.mem_of_getElem? (i := 30) rfl))) dX4_pack_48 ?_
        refine lv_goto (tgt := 55) hx hb dX4_pack_51 (by decide) ?_
        have e9 := Eq.symm hz; subst e9
        exact J_114 _ ez9 H locs hP hD hS ls (lv_sub hl [0, 1, 2] rfl)
    · rw [if_neg c_109] at hu
      refine lv_lconst (v := 0) hx hb dX4_pack_37 (by decide) ?_
      have e9 := Eq.symm hu; subst e9
      exact x_lret hx hb hr hlocks hQ hK hP hD hS rfl rfl dX4_pack_38
  obtain ⟨z9, ez9⟩ : ∃ y9 : Int32, y9 = Z_X4_pack_J_107 p0 p1 := ⟨_, rfl⟩
  have hz := rZ_X4_pack_J_107 p0 p1 ez9
  unfold RZ_X4_pack_J_107 at hz
  refine xb_eq (tgt := 13) hx hb dX4_pack_6 (by decide) (fun c_102 => ?_) (fun c_102 => ?_)
  · rw [if_neg c_102] at hz
    refine lv_iload_n hx hb dX4_pack_13 rfl (lv_at hl 2 rfl) ?_
    refine lv_if_lt (tgt := 22) hx hb dX4_pack_14 (by decide) (fun c_103 => ?_) (fun c_103 => ?_)
    · rw [if_pos c_103] at hz
      refine lv_iconst (v := 2) hx hb dX4_pack_22 (by decide) ?_
      refine lv_goto (tgt := 27) hx hb dX4_pack_23 (by decide) ?_
      have e9 := Eq.symm hz; subst e9
      exact J_107 _ ez9 H locs hP hD hS ls (lv_sub hl [0, 1, 2] rfl)
    · rw [if_neg c_103] at hz
      refine lv_iload_n hx hb dX4_pack_17 rfl (lv_at hl 2 rfl) ?_
      refine lv_iconst (v := 1) hx hb dX4_pack_18 (by decide) ?_
      refine lv_icmp_le (tgt := 26) hx hb dX4_pack_19 (by decide) (fun c_104 => ?_) (fun c_104 => ?_)
      · rw [if_pos c_104] at hz
        refine lv_iconst (v := 0) hx hb dX4_pack_26 (by decide) ?_
        have e9 := Eq.symm hz; subst e9
        exact J_107 _ ez9 H locs hP hD hS ls (lv_sub hl [0, 1, 2] rfl)
      · rw [if_neg c_104] at hz
        refine lv_iconst (v := 2) hx hb dX4_pack_22 (by decide) ?_
        refine lv_goto (tgt := 27) hx hb dX4_pack_23 (by decide) ?_
        have e9 := Eq.symm hz; subst e9
        exact J_107 _ ez9 H locs hP hD hS ls (lv_sub hl [0, 1, 2] rfl)
  · rw [if_pos c_102] at hz
    refine lv_iconst (v := 1) hx hb dX4_pack_9 (by decide) ?_
    refine lv_goto (tgt := 27) hx hb dX4_pack_10 (by decide) ?_
    have e9 := Eq.symm hz; subst e9
    exact J_107 _ ez9 H locs hP hD hS ls (lv_sub hl [0, 1, 2] rfl)

def B_X4_unpack_255 (p2 : Int64) (t_255 : Int32 × Int64) : Int32 × Int64 := (if t_255.1 < 0 then t_255 else (bnd ((1000 * t_255.2) + ((F_X4_three (((jshrL p2 (10 * t_255.1)) &&& 1023).toInt32)).toInt64)) (fun n133 : Int64 => (bnd (t_255.1 + (-1)) (fun n134 : Int32 => (n134, n133))))))
def G_X4_unpack_255 (p2 : Int64) (t_255 : Int32 × Int64) : Bool := (if t_255.1 < 0 then false else (bnd ((1000 * t_255.2) + ((F_X4_three (((jshrL p2 (10 * t_255.1)) &&& 1023).toInt32)).toInt64)) (fun n133 : Int64 => (bnd (t_255.1 + (-1)) (fun n134 : Int32 => true)))))
def RB_X4_unpack_255 (p2 : Int64) (t_255 : Int32 × Int64) (u9 : Int32 × Int64) : Prop := (if t_255.1 < 0 then True else (∀ n133 : Int64, n133 = (1000 * t_255.2) + ((F_X4_three (((jshrL p2 (10 * t_255.1)) &&& 1023).toInt32)).toInt64) → (∀ n134 : Int32, n134 = t_255.1 + (-1) → u9 = (n134, n133))))
def RG_X4_unpack_255 (p2 : Int64) (t_255 : Int32 × Int64) (u9 : Bool) : Prop := (if t_255.1 < 0 then u9 = false else u9 = true)
theorem rB_X4_unpack_255 (p2 : Int64) (t_255 : Int32 × Int64) {u9 : Int32 × Int64} (hu : u9 = B_X4_unpack_255 p2 t_255) : RB_X4_unpack_255 p2 t_255 u9 := by
  unfold RB_X4_unpack_255
  refine ite_P (fun c_131 => ?_) (fun c_131 => ?_)
  · have hu := hu.trans (if_pos c_131)
    trivial
  · have hu := hu.trans (if_neg c_131)
    intro n133 en133
    have hu := bnd_n hu en133
    intro n134 en134
    have hu := bnd_n hu en134
    exact hu
theorem rG_X4_unpack_255 (p2 : Int64) (t_255 : Int32 × Int64) {u9 : Bool} (hu : u9 = G_X4_unpack_255 p2 t_255) : RG_X4_unpack_255 p2 t_255 u9 := by
  unfold RG_X4_unpack_255
  refine ite_P (fun c_131 => ?_) (fun c_131 => ?_)
  · have hu := hu.trans (if_pos c_131)
    exact hu
  · have hu := hu.trans (if_neg c_131)
    exact hu
def Z_X4_unpack_J_154 (z144 : Int64) : Int64 := (if z144 < 10000000000000000 then z144 else 0)
def RZ_X4_unpack_J_154 (z144 : Int64) (u9 : Int64) : Prop := (if z144 < 10000000000000000 then u9 = z144 else u9 = 0)
theorem rZ_X4_unpack_J_154 (z144 : Int64) {u9 : Int64} (hu : u9 = Z_X4_unpack_J_154 z144) : RZ_X4_unpack_J_154 z144 u9 := by
  unfold RZ_X4_unpack_J_154
  refine ite_P (fun c_151 => ?_) (fun c_151 => ?_)
  · have hu := hu.trans (if_pos c_151)
    exact hu
  · have hu := hu.trans (if_neg c_151)
    exact hu
def Z_X4_unpack_J_149 (z117 : Bool) : Int32 := (if z117 = true then 51 else 53)
def RZ_X4_unpack_J_149 (z117 : Bool) (u9 : Int32) : Prop := (if z117 = true then u9 = 51 else u9 = 53)
theorem rZ_X4_unpack_J_149 (z117 : Bool) {u9 : Int32} (hu : u9 = Z_X4_unpack_J_149 z117) : RZ_X4_unpack_J_149 z117 u9 := by
  unfold RZ_X4_unpack_J_149
  refine ite_P (fun c_146 => ?_) (fun c_146 => ?_)
  · have hu := hu.trans (if_pos c_146)
    exact hu
  · have hu := hu.trans (if_neg c_146)
    exact hu
def Z_X4_unpack_J_145 (p2 : Int64) (z117 : Bool) : Int64 := (if z117 = true then (p2 &&& 2251799813685247) + 9007199254740992 else p2 &&& 9007199254740991)
def RZ_X4_unpack_J_145 (p2 : Int64) (z117 : Bool) (u9 : Int64) : Prop := (if z117 = true then u9 = (p2 &&& 2251799813685247) + 9007199254740992 else u9 = p2 &&& 9007199254740991)
theorem rZ_X4_unpack_J_145 (p2 : Int64) (z117 : Bool) {u9 : Int64} (hu : u9 = Z_X4_unpack_J_145 p2 z117) : RZ_X4_unpack_J_145 p2 z117 u9 := by
  unfold RZ_X4_unpack_J_145
  refine ite_P (fun c_142 => ?_) (fun c_142 => ?_)
  · have hu := hu.trans (if_pos c_142)
    exact hu
  · have hu := hu.trans (if_neg c_142)
    exact hu
def Z_X4_unpack_J_129 (n114 : Int32) (z117 : Bool) : Int32 := (if z117 = true then (jshr n114 1) &&& 3 else jshr n114 3)
def RZ_X4_unpack_J_129 (n114 : Int32) (z117 : Bool) (u9 : Int32) : Prop := (if z117 = true then u9 = (jshr n114 1) &&& 3 else u9 = jshr n114 3)
theorem rZ_X4_unpack_J_129 (n114 : Int32) (z117 : Bool) {u9 : Int32} (hu : u9 = Z_X4_unpack_J_129 n114 z117) : RZ_X4_unpack_J_129 n114 z117 u9 := by
  unfold RZ_X4_unpack_J_129
  refine ite_P (fun c_126 => ?_) (fun c_126 => ?_)
  · have hu := hu.trans (if_pos c_126)
    exact hu
  · have hu := hu.trans (if_neg c_126)
    exact hu
def Z_X4_unpack_J_125 (n114 : Int32) (z117 : Bool) : Int64 := (if z117 = true then (8 + (n114 &&& 1)).toInt64 else (n114 &&& 7).toInt64)
def RZ_X4_unpack_J_125 (n114 : Int32) (z117 : Bool) (u9 : Int64) : Prop := (if z117 = true then u9 = (8 + (n114 &&& 1)).toInt64 else u9 = (n114 &&& 7).toInt64)
theorem rZ_X4_unpack_J_125 (n114 : Int32) (z117 : Bool) {u9 : Int64} (hu : u9 = Z_X4_unpack_J_125 n114 z117) : RZ_X4_unpack_J_125 n114 z117 u9 := by
  unfold RZ_X4_unpack_J_125
  refine ite_P (fun c_122 => ?_) (fun c_122 => ?_)
  · have hu := hu.trans (if_pos c_122)
    exact hu
  · have hu := hu.trans (if_neg c_122)
    exact hu
def Z_X4_unpack_J_163 (p1 : Int32) (p2 : Int64) (z112 : Bool) (n114 : Int32) (z117 : Bool) : Int32 × Bool × Int64 × Int32 := (if n114 = 31 then (bnd (F_X4_be (2 : Int32) false (0 : Int64) (0 : Int32)) (fun u159 : Int32 × Bool × Int64 × Int32 => (u159.1, u159.2.1, u159.2.2.1, u159.2.2.2))) else (if n114 = 30 then (bnd (F_X4_be (1 : Int32) z112 (0 : Int64) (0 : Int32)) (fun u157 : Int32 × Bool × Int64 × Int32 => (u157.1, u157.2.1, u157.2.2.1, u157.2.2.2))) else (if p1 = 0 then (bnd (Z_X4_unpack_J_145 p2 z117) (fun z144 : Int64 => (bnd (Z_X4_unpack_J_149 z117) (fun z148 : Int32 => (bnd (((jshrL p2 z148) &&& 1023).toInt32) (fun n150 : Int32 => (bnd (Z_X4_unpack_J_154 z144) (fun z153 : Int64 => (bnd (F_X4_be (0 : Int32) z112 z153 (n150 + (-398))) (fun u155 : Int32 × Bool × Int64 × Int32 => (u155.1, u155.2.1, u155.2.2.1, u155.2.2.2))))))))))) else (bnd (Z_X4_unpack_J_125 n114 z117) (fun z124 : Int64 => (bnd (Z_X4_unpack_J_129 n114 z117) (fun z128 : Int32 => (bnd ((z128 * 256) + (((jshrL p2 50) &&& 255).toInt32)) (fun n130 : Int32 => (bnd (wl (G_X4_unpack_255 p2) (B_X4_unpack_255 p2) 901 (4, z124)) (fun z135 : Int32 × Int64 => (bnd (F_X4_be (0 : Int32) z112 z135.2 (n130 + (-398))) (fun u140 : Int32 × Bool × Int64 × Int32 => (u140.1, u140.2.1, u140.2.2.1, u140.2.2.2))))))))))))))
def RZ_X4_unpack_J_163 (p1 : Int32) (p2 : Int64) (z112 : Bool) (n114 : Int32) (z117 : Bool) (u9 : Int32 × Bool × Int64 × Int32) : Prop := (if n114 = 31 then (∀ u159 : Int32 × Bool × Int64 × Int32, u159 = F_X4_be (2 : Int32) false (0 : Int64) (0 : Int32) → u9 = (u159.1, u159.2.1, u159.2.2.1, u159.2.2.2)) else (if n114 = 30 then (∀ u157 : Int32 × Bool × Int64 × Int32, u157 = F_X4_be (1 : Int32) z112 (0 : Int64) (0 : Int32) → u9 = (u157.1, u157.2.1, u157.2.2.1, u157.2.2.2)) else (if p1 = 0 then (∀ z144 : Int64, z144 = Z_X4_unpack_J_145 p2 z117 → (∀ z148 : Int32, z148 = Z_X4_unpack_J_149 z117 → (∀ n150 : Int32, n150 = ((jshrL p2 z148) &&& 1023).toInt32 → (∀ z153 : Int64, z153 = Z_X4_unpack_J_154 z144 → (∀ u155 : Int32 × Bool × Int64 × Int32, u155 = F_X4_be (0 : Int32) z112 z153 (n150 + (-398)) → u9 = (u155.1, u155.2.1, u155.2.2.1, u155.2.2.2)))))) else (∀ z124 : Int64, z124 = Z_X4_unpack_J_125 n114 z117 → (∀ z128 : Int32, z128 = Z_X4_unpack_J_129 n114 z117 → (∀ n130 : Int32, n130 = (z128 * 256) + (((jshrL p2 50) &&& 255).toInt32) → (∀ z135 : Int32 × Int64, z135 = wl (G_X4_unpack_255 p2) (B_X4_unpack_255 p2) 901 (4, z124) → (∀ u140 : Int32 × Bool × Int64 × Int32, u140 = F_X4_be (0 : Int32) z112 z135.2 (n130 + (-398)) → u9 = (u140.1, u140.2.1, u140.2.2.1, u140.2.2.2)))))))))
theorem rZ_X4_unpack_J_163 (p1 : Int32) (p2 : Int64) (z112 : Bool) (n114 : Int32) (z117 : Bool) {u9 : Int32 × Bool × Int64 × Int32} (hu : u9 = Z_X4_unpack_J_163 p1 p2 z112 n114 z117) : RZ_X4_unpack_J_163 p1 p2 z112 n114 z117 u9 := by
  unfold RZ_X4_unpack_J_163
  refine ite_P (fun c_119 => ?_) (fun c_119 => ?_)
  · have hu := hu.trans (if_pos c_119)
    intro u159 eu159
    have hu := bnd_n hu eu159
    exact hu
  · have hu := hu.trans (if_neg c_119)
    refine ite_P (fun c_120 => ?_) (fun c_120 => ?_)
    · have hu := hu.trans (if_pos c_120)
      intro u157 eu157
      have hu := bnd_n hu eu157
      exact hu
    · have hu := hu.trans (if_neg c_120)
      refine ite_P (fun c_121 => ?_) (fun c_121 => ?_)
      · have hu := hu.trans (if_pos c_121)
        intro z144 ez144
        have hu := bnd_n hu ez144
        intro z148 ez148
        have hu := bnd_n hu ez148
        intro n150 en150
        have hu := bnd_n hu en150
        intro z153 ez153
        have hu := bnd_n hu ez153
        intro u155 eu155
        have hu := bnd_n hu eu155
        exact hu
      · have hu := hu.trans (if_neg c_121)
        intro z124 ez124
        have hu := bnd_n hu ez124
        intro z128 ez128
        have hu := bnd_n hu ez128
        intro n130 en130
        have hu := bnd_n hu en130
        intro z135 ez135
        have hu := bnd_n hu ez135
        intro u140 eu140
        have hu := bnd_n hu eu140
        exact hu
def Z_X4_unpack_J_118 (n114 : Int32) : Bool := (if jshr n114 3 = 3 then true else false)
def RZ_X4_unpack_J_118 (n114 : Int32) (u9 : Bool) : Prop := (if jshr n114 3 = 3 then u9 = true else u9 = false)
theorem rZ_X4_unpack_J_118 (n114 : Int32) {u9 : Bool} (hu : u9 = Z_X4_unpack_J_118 n114) : RZ_X4_unpack_J_118 n114 u9 := by
  unfold RZ_X4_unpack_J_118
  refine ite_P (fun c_115 => ?_) (fun c_115 => ?_)
  · have hu := hu.trans (if_pos c_115)
    exact hu
  · have hu := hu.trans (if_neg c_115)
    exact hu
def Z_X4_unpack_J_113 (p2 : Int64) : Bool := (if 0 ≤ p2 then false else true)
def RZ_X4_unpack_J_113 (p2 : Int64) (u9 : Bool) : Prop := (if 0 ≤ p2 then u9 = false else u9 = true)
theorem rZ_X4_unpack_J_113 (p2 : Int64) {u9 : Bool} (hu : u9 = Z_X4_unpack_J_113 p2) : RZ_X4_unpack_J_113 p2 u9 := by
  unfold RZ_X4_unpack_J_113
  refine ite_P (fun c_110 => ?_) (fun c_110 => ?_)
  · have hu := hu.trans (if_pos c_110)
    exact hu
  · have hu := hu.trans (if_neg c_110)
    exact hu
def Z_X4_unpack_J_107 (p0 : Int32) (p1 : Int32) : Int32 := (if F_X4_noRegister p0 = true then 1 else (if p1 < 0 then 2 else (if p1 ≤ 1 then 0 else 2)))
def RZ_X4_unpack_J_107 (p0 : Int32) (p1 : Int32) (u9 : Int32) : Prop := (if F_X4_noRegister p0 = true then u9 = 1 else (if p1 < 0 then u9 = 2 else (if p1 ≤ 1 then u9 = 0 else u9 = 2)))
theorem rZ_X4_unpack_J_107 (p0 : Int32) (p1 : Int32) {u9 : Int32} (hu : u9 = Z_X4_unpack_J_107 p0 p1) : RZ_X4_unpack_J_107 p0 p1 u9 := by
  unfold RZ_X4_unpack_J_107
  refine ite_P (fun c_102 => ?_) (fun c_102 => ?_)
  · have hu := hu.trans (if_pos c_102)
    exact hu
  · have hu := hu.trans (if_neg c_102)
    refine ite_P (fun c_103 => ?_) (fun c_103 => ?_)
    · have hu := hu.trans (if_pos c_103)
      exact hu
    · have hu := hu.trans (if_neg c_103)
      refine ite_P (fun c_104 => ?_) (fun c_104 => ?_)
      · have hu := hu.trans (if_pos c_104)
        exact hu
      · have hu := hu.trans (if_neg c_104)
        exact hu
def F_X4_unpack (vkd : Int32) (vng : Bool) (vcc : Int64) (vqq : Int32) (vks : Nat → Int32) (vms : Nat → Bool) (vcs : Nat → Int64) (ves : Nat → Int32) (p0 : Int32) (p1 : Int32) (p2 : Int64) : Int32 × Int32 × Bool × Int64 × Int32 × (Nat → Int32) × (Nat → Bool) × (Nat → Int64) × (Nat → Int32) := (bnd (Z_X4_unpack_J_107 p0 p1) (fun z106 : Int32 => (if z106 = 0 then (bnd (Z_X4_unpack_J_113 p2) (fun z112 : Bool => (bnd (((jshrL p2 58) &&& 31).toInt32) (fun n114 : Int32 => (bnd (Z_X4_unpack_J_118 n114) (fun z117 : Bool => (bnd (Z_X4_unpack_J_163 p1 p2 z112 n114 z117) (fun z162 : Int32 × Bool × Int64 × Int32 => (bnd (F_X4_store z162.1 z162.2.1 z162.2.2.1 z162.2.2.2 vks vms vcs ves p0) (fun u165 : (Nat → Int32) × (Nat → Bool) × (Nat → Int64) × (Nat → Int32) => (z106, z162.1, z162.2.1, z162.2.2.1, z162.2.2.2, u165.1, u165.2.1, u165.2.2.1, u165.2.2.2))))))))))) else (z106, vkd, vng, vcc, vqq, vks, vms, vcs, ves))))
def RF_X4_unpack (vkd : Int32) (vng : Bool) (vcc : Int64) (vqq : Int32) (vks : Nat → Int32) (vms : Nat → Bool) (vcs : Nat → Int64) (ves : Nat → Int32) (p0 : Int32) (p1 : Int32) (p2 : Int64) (u9 : Int32 × Int32 × Bool × Int64 × Int32 × (Nat → Int32) × (Nat → Bool) × (Nat → Int64) × (Nat → Int32)) : Prop := (∀ z106 : Int32, z106 = Z_X4_unpack_J_107 p0 p1 → (if z106 = 0 then (∀ z112 : Bool, z112 = Z_X4_unpack_J_113 p2 → (∀ n114 : Int32, n114 = ((jshrL p2 58) &&& 31).toInt32 → (∀ z117 : Bool, z117 = Z_X4_unpack_J_118 n114 → (∀ z162 : Int32 × Bool × Int64 × Int32, z162 = Z_X4_unpack_J_163 p1 p2 z112 n114 z117 → (∀ u165 : (Nat → Int32) × (Nat → Bool) × (Nat → Int64) × (Nat → Int32), u165 = F_X4_store z162.1 z162.2.1 z162.2.2.1 z162.2.2.2 vks vms vcs ves p0 → u9 = (z106, z162.1, z162.2.1, z162.2.2.1, z162.2.2.2, u165.1, u165.2.1, u165.2.2.1, u165.2.2.2)))))) else u9 = (z106, vkd, vng, vcc, vqq, vks, vms, vcs, ves)))
theorem rF_X4_unpack (vkd : Int32) (vng : Bool) (vcc : Int64) (vqq : Int32) (vks : Nat → Int32) (vms : Nat → Bool) (vcs : Nat → Int64) (ves : Nat → Int32) (p0 : Int32) (p1 : Int32) (p2 : Int64) {u9 : Int32 × Int32 × Bool × Int64 × Int32 × (Nat → Int32) × (Nat → Bool) × (Nat → Int64) × (Nat → Int32)} (hu : u9 = F_X4_unpack vkd vng vcc vqq vks vms vcs ves p0 p1 p2) : RF_X4_unpack vkd vng vcc vqq vks vms vcs ves p0 p1 p2 u9 := by
  unfold RF_X4_unpack
  intro z106 ez106
  have hu := bnd_n hu ez106
  refine ite_P (fun c_109 => ?_) (fun c_109 => ?_)
  · have hu := hu.trans (if_pos c_109)
    intro z112 ez112
    have hu := bnd_n hu ez112
    intro n114 en114
    have hu := bnd_n hu en114
    intro z117 ez117
    have hu := bnd_n hu ez117
    intro z162 ez162
    have hu := bnd_n hu ez162
    intro u165 eu165
    have hu := bnd_n hu eu165
    exact hu
  · have hu := hu.trans (if_neg c_109)
    exact hu
def S_X4_unpack (vkd : Int32) (vng : Bool) (vcc : Int64) (vqq : Int32) (vks : Nat → Int32) (vms : Nat → Bool) (vcs : Nat → Int64) (ves : Nat → Int32) (p0 : Int32) (p1 : Int32) (p2 : Int64) : Prop := (∀ z106 : Int32, z106 = Z_X4_unpack_J_107 p0 p1 → (if z106 = 0 then (∀ z112 : Bool, z112 = Z_X4_unpack_J_113 p2 → (∀ n114 : Int32, n114 = ((jshrL p2 58) &&& 31).toInt32 → (∀ z117 : Bool, z117 = Z_X4_unpack_J_118 n114 → ((if n114 = 31 then True else (if n114 = 30 then True else (if p1 = 0 then True else (∀ z124 : Int64, z124 = Z_X4_unpack_J_125 n114 z117 → (∀ z128 : Int32, z128 = Z_X4_unpack_J_129 n114 z117 → (∀ n130 : Int32, n130 = (z128 * 256) + (((jshrL p2 50) &&& 255).toInt32) → G_X4_unpack_255 p2 (wl (G_X4_unpack_255 p2) (B_X4_unpack_255 p2) 901 (4, z124)) = false))))))) ∧ (∀ z162 : Int32 × Bool × Int64 × Int32, z162 = Z_X4_unpack_J_163 p1 p2 z112 n114 z117 → S_X4_store z162.1 z162.2.1 z162.2.2.1 z162.2.2.2 vks vms vcs ves p0)))) else True))
def rm_X4_unpack : Room := { frames := 1, cells := 0, slots := 0, locals := 30 }
set_option maxHeartbeats 4000000 in
set_option maxRecDepth 100000 in
theorem c_X4_unpack (l : Launch) (D : va_G) (cR cI cJ cZ : ClassId) (t0 : Nat) (am ak an ac ae ag aq : Nat) (vth : Int32) (vmo : Int32) (vfg : Int32) (vtp : Int32) (vkd : Int32) (vng : Bool) (vcc : Int64) (vqq : Int32) (vrs : Int32) (vct : Int32) (vun : Int32) (vre : Bool) (vks : Nat → Int32) (vms : Nat → Bool) (vcs : Nat → Int64) (ves : Nat → Int32) (vdg : Nat → Int32) (vog : Nat → Int32) (p0 : Int32) (p1 : Int32) (p2 : Int64) (u : Int32 × Int32 × Bool × Int64 × Int32 × (Nat → Int32) × (Nat → Bool) × (Nat → Int64) × (Nat → Int32)) (hu : u = F_X4_unpack vkd vng vcc vqq vks vms vcs ves p0 p1 p2) (hs : S_X4_unpack vkd vng vcc vqq vks vms vcs ves p0 p1 p2) : XM l D (xty cR cI cJ cZ) t0 yX4_unpack cX4_unpack 12 none rm_X4_unpack [.ref am, .int p0, .int p1, .long p2] none (mw cI cJ cZ am ak an ac ae ag aq vth vmo vfg vtp vkd vng vcc vqq vrs vct vun vre vks vms vcs ves vdg vog) (mw cI cJ cZ am ak an ac ae ag aq u.1 vmo vfg vtp u.2.1 u.2.2.1 u.2.2.2.1 u.2.2.2.2.1 vrs vct vun vre u.2.2.2.2.2.1 u.2.2.2.2.2.2.1 u.2.2.2.2.2.2.2.1 u.2.2.2.2.2.2.2.2 vdg vog) := by
  refine XM.of (by decide) (Nat.le_of_ble_eq_true rfl) ?_
  intro p e s m args below meth c A Q F hK hP hD hA hSt hS hQ ls hl
  obtain ⟨hx, hb, hr, hts, hown, hlocks, hml⟩ := F
  have hCF : CallFix p m c cX4_unpack 12 s args gW RX4 := ⟨hx, hb, hml, hown, hts⟩
  unfold S_X4_unpack at hs
  have hu := rF_X4_unpack vkd vng vcc vqq vks vms vcs ves p0 p1 p2 hu
  unfold RF_X4_unpack at hu
  obtain ⟨H, eH⟩ : ∃ y9 : Heap, y9 = s.heap := ⟨_, rfl⟩
  obtain ⟨locs, eL⟩ : ∃ y9 : List Loc, y9 = [] := ⟨_, rfl⟩
  rw [← eL] at hS ⊢
  have hP : va_P D vwCl (mw cI cJ cZ am ak an ac ae ag aq vth vmo vfg vtp vkd vng vcc vqq vrs vct vun vre vks vms vcs ves vdg vog) H := by rw [eH]; exact hP
  have hS : va_S A s.heap H locs := by rw [eH]; exact hS
  suffices goal9 : W p l e rm_X4_unpack s m args below meth c H locs 0 0 Q (F0 m 0 ls []) from by rw [← eH]; exact goal9
  have hl : lv_has ls 12 [(0, .ref am), (1, .int p0), (2, .int p1), (3, .long p2)] := hl
  have hi4 : ∀ w ∈ wsX40, w ∈ gW := inW_X4
  refine lv_aload_n hx hb dX4_unpack_0 rfl (lv_at hl 0 rfl) ?_
  refine lv_aload_n hx hb dX4_unpack_1 rfl (lv_at hl 0 rfl) ?_
  refine lv_iload_n hx hb dX4_unpack_2 rfl (lv_at hl 1 rfl) ?_
  refine x_V (As := [.int p0]) (rest := [.ref am]) hCF (c_X4_noRegister l D cR cI cJ cZ t0 am ak an ac ae ag aq vth vmo vfg vtp vkd vng vcc vqq vrs vct vun vre vks vms vcs ves vdg vog p0 _ rfl) (x_cwV 1 hts (inW_12 _ (List.mem_of_getElem? (i := 4) rfl)) (inW_12 _ (List.mem_of_getElem? (i := 5) rfl)) (inW_12 _ (List.mem_of_getElem? (i := 6) rfl)) (inW_9 _ (List.mem_of_getElem? (i := 5) rfl)) (inW_11 _ (List.mem_of_getElem? (i := 39) rfl)) rfl rfl (by decide +kernel) ⟨Nat.le_of_ble_eq_true rfl, Nat.le_of_ble_eq_true rfl⟩) hK hP hD hS hA hSt 0 rfl rfl rfl hl.1 rfl (Nat.le_of_ble_eq_true rfl) dX4_unpack_3 ⟨Nat.le_of_ble_eq_true rfl, Nat.le_of_ble_eq_true rfl⟩ (fun H locs hP hD hS => ?_)
  show W p l e _ s m args below meth c H locs 0 0 Q (F0 m 6 ls (.int (bI (F_X4_noRegister p0)) :: [.ref am]))
  have J_107 : (∀ z106 : Int32, z106 = Z_X4_unpack_J_107 p0 p1 → ∀ (H : Heap) (locs : List Loc), va_P D vwCl (mw cI cJ cZ am ak an ac ae ag aq vth vmo vfg vtp vkd vng vcc vqq vrs vct vun vre vks vms vcs ves vdg vog) H → va_D A (mw cI cJ cZ am ak an ac ae ag aq vth vmo vfg vtp vkd vng vcc vqq vrs vct vun vre vks vms vcs ves vdg vog) → va_S A s.heap H locs → ∀ ls : Array Slot, lv_has ls 12 [(0, .ref am), (1, .int p0), (2, .int p1), (3, .long p2)] → W p l e rm_X4_unpack s m args below meth c H locs 0 0 Q (F0 m 27 ls [.int z106, .ref am])) := by
    intro z106 ez106 H locs hP hD hS ls hl
    have hs := hs _ ez106
    have hu := hu _ ez106
    refine va_put (D := D) (ci := 5) (v := .int z106) (ty := .int) (C := RX4) (T := TX4) (N := 18) hx hb hts hi4 tyX4 tyX4_ok nmX4 hown hK hP hD hS 0 rfl rfl 0 (by decide) (hts (.fieldLink RX4 30 "DecimalWordsModel" "thrown" "I") (inW_8 _ (List.mem_of_getElem? (i := 38) rfl))) (fun _ h9 => h9) rfl (by decide +kernel) rfl rfl (Nat.le_of_ble_eq_true rfl) dX4_unpack_27 (fun H locs hP hD hS => ?_)
    have hP : va_P D vwCl (mw cI cJ cZ am ak an ac ae ag aq z106 vmo vfg vtp vkd vng vcc vqq vrs vct vun vre vks vms vcs ves vdg vog) H := hP
    have hD : va_D A (mw cI cJ cZ am ak an ac ae ag aq z106 vmo vfg vtp vkd vng vcc vqq vrs vct vun vre vks vms vcs ves vdg vog) := hD
    refine lv_aload_n hx hb dX4_unpack_30 rfl (lv_at hl 0 rfl) ?_
    refine va_get (D := D) (ci := 5) (v := .int z106) (C := RX4) (T := TX4) (N := 18) hx hb hts hi4 hown hK hP 0 rfl rfl 0 (by decide) (hts (.fieldLink RX4 30 "DecimalWordsModel" "thrown" "I") (inW_8 _ (List.mem_of_getElem? (i := 38) rfl))) (fun _ h9 => h9) rfl dX4_unpack_31 ?_
    refine lv_if_eq (tgt := 38) hx hb dX4_unpack_34 (by decide) (fun c_109 => ?_) (fun c_109 => ?_)
    · rw [if_pos c_109] at hs
      rw [if_pos c_109] at hu
      refine lv_lload_n hx hb dX4_unpack_38 rfl (lv_at hl 3 rfl) ?_
      refine lv_lconst (v := 0) hx hb dX4_unpack_39 (by decide) ?_
      have J_113 : (∀ z112 : Bool, z112 = Z_X4_unpack_J_113 p2 → ∀ (H : Heap) (locs : List Loc), va_P D vwCl (mw cI cJ cZ am ak an ac ae ag aq z106 vmo vfg vtp vkd vng vcc vqq vrs vct vun vre vks vms vcs ves vdg vog) H → va_D A (mw cI cJ cZ am ak an ac ae ag aq z106 vmo vfg vtp vkd vng vcc vqq vrs vct vun vre vks vms vcs ves vdg vog) → va_S A s.heap H locs → ∀ ls : Array Slot, lv_has ls 12 [(0, .ref am), (1, .int p0), (2, .int p1), (3, .long p2)] → W p l e rm_X4_unpack s m args below meth c H locs 0 0 Q (F0 m 49 ls [.int (bI z112)])) := by
        intro z112 ez112 H locs hP hD hS ls hl
        have hs := hs _ ez112
        have hu := hu _ ez112
        refine lv_istore (lv' := [(5, .int (bI z112)), (0, .ref am), (1, .int p0), (2, .int p1), (3, .long p2)]) hx hb dX4_unpack_49 hl (by decide) rfl (fun ls hl => ?_)
        refine lv_lload_n hx hb dX4_unpack_51 rfl (lv_at hl 4 rfl) ?_
        refine lv_bipush (v := 58) hx hb dX4_unpack_52 (by decide) ?_
        refine x_lshr hx hb dX4_unpack_54 ?_
        refine lv_ldc2 (v := 31) hx hb hown (hts (.constantLong RX4 199 (31)) (inW_12 _ (List.mem_of_getElem? (i := 32) rfl))) dX4_unpack_55 ?_
        refine lv_land hx hb dX4_unpack_58 ?_
        refine x_l2i hx hb dX4_unpack_59 ?_
        refine lv_topi (fun n114 en114 => ?_)
        have hs := hs _ en114
        have hu := hu _ en114
        refine lv_istore (lv' := [(6, .int n114), (5, .int (bI z112)), (0, .ref am), (1, .int p0), (2, .int p1), (3, .long p2)]) hx hb dX4_unpack_60 hl (by decide) rfl (fun ls hl => ?_)
        refine lv_iload hx hb dX4_unpack_62 (lv_at hl 0 rfl) ?_
        refine lv_iconst (v := 3) hx hb dX4_unpack_64 (by decide) ?_
        refine x_ishr hx hb dX4_unpack_65 ?_
        refine lv_iconst (v := 3) hx hb dX4_unpack_66 (by decide) ?_
        have J_118 : (∀ z117 : Bool, z117 = Z_X4_unpack_J_118 n114 → ∀ (H : Heap) (locs : List Loc), va_P D vwCl (mw cI cJ cZ am ak an ac ae ag aq z106 vmo vfg vtp vkd vng vcc vqq vrs vct vun vre vks vms vcs ves vdg vog) H → va_D A (mw cI cJ cZ am ak an ac ae ag aq z106 vmo vfg vtp vkd vng vcc vqq vrs vct vun vre vks vms vcs ves vdg vog) → va_S A s.heap H locs → ∀ ls : Array Slot, lv_has ls 12 [(0, .ref am), (1, .int p0), (2, .int p1), (3, .long p2), (5, .int (bI z112)), (6, .int n114)] → W p l e rm_X4_unpack s m args below meth c H locs 0 0 Q (F0 m 75 ls [.int (bI z117)])) := by
          intro z117 ez117 H locs hP hD hS ls hl
          have hs := hs _ ez117
          have hu := hu _ ez117
          refine lv_istore (lv' := [(7, .int (bI z117)), (0, .ref am), (1, .int p0), (2, .int p1), (3, .long p2), (5, .int (bI z112)), (6, .int n114)]) hx hb dX4_unpack_75 hl (by decide) rfl (fun ls hl => ?_)
          refine lv_iload hx hb dX4_unpack_77 (lv_at hl 6 rfl) ?_
          refine lv_bipush (v := 31) hx hb dX4_unpack_79 (by decide) ?_
          have J_163 : (∀ z162 : Int32 × Bool × Int64 × Int32, z162 = Z_X4_unpack_J_163 p1 p2 z112 n114 z117 → ∀ (H : Heap) (locs : List Loc), va_P D vwCl (mw cI cJ cZ am ak an ac ae ag aq z106 vmo vfg vtp z162.1 z162.2.1 z162.2.2.1 z162.2.2.2 vrs vct vun vre vks vms vcs ves vdg vog) H → va_D A (mw cI cJ cZ am ak an ac ae ag aq z106 vmo vfg vtp z162.1 z162.2.1 z162.2.2.1 z162.2.2.2 vrs vct vun vre vks vms vcs ves vdg vog) → va_S A s.heap H locs → ∀ ls : Array Slot, lv_has ls 12 [(0, .ref am), (1, .int p0)] → W p l e rm_X4_unpack s m args below meth c H locs 0 0 Q (F0 m 307 ls [])) := by
            intro z162 ez162 H locs hP hD hS ls hl
            have hs := hs.2
            have hs := hs _ ez162
            have hu := hu _ ez162
            refine lv_aload_n hx hb dX4_unpack_307 rfl (lv_at hl 0 rfl) ?_
            refine lv_iload_n hx hb dX4_unpack_308 rfl (lv_at hl 1 rfl) ?_
            have h_164 := hs
            obtain ⟨u165, eu165⟩ : ∃ y9 : (Nat → Int32) × (Nat → Bool) × (Nat → Int64) × (Nat → Int32), y9 = F_X4_store z162.1 z162.2.1 z162.2.2.1 z162.2.2.2 vks vms vcs ves p0 := ⟨_, rfl⟩
            have hu := hu _ eu165
            refine x_V (As := [.int p0]) (rest := []) hCF (c_X4_store l D cR cI cJ cZ t0 am ak an ac ae ag aq z106 vmo vfg vtp z162.1 z162.2.1 z162.2.2.1 z162.2.2.2 vrs vct vun vre vks vms vcs ves vdg vog p0 u165 eu165 h_164) (x_cwV 1 hts (inW_12 _ (List.mem_of_getElem? (i := 10) rfl)) (inW_12 _ (List.mem_of_getElem? (i := 11) rfl)) (inW_12 _ (List.mem_of_getElem? (i := 12) rfl)) (inW_9 _ (List.mem_of_getElem? (i := 5) rfl)) (inW_12 _ (List.mem_of_getElem? (i := 0) rfl)) rfl rfl (by decide +kernel) ⟨Nat.le_of_ble_eq_true rfl, Nat.le_of_ble_eq_true rfl⟩) hK hP hD hS hA hSt 0 rfl rfl rfl hl.1 rfl (Nat.le_of_ble_eq_true rfl) dX4_unpack_309 ⟨Nat.le_of_ble_eq_true rfl, Nat.le_of_ble_eq_true rfl⟩ (fun H locs hP hD hS => ?_)
            show W p l e _ s m args below meth c H locs 0 0 Q (F0 m 312 ls [])
            have e9 := Eq.symm hu; subst e9
            exact x_vret hx hb hr hlocks hQ hK hP hD hS rfl dX4_unpack_312
          have hs := hs.1
          obtain ⟨z9, ez9⟩ : ∃ y9 : Int32 × Bool × Int64 × Int32, y9 = Z_X4_unpack_J_163 p1 p2 z112 n114 z117 := ⟨_, rfl⟩
          have hz := rZ_X4_unpack_J_163 p1 p2 z112 n114 z117 ez9
          unfold RZ_X4_unpack_J_163 at hz
          refine lv_icmp_ne (tgt := 95) hx hb dX4_unpack_81 (by decide) (fun c_119 => ?_) (fun c_119 => ?_)
          · rw [if_neg c_119] at hs
            rw [if_neg c_119] at hz
            refine lv_iload hx hb dX4_unpack_95 (lv_at hl 6 rfl) ?_
            refine lv_bipush (v := 30) hx hb dX4_unpack_97 (by decide) ?_
            refine lv_icmp_ne (tgt := 114) hx hb dX4_unpack_99 (by decide) (fun c_120 => ?_) (fun c_120 => ?_)
            · rw [if_neg c_120] at hs
              rw [if_neg c_120] at hz
              refine lv_iload_n hx hb dX4_unpack_114 rfl (lv_at hl 3 rfl) ?_
              refine lv_if_ne (tgt := 194) hx hb dX4_unpack_115 (by decide) (fun c_121 => ?_) (fun c_121 => ?_)
              · rw [if_neg c_121] at hs
                rw [if_neg c_121] at hz
                refine lv_iload hx hb dX4_unpack_194 (lv_at hl 0 rfl) ?_
                have J_125 : (∀ z124 : Int64, z124 = Z_X4_unpack_J_125 n114 z117 → ∀ (H : Heap) (locs : List Loc), va_P D vwCl (mw cI cJ cZ am ak an ac ae ag aq z106 vmo vfg vtp vkd vng vcc vqq vrs vct vun vre vks vms vcs ves vdg vog) H → va_D A (mw cI cJ cZ am ak an ac ae ag aq z106 vmo vfg vtp vkd vng vcc vqq vrs vct vun vre vks vms vcs ves vdg vog) → va_S A s.heap H locs → ∀ ls : Array Slot, lv_has ls 12 [(0, .ref am), (1, .int p0), (3, .long p2), (5, .int (bI z112)), (6, .int n114), (7, .int (bI z117))] → W p l e rm_X4_unpack s m args below meth c H locs 0 0 Q (F0 m 216 ls [.long z124])) := by
                  intro z124 ez124 H locs hP hD hS ls hl
                  have hs := hs _ ez124
                  have hz := hz _ ez124
                  refine lv_lstore (lv' := [(8, .long z124), (0, .ref am), (1, .int p0), (3, .long p2), (5, .int (bI z112)), (6, .int n114), (7, .int (bI z117))]) hx hb dX4_unpack_216 hl (by decide) rfl (fun ls hl => ?_)
                  refine lv_iload hx hb dX4_unpack_218 (lv_at hl 6 rfl) ?_
                  have J_129 : (∀ z128 : Int32, z128 = Z_X4_unpack_J_129 n114 z117 → ∀ (H : Heap) (locs : List Loc), va_P D vwCl (mw cI cJ cZ am ak an ac ae ag aq z106 vmo vfg vtp vkd vng vcc vqq vrs vct vun vre vks vms vcs ves vdg vog) H → va_D A (mw cI cJ cZ am ak an ac ae ag aq z106 vmo vfg vtp vkd vng vcc vqq vrs vct vun vre vks vms vcs ves vdg vog) → va_S A s.heap H locs → ∀ ls : Array Slot, lv_has ls 12 [(0, .ref am), (1, .int p0), (3, .long p2), (5, .int (bI z112)), (8, .long z124)] → W p l e rm_X4_unpack s m args below meth c H locs 0 0 Q (F0 m 236 ls [.int z128])) := by
                    intro z128 ez128 H locs hP hD hS ls hl
                    have hs := hs _ ez128
                    have hz := hz _ ez128
                    refine lv_sipush (v := 256) hx hb dX4_unpack_236 (by decide) ?_
                    refine lv_imul hx hb dX4_unpack_239 ?_
                    refine lv_lload_n hx hb dX4_unpack_240 rfl (lv_at hl 2 rfl) ?_
                    refine lv_bipush (v := 50) hx hb dX4_unpack_241 (by decide) ?_
                    refine x_lshr hx hb dX4_unpack_243 ?_
                    refine lv_ldc2 (v := 255) hx hb hown (hts (.constantLong RX4 212 (255)) (inW_13 _ (List.mem_of_getElem? (i := 1) rfl))) dX4_unpack_244 ?_
                    refine lv_land hx hb dX4_unpack_247 ?_
                    refine x_l2i hx hb dX4_unpack_248 ?_
                    refine lv_iadd hx hb dX4_unpack_249 ?_
                    refine lv_topi (fun n130 en130 => ?_)
                    have hs := hs _ en130
                    have hz := hz _ en130
                    refine lv_istore (lv' := [(10, .int n130), (0, .ref am), (1, .int p0), (3, .long p2), (5, .int (bI z112)), (8, .long z124)]) hx hb dX4_unpack_250 hl (by decide) rfl (fun ls hl => ?_)
                    refine lv_iconst (v := 4) hx hb dX4_unpack_252 (by decide) ?_
                    refine lv_istore (lv' := [(11, .int 4), (10, .int n130), (0, .ref am), (1, .int p0), (3, .long p2), (5, .int (bI z112)), (8, .long z124)]) hx hb dX4_unpack_253 hl (by decide) rfl (fun ls hl => ?_)
                    have L_167 : ∀ (n9 : Nat) (t_255 : Int32 × Int64), (∀ j : Nat, j < n9 → G_X4_unpack_255 p2 (itn (B_X4_unpack_255 p2) j t_255) = true) → (∀ (H : Heap) (locs : List Loc), va_P D vwCl (mw cI cJ cZ am ak an ac ae ag aq z106 vmo vfg vtp vkd vng vcc vqq vrs vct vun vre vks vms vcs ves vdg vog) H → va_D A (mw cI cJ cZ am ak an ac ae ag aq z106 vmo vfg vtp vkd vng vcc vqq vrs vct vun vre vks vms vcs ves vdg vog) → va_S A s.heap H locs → ∀ ls : Array Slot, lv_has ls 12 [(0, .ref am), (1, .int p0), (3, .long p2), (5, .int (bI z112)), (8, .long ((itn (B_X4_unpack_255 p2) n9 t_255).2)), (10, .int n130), (11, .int ((itn (B_X4_unpack_255 p2) n9 t_255).1))] → W p l e rm_X4_unpack s m args below meth c H locs 0 0 Q (F0 m 255 ls [])) → ∀ (H : Heap) (locs : List Loc), va_P D vwCl (mw cI cJ cZ am ak an ac ae ag aq z106 vmo vfg vtp vkd vng vcc vqq vrs vct vun vre vks vms vcs ves vdg vog) H → va_D A (mw cI cJ cZ am ak an ac ae ag aq z106 vmo vfg vtp vkd vng vcc vqq vrs vct vun vre vks vms vcs ves vdg vog) → va_S A s.heap H locs → ∀ ls : Array Slot, lv_has ls 12 [(0, .ref am), (1, .int p0), (3, .long p2), (5, .int (bI z112)), (8, .long t_255.2), (10, .int n130), (11, .int t_255.1)] → W p l e rm_X4_unpack s m args below meth c H locs 0 0 Q (F0 m 255 ls []) := by
                      intro n9
                      induction n9 with
                      | zero => exact fun _ _ k9 => k9
                      | succ n9 ih9 =>
                        intro t_255 hG9 k9 H locs hP hD hS ls hl
                        have hG0 : G_X4_unpack_255 p2 t_255 = true := hG9 0 (Nat.succ_pos n9)
                        have hg := rG_X4_unpack_255 p2 t_255 (Eq.symm hG0)
                        unfold RG_X4_unpack_255 at hg
                        obtain ⟨t9, et9⟩ : ∃ y9 : Int32 × Int64, y9 = (B_X4_unpack_255 p2) t_255 := ⟨_, rfl⟩
                        have hb9 := rB_X4_unpack_255 p2 t_255 et9
                        unfold RB_X4_unpack_255 at hb9
                        refine lv_iload hx hb dX4_unpack_255 (lv_at hl 6 rfl) ?_
                        refine lv_if_lt (tgt := 292) hx hb dX4_unpack_257 (by decide) (fun c_131 => ?_) (fun c_131 => ?_)
                        · rw [if_pos c_131] at hg
                          exact absurd hg (by decide)
                        · rw [if_neg c_131] at hg
                          rw [if_neg c_131] at hb9
                          refine lv_ldc2 (v := 1000) hx hb hown (hts (.constantLong RX4 184 (1000)) (inW_12 _ (List.mem_of_getElem? (i := 22) rfl))) dX4_unpack_260 ?_
                          refine lv_lload hx hb dX4_unpack_263 (lv_at hl 4 rfl) ?_
                          refine lv_lmul hx hb dX4_unpack_265 ?_
                          refine lv_aload_n hx hb dX4_unpack_266 rfl (lv_at hl 0 rfl) ?_
                          refine lv_lload_n hx hb dX4_unpack_267 rfl (lv_at hl 2 rfl) ?_
                          refine lv_bipush (v := 10) hx hb dX4_unpack_268 (by decide) ?_
                          refine lv_iload hx hb dX4_unpack_270 (lv_at hl 6 rfl) ?_
                          refine lv_imul hx hb dX4_unpack_272 ?_
                          refine x_lshr hx hb dX4_unpack_273 ?_
                          refine lv_ldc2 (v := 1023) hx hb hown (hts (.constantLong RX4 210 (1023)) (inW_13 _ (List.mem_of_getElem? (i := 0) rfl))) dX4_unpack_274 ?_
                          refine lv_land hx hb dX4_unpack_277 ?_
                          refine x_l2i hx hb dX4_unpack_278 ?_
                          refine x_V (As := [.int (((jshrL p2 (10 * t_255.1)) &&& 1023).toInt32)]) (rest := [.long (1000 * t_255.2)]) hCF (c_X4_three l D cR cI cJ cZ t0 am ak an ac ae ag aq z106 vmo vfg vtp vkd vng vcc vqq vrs vct vun vre vks vms vcs ves vdg vog (((jshrL p2 (10 * t_255.1)) &&& 1023).toInt32) _ rfl) (x_cwV 1 hts (inW_13 _ (List.mem_of_getElem? (i := 2) rfl)) (inW_13 _ (List.mem_of_getElem? (i := 3) rfl)) (inW_13 _ (List.mem_of_getElem? (i := 4) rfl)) (inW_9 _ (List.mem_of_getElem? (i := 5) rfl)) (inW_12 _ (List.mem_of_getElem? (i := 20) rfl)) rfl rfl (by decide +kernel) ⟨Nat.le_of_ble_eq_true rfl, Nat.le_of_ble_eq_true rfl⟩) hK hP hD hS hA hSt 0 rfl rfl rfl hl.1 rfl (Nat.le_of_ble_eq_true rfl) dX4_unpack_279 ⟨Nat.le_of_ble_eq_true rfl, Nat.le_of_ble_eq_true rfl⟩ (fun H locs hP hD hS => ?_)
                          show W p l e _ s m args below meth c H locs 0 0 Q (F0 m 282 ls (.int (F_X4_three (((jshrL p2 (10 * t_255.1)) &&& 1023).toInt32)) :: [.long (1000 * t_255.2)]))
                          refine x_i2l hx hb dX4_unpack_282 ?_
                          refine lv_ladd hx hb dX4_unpack_283 ?_
                          refine lv_topl (fun n133 en133 => ?_)
                          have hb9 := hb9 _ en133
                          refine lv_lstore (lv' := [(8, .long n133), (0, .ref am), (1, .int p0), (3, .long p2), (5, .int (bI z112)), (10, .int n130), (11, .int t_255.1)]) hx hb dX4_unpack_284 hl (by decide) rfl (fun ls hl => ?_)
                          obtain ⟨n134, en134⟩ : ∃ y9 : Int32, y9 = t_255.1 + (-1) := ⟨_, rfl⟩
                          have hb9 := hb9 _ en134
                          refine lv_iinc (v := n134) (lv' := [(11, .int n134), (8, .long n133), (0, .ref am), (1, .int p0), (3, .long p2), (5, .int (bI z112)), (10, .int n130)]) hx hb dX4_unpack_286 hl (k := 6) rfl (by rw [en134]; rfl) (by decide) rfl (fun ls hl => ?_)
                          refine lv_goto (tgt := 255) hx hb dX4_unpack_289 (by decide) ?_
                          have e9 := Eq.symm hb9; subst e9
                          have key9 := ih9 ((B_X4_unpack_255 p2) t_255) (fun j hj => hG9 (j + 1) (Nat.succ_lt_succ hj)) k9
                          rw [← et9] at key9
                          exact key9 H locs hP hD hS ls (lv_sub hl [2, 3, 4, 5, 1, 6, 0] rfl)
                    have hG1 := hs
                    refine L_167 (nW (G_X4_unpack_255 p2) (B_X4_unpack_255 p2) 901 (4, z124)) (4, z124) (nW_lt _ _ _ _) (fun H locs hP hD hS ls hl => ?_) H locs hP hD hS ls (lv_sub hl [2, 3, 4, 5, 6, 1, 0] rfl)
                    obtain ⟨z135, ez135⟩ : ∃ y9 : Int32 × Int64, y9 = wl (G_X4_unpack_255 p2) (B_X4_unpack_255 p2) 901 (4, z124) := ⟨_, rfl⟩
                    have e9 : z135 = itn (B_X4_unpack_255 p2) (nW (G_X4_unpack_255 p2) (B_X4_unpack_255 p2) 901 (4, z124)) (4, z124) := ez135
                    try rw [← e9] at hP
                    try rw [← e9] at hD
                    try rw [← e9] at hl
                    rw [← ez135] at hG1
                    clear e9
                    have hg := rG_X4_unpack_255 p2 z135 (Eq.symm hG1)
                    unfold RG_X4_unpack_255 at hg
                    have hz := hz _ ez135
                    refine lv_iload hx hb dX4_unpack_255 (lv_at hl 6 rfl) ?_
                    have J_139 : ∀ (H : Heap) (locs : List Loc), va_P D vwCl (mw cI cJ cZ am ak an ac ae ag aq z106 vmo vfg vtp vkd vng vcc vqq vrs vct vun vre vks vms vcs ves vdg vog) H → va_D A (mw cI cJ cZ am ak an ac ae ag aq z106 vmo vfg vtp vkd vng vcc vqq vrs vct vun vre vks vms vcs ves vdg vog) → va_S A s.heap H locs → ∀ ls : Array Slot, lv_has ls 12 [(0, .ref am), (1, .int p0), (5, .int (bI z112)), (8, .long z135.2), (10, .int n130)] → W p l e rm_X4_unpack s m args below meth c H locs 0 0 Q (F0 m 292 ls []) := by
                      intro H locs hP hD hS ls hl
                      refine lv_aload_n hx hb dX4_unpack_292 rfl (lv_at hl 0 rfl) ?_
                      refine lv_iconst (v := 0) hx hb dX4_unpack_293 (by decide) ?_
                      refine lv_iload hx hb dX4_unpack_294 (lv_at hl 2 rfl) ?_
                      refine lv_lload hx hb dX4_unpack_296 (lv_at hl 3 rfl) ?_
                      refine lv_iload hx hb dX4_unpack_298 (lv_at hl 4 rfl) ?_
                      refine lv_sipush (v := (-398)) hx hb dX4_unpack_300 (by decide) ?_
                      refine lv_iadd hx hb dX4_unpack_303 ?_
                      obtain ⟨u140, eu140⟩ : ∃ y9 : Int32 × Bool × Int64 × Int32, y9 = F_X4_be (0 : Int32) z112 z135.2 (n130 + (-398)) := ⟨_, rfl⟩
                      have hz := hz _ eu140
                      refine x_V (As := [.int 0, .int (bI z112), .long z135.2, .int (n130 + (-398))]) (rest := []) hCF (c_X4_be l D cR cI cJ cZ t0 am ak an ac ae ag aq z106 vmo vfg vtp vkd vng vcc vqq vrs vct vun vre vks vms vcs ves vdg vog (0 : Int32) z112 z135.2 (n130 + (-398)) u140 eu140) (x_cwV 4 hts (inW_9 _ (List.mem_of_getElem? (i := 18) rfl)) (inW_9 _ (List.mem_of_getElem? (i := 19) rfl)) (inW_9 _ (List.mem_of_getElem? (i := 20) rfl)) (inW_9 _ (List.mem_of_getElem? (i := 5) rfl)) (inW_9 _ (List.mem_of_getElem? (i := 11) rfl)) rfl rfl (by decide +kernel) ⟨Nat.le_of_ble_eq_true rfl, Nat.le_of_ble_eq_true rfl⟩) hK hP hD hS hA hSt 0 rfl rfl rfl hl.1 rfl (Nat.le_of_ble_eq_true rfl) dX4_unpack_304 ⟨Nat.le_of_ble_eq_true rfl, Nat.le_of_ble_eq_true rfl⟩ (fun H locs hP hD hS => ?_)
                      show W p l e _ s m args below meth c H locs 0 0 Q (F0 m 307 ls [])
                      have e9 := Eq.symm hz; subst e9
                      exact J_163 _ ez9 H locs hP hD hS ls (lv_sub hl [0, 1] rfl)
                    refine lv_if_lt (tgt := 292) hx hb dX4_unpack_257 (by decide) (fun c_137 => ?_) (fun c_137 => ?_)
                    · rw [if_pos c_137] at hg
                      exact J_139 H locs hP hD hS ls (lv_sub hl [0, 1, 3, 4, 5] rfl)
                    · rw [if_neg c_137] at hg
                      exact absurd hg (by decide)
                  obtain ⟨z9, ez9⟩ : ∃ y9 : Int32, y9 = Z_X4_unpack_J_129 n114 z117 := ⟨_, rfl⟩
                  have hz := rZ_X4_unpack_J_129 n114 z117 ez9
                  unfold RZ_X4_unpack_J_129 at hz
                  refine xb_eq (tgt := 232) hx hb dX4_unpack_220 (by decide) (fun c_126 => ?_) (fun c_126 => ?_)
                  · rw [if_neg c_126] at hz
                    refine lv_iload hx hb dX4_unpack_232 (lv_at hl 5 rfl) ?_
                    refine lv_iconst (v := 3) hx hb dX4_unpack_234 (by decide) ?_
                    refine x_ishr hx hb dX4_unpack_235 ?_
                    have e9 := Eq.symm hz; subst e9
                    exact J_129 _ ez9 H locs hP hD hS ls (lv_sub hl [1, 2, 3, 4, 0] rfl)
                  · rw [if_pos c_126] at hz
                    refine lv_iload hx hb dX4_unpack_223 (lv_at hl 5 rfl) ?_
                    refine lv_iconst (v := 1) hx hb dX4_unpack_225 (by decide) ?_
                    refine x_ishr hx hb dX4_unpack_226 ?_
                    refine lv_iconst (v := 3) hx hb dX4_unpack_227 (by decide) ?_
                    refine lv_iand hx hb dX4_unpack_228 ?_
                    refine lv_goto (tgt := 236) hx hb dX4_unpack_229 (by decide) ?_
                    have e9 := Eq.symm hz; subst e9
                    exact J_129 _ ez9 H locs hP hD hS ls (lv_sub hl [1, 2, 3, 4, 0] rfl)
                obtain ⟨z9, ez9⟩ : ∃ y9 : Int64, y9 = Z_X4_unpack_J_125 n114 z117 := ⟨_, rfl⟩
                have hz := rZ_X4_unpack_J_125 n114 z117 ez9
                unfold RZ_X4_unpack_J_125 at hz
                refine xb_eq (tgt := 210) hx hb dX4_unpack_196 (by decide) (fun c_122 => ?_) (fun c_122 => ?_)
                · rw [if_neg c_122] at hz
                  refine lv_iload hx hb dX4_unpack_210 (lv_at hl 6 rfl) ?_
                  refine lv_bipush (v := 7) hx hb dX4_unpack_212 (by decide) ?_
                  refine lv_iand hx hb dX4_unpack_214 ?_
                  refine x_i2l hx hb dX4_unpack_215 ?_
                  have e9 := Eq.symm hz; subst e9
                  exact J_125 _ ez9 H locs hP hD hS ls (lv_sub hl [1, 2, 4, 5, 6, 0] rfl)
                · rw [if_pos c_122] at hz
                  refine lv_bipush (v := 8) hx hb dX4_unpack_199 (by decide) ?_
                  refine lv_iload hx hb dX4_unpack_201 (lv_at hl 6 rfl) ?_
                  refine lv_iconst (v := 1) hx hb dX4_unpack_203 (by decide) ?_
                  refine lv_iand hx hb dX4_unpack_204 ?_
                  refine lv_iadd hx hb dX4_unpack_205 ?_
                  refine x_i2l hx hb dX4_unpack_206 ?_
                  refine lv_goto (tgt := 216) hx hb dX4_unpack_207 (by decide) ?_
                  have e9 := Eq.symm hz; subst e9
                  exact J_125 _ ez9 H locs hP hD hS ls (lv_sub hl [1, 2, 4, 5, 6, 0] rfl)
              · rw [if_pos c_121] at hz
                refine lv_iload hx hb dX4_unpack_118 (lv_at hl 0 rfl) ?_
                have J_145 : (∀ z144 : Int64, z144 = Z_X4_unpack_J_145 p2 z117 → ∀ (H : Heap) (locs : List Loc), va_P D vwCl (mw cI cJ cZ am ak an ac ae ag aq z106 vmo vfg vtp vkd vng vcc vqq vrs vct vun vre vks vms vcs ves vdg vog) H → va_D A (mw cI cJ cZ am ak an ac ae ag aq z106 vmo vfg vtp vkd vng vcc vqq vrs vct vun vre vks vms vcs ves vdg vog) → va_S A s.heap H locs → ∀ ls : Array Slot, lv_has ls 12 [(0, .ref am), (1, .int p0), (3, .long p2), (5, .int (bI z112)), (7, .int (bI z117))] → W p l e rm_X4_unpack s m args below meth c H locs 0 0 Q (F0 m 140 ls [.long z144])) := by
                  intro z144 ez144 H locs hP hD hS ls hl
                  have hz := hz _ ez144
                  refine lv_lstore (lv' := [(8, .long z144), (0, .ref am), (1, .int p0), (3, .long p2), (5, .int (bI z112)), (7, .int (bI z117))]) hx hb dX4_unpack_140 hl (by decide) rfl (fun ls hl => ?_)
                  refine lv_lload_n hx hb dX4_unpack_142 rfl (lv_at hl 3 rfl) ?_
                  refine lv_iload hx hb dX4_unpack_143 (lv_at hl 5 rfl) ?_
                  have J_149 : (∀ z148 : Int32, z148 = Z_X4_unpack_J_149 z117 → ∀ (H : Heap) (locs : List Loc), va_P D vwCl (mw cI cJ cZ am ak an ac ae ag aq z106 vmo vfg vtp vkd vng vcc vqq vrs vct vun vre vks vms vcs ves vdg vog) H → va_D A (mw cI cJ cZ am ak an ac ae ag aq z106 vmo vfg vtp vkd vng vcc vqq vrs vct vun vre vks vms vcs ves vdg vog) → va_S A s.heap H locs → ∀ ls : Array Slot, lv_has ls 12 [(0, .ref am), (1, .int p0), (5, .int (bI z112)), (8, .long z144)] → W p l e rm_X4_unpack s m args below meth c H locs 0 0 Q (F0 m 155 ls [.int z148, .long p2])) := by
                    intro z148 ez148 H locs hP hD hS ls hl
                    have hz := hz _ ez148
                    refine x_lshr hx hb dX4_unpack_155 ?_
                    refine lv_ldc2 (v := 1023) hx hb hown (hts (.constantLong RX4 210 (1023)) (inW_13 _ (List.mem_of_getElem? (i := 0) rfl))) dX4_unpack_156 ?_
                    refine lv_land hx hb dX4_unpack_159 ?_
                    refine x_l2i hx hb dX4_unpack_160 ?_
                    refine lv_topi (fun n150 en150 => ?_)
                    have hz := hz _ en150
                    refine lv_istore (lv' := [(10, .int n150), (0, .ref am), (1, .int p0), (5, .int (bI z112)), (8, .long z144)]) hx hb dX4_unpack_161 hl (by decide) rfl (fun ls hl => ?_)
                    refine lv_aload_n hx hb dX4_unpack_163 rfl (lv_at hl 1 rfl) ?_
                    refine lv_iconst (v := 0) hx hb dX4_unpack_164 (by decide) ?_
                    refine lv_iload hx hb dX4_unpack_165 (lv_at hl 3 rfl) ?_
                    refine lv_lload hx hb dX4_unpack_167 (lv_at hl 4 rfl) ?_
                    refine lv_ldc2 (v := 10000000000000000) hx hb hown (hts (.constantLong RX4 97 (10000000000000000)) (inW_9 _ (List.mem_of_getElem? (i := 34) rfl))) dX4_unpack_169 ?_
                    have J_154 : (∀ z153 : Int64, z153 = Z_X4_unpack_J_154 z144 → ∀ (H : Heap) (locs : List Loc), va_P D vwCl (mw cI cJ cZ am ak an ac ae ag aq z106 vmo vfg vtp vkd vng vcc vqq vrs vct vun vre vks vms vcs ves vdg vog) H → va_D A (mw cI cJ cZ am ak an ac ae ag aq z106 vmo vfg vtp vkd vng vcc vqq vrs vct vun vre vks vms vcs ves vdg vog) → va_S A s.heap H locs → ∀ ls : Array Slot, lv_has ls 12 [(0, .ref am), (1, .int p0), (10, .int n150)] → W p l e rm_X4_unpack s m args below meth c H locs 0 0 Q (F0 m 182 ls [.long z153, .int (bI z112), .int 0, .ref am])) := by
                      intro z153 ez153 H locs hP hD hS ls hl
                      have hz := hz _ ez153
                      refine lv_iload hx hb dX4_unpack_182 (lv_at hl 2 rfl) ?_
                      refine lv_sipush (v := (-398)) hx hb dX4_unpack_184 (by decide) ?_
                      refine lv_iadd hx hb dX4_unpack_187 ?_
                      obtain ⟨u155, eu155⟩ : ∃ y9 : Int32 × Bool × Int64 × Int32, y9 = F_X4_be (0 : Int32) z112 z153 (n150 + (-398)) := ⟨_, rfl⟩
                      have hz := hz _ eu155
                      refine x_V (As := [.int 0, .int (bI z112), .long z153, .int (n150 + (-398))]) (rest := []) hCF (c_X4_be l D cR cI cJ cZ t0 am ak an ac ae ag aq z106 vmo vfg vtp vkd vng vcc vqq vrs vct vun vre vks vms vcs ves vdg vog (0 : Int32) z112 z153 (n150 + (-398)) u155 eu155) (x_cwV 4 hts (inW_9 _ (List.mem_of_getElem? (i := 18) rfl)) (inW_9 _ (List.mem_of_getElem? (i := 19) rfl)) (inW_9 _ (List.mem_of_getElem? (i := 20) rfl)) (inW_9 _ (List.mem_of_getElem? (i := 5) rfl)) (inW_9 _ (List.mem_of_getElem? (i := 11) rfl)) rfl rfl (by decide +kernel) ⟨Nat.le_of_ble_eq_true rfl, Nat.le_of_ble_eq_true rfl⟩) hK hP hD hS hA hSt 0 rfl rfl rfl hl.1 rfl (Nat.le_of_ble_eq_true rfl) dX4_unpack_188 ⟨Nat.le_of_ble_eq_true rfl, Nat.le_of_ble_eq_true rfl⟩ (fun H locs hP hD hS => ?_)
                      show W p l e _ s m args below meth c H locs 0 0 Q (F0 m 191 ls [])
                      refine lv_goto (tgt := 307) hx hb dX4_unpack_191 (by decide) ?_
                      have e9 := Eq.symm hz; subst e9
                      exact J_163 _ ez9 H locs hP hD hS ls (lv_sub hl [0, 1] rfl)
                    obtain ⟨z9, ez9⟩ : ∃ y9 : Int64, y9 = Z_X4_unpack_J_154 z144 := ⟨_, rfl⟩
                    have hz := rZ_X4_unpack_J_154 z144 ez9
                    unfold RZ_X4_unpack_J_154 at hz
                    refine xl_lt (tgt := 180) hx hb dX4_unpack_172 dX4_unpack_173 (by decide) (fun c_151 => ?_) (fun c_151 => ?_)
                    · rw [if_pos c_151] at hz
                      refine lv_lload hx hb dX4_unpack_180 (lv_at hl 4 rfl) ?_
                      have e9 := Eq.symm hz; subst e9
                      exact J_154 _ ez9 H locs hP hD hS ls (lv_sub hl [1, 2, 0] rfl)
                    · rw [if_neg c_151] at hz
                      refine lv_lconst (v := 0) hx hb dX4_unpack_176 (by decide) ?_
                      refine lv_goto (tgt := 182) hx hb dX4_unpack_177 (by decide) ?_
                      have e9 := Eq.symm hz; subst e9
                      exact J_154 _ ez9 H locs hP hD hS ls (lv_sub hl [1, 2, 0] rfl)
                  obtain ⟨z9, ez9⟩ : ∃ y9 : Int32, y9 = Z_X4_unpack_J_149 z117 := ⟨_, rfl⟩
                  have hz := rZ_X4_unpack_J_149 z117 ez9
                  unfold RZ_X4_unpack_J_149 at hz
                  refine xb_eq (tgt := 153) hx hb dX4_unpack_145 (by decide) (fun c_146 => ?_) (fun c_146 => ?_)
                  · rw [if_neg c_146] at hz
                    refine lv_bipush (v := 53) hx hb dX4_unpack_153 (by decide) ?_
                    have e9 := Eq.symm hz; subst e9
                    exact J_149 _ ez9 H locs hP hD hS ls (lv_sub hl [1, 2, 4, 0] rfl)
                  · rw [if_pos c_146] at hz
                    refine lv_bipush (v := 51) hx hb dX4_unpack_148 (by decide) ?_
                    refine lv_goto (tgt := 155) hx hb dX4_unpack_150 (by decide) ?_
                    have e9 := Eq.symm hz; subst e9
                    exact J_149 _ ez9 H locs hP hD hS ls (lv_sub hl [1, 2, 4, 0] rfl)
                obtain ⟨z9, ez9⟩ : ∃ y9 : Int64, y9 = Z_X4_unpack_J_145 p2 z117 := ⟨_, rfl⟩
                have hz := rZ_X4_unpack_J_145 p2 z117 ez9
                unfold RZ_X4_unpack_J_145 at hz
                refine xb_eq (tgt := 135) hx hb dX4_unpack_120 (by decide) (fun c_142 => ?_) (fun c_142 => ?_)
                · rw [if_neg c_142] at hz
                  refine lv_lload_n hx hb dX4_unpack_135 rfl (lv_at hl 4 rfl) ?_
                  refine lv_ldc2 (v := 9007199254740991) hx hb hown (hts (.constantLong RX4 208 (9007199254740991)) (inW_12 _ (List.mem_of_getElem? (i := 39) rfl))) dX4_unpack_136 ?_
                  refine lv_land hx hb dX4_unpack_139 ?_
                  have e9 := Eq.symm hz; subst e9
                  exact J_145 _ ez9 H locs hP hD hS ls (lv_sub hl [1, 2, 4, 5, 0] rfl)
                · rw [if_pos c_142] at hz
                  refine lv_lload_n hx hb dX4_unpack_123 rfl (lv_at hl 4 rfl) ?_
                  refine lv_ldc2 (v := 2251799813685247) hx hb hown (hts (.constantLong RX4 206 (2251799813685247)) (inW_12 _ (List.mem_of_getElem? (i := 38) rfl))) dX4_unpack_124 ?_
                  refine lv_land hx hb dX4_unpack_127 ?_
                  refine lv_ldc2 (v := 9007199254740992) hx hb hown (hts (.constantLong RX4 204 (9007199254740992)) (inW_12 _ (List.mem_of_getElem? (i := 33) rfl))) dX4_unpack_128 ?_
                  refine lv_ladd hx hb dX4_unpack_131 ?_
                  refine lv_goto (tgt := 140) hx hb dX4_unpack_132 (by decide) ?_
                  have e9 := Eq.symm hz; subst e9
                  exact J_145 _ ez9 H locs hP hD hS ls (lv_sub hl [1, 2, 4, 5, 0] rfl)
            · rw [if_pos c_120] at hz
              refine lv_aload_n hx hb dX4_unpack_102 rfl (lv_at hl 1 rfl) ?_
              refine lv_iconst (v := 1) hx hb dX4_unpack_103 (by decide) ?_
              refine lv_iload hx hb dX4_unpack_104 (lv_at hl 5 rfl) ?_
              refine lv_lconst (v := 0) hx hb dX4_unpack_106 (by decide) ?_
              refine lv_iconst (v := 0) hx hb dX4_unpack_107 (by decide) ?_
              obtain ⟨u157, eu157⟩ : ∃ y9 : Int32 × Bool × Int64 × Int32, y9 = F_X4_be (1 : Int32) z112 (0 : Int64) (0 : Int32) := ⟨_, rfl⟩
              have hz := hz _ eu157
              refine x_V (As := [.int 1, .int (bI z112), .long 0, .int 0]) (rest := []) hCF (c_X4_be l D cR cI cJ cZ t0 am ak an ac ae ag aq z106 vmo vfg vtp vkd vng vcc vqq vrs vct vun vre vks vms vcs ves vdg vog (1 : Int32) z112 (0 : Int64) (0 : Int32) u157 eu157) (x_cwV 4 hts (inW_9 _ (List.mem_of_getElem? (i := 18) rfl)) (inW_9 _ (List.mem_of_getElem? (i := 19) rfl)) (inW_9 _ (List.mem_of_getElem? (i := 20) rfl)) (inW_9 _ (List.mem_of_getElem? (i := 5) rfl)) (inW_9 _ (List.mem_of_getElem? (i := 11) rfl)) rfl rfl (by decide +kernel) ⟨Nat.le_of_ble_eq_true rfl, Nat.le_of_ble_eq_true rfl⟩) hK hP hD hS hA hSt 0 rfl rfl rfl hl.1 rfl (Nat.le_of_ble_eq_true rfl) dX4_unpack_108 ⟨Nat.le_of_ble_eq_true rfl, Nat.le_of_ble_eq_true rfl⟩ (fun H locs hP hD hS => ?_)
              show W p l e _ s m args below meth c H locs 0 0 Q (F0 m 111 ls [])
              refine lv_goto (tgt := 307) hx hb dX4_unpack_111 (by decide) ?_
              have e9 := Eq.symm hz; subst e9
              exact J_163 _ ez9 H locs hP hD hS ls (lv_sub hl [1, 2] rfl)
          · rw [if_pos c_119] at hz
            refine lv_aload_n hx hb dX4_unpack_84 rfl (lv_at hl 1 rfl) ?_
            refine lv_iconst (v := 2) hx hb dX4_unpack_85 (by decide) ?_
            refine lv_iconst (v := 0) hx hb dX4_unpack_86 (by decide) ?_
            refine lv_lconst (v := 0) hx hb dX4_unpack_87 (by decide) ?_
            refine lv_iconst (v := 0) hx hb dX4_unpack_88 (by decide) ?_
            obtain ⟨u159, eu159⟩ : ∃ y9 : Int32 × Bool × Int64 × Int32, y9 = F_X4_be (2 : Int32) false (0 : Int64) (0 : Int32) := ⟨_, rfl⟩
            have hz := hz _ eu159
            refine x_V (As := [.int 2, .int (bI false), .long 0, .int 0]) (rest := []) hCF (c_X4_be l D cR cI cJ cZ t0 am ak an ac ae ag aq z106 vmo vfg vtp vkd vng vcc vqq vrs vct vun vre vks vms vcs ves vdg vog (2 : Int32) false (0 : Int64) (0 : Int32) u159 eu159) (x_cwV 4 hts (inW_9 _ (List.mem_of_getElem? (i := 18) rfl)) (inW_9 _ (List.mem_of_getElem? (i := 19) rfl)) (inW_9 _ (List.mem_of_getElem? (i := 20) rfl)) (inW_9 _ (List.mem_of_getElem? (i := 5) rfl)) (inW_9 _ (List.mem_of_getElem? (i := 11) rfl)) rfl rfl (by decide +kernel) ⟨Nat.le_of_ble_eq_true rfl, Nat.le_of_ble_eq_true rfl⟩) hK hP hD hS hA hSt 0 rfl rfl rfl hl.1 rfl (Nat.le_of_ble_eq_true rfl) dX4_unpack_89 ⟨Nat.le_of_ble_eq_true rfl, Nat.le_of_ble_eq_true rfl⟩ (fun H locs hP hD hS => ?_)
            show W p l e _ s m args below meth c H locs 0 0 Q (F0 m 92 ls [])
            refine lv_goto (tgt := 307) hx hb dX4_unpack_92 (by decide) ?_
            have e9 := Eq.symm hz; subst e9
            exact J_163 _ ez9 H locs hP hD hS ls (lv_sub hl [1, 2] rfl)
        obtain ⟨z9, ez9⟩ : ∃ y9 : Bool, y9 = Z_X4_unpack_J_118 n114 := ⟨_, rfl⟩
        have hz := rZ_X4_unpack_J_118 n114 ez9
        unfold RZ_X4_unpack_J_118 at hz
        refine lv_icmp_ne (tgt := 74) hx hb dX4_unpack_67 (by decide) (fun c_115 => ?_) (fun c_115 => ?_)
        · rw [if_neg c_115] at hz
          refine lv_iconst (v := 0) hx hb dX4_unpack_74 (by decide) ?_
          have e9 := Eq.symm hz; subst e9
          exact J_118 _ ez9 H locs hP hD hS ls (lv_sub hl [2, 3, 4, 5, 1, 0] rfl)
        · rw [if_pos c_115] at hz
          refine lv_iconst (v := 1) hx hb dX4_unpack_70 (by decide) ?_
          refine lv_goto (tgt := 75) hx hb dX4_unpack_71 (by decide) ?_
          have e9 := Eq.symm hz; subst e9
          exact J_118 _ ez9 H locs hP hD hS ls (lv_sub hl [2, 3, 4, 5, 1, 0] rfl)
      obtain ⟨z9, ez9⟩ : ∃ y9 : Bool, y9 = Z_X4_unpack_J_113 p2 := ⟨_, rfl⟩
      have hz := rZ_X4_unpack_J_113 p2 ez9
      unfold RZ_X4_unpack_J_113 at hz
      refine xl_ge (tgt := 48) hx hb dX4_unpack_40 dX4_unpack_41 (by decide) (fun c_110 => ?_) (fun c_110 => ?_)
      · rw [if_pos c_110] at hz
        refine lv_iconst (v := 0) hx hb dX4_unpack_48 (by decide) ?_
        have e9 := Eq.symm hz; subst e9
        exact J_113 _ ez9 H locs hP hD hS ls (lv_sub hl [0, 1, 2, 3] rfl)
      · rw [if_neg c_110] at hz
        refine lv_iconst (v := 1) hx hb dX4_unpack_44 (by decide) ?_
        refine lv_goto (tgt := 49) hx hb dX4_unpack_45 (by decide) ?_
        have e9 := Eq.symm hz; subst e9
        exact J_113 _ ez9 H locs hP hD hS ls (lv_sub hl [0, 1, 2, 3] rfl)
    · rw [if_neg c_109] at hu
      have e9 := Eq.symm hu; subst e9
      exact x_vret hx hb hr hlocks hQ hK hP hD hS rfl dX4_unpack_37
  obtain ⟨z9, ez9⟩ : ∃ y9 : Int32, y9 = Z_X4_unpack_J_107 p0 p1 := ⟨_, rfl⟩
  have hz := rZ_X4_unpack_J_107 p0 p1 ez9
  unfold RZ_X4_unpack_J_107 at hz
  refine xb_eq (tgt := 13) hx hb dX4_unpack_6 (by decide) (fun c_102 => ?_) (fun c_102 => ?_)
  · rw [if_neg c_102] at hz
    refine lv_iload_n hx hb dX4_unpack_13 rfl (lv_at hl 2 rfl) ?_
    refine lv_if_lt (tgt := 22) hx hb dX4_unpack_14 (by decide) (fun c_103 => ?_) (fun c_103 => ?_)
    · rw [if_pos c_103] at hz
      refine lv_iconst (v := 2) hx hb dX4_unpack_22 (by decide) ?_
      refine lv_goto (tgt := 27) hx hb dX4_unpack_23 (by decide) ?_
      have e9 := Eq.symm hz; subst e9
      exact J_107 _ ez9 H locs hP hD hS ls (lv_sub hl [0, 1, 2, 3] rfl)
    · rw [if_neg c_103] at hz
      refine lv_iload_n hx hb dX4_unpack_17 rfl (lv_at hl 2 rfl) ?_
      refine lv_iconst (v := 1) hx hb dX4_unpack_18 (by decide) ?_
      refine lv_icmp_le (tgt := 26) hx hb dX4_unpack_19 (by decide) (fun c_104 => ?_) (fun c_104 => ?_)
      · rw [if_pos c_104] at hz
        refine lv_iconst (v := 0) hx hb dX4_unpack_26 (by decide) ?_
        have e9 := Eq.symm hz; subst e9
        exact J_107 _ ez9 H locs hP hD hS ls (lv_sub hl [0, 1, 2, 3] rfl)
      · rw [if_neg c_104] at hz
        refine lv_iconst (v := 2) hx hb dX4_unpack_22 (by decide) ?_
        refine lv_goto (tgt := 27) hx hb dX4_unpack_23 (by decide) ?_
        have e9 := Eq.symm hz; subst e9
        exact J_107 _ ez9 H locs hP hD hS ls (lv_sub hl [0, 1, 2, 3] rfl)
  · rw [if_pos c_102] at hz
    refine lv_iconst (v := 1) hx hb dX4_unpack_9 (by decide) ?_
    refine lv_goto (tgt := 27) hx hb dX4_unpack_10 (by decide) ?_
    have e9 := Eq.symm hz; subst e9
    exact J_107 _ ez9 H locs hP hD hS ls (lv_sub hl [0, 1, 2, 3] rfl)

def Z_X4_mode_J_110 (vmo : Int32) (p0 : Int32) (z104 : Bool) : Int32 := (if (bI z104) = 0 then p0 else vmo)
def RZ_X4_mode_J_110 (vmo : Int32) (p0 : Int32) (z104 : Bool) (u9 : Int32) : Prop := (if (bI z104) = 0 then u9 = p0 else u9 = vmo)
theorem rZ_X4_mode_J_110 (vmo : Int32) (p0 : Int32) (z104 : Bool) {u9 : Int32} (hu : u9 = Z_X4_mode_J_110 vmo p0 z104) : RZ_X4_mode_J_110 vmo p0 z104 u9 := by
  unfold RZ_X4_mode_J_110
  refine ite_P (fun c_107 => ?_) (fun c_107 => ?_)
  · have hu := hu.trans (if_pos c_107)
    exact hu
  · have hu := hu.trans (if_neg c_107)
    exact hu
def Z_X4_mode_J_105 (p0 : Int32) : Bool := (if p0 < 0 then true else (if p0 ≤ 4 then false else true))
def RZ_X4_mode_J_105 (p0 : Int32) (u9 : Bool) : Prop := (if p0 < 0 then u9 = true else (if p0 ≤ 4 then u9 = false else u9 = true))
theorem rZ_X4_mode_J_105 (p0 : Int32) {u9 : Bool} (hu : u9 = Z_X4_mode_J_105 p0) : RZ_X4_mode_J_105 p0 u9 := by
  unfold RZ_X4_mode_J_105
  refine ite_P (fun c_101 => ?_) (fun c_101 => ?_)
  · have hu := hu.trans (if_pos c_101)
    exact hu
  · have hu := hu.trans (if_neg c_101)
    refine ite_P (fun c_102 => ?_) (fun c_102 => ?_)
    · have hu := hu.trans (if_pos c_102)
      exact hu
    · have hu := hu.trans (if_neg c_102)
      exact hu
def F_X4_mode (vmo : Int32) (p0 : Int32) : Int32 × Int32 := (bnd (Z_X4_mode_J_105 p0) (fun z104 : Bool => (bnd (Z_X4_mode_J_110 vmo p0 z104) (fun z109 : Int32 => ((bI z104), z109)))))
def RF_X4_mode (vmo : Int32) (p0 : Int32) (u9 : Int32 × Int32) : Prop := (∀ z104 : Bool, z104 = Z_X4_mode_J_105 p0 → (∀ z109 : Int32, z109 = Z_X4_mode_J_110 vmo p0 z104 → u9 = ((bI z104), z109)))
theorem rF_X4_mode (vmo : Int32) (p0 : Int32) {u9 : Int32 × Int32} (hu : u9 = F_X4_mode vmo p0) : RF_X4_mode vmo p0 u9 := by
  unfold RF_X4_mode
  intro z104 ez104
  have hu := bnd_n hu ez104
  intro z109 ez109
  have hu := bnd_n hu ez109
  exact hu
def rm_X4_mode : Room := { frames := 0, cells := 0, slots := 0, locals := 0 }
set_option maxHeartbeats 4000000 in
set_option maxRecDepth 100000 in
theorem c_X4_mode (l : Launch) (D : va_G) (cR cI cJ cZ : ClassId) (t0 : Nat) (am ak an ac ae ag aq : Nat) (vth : Int32) (vmo : Int32) (vfg : Int32) (vtp : Int32) (vkd : Int32) (vng : Bool) (vcc : Int64) (vqq : Int32) (vrs : Int32) (vct : Int32) (vun : Int32) (vre : Bool) (vks : Nat → Int32) (vms : Nat → Bool) (vcs : Nat → Int64) (ves : Nat → Int32) (vdg : Nat → Int32) (vog : Nat → Int32) (p0 : Int32) (u : Int32 × Int32) (hu : u = F_X4_mode vmo p0) : XM l D (xty cR cI cJ cZ) t0 yX4_mode cX4_mode 2 none rm_X4_mode [.ref am, .int p0] none (mw cI cJ cZ am ak an ac ae ag aq vth vmo vfg vtp vkd vng vcc vqq vrs vct vun vre vks vms vcs ves vdg vog) (mw cI cJ cZ am ak an ac ae ag aq u.1 u.2 vfg vtp vkd vng vcc vqq vrs vct vun vre vks vms vcs ves vdg vog) := by
  refine XM.of (by decide) (Nat.le_of_ble_eq_true rfl) ?_
  intro p e s m args below meth c A Q F hK hP hD hA hSt hS hQ ls hl
  obtain ⟨hx, hb, hr, hts, hown, hlocks, hml⟩ := F
  have hCF : CallFix p m c cX4_mode 2 s args gW RX4 := ⟨hx, hb, hml, hown, hts⟩
  have hu := rF_X4_mode vmo p0 hu
  unfold RF_X4_mode at hu
  obtain ⟨H, eH⟩ : ∃ y9 : Heap, y9 = s.heap := ⟨_, rfl⟩
  obtain ⟨locs, eL⟩ : ∃ y9 : List Loc, y9 = [] := ⟨_, rfl⟩
  rw [← eL] at hS ⊢
  have hP : va_P D vwCl (mw cI cJ cZ am ak an ac ae ag aq vth vmo vfg vtp vkd vng vcc vqq vrs vct vun vre vks vms vcs ves vdg vog) H := by rw [eH]; exact hP
  have hS : va_S A s.heap H locs := by rw [eH]; exact hS
  suffices goal9 : W p l e rm_X4_mode s m args below meth c H locs 0 0 Q (F0 m 0 ls []) from by rw [← eH]; exact goal9
  have hl : lv_has ls 2 [(0, .ref am), (1, .int p0)] := hl
  have hi4 : ∀ w ∈ wsX40, w ∈ gW := inW_X4
  refine lv_aload_n hx hb dX4_mode_0 rfl (lv_at hl 0 rfl) ?_
  refine lv_iload_n hx hb dX4_mode_1 rfl (lv_at hl 1 rfl) ?_
  have J_105 : (∀ z104 : Bool, z104 = Z_X4_mode_J_105 p0 → ∀ (H : Heap) (locs : List Loc), va_P D vwCl (mw cI cJ cZ am ak an ac ae ag aq vth vmo vfg vtp vkd vng vcc vqq vrs vct vun vre vks vms vcs ves vdg vog) H → va_D A (mw cI cJ cZ am ak an ac ae ag aq vth vmo vfg vtp vkd vng vcc vqq vrs vct vun vre vks vms vcs ves vdg vog) → va_S A s.heap H locs → ∀ ls : Array Slot, lv_has ls 2 [(0, .ref am), (1, .int p0)] → W p l e rm_X4_mode s m args below meth c H locs 0 0 Q (F0 m 15 ls [.int (bI z104), .ref am])) := by
    intro z104 ez104 H locs hP hD hS ls hl
    have hu := hu _ ez104
    refine va_put (D := D) (ci := 5) (v := .int (bI z104)) (ty := .int) (C := RX4) (T := TX4) (N := 18) hx hb hts hi4 tyX4 tyX4_ok nmX4 hown hK hP hD hS 0 rfl rfl 0 (by decide) (hts (.fieldLink RX4 30 "DecimalWordsModel" "thrown" "I") (inW_8 _ (List.mem_of_getElem? (i := 38) rfl))) (fun _ h9 => h9) rfl (by decide +kernel) rfl rfl (Nat.le_of_ble_eq_true rfl) dX4_mode_15 (fun H locs hP hD hS => ?_)
    have hP : va_P D vwCl (mw cI cJ cZ am ak an ac ae ag aq (bI z104) vmo vfg vtp vkd vng vcc vqq vrs vct vun vre vks vms vcs ves vdg vog) H := hP
    have hD : va_D A (mw cI cJ cZ am ak an ac ae ag aq (bI z104) vmo vfg vtp vkd vng vcc vqq vrs vct vun vre vks vms vcs ves vdg vog) := hD
    refine lv_aload_n hx hb dX4_mode_18 rfl (lv_at hl 0 rfl) ?_
    refine lv_aload_n hx hb dX4_mode_19 rfl (lv_at hl 0 rfl) ?_
    refine va_get (D := D) (ci := 5) (v := .int (bI z104)) (C := RX4) (T := TX4) (N := 18) hx hb hts hi4 hown hK hP 0 rfl rfl 0 (by decide) (hts (.fieldLink RX4 30 "DecimalWordsModel" "thrown" "I") (inW_8 _ (List.mem_of_getElem? (i := 38) rfl))) (fun _ h9 => h9) rfl dX4_mode_20 ?_
    have J_110 : (∀ z109 : Int32, z109 = Z_X4_mode_J_110 vmo p0 z104 → ∀ (H : Heap) (locs : List Loc), va_P D vwCl (mw cI cJ cZ am ak an ac ae ag aq (bI z104) vmo vfg vtp vkd vng vcc vqq vrs vct vun vre vks vms vcs ves vdg vog) H → va_D A (mw cI cJ cZ am ak an ac ae ag aq (bI z104) vmo vfg vtp vkd vng vcc vqq vrs vct vun vre vks vms vcs ves vdg vog) → va_S A s.heap H locs → ∀ ls : Array Slot, lv_has ls 2 [] → W p l e rm_X4_mode s m args below meth c H locs 0 0 Q (F0 m 34 ls [.int z109, .ref am])) := by
      intro z109 ez109 H locs hP hD hS ls hl
      have hu := hu _ ez109
      refine va_put (D := D) (ci := 5) (v := .int z109) (ty := .int) (C := RX4) (T := TX4) (N := 18) hx hb hts hi4 tyX4 tyX4_ok nmX4 hown hK hP hD hS 0 rfl rfl 5 (by decide) (hts (.fieldLink RX4 74 "DecimalWordsModel" "mode" "I") (inW_9 _ (List.mem_of_getElem? (i := 24) rfl))) (fun _ h9 => h9) rfl (by decide +kernel) rfl rfl (Nat.le_of_ble_eq_true rfl) dX4_mode_34 (fun H locs hP hD hS => ?_)
      have hP : va_P D vwCl (mw cI cJ cZ am ak an ac ae ag aq (bI z104) z109 vfg vtp vkd vng vcc vqq vrs vct vun vre vks vms vcs ves vdg vog) H := hP
      have hD : va_D A (mw cI cJ cZ am ak an ac ae ag aq (bI z104) z109 vfg vtp vkd vng vcc vqq vrs vct vun vre vks vms vcs ves vdg vog) := hD
      have e9 := Eq.symm hu; subst e9
      exact x_vret hx hb hr hlocks hQ hK hP hD hS rfl dX4_mode_37
    obtain ⟨z9, ez9⟩ : ∃ y9 : Int32, y9 = Z_X4_mode_J_110 vmo p0 z104 := ⟨_, rfl⟩
    have hz := rZ_X4_mode_J_110 vmo p0 z104 ez9
    unfold RZ_X4_mode_J_110 at hz
    refine lv_if_ne (tgt := 30) hx hb dX4_mode_23 (by decide) (fun c_107 => ?_) (fun c_107 => ?_)
    · rw [if_neg c_107] at hz
      refine lv_aload_n hx hb dX4_mode_30 rfl (lv_at hl 0 rfl) ?_
      refine va_get (D := D) (ci := 5) (v := .int vmo) (C := RX4) (T := TX4) (N := 18) hx hb hts hi4 hown hK hP 0 rfl rfl 5 (by decide) (hts (.fieldLink RX4 74 "DecimalWordsModel" "mode" "I") (inW_9 _ (List.mem_of_getElem? (i := 24) rfl))) (fun _ h9 => h9) rfl dX4_mode_31 ?_
      have e9 := Eq.symm hz; subst e9
      exact J_110 _ ez9 H locs hP hD hS ls (lv_sub hl [] rfl)
    · rw [if_pos c_107] at hz
      refine lv_iload_n hx hb dX4_mode_26 rfl (lv_at hl 1 rfl) ?_
      refine lv_goto (tgt := 34) hx hb dX4_mode_27 (by decide) ?_
      have e9 := Eq.symm hz; subst e9
      exact J_110 _ ez9 H locs hP hD hS ls (lv_sub hl [] rfl)
  obtain ⟨z9, ez9⟩ : ∃ y9 : Bool, y9 = Z_X4_mode_J_105 p0 := ⟨_, rfl⟩
  have hz := rZ_X4_mode_J_105 p0 ez9
  unfold RZ_X4_mode_J_105 at hz
  refine lv_if_lt (tgt := 10) hx hb dX4_mode_2 (by decide) (fun c_101 => ?_) (fun c_101 => ?_)
  · rw [if_pos c_101] at hz
    refine lv_iconst (v := 1) hx hb dX4_mode_10 (by decide) ?_
    refine lv_goto (tgt := 15) hx hb dX4_mode_11 (by decide) ?_
    have e9 := Eq.symm hz; subst e9
    exact J_105 _ ez9 H locs hP hD hS ls (lv_sub hl [0, 1] rfl)
  · rw [if_neg c_101] at hz
    refine lv_iload_n hx hb dX4_mode_5 rfl (lv_at hl 1 rfl) ?_
    refine lv_iconst (v := 4) hx hb dX4_mode_6 (by decide) ?_
    refine lv_icmp_le (tgt := 14) hx hb dX4_mode_7 (by decide) (fun c_102 => ?_) (fun c_102 => ?_)
    · rw [if_pos c_102] at hz
      refine lv_iconst (v := 0) hx hb dX4_mode_14 (by decide) ?_
      have e9 := Eq.symm hz; subst e9
      exact J_105 _ ez9 H locs hP hD hS ls (lv_sub hl [0, 1] rfl)
    · rw [if_neg c_102] at hz
      refine lv_iconst (v := 1) hx hb dX4_mode_10 (by decide) ?_
      refine lv_goto (tgt := 15) hx hb dX4_mode_11 (by decide) ?_
      have e9 := Eq.symm hz; subst e9
      exact J_105 _ ez9 H locs hP hD hS ls (lv_sub hl [0, 1] rfl)

def Z_X4_trap_J_110 (vtp : Int32) (p0 : Int32) (z104 : Bool) : Int32 := (if (bI z104) = 0 then p0 else vtp)
def RZ_X4_trap_J_110 (vtp : Int32) (p0 : Int32) (z104 : Bool) (u9 : Int32) : Prop := (if (bI z104) = 0 then u9 = p0 else u9 = vtp)
theorem rZ_X4_trap_J_110 (vtp : Int32) (p0 : Int32) (z104 : Bool) {u9 : Int32} (hu : u9 = Z_X4_trap_J_110 vtp p0 z104) : RZ_X4_trap_J_110 vtp p0 z104 u9 := by
  unfold RZ_X4_trap_J_110
  refine ite_P (fun c_107 => ?_) (fun c_107 => ?_)
  · have hu := hu.trans (if_pos c_107)
    exact hu
  · have hu := hu.trans (if_neg c_107)
    exact hu
def Z_X4_trap_J_105 (p0 : Int32) : Bool := (if p0 < 0 then true else (if p0 ≤ 31 then false else true))
def RZ_X4_trap_J_105 (p0 : Int32) (u9 : Bool) : Prop := (if p0 < 0 then u9 = true else (if p0 ≤ 31 then u9 = false else u9 = true))
theorem rZ_X4_trap_J_105 (p0 : Int32) {u9 : Bool} (hu : u9 = Z_X4_trap_J_105 p0) : RZ_X4_trap_J_105 p0 u9 := by
  unfold RZ_X4_trap_J_105
  refine ite_P (fun c_101 => ?_) (fun c_101 => ?_)
  · have hu := hu.trans (if_pos c_101)
    exact hu
  · have hu := hu.trans (if_neg c_101)
    refine ite_P (fun c_102 => ?_) (fun c_102 => ?_)
    · have hu := hu.trans (if_pos c_102)
      exact hu
    · have hu := hu.trans (if_neg c_102)
      exact hu
def F_X4_trap (vtp : Int32) (p0 : Int32) : Int32 × Int32 := (bnd (Z_X4_trap_J_105 p0) (fun z104 : Bool => (bnd (Z_X4_trap_J_110 vtp p0 z104) (fun z109 : Int32 => ((bI z104), z109)))))
def RF_X4_trap (vtp : Int32) (p0 : Int32) (u9 : Int32 × Int32) : Prop := (∀ z104 : Bool, z104 = Z_X4_trap_J_105 p0 → (∀ z109 : Int32, z109 = Z_X4_trap_J_110 vtp p0 z104 → u9 = ((bI z104), z109)))
theorem rF_X4_trap (vtp : Int32) (p0 : Int32) {u9 : Int32 × Int32} (hu : u9 = F_X4_trap vtp p0) : RF_X4_trap vtp p0 u9 := by
  unfold RF_X4_trap
  intro z104 ez104
  have hu := bnd_n hu ez104
  intro z109 ez109
  have hu := bnd_n hu ez109
  exact hu
def rm_X4_trap : Room := { frames := 0, cells := 0, slots := 0, locals := 0 }
set_option maxHeartbeats 4000000 in
set_option maxRecDepth 100000 in
theorem c_X4_trap (l : Launch) (D : va_G) (cR cI cJ cZ : ClassId) (t0 : Nat) (am ak an ac ae ag aq : Nat) (vth : Int32) (vmo : Int32) (vfg : Int32) (vtp : Int32) (vkd : Int32) (vng : Bool) (vcc : Int64) (vqq : Int32) (vrs : Int32) (vct : Int32) (vun : Int32) (vre : Bool) (vks : Nat → Int32) (vms : Nat → Bool) (vcs : Nat → Int64) (ves : Nat → Int32) (vdg : Nat → Int32) (vog : Nat → Int32) (p0 : Int32) (u : Int32 × Int32) (hu : u = F_X4_trap vtp p0) : XM l D (xty cR cI cJ cZ) t0 yX4_trap cX4_trap 2 none rm_X4_trap [.ref am, .int p0] none (mw cI cJ cZ am ak an ac ae ag aq vth vmo vfg vtp vkd vng vcc vqq vrs vct vun vre vks vms vcs ves vdg vog) (mw cI cJ cZ am ak an ac ae ag aq u.1 vmo vfg u.2 vkd vng vcc vqq vrs vct vun vre vks vms vcs ves vdg vog) := by
  refine XM.of (by decide) (Nat.le_of_ble_eq_true rfl) ?_
  intro p e s m args below meth c A Q F hK hP hD hA hSt hS hQ ls hl
  obtain ⟨hx, hb, hr, hts, hown, hlocks, hml⟩ := F
  have hCF : CallFix p m c cX4_trap 2 s args gW RX4 := ⟨hx, hb, hml, hown, hts⟩
  have hu := rF_X4_trap vtp p0 hu
  unfold RF_X4_trap at hu
  obtain ⟨H, eH⟩ : ∃ y9 : Heap, y9 = s.heap := ⟨_, rfl⟩
  obtain ⟨locs, eL⟩ : ∃ y9 : List Loc, y9 = [] := ⟨_, rfl⟩
  rw [← eL] at hS ⊢
  have hP : va_P D vwCl (mw cI cJ cZ am ak an ac ae ag aq vth vmo vfg vtp vkd vng vcc vqq vrs vct vun vre vks vms vcs ves vdg vog) H := by rw [eH]; exact hP
  have hS : va_S A s.heap H locs := by rw [eH]; exact hS
  suffices goal9 : W p l e rm_X4_trap s m args below meth c H locs 0 0 Q (F0 m 0 ls []) from by rw [← eH]; exact goal9
  have hl : lv_has ls 2 [(0, .ref am), (1, .int p0)] := hl
  have hi4 : ∀ w ∈ wsX40, w ∈ gW := inW_X4
  refine lv_aload_n hx hb dX4_trap_0 rfl (lv_at hl 0 rfl) ?_
  refine lv_iload_n hx hb dX4_trap_1 rfl (lv_at hl 1 rfl) ?_
  have J_105 : (∀ z104 : Bool, z104 = Z_X4_trap_J_105 p0 → ∀ (H : Heap) (locs : List Loc), va_P D vwCl (mw cI cJ cZ am ak an ac ae ag aq vth vmo vfg vtp vkd vng vcc vqq vrs vct vun vre vks vms vcs ves vdg vog) H → va_D A (mw cI cJ cZ am ak an ac ae ag aq vth vmo vfg vtp vkd vng vcc vqq vrs vct vun vre vks vms vcs ves vdg vog) → va_S A s.heap H locs → ∀ ls : Array Slot, lv_has ls 2 [(0, .ref am), (1, .int p0)] → W p l e rm_X4_trap s m args below meth c H locs 0 0 Q (F0 m 16 ls [.int (bI z104), .ref am])) := by
    intro z104 ez104 H locs hP hD hS ls hl
    have hu := hu _ ez104
    refine va_put (D := D) (ci := 5) (v := .int (bI z104)) (ty := .int) (C := RX4) (T := TX4) (N := 18) hx hb hts hi4 tyX4 tyX4_ok nmX4 hown hK hP hD hS 0 rfl rfl 0 (by decide) (hts (.fieldLink RX4 30 "DecimalWordsModel" "thrown" "I") (inW_8 _ (List.mem_of_getElem? (i := 38) rfl))) (fun _ h9 => h9) rfl (by decide +kernel) rfl rfl (Nat.le_of_ble_eq_true rfl) dX4_trap_16 (fun H locs hP hD hS => ?_)
    have hP : va_P D vwCl (mw cI cJ cZ am ak an ac ae ag aq (bI z104) vmo vfg vtp vkd vng vcc vqq vrs vct vun vre vks vms vcs ves vdg vog) H := hP
    have hD : va_D A (mw cI cJ cZ am ak an ac ae ag aq (bI z104) vmo vfg vtp vkd vng vcc vqq vrs vct vun vre vks vms vcs ves vdg vog) := hD
    refine lv_aload_n hx hb dX4_trap_19 rfl (lv_at hl 0 rfl) ?_
    refine lv_aload_n hx hb dX4_trap_20 rfl (lv_at hl 0 rfl) ?_
    refine va_get (D := D) (ci := 5) (v := .int (bI z104)) (C := RX4) (T := TX4) (N := 18) hx hb hts hi4 hown hK hP 0 rfl rfl 0 (by decide) (hts (.fieldLink RX4 30 "DecimalWordsModel" "thrown" "I") (inW_8 _ (List.mem_of_getElem? (i := 38) rfl))) (fun _ h9 => h9) rfl dX4_trap_21 ?_
    have J_110 : (∀ z109 : Int32, z109 = Z_X4_trap_J_110 vtp p0 z104 → ∀ (H : Heap) (locs : List Loc), va_P D vwCl (mw cI cJ cZ am ak an ac ae ag aq (bI z104) vmo vfg vtp vkd vng vcc vqq vrs vct vun vre vks vms vcs ves vdg vog) H → va_D A (mw cI cJ cZ am ak an ac ae ag aq (bI z104) vmo vfg vtp vkd vng vcc vqq vrs vct vun vre vks vms vcs ves vdg vog) → va_S A s.heap H locs → ∀ ls : Array Slot, lv_has ls 2 [] → W p l e rm_X4_trap s m args below meth c H locs 0 0 Q (F0 m 35 ls [.int z109, .ref am])) := by
      intro z109 ez109 H locs hP hD hS ls hl
      have hu := hu _ ez109
      refine va_put (D := D) (ci := 5) (v := .int z109) (ty := .int) (C := RX4) (T := TX4) (N := 18) hx hb hts hi4 tyX4 tyX4_ok nmX4 hown hK hP hD hS 0 rfl rfl 7 (by decide) (hts (.fieldLink RX4 178 "DecimalWordsModel" "traps" "I") (inW_12 _ (List.mem_of_getElem? (i := 3) rfl))) (fun _ h9 => h9) rfl (by decide +kernel) rfl rfl (Nat.le_of_ble_eq_true rfl) dX4_trap_35 (fun H locs hP hD hS => ?_)
      have hP : va_P D vwCl (mw cI cJ cZ am ak an ac ae ag aq (bI z104) vmo vfg z109 vkd vng vcc vqq vrs vct vun vre vks vms vcs ves vdg vog) H := hP
      have hD : va_D A (mw cI cJ cZ am ak an ac ae ag aq (bI z104) vmo vfg z109 vkd vng vcc vqq vrs vct vun vre vks vms vcs ves vdg vog) := hD
      have e9 := Eq.symm hu; subst e9
      exact x_vret hx hb hr hlocks hQ hK hP hD hS rfl dX4_trap_38
    obtain ⟨z9, ez9⟩ : ∃ y9 : Int32, y9 = Z_X4_trap_J_110 vtp p0 z104 := ⟨_, rfl⟩
    have hz := rZ_X4_trap_J_110 vtp p0 z104 ez9
    unfold RZ_X4_trap_J_110 at hz
    refine lv_if_ne (tgt := 31) hx hb dX4_trap_24 (by decide) (fun c_107 => ?_) (fun c_107 => ?_)
    · rw [if_neg c_107] at hz
      refine lv_aload_n hx hb dX4_trap_31 rfl (lv_at hl 0 rfl) ?_
      refine va_get (D := D) (ci := 5) (v := .int vtp) (C := RX4) (T := TX4) (N := 18) hx hb hts hi4 hown hK hP 0 rfl rfl 7 (by decide) (hts (.fieldLink RX4 178 "DecimalWordsModel" "traps" "I") (inW_12 _ (List.mem_of_getElem? (i := 3) rfl))) (fun _ h9 => h9) rfl dX4_trap_32 ?_
      have e9 := Eq.symm hz; subst e9
      exact J_110 _ ez9 H locs hP hD hS ls (lv_sub hl [] rfl)
    · rw [if_pos c_107] at hz
      refine lv_iload_n hx hb dX4_trap_27 rfl (lv_at hl 1 rfl) ?_
      refine lv_goto (tgt := 35) hx hb dX4_trap_28 (by decide) ?_
      have e9 := Eq.symm hz; subst e9
      exact J_110 _ ez9 H locs hP hD hS ls (lv_sub hl [] rfl)
  obtain ⟨z9, ez9⟩ : ∃ y9 : Bool, y9 = Z_X4_trap_J_105 p0 := ⟨_, rfl⟩
  have hz := rZ_X4_trap_J_105 p0 ez9
  unfold RZ_X4_trap_J_105 at hz
  refine lv_if_lt (tgt := 11) hx hb dX4_trap_2 (by decide) (fun c_101 => ?_) (fun c_101 => ?_)
  · rw [if_pos c_101] at hz
    refine lv_iconst (v := 1) hx hb dX4_trap_11 (by decide) ?_
    refine lv_goto (tgt := 16) hx hb dX4_trap_12 (by decide) ?_
    have e9 := Eq.symm hz; subst e9
    exact J_105 _ ez9 H locs hP hD hS ls (lv_sub hl [0, 1] rfl)
  · rw [if_neg c_101] at hz
    refine lv_iload_n hx hb dX4_trap_5 rfl (lv_at hl 1 rfl) ?_
    refine lv_bipush (v := 31) hx hb dX4_trap_6 (by decide) ?_
    refine lv_icmp_le (tgt := 15) hx hb dX4_trap_8 (by decide) (fun c_102 => ?_) (fun c_102 => ?_)
    · rw [if_pos c_102] at hz
      refine lv_iconst (v := 0) hx hb dX4_trap_15 (by decide) ?_
      have e9 := Eq.symm hz; subst e9
      exact J_105 _ ez9 H locs hP hD hS ls (lv_sub hl [0, 1] rfl)
    · rw [if_neg c_102] at hz
      refine lv_iconst (v := 1) hx hb dX4_trap_11 (by decide) ?_
      refine lv_goto (tgt := 16) hx hb dX4_trap_12 (by decide) ?_
      have e9 := Eq.symm hz; subst e9
      exact J_105 _ ez9 H locs hP hD hS ls (lv_sub hl [0, 1] rfl)

def F_X4_flags (vfg : Int32)  : Int32 × Int32 := (vfg, 0)
def RF_X4_flags (vfg : Int32)  (u9 : Int32 × Int32) : Prop := u9 = (vfg, 0)
theorem rF_X4_flags (vfg : Int32)  {u9 : Int32 × Int32} (hu : u9 = F_X4_flags vfg) : RF_X4_flags vfg u9 := by
  unfold RF_X4_flags
  exact hu
def rm_X4_flags : Room := { frames := 0, cells := 0, slots := 0, locals := 0 }
set_option maxHeartbeats 4000000 in
set_option maxRecDepth 100000 in
theorem c_X4_flags (l : Launch) (D : va_G) (cR cI cJ cZ : ClassId) (t0 : Nat) (am ak an ac ae ag aq : Nat) (vth : Int32) (vmo : Int32) (vfg : Int32) (vtp : Int32) (vkd : Int32) (vng : Bool) (vcc : Int64) (vqq : Int32) (vrs : Int32) (vct : Int32) (vun : Int32) (vre : Bool) (vks : Nat → Int32) (vms : Nat → Bool) (vcs : Nat → Int64) (ves : Nat → Int32) (vdg : Nat → Int32) (vog : Nat → Int32)  (u : Int32 × Int32) (hu : u = F_X4_flags vfg) : XM l D (xty cR cI cJ cZ) t0 yX4_flags cX4_flags 1 (some .int) rm_X4_flags [.ref am] (some (.int u.1)) (mw cI cJ cZ am ak an ac ae ag aq vth vmo vfg vtp vkd vng vcc vqq vrs vct vun vre vks vms vcs ves vdg vog) (mw cI cJ cZ am ak an ac ae ag aq u.2 vmo vfg vtp vkd vng vcc vqq vrs vct vun vre vks vms vcs ves vdg vog) := by
  refine XM.of (by decide) (Nat.le_of_ble_eq_true rfl) ?_
  intro p e s m args below meth c A Q F hK hP hD hA hSt hS hQ ls hl
  obtain ⟨hx, hb, hr, hts, hown, hlocks, hml⟩ := F
  have hCF : CallFix p m c cX4_flags 1 s args gW RX4 := ⟨hx, hb, hml, hown, hts⟩
  have hu := rF_X4_flags vfg hu
  unfold RF_X4_flags at hu
  obtain ⟨H, eH⟩ : ∃ y9 : Heap, y9 = s.heap := ⟨_, rfl⟩
  obtain ⟨locs, eL⟩ : ∃ y9 : List Loc, y9 = [] := ⟨_, rfl⟩
  rw [← eL] at hS ⊢
  have hP : va_P D vwCl (mw cI cJ cZ am ak an ac ae ag aq vth vmo vfg vtp vkd vng vcc vqq vrs vct vun vre vks vms vcs ves vdg vog) H := by rw [eH]; exact hP
  have hS : va_S A s.heap H locs := by rw [eH]; exact hS
  suffices goal9 : W p l e rm_X4_flags s m args below meth c H locs 0 0 Q (F0 m 0 ls []) from by rw [← eH]; exact goal9
  have hl : lv_has ls 1 [(0, .ref am)] := hl
  have hi4 : ∀ w ∈ wsX40, w ∈ gW := inW_X4
  refine lv_aload_n hx hb dX4_flags_0 rfl (lv_at hl 0 rfl) ?_
  refine lv_iconst (v := 0) hx hb dX4_flags_1 (by decide) ?_
  refine va_put (D := D) (ci := 5) (v := .int 0) (ty := .int) (C := RX4) (T := TX4) (N := 18) hx hb hts hi4 tyX4 tyX4_ok nmX4 hown hK hP hD hS 0 rfl rfl 0 (by decide) (hts (.fieldLink RX4 30 "DecimalWordsModel" "thrown" "I") (inW_8 _ (List.mem_of_getElem? (i := 38) rfl))) (fun _ h9 => h9) rfl (by decide +kernel) rfl rfl (Nat.le_of_ble_eq_true rfl) dX4_flags_2 (fun H locs hP hD hS => ?_)
  have hP : va_P D vwCl (mw cI cJ cZ am ak an ac ae ag aq 0 vmo vfg vtp vkd vng vcc vqq vrs vct vun vre vks vms vcs ves vdg vog) H := hP
  have hD : va_D A (mw cI cJ cZ am ak an ac ae ag aq 0 vmo vfg vtp vkd vng vcc vqq vrs vct vun vre vks vms vcs ves vdg vog) := hD
  refine lv_aload_n hx hb dX4_flags_5 rfl (lv_at hl 0 rfl) ?_
  refine va_get (D := D) (ci := 5) (v := .int vfg) (C := RX4) (T := TX4) (N := 18) hx hb hts hi4 hown hK hP 0 rfl rfl 6 (by decide) (hts (.fieldLink RX4 175 "DecimalWordsModel" "flags" "I") (inW_12 _ (List.mem_of_getElem? (i := 2) rfl))) (fun _ h9 => h9) rfl dX4_flags_6 ?_
  have e9 := Eq.symm hu; subst e9
  exact x_iret hx hb hr hlocks hQ hK hP hD hS rfl rfl dX4_flags_9

def F_X4_lower   : Int32 × Int32 := (0, 0)
def RF_X4_lower   (u9 : Int32 × Int32) : Prop := u9 = (0, 0)
theorem rF_X4_lower   {u9 : Int32 × Int32} (hu : u9 = F_X4_lower ) : RF_X4_lower  u9 := by
  unfold RF_X4_lower
  exact hu
def rm_X4_lower : Room := { frames := 0, cells := 0, slots := 0, locals := 0 }
set_option maxHeartbeats 4000000 in
set_option maxRecDepth 100000 in
theorem c_X4_lower (l : Launch) (D : va_G) (cR cI cJ cZ : ClassId) (t0 : Nat) (am ak an ac ae ag aq : Nat) (vth : Int32) (vmo : Int32) (vfg : Int32) (vtp : Int32) (vkd : Int32) (vng : Bool) (vcc : Int64) (vqq : Int32) (vrs : Int32) (vct : Int32) (vun : Int32) (vre : Bool) (vks : Nat → Int32) (vms : Nat → Bool) (vcs : Nat → Int64) (ves : Nat → Int32) (vdg : Nat → Int32) (vog : Nat → Int32)  (u : Int32 × Int32) (hu : u = F_X4_lower ) : XM l D (xty cR cI cJ cZ) t0 yX4_lower cX4_lower 1 none rm_X4_lower [.ref am] none (mw cI cJ cZ am ak an ac ae ag aq vth vmo vfg vtp vkd vng vcc vqq vrs vct vun vre vks vms vcs ves vdg vog) (mw cI cJ cZ am ak an ac ae ag aq u.1 vmo u.2 vtp vkd vng vcc vqq vrs vct vun vre vks vms vcs ves vdg vog) := by
  refine XM.of (by decide) (Nat.le_of_ble_eq_true rfl) ?_
  intro p e s m args below meth c A Q F hK hP hD hA hSt hS hQ ls hl
  obtain ⟨hx, hb, hr, hts, hown, hlocks, hml⟩ := F
  have hCF : CallFix p m c cX4_lower 1 s args gW RX4 := ⟨hx, hb, hml, hown, hts⟩
  have hu := rF_X4_lower  hu
  unfold RF_X4_lower at hu
  obtain ⟨H, eH⟩ : ∃ y9 : Heap, y9 = s.heap := ⟨_, rfl⟩
  obtain ⟨locs, eL⟩ : ∃ y9 : List Loc, y9 = [] := ⟨_, rfl⟩
  rw [← eL] at hS ⊢
  have hP : va_P D vwCl (mw cI cJ cZ am ak an ac ae ag aq vth vmo vfg vtp vkd vng vcc vqq vrs vct vun vre vks vms vcs ves vdg vog) H := by rw [eH]; exact hP
  have hS : va_S A s.heap H locs := by rw [eH]; exact hS
  suffices goal9 : W p l e rm_X4_lower s m args below meth c H locs 0 0 Q (F0 m 0 ls []) from by rw [← eH]; exact goal9
  have hl : lv_has ls 1 [(0, .ref am)] := hl
  have hi4 : ∀ w ∈ wsX40, w ∈ gW := inW_X4
  refine lv_aload_n hx hb dX4_lower_0 rfl (lv_at hl 0 rfl) ?_
  refine lv_iconst (v := 0) hx hb dX4_lower_1 (by decide) ?_
  refine va_put (D := D) (ci := 5) (v := .int 0) (ty := .int) (C := RX4) (T := TX4) (N := 18) hx hb hts hi4 tyX4 tyX4_ok nmX4 hown hK hP hD hS 0 rfl rfl 0 (by decide) (hts (.fieldLink RX4 30 "DecimalWordsModel" "thrown" "I") (inW_8 _ (List.mem_of_getElem? (i := 38) rfl))) (fun _ h9 => h9) rfl (by decide +kernel) rfl rfl (Nat.le_of_ble_eq_true rfl) dX4_lower_2 (fun H locs hP hD hS => ?_)
  have hP : va_P D vwCl (mw cI cJ cZ am ak an ac ae ag aq 0 vmo vfg vtp vkd vng vcc vqq vrs vct vun vre vks vms vcs ves vdg vog) H := hP
  have hD : va_D A (mw cI cJ cZ am ak an ac ae ag aq 0 vmo vfg vtp vkd vng vcc vqq vrs vct vun vre vks vms vcs ves vdg vog) := hD
  refine lv_aload_n hx hb dX4_lower_5 rfl (lv_at hl 0 rfl) ?_
  refine lv_iconst (v := 0) hx hb dX4_lower_6 (by decide) ?_
  refine va_put (D := D) (ci := 5) (v := .int 0) (ty := .int) (C := RX4) (T := TX4) (N := 18) hx hb hts hi4 tyX4 tyX4_ok nmX4 hown hK hP hD hS 0 rfl rfl 6 (by decide) (hts (.fieldLink RX4 175 "DecimalWordsModel" "flags" "I") (inW_12 _ (List.mem_of_getElem? (i := 2) rfl))) (fun _ h9 => h9) rfl (by decide +kernel) rfl rfl (Nat.le_of_ble_eq_true rfl) dX4_lower_7 (fun H locs hP hD hS => ?_)
  have hP : va_P D vwCl (mw cI cJ cZ am ak an ac ae ag aq 0 vmo 0 vtp vkd vng vcc vqq vrs vct vun vre vks vms vcs ves vdg vog) H := hP
  have hD : va_D A (mw cI cJ cZ am ak an ac ae ag aq 0 vmo 0 vtp vkd vng vcc vqq vrs vct vun vre vks vms vcs ves vdg vog) := hD
  have e9 := Eq.symm hu; subst e9
  exact x_vret hx hb hr hlocks hQ hK hP hD hS rfl dX4_lower_10
