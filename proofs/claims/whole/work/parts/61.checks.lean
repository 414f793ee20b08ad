section YN
variable {p : Program} {l : Launch} {e : Env} {R : Room} {s : State} {m : MethodId} {args : Array Value} {below : List Frame} {meth : Method} {c : Code} {H : Heap} {locs : List Loc} {cells slots : Nat} {Q : State → Prop}
variable {pc : Nat} {ls : Array Slot} {rest st0 : List Value} {A : Nat → Prop} {D : va_G} {tys : List (ClassId × FieldType)} {t0 : Nat} {sv : Nat → Nat} {w0 w1 w : va_W} {r : Option Value} {th : Option String} {mc mk : Nat}
variable {y : MethodName} {bytes cc : ByteArray} {maxL nL n index : Nat} {ret : Option FieldType} {rm : Room} {own C : String} {As : List Value}
theorem y_cwS (n : Nat) (hts : ∀ w ∈ gW, w.before args s = true) (h1 : Cond.methodLink own index y ∈ gW) (h2 : Cond.static y ∈ gW) (h4 : Cond.initialized y.cls ∈ gW) (h5 : Cond.code y bytes maxL ret ∈ gW) (hrc : rm.cells = mk) (hrs : rm.slots = 6 * mk)
    (hd : y.cls ≠ "java/lang/invoke/MethodHandle" ∧ y.cls ≠ "java/lang/invoke/VarHandle" ∧ (parseMethodDescriptor y.desc).map (fun d => d.parameters.length) = some n) (hR : rm.frames + 1 ≤ R.frames ∧ 8 + (maxL + 11) + rm.locals ≤ R.locals) : CallB R s args own index y bytes maxL ret (xws y bytes maxL ret) rm mk (6 * mk) n ∧ (Cond.static y).before args s = true :=
  va_cwS n (Ts := gW) hts (gW_in (fun w hw => by
    rcases List.mem_append.mp (show w ∈ ([.methodLink own index y, .static y, .initialized y.cls] : List Cond) ++ xws y bytes maxL ret from hw) with h | h
    · simp only [List.mem_cons, List.not_mem_nil, or_false] at h
      rcases h with rfl | rfl | rfl
      · exact h1
      · exact h2
      · exact h4
    · exact xws_in h5 w h)) rfl hrc hrs hd hR
theorem y_cwV (n : Nat) (hts : ∀ w ∈ gW, w.before args s = true) (h1 : Cond.methodLink own index y ∈ gW) (h2 : Cond.instanceMethod y ∈ gW) (h3 : Cond.selects C y y ∈ gW) (h4 : Cond.initialized C ∈ gW) (h5 : Cond.code y bytes maxL ret ∈ gW) (hrc : rm.cells = mk) (hrs : rm.slots = 6 * mk)
    (hd : y.cls = C ∧ y.cls ≠ "java/lang/invoke/MethodHandle" ∧ y.cls ≠ "java/lang/invoke/VarHandle" ∧ (parseMethodDescriptor y.desc).map (fun d => d.parameters.length) = some n) (hR : rm.frames + 1 ≤ R.frames ∧ 8 + (maxL + 11) + rm.locals ≤ R.locals) : CallW R s args own C index y bytes maxL ret (xws y bytes maxL ret) rm mk (6 * mk) n :=
  cwV n (Ts := gW) hts (gW_in (fun w hw => by
    rcases List.mem_append.mp (show w ∈ ([.methodLink own index y, .instanceMethod y, .selects C y y, .initialized C] : List Cond) ++ xws y bytes maxL ret from hw) with h | h
    · simp only [List.mem_cons, List.not_mem_nil, or_false] at h
      rcases h with rfl | rfl | rfl | rfl
      · exact h1
      · exact h2
      · exact h3
      · exact h4
    · exact xws_in h5 w h)) rfl hrc hrs hd hR
/-- a check that is passed -/
theorem y_nok (S : CallFix p m c cc nL s args gW own) (hM : XT l D tys t0 sv y bytes maxL ret rm mk As none none [] []) (cw : CallB R s args own index y bytes maxL ret (xws y bytes maxL ret) rm mk (6 * mk) n ∧ (Cond.static y).before args s = true)
    (hK : va_K D vwCl tys s) (hP : va_P D vwCl w H) (hD : va_D A w) (hS : va_S A s.heap H locs) (hA : ∀ q : Nat, s.heap.size ≤ q → A q) (hY : yS t0 sv A s s.heap)
    (hn : As.length = n) (hsize : ls.size = nL) (hstack : st0 = As.reverse ++ rest) (hW : (rest.map fun v => v.category).sum ≤ 8) (hdg : decode cc pc = .ok (.invokestatic index, 3)) (hf : cells + mk ≤ R.cells ∧ slots + 6 * mk ≤ R.slots)
    (kk : ∀ (H1 : Heap) (locs1 : List Loc), va_P D vwCl w H1 → va_D A w → va_S A s.heap H1 locs1 → W p l e R s m args below meth c H1 locs1 (cells + mk) (slots + 6 * mk) Q (F0 m (pc + 3) ls rest)) : W p l e R s m args below meth c H locs cells slots Q (F0 m pc ls st0) :=
  y_callR (wc := []) (wf := w) (w1 := []) (w0 := []) (vx_runS S (hM H.size) cw ⟨yB_blind D tys t0 sv [] H.size As, fun U hU hW => ⟨rfl, yB_of (wc := []) (wf := w) hK hP hD hS hA hY U hU hW⟩⟩ rfl hn hsize hstack (lv_room hW) hdg hf) hP hD hS hA kk
/-- a check that throws -/
theorem y_nbad {E : String} (S : CallFix p m c cc nL s args gW own) (hM : XT l D tys t0 sv y bytes maxL ret rm mk As (some E) none [] []) (cw : CallB R s args own index y bytes maxL ret (xws y bytes maxL ret) rm mk (6 * mk) n ∧ (Cond.static y).before args s = true)
    (hK : va_K D vwCl tys s) (hP : va_P D vwCl w0 H) (hD : va_D A w0) (hS : va_S A s.heap H locs) (hA : ∀ q : Nat, s.heap.size ≤ q → A q) (hY : yS t0 sv A s s.heap)
    (hn : As.length = n) (hsize : ls.size = nL) (hstack : st0 = As.reverse ++ rest) (hW : (rest.map fun v => v.category).sum ≤ 8) (hdg : decode cc pc = .ok (.invokestatic index, 3)) (hf : cells + mk ≤ R.cells ∧ slots + 6 * mk ≤ R.slots)
    (hnt : ∀ x ∈ c.exceptionTable.toList, False) (hlocks : meth.locks = false) (hQ : Q = YE below D tys w0 w1 A th r args s mc) (hth : th = some E) (hc : cells + mk ≤ mc) (hs : slots + 6 * mk ≤ 6 * mc) : W p l e R s m args below meth c H locs cells slots Q (F0 m pc ls st0) :=
  y_callT (wc := []) (wf := w0) (w1 := []) (w0 := []) (vx_runS S (hM H.size) cw ⟨yB_blind D tys t0 sv [] H.size As, fun U hU hW => ⟨rfl, yB_of (wc := []) (wf := w0) hK hP hD hS hA hY U hU hW⟩⟩ rfl hn hsize hstack (lv_room hW) hdg hf) hP hD hS hA
    (fun H1 locs1 q9 ce t _ _ hP hD hS h1 h2 h3 => y_out hnt hlocks hK hP hD hS h1 h2 h3 hQ hth hc hs)
end YN

def S_X3_needRegister_0  (p0 : Int32) : Prop := (¬ (p0 < 0)) ∧ p0 < 8
def rm_X3_needRegister : Room := { frames := 6, cells := 1, slots := 6, locals := 90 }
set_option maxHeartbeats 4000000 in
set_option maxRecDepth 100000 in
theorem c_X3_needRegister_0 (l : Launch) (hl0 : l.stackTraces = false) (D : va_G) (cR cI cJ cZ : ClassId) (t0 : Nat) (sv : Nat → Nat)  (p0 : Int32) (hs : S_X3_needRegister_0 p0) : XT l D (xty cR cI cJ cZ) t0 sv yX3_needRegister cX3_needRegister 1 none rm_X3_needRegister 1 [.int p0] none none (([] : va_W)) (([] : va_W)) := by
  refine XT.of (by decide) (Nat.le_of_ble_eq_true rfl) ?_
  intro p e s m args below meth c A Q F hnt hK hP hD hA hY hS hQ ls hl
  have hSt := hY.1
  obtain ⟨hx, hb, hr, hts, hown, hlocks, hml⟩ := F
  have hCF : CallFix p m c cX3_needRegister 1 s args gW RX3 := ⟨hx, hb, hml, hown, hts⟩
  unfold S_X3_needRegister_0 at hs
  obtain ⟨H, eH⟩ : ∃ y9 : Heap, y9 = s.heap := ⟨_, rfl⟩
  obtain ⟨locs, eL⟩ : ∃ y9 : List Loc, y9 = [] := ⟨_, rfl⟩
  rw [← eL] at hS ⊢
  have hP : va_P D vwCl (([] : va_W)) H := by rw [eH]; exact hP
  have hS : va_S A s.heap H locs := by rw [eH]; exact hS
  suffices goal9 : W p l e rm_X3_needRegister s m args below meth c H locs 0 0 Q (F0 m 0 ls []) from by rw [← eH]; exact goal9
  have hl : lv_has ls 1 [(0, .int p0)] := hl
  refine lv_iload_n hx hb dX3_needRegister_0 rfl (lv_at hl 0 rfl) ?_
  obtain ⟨h_101, hs⟩ := hs
  refine lv_if_lt (tgt := 10) hx hb dX3_needRegister_1 (by decide) (fun c9 => absurd c9 h_101) (fun _ => ?_)
  refine lv_iload_n hx hb dX3_needRegister_4 rfl (lv_at hl 0 rfl) ?_
  refine lv_bipush (v := 8) hx hb dX3_needRegister_5 (by decide) ?_
  have h_102 := hs
  refine lv_icmp_lt (tgt := 20) hx hb dX3_needRegister_7 (by decide) (fun _ => ?_) (fun c9 => absurd h_102 c9)
  exact y_vret hx hb hr hlocks hQ hK hP hD hS rfl (Nat.le_of_ble_eq_true rfl) (Nat.le_of_ble_eq_true rfl) dX3_needRegister_20

def S_X3_needRegister_1  (p0 : Int32) : Prop := p0 < 0
set_option maxHeartbeats 4000000 in
set_option maxRecDepth 100000 in
theorem c_X3_needRegister_1 (l : Launch) (hl0 : l.stackTraces = false) (D : va_G) (cR cI cJ cZ : ClassId) (t0 : Nat) (sv : Nat → Nat)  (p0 : Int32) (hs : S_X3_needRegister_1 p0) : XT l D (xty cR cI cJ cZ) t0 sv yX3_needRegister cX3_needRegister 1 none rm_X3_needRegister 1 [.int p0] (some eIO) none (([] : va_W)) (([] : va_W)) := by
  refine XT.of (by decide) (Nat.le_of_ble_eq_true rfl) ?_
  intro p e s m args below meth c A Q F hnt hK hP hD hA hY hS hQ ls hl
  have hSt := hY.1
  obtain ⟨hx, hb, hr, hts, hown, hlocks, hml⟩ := F
  have hCF : CallFix p m c cX3_needRegister 1 s args gW RX3 := ⟨hx, hb, hml, hown, hts⟩
  unfold S_X3_needRegister_1 at hs
  obtain ⟨H, eH⟩ : ∃ y9 : Heap, y9 = s.heap := ⟨_, rfl⟩
  obtain ⟨locs, eL⟩ : ∃ y9 : List Loc, y9 = [] := ⟨_, rfl⟩
  rw [← eL] at hS ⊢
  have hP : va_P D vwCl (([] : va_W)) H := by rw [eH]; exact hP
  have hS : va_S A s.heap H locs := by rw [eH]; exact hS
  suffices goal9 : W p l e rm_X3_needRegister s m args below meth c H locs 0 0 Q (F0 m 0 ls []) from by rw [← eH]; exact goal9
  have hl : lv_has ls 1 [(0, .int p0)] := hl
  refine lv_iload_n hx hb dX3_needRegister_0 rfl (lv_at hl 0 rfl) ?_
  have h_101 := hs
  refine lv_if_lt (tgt := 10) hx hb dX3_needRegister_1 (by decide) (fun _ => ?_) (fun c9 => absurd h_101 c9)
  exact y_throw hl0 ⟨hx, hb, hr, hts, hown, hlocks, hml⟩ hnt hK hP hD hS hY hQ hl.1 rfl (by decide +kernel) (inW_4 _ (List.mem_of_getElem? (i := 35) rfl)) (inW_4 _ (List.mem_of_getElem? (i := 36) rfl)) hY.2.2.2.1.2.2.2.2.2.2.1 yat_IO dX3_needRegister_10 dX3_needRegister_13 dX3_needRegister_14 dX3_needRegister_16 dX3_needRegister_19 (Nat.le_of_ble_eq_true rfl) (Nat.le_of_ble_eq_true rfl) (Nat.le_of_ble_eq_true rfl) (Nat.le_of_ble_eq_true rfl) (Nat.le_of_ble_eq_true rfl) (Nat.le_of_ble_eq_true rfl)

def S_X3_needRegister_2  (p0 : Int32) : Prop := (¬ (p0 < 0)) ∧ ¬ (p0 < 8)
set_option maxHeartbeats 4000000 in
set_option maxRecDepth 100000 in
theorem c_X3_needRegister_2 (l : Launch) (hl0 : l.stackTraces = false) (D : va_G) (cR cI cJ cZ : ClassId) (t0 : Nat) (sv : Nat → Nat)  (p0 : Int32) (hs : S_X3_needRegister_2 p0) : XT l D (xty cR cI cJ cZ) t0 sv yX3_needRegister cX3_needRegister 1 none rm_X3_needRegister 1 [.int p0] (some eIO) none (([] : va_W)) (([] : va_W)) := by
  refine XT.of (by decide) (Nat.le_of_ble_eq_true rfl) ?_
  intro p e s m args below meth c A Q F hnt hK hP hD hA hY hS hQ ls hl
  have hSt := hY.1
  obtain ⟨hx, hb, hr, hts, hown, hlocks, hml⟩ := F
  have hCF : CallFix p m c cX3_needRegister 1 s args gW RX3 := ⟨hx, hb, hml, hown, hts⟩
  unfold S_X3_needRegister_2 at hs
  obtain ⟨H, eH⟩ : ∃ y9 : Heap, y9 = s.heap := ⟨_, rfl⟩
  obtain ⟨locs, eL⟩ : ∃ y9 : List Loc, y9 = [] := ⟨_, rfl⟩
  rw [← eL] at hS ⊢
  have hP : va_P D vwCl (([] : va_W)) H := by rw [eH]; exact hP
  have hS : va_S A s.heap H locs := by rw [eH]; exact hS
  suffices goal9 : W p l e rm_X3_needRegister s m args below meth c H locs 0 0 Q (F0 m 0 ls []) from by rw [← eH]; exact goal9
  have hl : lv_has ls 1 [(0, .int p0)] := hl
  refine lv_iload_n hx hb dX3_needRegister_0 rfl (lv_at hl 0 rfl) ?_
  obtain ⟨h_101, hs⟩ := hs
  refine lv_if_lt (tgt := 10) hx hb dX3_needRegister_1 (by decide) (fun c9 => absurd c9 h_101) (fun _ => ?_)
  refine lv_iload_n hx hb dX3_needRegister_4 rfl (lv_at hl 0 rfl) ?_
  refine lv_bipush (v := 8) hx hb dX3_needRegister_5 (by decide) ?_
  have h_102 := hs
  refine lv_icmp_lt (tgt := 20) hx hb dX3_needRegister_7 (by decide) (fun c9 => absurd c9 h_102) (fun _ => ?_)
  exact y_throw hl0 ⟨hx, hb, hr, hts, hown, hlocks, hml⟩ hnt hK hP hD hS hY hQ hl.1 rfl (by decide +kernel) (inW_4 _ (List.mem_of_getElem? (i := 35) rfl)) (inW_4 _ (List.mem_of_getElem? (i := 36) rfl)) hY.2.2.2.1.2.2.2.2.2.2.1 yat_IO dX3_needRegister_10 dX3_needRegister_13 dX3_needRegister_14 dX3_needRegister_16 dX3_needRegister_19 (Nat.le_of_ble_eq_true rfl) (Nat.le_of_ble_eq_true rfl) (Nat.le_of_ble_eq_true rfl) (Nat.le_of_ble_eq_true rfl) (Nat.le_of_ble_eq_true rfl) (Nat.le_of_ble_eq_true rfl)

def S_X3_needWay_0  (p0 : Int32) : Prop := p0 = 0
def rm_X3_needWay : Room := { frames := 6, cells := 1, slots := 6, locals := 90 }
set_option maxHeartbeats 4000000 in
set_option maxRecDepth 100000 in
theorem c_X3_needWay_0 (l : Launch) (hl0 : l.stackTraces = false) (D : va_G) (cR cI cJ cZ : ClassId) (t0 : Nat) (sv : Nat → Nat)  (p0 : Int32) (hs : S_X3_needWay_0 p0) : XT l D (xty cR cI cJ cZ) t0 sv yX3_needWay cX3_needWay 1 none rm_X3_needWay 1 [.int p0] none none (([] : va_W)) (([] : va_W)) := by
  refine XT.of (by decide) (Nat.le_of_ble_eq_true rfl) ?_
  intro p e s m args below meth c A Q F hnt hK hP hD hA hY hS hQ ls hl
  have hSt := hY.1
  obtain ⟨hx, hb, hr, hts, hown, hlocks, hml⟩ := F
  have hCF : CallFix p m c cX3_needWay 1 s args gW RX3 := ⟨hx, hb, hml, hown, hts⟩
  unfold S_X3_needWay_0 at hs
  obtain ⟨H, eH⟩ : ∃ y9 : Heap, y9 = s.heap := ⟨_, rfl⟩
  obtain ⟨locs, eL⟩ : ∃ y9 : List Loc, y9 = [] := ⟨_, rfl⟩
  rw [← eL] at hS ⊢
  have hP : va_P D vwCl (([] : va_W)) H := by rw [eH]; exact hP
  have hS : va_S A s.heap H locs := by rw [eH]; exact hS
  suffices goal9 : W p l e rm_X3_needWay s m args below meth c H locs 0 0 Q (F0 m 0 ls []) from by rw [← eH]; exact goal9
  have hl : lv_has ls 1 [(0, .int p0)] := hl
  refine lv_iload_n hx hb dX3_needWay_0 rfl (lv_at hl 0 rfl) ?_
  have h_101 := hs
  refine lv_if_eq (tgt := 19) hx hb dX3_needWay_1 (by decide) (fun _ => ?_) (fun c9 => absurd h_101 c9)
  exact y_vret hx hb hr hlocks hQ hK hP hD hS rfl (Nat.le_of_ble_eq_true rfl) (Nat.le_of_ble_eq_true rfl) dX3_needWay_19

def S_X3_needWay_1  (p0 : Int32) : Prop := (¬ (p0 = 0)) ∧ p0 = 1
set_option maxHeartbeats 4000000 in
set_option maxRecDepth 100000 in
theorem c_X3_needWay_1 (l : Launch) (hl0 : l.stackTraces = false) (D : va_G) (cR cI cJ cZ : ClassId) (t0 : Nat) (sv : Nat → Nat)  (p0 : Int32) (hs : S_X3_needWay_1 p0) : XT l D (xty cR cI cJ cZ) t0 sv yX3_needWay cX3_needWay 1 none rm_X3_needWay 1 [.int p0] none none (([] : va_W)) (([] : va_W)) := by
  refine XT.of (by decide) (Nat.le_of_ble_eq_true rfl) ?_
  intro p e s m args below meth c A Q F hnt hK hP hD hA hY hS hQ ls hl
  have hSt := hY.1
  obtain ⟨hx, hb, hr, hts, hown, hlocks, hml⟩ := F
  have hCF : CallFix p m c cX3_needWay 1 s args gW RX3 := ⟨hx, hb, hml, hown, hts⟩
  unfold S_X3_needWay_1 at hs
  obtain ⟨H, eH⟩ : ∃ y9 : Heap, y9 = s.heap := ⟨_, rfl⟩
  obtain ⟨locs, eL⟩ : ∃ y9 : List Loc, y9 = [] := ⟨_, rfl⟩
  rw [← eL] at hS ⊢
  have hP : va_P D vwCl (([] : va_W)) H := by rw [eH]; exact hP
  have hS : va_S A s.heap H locs := by rw [eH]; exact hS
  suffices goal9 : W p l e rm_X3_needWay s m args below meth c H locs 0 0 Q (F0 m 0 ls []) from by rw [← eH]; exact goal9
  have hl : lv_has ls 1 [(0, .int p0)] := hl
  refine lv_iload_n hx hb dX3_needWay_0 rfl (lv_at hl 0 rfl) ?_
  obtain ⟨h_101, hs⟩ := hs
  refine lv_if_eq (tgt := 19) hx hb dX3_needWay_1 (by decide) (fun c9 => absurd c9 h_101) (fun _ => ?_)
  refine lv_iload_n hx hb dX3_needWay_4 rfl (lv_at hl 0 rfl) ?_
  refine lv_iconst (v := 1) hx hb dX3_needWay_5 (by decide) ?_
  have h_102 := hs
  refine lv_icmp_eq (tgt := 19) hx hb dX3_needWay_6 (by decide) (fun _ => ?_) (fun c9 => absurd h_102 c9)
  exact y_vret hx hb hr hlocks hQ hK hP hD hS rfl (Nat.le_of_ble_eq_true rfl) (Nat.le_of_ble_eq_true rfl) dX3_needWay_19

def S_X3_needWay_2  (p0 : Int32) : Prop := (¬ (p0 = 0)) ∧ ¬ (p0 = 1)
set_option maxHeartbeats 4000000 in
set_option maxRecDepth 100000 in
theorem c_X3_needWay_2 (l : Launch) (hl0 : l.stackTraces = false) (D : va_G) (cR cI cJ cZ : ClassId) (t0 : Nat) (sv : Nat → Nat)  (p0 : Int32) (hs : S_X3_needWay_2 p0) : XT l D (xty cR cI cJ cZ) t0 sv yX3_needWay cX3_needWay 1 none rm_X3_needWay 1 [.int p0] (some eIA) none (([] : va_W)) (([] : va_W)) := by
  refine XT.of (by decide) (Nat.le_of_ble_eq_true rfl) ?_
  intro p e s m args below meth c A Q F hnt hK hP hD hA hY hS hQ ls hl
  have hSt := hY.1
  obtain ⟨hx, hb, hr, hts, hown, hlocks, hml⟩ := F
  have hCF : CallFix p m c cX3_needWay 1 s args gW RX3 := ⟨hx, hb, hml, hown, hts⟩
  unfold S_X3_needWay_2 at hs
  obtain ⟨H, eH⟩ : ∃ y9 : Heap, y9 = s.heap := ⟨_, rfl⟩
  obtain ⟨locs, eL⟩ : ∃ y9 : List Loc, y9 = [] := ⟨_, rfl⟩
  rw [← eL] at hS ⊢
  have hP : va_P D vwCl (([] : va_W)) H := by rw [eH]; exact hP
  have hS : va_S A s.heap H locs := by rw [eH]; exact hS
  suffices goal9 : W p l e rm_X3_needWay s m args below meth c H locs 0 0 Q (F0 m 0 ls []) from by rw [← eH]; exact goal9
  have hl : lv_has ls 1 [(0, .int p0)] := hl
  refine lv_iload_n hx hb dX3_needWay_0 rfl (lv_at hl 0 rfl) ?_
  obtain ⟨h_101, hs⟩ := hs
  refine lv_if_eq (tgt := 19) hx hb dX3_needWay_1 (by decide) (fun c9 => absurd c9 h_101) (fun _ => ?_)
  refine lv_iload_n hx hb dX3_needWay_4 rfl (lv_at hl 0 rfl) ?_
  refine lv_iconst (v := 1) hx hb dX3_needWay_5 (by decide) ?_
  have h_102 := hs
  refine lv_icmp_eq (tgt := 19) hx hb dX3_needWay_6 (by decide) (fun c9 => absurd c9 h_102) (fun _ => ?_)
  exact y_throw hl0 ⟨hx, hb, hr, hts, hown, hlocks, hml⟩ hnt hK hP hD hS hY hQ hl.1 rfl (by decide +kernel) (inW_4 _ (List.mem_of_getElem? (i := 29) rfl)) (inW_4 _ (List.mem_of_getElem? (i := 30) rfl)) hY.2.2.2.1.2.2.2.2.2.2.2 yat_IA dX3_needWay_9 dX3_needWay_12 dX3_needWay_13 dX3_needWay_15 dX3_needWay_18 (Nat.le_of_ble_eq_true rfl) (Nat.le_of_ble_eq_true rfl) (Nat.le_of_ble_eq_true rfl) (Nat.le_of_ble_eq_true rfl) (Nat.le_of_ble_eq_true rfl) (Nat.le_of_ble_eq_true rfl)

theorem c_X3_needRegister_ok (l : Launch) (hl0 : l.stackTraces = false) (D : va_G) (cR cI cJ cZ : ClassId) (t0 : Nat) (sv : Nat → Nat) (p0 : Int32) (h : vp_in p0 8) : XT l D (xty cR cI cJ cZ) t0 sv yX3_needRegister cX3_needRegister 1 none rm_X3_needRegister 1 [.int p0] none none [] [] := by
  have h2 := vp_in_iff.mp h
  have z0 : (0 : Int32).toInt = 0 := rfl
  have z8 : (8 : Int32).toInt = 8 := rfl
  exact c_X3_needRegister_0 l hl0 D cR cI cJ cZ t0 sv p0 ⟨by rw [ti_lt, z0]; omega, by rw [ti_lt, z8]; omega⟩
theorem c_X3_needRegister_bad (l : Launch) (hl0 : l.stackTraces = false) (D : va_G) (cR cI cJ cZ : ClassId) (t0 : Nat) (sv : Nat → Nat) (p0 : Int32) (h : ¬ vp_in p0 8) : XT l D (xty cR cI cJ cZ) t0 sv yX3_needRegister cX3_needRegister 1 none rm_X3_needRegister 1 [.int p0] (some eIO) none [] [] := by
  have z0 : (0 : Int32).toInt = 0 := rfl
  have z8 : (8 : Int32).toInt = 8 := rfl
  rw [vp_in_iff] at h
  by_cases q : p0 < 0
  · exact c_X3_needRegister_1 l hl0 D cR cI cJ cZ t0 sv p0 q
  · exact c_X3_needRegister_2 l hl0 D cR cI cJ cZ t0 sv p0 ⟨q, by rw [ti_lt, z0] at q; rw [ti_lt, z8]; omega⟩
theorem c_X3_needWay_ok (l : Launch) (hl0 : l.stackTraces = false) (D : va_G) (cR cI cJ cZ : ClassId) (t0 : Nat) (sv : Nat → Nat) (p0 : Int32) (h : vp_in p0 2) : XT l D (xty cR cI cJ cZ) t0 sv yX3_needWay cX3_needWay 1 none rm_X3_needWay 1 [.int p0] none none [] [] := by
  have h2 := vp_in_iff.mp h
  have z0 : (0 : Int32).toInt = 0 := rfl
  have z1 : (1 : Int32).toInt = 1 := rfl
  by_cases q : p0 = 0
  · exact c_X3_needWay_0 l hl0 D cR cI cJ cZ t0 sv p0 q
  · exact c_X3_needWay_1 l hl0 D cR cI cJ cZ t0 sv p0 ⟨q, by rw [ti_eq, z0] at q; rw [ti_eq, z1]; omega⟩
theorem c_X3_needWay_bad (l : Launch) (hl0 : l.stackTraces = false) (D : va_G) (cR cI cJ cZ : ClassId) (t0 : Nat) (sv : Nat → Nat) (p0 : Int32) (h : ¬ vp_in p0 2) : XT l D (xty cR cI cJ cZ) t0 sv yX3_needWay cX3_needWay 1 none rm_X3_needWay 1 [.int p0] (some eIA) none [] [] := by
  have z0 : (0 : Int32).toInt = 0 := rfl
  have z1 : (1 : Int32).toInt = 1 := rfl
  rw [vp_in_iff] at h
  exact c_X3_needWay_2 l hl0 D cR cI cJ cZ t0 sv p0 ⟨by rw [ti_eq, z0]; omega, by rw [ti_eq, z1]; omega⟩
