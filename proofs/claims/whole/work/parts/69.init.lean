/-! ===== constructors: what they stand on, their contract, their rows ===== -/
abbrev iOb : Cond := Cond.code Lib.objectInit ⟨#[0xb1]⟩ 1 none
abbrev iGw : List Cond := iOb :: gW
theorem iOb_ok : goodWord iOb = true := by decide +kernel
def iws (y : MethodName) (cc : ByteArray) (maxL : Nat) : List Cond := .code y cc maxL none :: iGw
theorem iG_in {ws : List Cond} (h : ∀ w ∈ ws, w ∈ iGw) : GoodIn iGw ws := fun w hw => ⟨h w hw, good_of_word ((List.mem_cons.mp (h w hw)).elim (fun e => e ▸ iOb_ok) (fun h => gW_good w h))⟩
/-- links that the class' constructor needs -/
def iN (U : State) : Prop := va_AO RX0 U ∧ va_Nw (.methodLinkNest RX3 15 yX0_init RX3) U ∧ va_Nw (.methodLinkNest RX3 22 yX1_init RX3) U
def IB (D : va_G) (tys : List (ClassId × FieldType)) (w : va_W) (sz : Nat) (U : State) : Prop :=
  U.heap.size = sz ∧ va_P D vwCl w U.heap ∧ va_K D vwCl tys U ∧ va_D (fun _ => True) w ∧ iN U
def IQ {I : Type} (D : va_G) (tys : List (ClassId × FieldType)) (w1 : I → va_W) (A : Nat → Prop) : Array Value → State → Outcome → State → Prop := fun _ st oc t =>
  (oc = .returned none ∧ ∃ i : I, va_P D vwCl (w1 i) t.heap ∧ va_K D vwCl tys t ∧ va_D A (w1 i)) ∧ va_F A st t
def XI {I : Type} (l : Launch) (D : va_G) (tys : List (ClassId × FieldType)) (y : MethodName) (cc : ByteArray) (maxL : Nat) (rm : Room) (mc ms : Nat) (av : List Value) (w0 : va_W) (w1 : I → va_W) : Prop :=
  ∀ sz : Nat, Met l y (iws y cc maxL) rm (va_Pc av (IB D tys w0 sz)) (IQ D tys w1 (va_A w0 sz)) mc ms (va_A w0 sz)
def IE {I : Type} (below : List Frame) (D : va_G) (tys : List (ClassId × FieldType)) (w1 : I → va_W) (A : Nat → Prop) (args : Array Value) (s : State) (mc ms : Nat) : State → Prop :=
  MQ below (IQ D tys w1 A) args s mc ms A
theorem iN.at {s U : State} (h : iN s) (hW : s.WarmedH U.vm) : iN U := ⟨va_AO.moved hW.alike h.1, h.2.1.warmM hW, h.2.2.warmM hW⟩
theorem XI.of {I : Type} {l : Launch} {D : va_G} {tys : List (ClassId × FieldType)} {y : MethodName} {rm : Room} {mc ms : Nat} {av : List Value} {w0 : va_W} {w1 : I → va_W} {cc : ByteArray} {maxL : Nat}
    (hy : plainName y.cls = true) (hlen : (lg_sl av).length ≤ maxL)
    (body : ∀ (p : Program) (e : Env) (s : State) (m : MethodId) (args : Array Value) (below : List Frame) (meth : Method) (c : Code) (A : Nat → Prop) (Q : State → Prop),
      XF p s m args meth c cc maxL none y.cls → iOb.before args s = true → meth.name = y.name → iN s → va_K D vwCl tys s → va_P D vwCl w0 s.heap → va_D A w0 → (∀ q : Nat, s.heap.size ≤ q → A q) → va_S A s.heap s.heap [] →
      Q = IE below D tys w1 A args s mc ms → ∀ ls : Array Slot, lv_has ls maxL (lv_args 0 av) →
      W p l e rm s m args below meth c s.heap [] 0 0 Q (F0 m 0 ls [])) : XI l D tys y cc maxL rm mc ms av w0 w1 := by
  intro sz
  refine Met.ofW (cc := cc) (maxL := maxL) (ret := none) (ws' := iGw) hy rfl ?_
  intro p e s m args below meth c s₁ B hml hv
  obtain ⟨hav, hsz, hP, hK, hD0, hN⟩ := hv
  have hfr : entryFrame m args maxL = F0 m 0 ((lg_sl av ++ List.replicate (maxL - (lg_sl av).length) Slot.unset).toArray) [] := by rw [hav, lg_entry_eq]
  rw [hfr]
  subst hsz
  have hts := atoms_spec (ws := iws y cc maxL) B.pre
  exact body p e s m args below meth c (va_A w0 s.heap.size) _ ⟨B.exec, B.bytes, B.returns, fun w hw => hts w (List.mem_cons_of_mem _ (List.mem_cons_of_mem _ hw)), findClass_of_methodNamed B.named, B.notSynchronized, hml⟩ (hts iOb (List.mem_cons_of_mem _ List.mem_cons_self)) (name_of_methodNamed B.named B.method).1 hN hK hP hD0.self (fun q h => Or.inr h) va_S.rf rfl _ (lv_entry av hlen)
theorem iB_blind (D : va_G) (tys : List (ClassId × FieldType)) (w : va_W) (sz : Nat) (av : List Value) : FrameBlind (va_Pc av (IB D tys w sz)) := by
  intro a U g mk q
  obtain ⟨q0, q1, qP, qK, qD, z1, z2, z3⟩ := q
  exact ⟨q0, q1, qP, va_K.moved (u := U) (U := U.calling g mk a) (Vm.Alike.refl U.vm) qK, qD, va_AO.moved (u := U) (U := U.calling g mk a) (Vm.Alike.refl U.vm) z1, z2.same rfl rfl, z3.same rfl rfl⟩
section XIC
variable {I : Type} {p : Program} {l : Launch} {e : Env} {R : Room} {s : State} {m : MethodId} {args : Array Value} {below : List Frame} {meth : Method} {c : Code} {H : Heap} {locs : List Loc} {cells slots : Nat} {Q : State → Prop}
variable {pc : Nat} {ls : Array Slot} {rest st0 : List Value} {A : Nat → Prop} {D : va_G} {tys : List (ClassId × FieldType)} {w1 : I → va_W} {wc wf : va_W} {mk mo : Nat}
variable {y : MethodName} {bytes cc : ByteArray} {maxL nL n index : Nat} {rm : Room} {own host : String} {As : List Value} {b : Addr} {Ts : List Cond}
theorem iB_of (hK : va_K D vwCl tys s) (hP : va_P D vwCl (wc ++ wf) H) (hD : va_D A (wc ++ wf)) (hN : iN s) (U : State) (hU : U.heap = H) (hW : s.WarmedH U.vm) : IB D tys wc H.size U :=
  ⟨by rw [hU], by rw [hU]; exact hP.left, va_K.moved hW.alike hK, hD.left.weaken (fun _ _ _ _ => trivial), hN.at hW⟩
theorem i_call {a : Array Value} (hr : va_Run p l e R s m args below meth c H locs cells slots mk mo (F0 m pc ls st0) rest (IQ D tys w1 (va_A wc H.size) a) (va_A wc H.size)) (hP : va_P D vwCl (wc ++ wf) H) (hD : va_D A (wc ++ wf)) (hS : va_S A s.heap H locs) (hA : ∀ q : Nat, s.heap.size ≤ q → A q)
    (kk : ∀ (i : I) (H1 : Heap) (locs1 : List Loc), va_P D vwCl (w1 i ++ wf) H1 → va_D A (w1 i ++ wf) → va_S A s.heap H1 locs1 → W p l e R s m args below meth c H1 locs1 (cells + mk) (slots + mo) Q (F0 m (pc + 3) ls rest)) : W p l e R s m args below meth c H locs cells slots Q (F0 m pc ls st0) := by
  have hF := yA_of hD hS hA
  intro T hT X
  obtain ⟨v, st₀, t, T', L, h0, X', hL, e1, e2, ⟨⟨hv, i, hP1, hK1, hD1⟩, hz, hk⟩, st⟩ := hr T hT X
  cases hv
  rw [h0] at hz hk
  obtain ⟨f1, f2⟩ := y_frame hP hD hF hk hP1 hD1
  obtain ⟨t2, a1, b1⟩ := kk i T'.heap (locs ++ L) (by rw [e1]; exact f1) f2 (y_keep hS hF e1 hz hk hL) T' rfl X'
  exact ⟨t2, st t2 a1, b1⟩
/-- a constructor of a nest mate -/
theorem i_IN (S : CallFix p m c cc nL s args Ts own) (hM : XI l D tys y bytes maxL rm mk mo (.ref b :: As) wc w1) (cw : va_CN R s args own index y host bytes maxL none (iws y bytes maxL) rm mk mo n ∧ y.name = "<init>" ∧ (Cond.instanceMethod y).before args s = true)
    (hK : va_K D vwCl tys s) (hP : va_P D vwCl (wc ++ wf) H) (hD : va_D A (wc ++ wf)) (hS : va_S A s.heap H locs) (hA : ∀ q : Nat, s.heap.size ≤ q → A q) (hN : iN s)
    (hn : As.length = n) (hsize : ls.size = nL) (hstack : st0 = As.reverse ++ .ref b :: rest) (hW : (rest.map fun v => v.category).sum ≤ 8) (hdg : decode cc pc = .ok (.invokespecial index, 3)) (hf : cells + mk ≤ R.cells ∧ slots + mo ≤ R.slots)
    (kk : ∀ (i : I) (H1 : Heap) (locs1 : List Loc), va_P D vwCl (w1 i ++ wf) H1 → va_D A (w1 i ++ wf) → va_S A s.heap H1 locs1 → W p l e R s m args below meth c H1 locs1 (cells + mk) (slots + mo) Q (F0 m (pc + 3) ls rest)) : W p l e R s m args below meth c H locs cells slots Q (F0 m pc ls st0) :=
  i_call (va_runIN S (hM H.size) cw ⟨iB_blind D tys wc H.size (.ref b :: As), fun U hU hW => ⟨rfl, iB_of hK hP hD hN U hU hW⟩⟩ rfl hn hsize hstack (lv_room hW) hdg hf) hP hD hS hA kk
theorem i_I (S : CallFix p m c cc nL s args Ts own) (hM : XI l D tys y bytes maxL rm mk mo (.ref b :: As) wc w1) (cw : CallB R s args own index y bytes maxL none (iws y bytes maxL) rm mk mo n ∧ y.name = "<init>" ∧ (Cond.instanceMethod y).before args s = true)
    (hK : va_K D vwCl tys s) (hP : va_P D vwCl (wc ++ wf) H) (hD : va_D A (wc ++ wf)) (hS : va_S A s.heap H locs) (hA : ∀ q : Nat, s.heap.size ≤ q → A q) (hN : iN s)
    (hn : As.length = n) (hsize : ls.size = nL) (hstack : st0 = As.reverse ++ .ref b :: rest) (hW : (rest.map fun v => v.category).sum ≤ 8) (hdg : decode cc pc = .ok (.invokespecial index, 3)) (hf : cells + mk ≤ R.cells ∧ slots + mo ≤ R.slots)
    (kk : ∀ (i : I) (H1 : Heap) (locs1 : List Loc), va_P D vwCl (w1 i ++ wf) H1 → va_D A (w1 i ++ wf) → va_S A s.heap H1 locs1 → W p l e R s m args below meth c H1 locs1 (cells + mk) (slots + mo) Q (F0 m (pc + 3) ls rest)) : W p l e R s m args below meth c H locs cells slots Q (F0 m pc ls st0) :=
  i_call (va_runI S (hM H.size) cw ⟨iB_blind D tys wc H.size (.ref b :: As), fun U hU hW => ⟨rfl, iB_of hK hP hD hN U hU hW⟩⟩ rfl hn hsize hstack (lv_room hW) hdg hf) hP hD hS hA kk
theorem i_vret {w : va_W} (i : I) (hexec : p.tables.exec = Jvm.exec) (hb : c.code = cc) (hr : meth.sig.returnType = none) (hlocks : meth.locks = false) (hQ : Q = IE below D tys w1 A args s cells slots) (hK : va_K D vwCl tys s) (hP : va_P D vwCl w H) (hD : va_D A w) (hS : va_S A s.heap H locs) (hw : w = w1 i)
    (hdg : decode cc pc = .ok (.return_, 1)) : W p l e R s m args below meth c H locs cells slots Q (F0 m pc ls []) := by
  subst hQ; subst hw
  exact W.vret hexec hb hr (fun t ht hW => ⟨⟨rfl, i, by rw [ht]; exact hP, va_K.moved hW.alike hK, hD⟩, hS.F ht⟩) hS.2.2 hdg hlocks
end XIC

set_option maxHeartbeats 4000000 in
theorem c_X0_init (l : Launch) (D : va_G) (tys : List (ClassId × FieldType)) (q : Nat) : XI l D tys yX0_init cX0_init 1 { frames := 1, cells := 0, slots := 0, locals := 12 } 0 0 [.ref q] [] (fun _ : Unit => []) := by
  refine XI.of (by decide) (Nat.le_of_ble_eq_true rfl) ?_
  intro p e s m args below meth c A Q F hOb hnm hN hK hP hD hA hS hQ ls hl
  obtain ⟨hx, hb, hr, hts, hown, hlocks, hml⟩ := F
  have hl : lv_has ls 1 [(0, .ref q)] := hl
  refine lv_aload_n hx hb dX0_init_0 rfl (lv_at hl 0 rfl) ?_
  refine W.objInit hx hb hown (hts _ (inW_1 _ (List.mem_of_getElem? (i := 1) rfl))) (hts _ (inW_1 _ (List.mem_of_getElem? (i := 2) rfl))) hOb rfl (by rw [hml]; exact hl.1) rfl dX0_init_1 (Nat.le_of_ble_eq_true rfl) (Nat.le_of_ble_eq_true rfl) ?_
  refine W.eq (g2 := F0 m 4 ls []) rfl ?_
  exact i_vret () hx hb hr hlocks hQ hK hP hD hS rfl dX0_init_4
set_option maxHeartbeats 4000000 in
theorem c_X1_init (l : Launch) (D : va_G) (tys : List (ClassId × FieldType)) (q : Nat) : XI l D tys yX1_init cX1_init 1 { frames := 1, cells := 0, slots := 0, locals := 12 } 0 0 [.ref q] [] (fun _ : Unit => []) := by
  refine XI.of (by decide) (Nat.le_of_ble_eq_true rfl) ?_
  intro p e s m args below meth c A Q F hOb hnm hN hK hP hD hA hS hQ ls hl
  obtain ⟨hx, hb, hr, hts, hown, hlocks, hml⟩ := F
  have hl : lv_has ls 1 [(0, .ref q)] := hl
  refine lv_aload_n hx hb dX1_init_0 rfl (lv_at hl 0 rfl) ?_
  refine W.objInit hx hb hown (hts _ (inW_1 _ (List.mem_of_getElem? (i := 18) rfl))) (hts _ (inW_1 _ (List.mem_of_getElem? (i := 2) rfl))) hOb rfl (by rw [hml]; exact hl.1) rfl dX1_init_1 (Nat.le_of_ble_eq_true rfl) (Nat.le_of_ble_eq_true rfl) ?_
  refine W.eq (g2 := F0 m 4 ls []) rfl ?_
  exact i_vret () hx hb hr hlocks hQ hK hP hD hS rfl dX1_init_4
theorem iws_in {y : MethodName} {cc : ByteArray} {maxL : Nat} (h : Cond.code y cc maxL none ∈ gW) : ∀ w ∈ iws y cc maxL, w ∈ iGw := fun w hw => (List.mem_cons.mp hw).elim (fun e => e ▸ List.mem_cons_of_mem _ h) id
section ICW
variable {R : Room} {s : State} {args : Array Value} {own host : String} {index maxL mc ms : Nat} {y : MethodName} {bytes : ByteArray} {rm : Room}
theorem i_cwN (n : Nat) (hti : ∀ w ∈ iGw, w.before args s = true) (hl : va_Nw (.methodLinkNest own index y host) s) (h2 : Cond.instanceMethod y ∈ gW) (h4 : Cond.initialized y.cls ∈ gW) (h5 : Cond.code y bytes maxL none ∈ gW) (hrc : rm.cells = mc) (hrs : rm.slots = ms) (hy1 : y.name = "<init>")
    (hd : y.cls ≠ "java/lang/invoke/MethodHandle" ∧ y.cls ≠ "java/lang/invoke/VarHandle" ∧ (parseMethodDescriptor y.desc).map (fun d => d.parameters.length) = some n) (hR : rm.frames + 1 ≤ R.frames ∧ 8 + (maxL + 11) + rm.locals ≤ R.locals) : va_CN R s args own index y host bytes maxL none (iws y bytes maxL) rm mc ms n ∧ y.name = "<init>" ∧ (Cond.instanceMethod y).before args s = true :=
  ⟨va_cnB n (Ts := iGw) hti (iG_in (iws_in h5)) rfl hrc hrs hl (hti _ (List.mem_cons_of_mem _ h4)) hd hR, hy1, hti _ (List.mem_cons_of_mem _ h2)⟩
theorem i_cwI (n : Nat) (hti : ∀ w ∈ iGw, w.before args s = true) (h1 : Cond.methodLink own index y ∈ gW) (h2 : Cond.instanceMethod y ∈ gW) (h4 : Cond.initialized y.cls ∈ gW) (h5 : Cond.code y bytes maxL none ∈ gW) (hrc : rm.cells = mc) (hrs : rm.slots = ms) (hy1 : y.name = "<init>")
    (hd : y.cls ≠ "java/lang/invoke/MethodHandle" ∧ y.cls ≠ "java/lang/invoke/VarHandle" ∧ (parseMethodDescriptor y.desc).map (fun d => d.parameters.length) = some n) (hR : rm.frames + 1 ≤ R.frames ∧ 8 + (maxL + 11) + rm.locals ≤ R.locals) : CallB R s args own index y bytes maxL none (iws y bytes maxL) rm mc ms n ∧ y.name = "<init>" ∧ (Cond.instanceMethod y).before args s = true :=
  cwI n (Ts := iGw) hti (iG_in (iws_in h5)) rfl hrc hrs (hti _ (List.mem_cons_of_mem _ h4)) (hti _ (List.mem_cons_of_mem _ h1)) (hti _ (List.mem_cons_of_mem _ h2)) hy1 hd hR
end ICW
theorem i_arrV {cA : ClassId} {N : Nat} {f g : Nat → Value} (h : ∀ j, j < N → f j = g j) : arrV cA N f = arrV cA N g := by
  have e : (Array.ofFn (n := N) fun j => f j.val) = Array.ofFn (n := N) fun j => g j.val := congrArg Array.ofFn (funext fun j => h j.val j.isLt)
  unfold arrV
  rw [e]
theorem i_sameO {D : va_G} {tys : List (ClassId × FieldType)} {s : State} {cA cB : ClassId} {C : String} (h1 : va_K D vwCl (tys ++ [(cA, .object C)]) s) (h2 : va_K D vwCl tys s) (t : Nat) (ht : tys[t]? = some (cB, .object C)) : cA = cB := by
  obtain ⟨_, _, _, _, _, a⟩ := (h1.2 tys.length (cA, .object C) (by simp)).2
  obtain ⟨_, _, _, _, _, b⟩ := (h2.2 t _ ht).2
  exact Option.some.inj (a.symm.trans b)
theorem i_sameI {D : va_G} {tys : List (ClassId × FieldType)} {s : State} {cA cB : ClassId} (h1 : va_K D vwCl (tys ++ [(cA, .int)]) s) (h2 : va_K D vwCl tys s) (t : Nat) (ht : tys[t]? = some (cB, .int)) : cA = cB := by
  have a : s.vm.findClass ("[" ++ FieldType.int.toString) = some cA := (h1.2 tys.length (cA, .int) (by simp)).2
  have b : s.vm.findClass ("[" ++ FieldType.int.toString) = some cB := (h2.2 t _ ht).2
  exact Option.some.inj (a.symm.trans b)
theorem i_sameJ {D : va_G} {tys : List (ClassId × FieldType)} {s : State} {cA cB : ClassId} (h1 : va_K D vwCl (tys ++ [(cA, .long)]) s) (h2 : va_K D vwCl tys s) (t : Nat) (ht : tys[t]? = some (cB, .long)) : cA = cB := by
  have a : s.vm.findClass ("[" ++ FieldType.long.toString) = some cA := (h1.2 tys.length (cA, .long) (by simp)).2
  have b : s.vm.findClass ("[" ++ FieldType.long.toString) = some cB := (h2.2 t _ ht).2
  exact Option.some.inj (a.symm.trans b)
theorem i_sameZ {D : va_G} {tys : List (ClassId × FieldType)} {s : State} {cA cB : ClassId} (h1 : va_K D vwCl (tys ++ [(cA, .boolean)]) s) (h2 : va_K D vwCl tys s) (t : Nat) (ht : tys[t]? = some (cB, .boolean)) : cA = cB := by
  have a : s.vm.findClass ("[" ++ FieldType.boolean.toString) = some cA := (h1.2 tys.length (cA, .boolean) (by simp)).2
  have b : s.vm.findClass ("[" ++ FieldType.boolean.toString) = some cB := (h2.2 t _ ht).2
  exact Option.some.inj (a.symm.trans b)
