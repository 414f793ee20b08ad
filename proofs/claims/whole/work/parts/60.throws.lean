/-! ===== methods of the class that throw: what they stand on, their contract, their rows ===== -/
abbrev eIO : String := "java/lang/IndexOutOfBoundsException"
abbrev eIA : String := "java/lang/IllegalArgumentException"
abbrev eAE : String := "java/lang/ArithmeticException"
abbrev yNs : List String := ["java/lang/RuntimeException", "java/lang/Exception"]
def yW : List Cond := vx_atS RX3 109 eIO yNs ++ (vx_atS RX3 50 eIA yNs ++ vx_atS RX3 69 eAE yNs)
def yOk (w : Cond) : Bool := w.onTables && w.keepsFace
theorem yW_ok : yW.all yOk = true := by decide +kernel
theorem yW_ot : yW.all vx_ot = true := by decide +kernel
theorem yW_at {s U : State} (hW : s.WarmedH U.vm) (h : ∀ w ∈ yW, va_Nw w s) : ∀ w ∈ yW, va_Nw w U := by
  intro w hw
  have h1 := List.all_eq_true.mp yW_ok w hw
  have h2 := h w hw
  simp only [yOk, Bool.and_eq_true] at h1
  exact va_tabs h1.1 (rfl : (s.setVm U.vm).vm = U.vm) (Cond.before_shiftedFace (State.Shifted.of_warmed hW) w h1.2 h2)
theorem yW_use {s : State} {args : Array Value} (h : ∀ w ∈ yW, va_Nw w s) : ∀ w ∈ yW, w.before args s = true := fun w hw =>
  vx_ot_at (args := #[]) (State.WarmedH.refl s) rfl (List.all_eq_true.mp yW_ot w hw) (h w hw)
/-- the texts that are thrown -/
def yStr (sv : Nat → Nat) (U : State) : Prop :=
  vk_R RX3 48 "the coefficient is out of range" (sv 0) U ∧ vk_R RX3 53 "the exponent is out of range" (sv 1) U ∧ vk_R RX3 59 "there is no such operation" (sv 2) U ∧ vk_R RX3 67 "a flag that was raised is a trap" (sv 3) U ∧
  vk_R RX3 101 "there is no such mode" (sv 4) U ∧ vk_R RX3 103 "there are no such flags" (sv 5) U ∧ vk_R RX3 107 "there is no such register" (sv 6) U ∧ vk_R RX3 110 "there is no such way" (sv 7) U
def yS (t0 : Nat) (sv : Nat → Nat) (A : Nat → Prop) (U : State) (H : Heap) : Prop :=
  xSt t0 A U H ∧ vx_Zq Bundle.tN "UNASSIGNED_STACK" Bundle.steD A U H ∧ vx_Zq Bundle.tN "SUPPRESSED_SENTINEL" Bundle.listD A U H ∧ yStr sv U ∧ (∀ w ∈ yW, va_Nw w U) ∧ va_Nc eIA eIO U ∧ va_Nc eAE eIO U ∧ va_Nc eAE eIA U
theorem yS.at {t0 : Nat} {sv : Nat → Nat} {A B : Nat → Prop} {s U : State} {H : Heap} (h : yS t0 sv A s s.heap) (hW : s.WarmedH U.vm)
    (hq : ∀ a : Nat, a < s.heap.size → ¬ A a → H[a]? = s.heap[a]?) (hAB : ∀ q, B q → A q) (hU : U.heap = H) : yS t0 sv B U U.heap := by
  obtain ⟨h1, h2, h3, ⟨q1, q2, q3, q4, q5, q6, q7, q8⟩, h5, h6, h7, h8⟩ := h
  refine ⟨h1.at hW hq hAB hU, ?_, ?_, ⟨q1.warm hW, q2.warm hW, q3.warm hW, q4.warm hW, q5.warm hW, q6.warm hW, q7.warm hW, q8.warm hW⟩, yW_at hW h5, h6.moved hW.alike, h7.moved hW.alike, h8.moved hW.alike⟩
  · rw [hU]; exact ((h2.kept hq).moved hW.alike).narrow hAB
  · rw [hU]; exact ((h3.kept hq).moved hW.alike).narrow hAB
def YB (D : va_G) (tys : List (ClassId × FieldType)) (t0 : Nat) (sv : Nat → Nat) (w : va_W) (sz : Nat) (U : State) : Prop :=
  U.heap.size = sz ∧ va_P D vwCl w U.heap ∧ va_K D vwCl tys U ∧ va_D (fun _ => True) w ∧ yS t0 sv (va_A w sz) U U.heap
def YQ (D : va_G) (tys : List (ClassId × FieldType)) (w1 : va_W) (A : Nat → Prop) (th : Option String) (r : Option Value) : Array Value → State → Outcome → State → Prop := fun _ st oc t =>
  (th = none ∧ oc = .returned r ∧ va_P D vwCl w1 t.heap ∧ va_K D vwCl tys t ∧ va_D A w1) ∧ va_F A st t
def YX (D : va_G) (tys : List (ClassId × FieldType)) (w0 : va_W) (A : Nat → Prop) (th : Option String) : String → State → State → Prop := fun E st t =>
  (th = some E ∧ va_P D vwCl w0 t.heap ∧ va_K D vwCl tys t ∧ va_D A w0) ∧ va_F A st t
def YE (below : List Frame) (D : va_G) (tys : List (ClassId × FieldType)) (w0 w1 : va_W) (A : Nat → Prop) (th : Option String) (r : Option Value) (args : Array Value) (s : State) (mc : Nat) : State → Prop :=
  vx_MQ below (YQ D tys w1 A th r) (YX D tys w0 A th) args s mc (6 * mc) A
/-- a method's contract: from the cells w0 it answers r and the cells are w1, or it throws th and the cells are w1 too -/
def XT (l : Launch) (D : va_G) (tys : List (ClassId × FieldType)) (t0 : Nat) (sv : Nat → Nat) (y : MethodName) (cc : ByteArray) (maxL : Nat) (ret : Option FieldType) (rm : Room) (mc : Nat) (av : List Value) (th : Option String) (r : Option Value) (w0 w1 : va_W) : Prop :=
  ∀ sz : Nat, vx_Met l y (xws y cc maxL ret) rm (va_Pc av (YB D tys t0 sv w0 sz)) (YQ D tys w1 (va_A w0 sz) th r) (YX D tys w1 (va_A w0 sz) th) mc (6 * mc) (va_A w0 sz)
theorem XT.of {l : Launch} {D : va_G} {tys : List (ClassId × FieldType)} {t0 : Nat} {sv : Nat → Nat} {y : MethodName} {rm : Room} {mc : Nat} {av : List Value} {th : Option String} {r : Option Value} {w0 w1 : va_W} {cc : ByteArray} {maxL : Nat} {ret : Option FieldType}
    (hy : plainName y.cls = true) (hlen : (lg_sl av).length ≤ maxL)
    (body : ∀ (p : Program) (e : Env) (s : State) (m : MethodId) (args : Array Value) (below : List Frame) (meth : Method) (c : Code) (A : Nat → Prop) (Q : State → Prop),
      XF p s m args meth c cc maxL ret y.cls → (∀ x ∈ c.exceptionTable.toList, False) → va_K D vwCl tys s → va_P D vwCl w0 s.heap → va_D A w0 → (∀ q : Nat, s.heap.size ≤ q → A q) → yS t0 sv A s s.heap → va_S A s.heap s.heap [] →
      Q = YE below D tys w1 w1 A th r args s mc → ∀ ls : Array Slot, lv_has ls maxL (lv_args 0 av) →
      W p l e rm s m args below meth c s.heap [] 0 0 Q (F0 m 0 ls [])) : XT l D tys t0 sv y cc maxL ret rm mc av th r w0 w1 := by
  intro sz
  refine vx_ofW (cc := cc) (maxL := maxL) (ret := ret) (ws' := gW) hy rfl ?_
  intro p e s m args below meth c s₁ B hml hnt hv
  obtain ⟨hav, hsz, hP, hK, hD0, hSt⟩ := hv
  have hfr : entryFrame m args maxL = F0 m 0 ((lg_sl av ++ List.replicate (maxL - (lg_sl av).length) Slot.unset).toArray) [] := by rw [hav, lg_entry_eq]
  rw [hfr]
  subst hsz
  exact body p e s m args below meth c (va_A w0 s.heap.size) _ ⟨B.exec, B.bytes, B.returns, fun w hw => atoms_spec (ws := xws y cc maxL ret) B.pre w (List.mem_cons_of_mem _ hw), findClass_of_methodNamed B.named, B.notSynchronized, hml⟩ hnt hK hP hD0.self (fun q h => Or.inr h) hSt va_S.rf rfl _ (lv_entry av hlen)
theorem yB_blind (D : va_G) (tys : List (ClassId × FieldType)) (t0 : Nat) (sv : Nat → Nat) (w : va_W) (sz : Nat) (av : List Value) : FrameBlind (va_Pc av (YB D tys t0 sv w sz)) := by
  intro a U g mk q
  obtain ⟨q0, q1, qP, qK, qD, z1, z2, z3, ⟨k1, k2, k3, k4, k5, k6, k7, k8⟩, z5, z6, z7, z8⟩ := q
  refine ⟨q0, q1, qP, va_K.moved (u := U) (U := U.calling g mk a) (Vm.Alike.refl U.vm) qK, qD, ?_, vx_Zq.moved (u := U) (U := U.calling g mk a) (Vm.Alike.refl U.vm) z2, vx_Zq.moved (u := U) (U := U.calling g mk a) (Vm.Alike.refl U.vm) z3,
    ⟨k1.same rfl, k2.same rfl, k3.same rfl, k4.same rfl, k5.same rfl, k6.same rfl, k7.same rfl, k8.same rfl⟩, yW_at (s := U) (U := U.calling g mk a) (State.WarmedH.refl U) z5, z6.moved (u := U) (U := U.calling g mk a) (Vm.Alike.refl U.vm), z7.moved (u := U) (U := U.calling g mk a) (Vm.Alike.refl U.vm), z8.moved (u := U) (U := U.calling g mk a) (Vm.Alike.refl U.vm)⟩
  obtain ⟨y1, y2, y3, y4, y5⟩ := z1
  exact ⟨y1.moved (u := U) (U := U.calling g mk a) (Vm.Alike.refl U.vm), y2.moved (u := U) (U := U.calling g mk a) (Vm.Alike.refl U.vm), y3.same rfl rfl, y4.same rfl rfl, y5.same rfl rfl⟩
section YC
variable {p : Program} {l : Launch} {e : Env} {R : Room} {s : State} {m : MethodId} {args : Array Value} {below : List Frame} {meth : Method} {c : Code} {H : Heap} {locs : List Loc} {cells slots : Nat} {Q : State → Prop}
variable {pc : Nat} {ls : Array Slot} {rest st0 : List Value} {a : Array Value} {A : Nat → Prop} {D : va_G} {tys : List (ClassId × FieldType)} {t0 : Nat} {sv : Nat → Nat} {w0 w1 wc wf w : va_W} {r : Option Value} {th : Option String} {mc mk : Nat}
variable {y : MethodName} {bytes cc : ByteArray} {maxL nL n index : Nat} {ret : Option FieldType} {ws : List Cond} {rm : Room} {own C host : String} {b : Addr} {As : List Value}
theorem yA_of (hD : va_D A (wc ++ wf)) (hS : va_S A s.heap H locs) (hA : ∀ q : Nat, s.heap.size ≤ q → A q) : ∀ q, va_A wc H.size q → A q := by
  intro q h
  rcases h with ⟨k, e, h⟩ | h
  · exact hD.2 k (q, e) (by rw [List.getElem?_append_left (List.getElem?_eq_some_iff.mp h).1]; exact h)
  · exact hA q (Nat.le_trans hS.1 h)
theorem va_P.left (h : va_P D vwCl (wc ++ wf) H) : va_P D vwCl wc H := fun k q hk => h k q (by rw [List.getElem?_append_left (List.getElem?_eq_some_iff.mp hk).1]; exact hk)
theorem va_P.right (h : va_P D vwCl (wc ++ wf) H) : va_P D vwCl wf H := fun k q hk => h (wc.length + k) q (by rw [List.getElem?_append_right (Nat.le_add_right _ _), Nat.add_sub_cancel_left]; exact hk)
theorem va_D.left (h : va_D A (wc ++ wf)) : va_D A wc :=
  ⟨fun i j p q hi hj e => h.1 i j p q (by rw [List.getElem?_append_left (List.getElem?_eq_some_iff.mp hi).1]; exact hi) (by rw [List.getElem?_append_left (List.getElem?_eq_some_iff.mp hj).1]; exact hj) e,
   fun k q hk => h.2 k q (by rw [List.getElem?_append_left (List.getElem?_eq_some_iff.mp hk).1]; exact hk)⟩
theorem va_D.right (h : va_D A (wc ++ wf)) : va_D A wf :=
  ⟨fun i j p q hi hj e => Nat.add_left_cancel (h.1 (wc.length + i) (wc.length + j) p q (by rw [List.getElem?_append_right (Nat.le_add_right _ _), Nat.add_sub_cancel_left]; exact hi) (by rw [List.getElem?_append_right (Nat.le_add_right _ _), Nat.add_sub_cancel_left]; exact hj) e),
   fun k q hk => h.2 (wc.length + k) q (by rw [List.getElem?_append_right (Nat.le_add_right _ _), Nat.add_sub_cancel_left]; exact hk)⟩
theorem va_D.apart (h : va_D A (wc ++ wf)) {i j : Nat} {p q : Nat × va_E} (hi : wc[i]? = some p) (hj : wf[j]? = some q) : p.1 ≠ q.1 := by
  intro e
  have hl := (List.getElem?_eq_some_iff.mp hi).1
  have := h.1 i (wc.length + j) p q (by rw [List.getElem?_append_left hl]; exact hi) (by rw [List.getElem?_append_right (Nat.le_add_right _ _), Nat.add_sub_cancel_left]; exact hj) e
  omega
/-- the frame: what the callee doesn't hold stays -/
theorem y_frame {H1 : Heap} (hP : va_P D vwCl (wc ++ wf) H) (hD : va_D A (wc ++ wf)) (hF : ∀ q, va_A wc H.size q → A q) (hk : ∀ q : Nat, q < H.size → ¬ va_A wc H.size q → H1[q]? = H[q]?) (hP1 : va_P D vwCl w1 H1) (hD1 : va_D (va_A wc H.size) w1) : va_P D vwCl (w1 ++ wf) H1 ∧ va_D A (w1 ++ wf) := by
  have hR := hP.right
  have nA : ∀ (k : Nat) (q : Nat × va_E), wf[k]? = some q → ¬ va_A wc H.size q.1 := by
    intro k q hq h
    rcases h with ⟨i, e, h⟩ | h
    · exact hD.apart h hq rfl
    · exact absurd (vx_lt hR hq) (Nat.not_lt.mpr h)
  refine ⟨hP1.app (hR.kept (fun k q hq => hk q.1 (vx_lt hR hq) (nA k q hq))), (hD1.weaken (fun k q _ h => hF q.1 h)).app hD.right ?_⟩
  intro i j p q hi hj e
  exact nA j q hj (e ▸ hD1.2 i p hi)
theorem yB_of (hK : va_K D vwCl tys s) (hP : va_P D vwCl (wc ++ wf) H) (hD : va_D A (wc ++ wf)) (hS : va_S A s.heap H locs) (hA : ∀ q : Nat, s.heap.size ≤ q → A q) (hSt : yS t0 sv A s s.heap) (U : State) (hU : U.heap = H) (hW : s.WarmedH U.vm) : YB D tys t0 sv wc H.size U :=
  ⟨by rw [hU], by rw [hU]; exact hP.left, va_K.moved hW.alike hK, hD.left.weaken (fun _ _ _ _ => trivial), hSt.at hW hS.2.1 (yA_of hD hS hA) hU⟩
theorem yB_ofX (hK : va_K D vwCl tys s) (hP : va_P D vwCl (wc ++ wf) H) (hD : va_D A (wc ++ wf)) (hS : va_S A s.heap H locs) (hA : ∀ q : Nat, s.heap.size ≤ q → A q) (hSt : xSt t0 A s s.heap) (U : State) (hU : U.heap = H) (hW : s.WarmedH U.vm) : XB D tys t0 wc H.size U :=
  ⟨by rw [hU], by rw [hU]; exact hP.left, va_K.moved hW.alike hK, hD.left.weaken (fun _ _ _ _ => trivial), hSt.at hW hS.2.1 (yA_of hD hS hA) hU⟩
theorem y_keep {H1 : Heap} {t : State} {L : List Loc} (hS : va_S A s.heap H locs) (hF : ∀ q, va_A wc H.size q → A q) (e1 : H1 = t.heap) (hz : H.size ≤ t.heap.size) (hk : ∀ q : Nat, q < H.size → ¬ va_A wc H.size q → t.heap[q]? = H[q]?) (hL : ∀ q ∈ L, va_A wc H.size q.base) : va_S A s.heap H1 (locs ++ L) :=
  ⟨Nat.le_trans hS.1 (by rw [e1]; exact hz), fun q h1 h2 => by rw [e1, hk q (Nat.lt_of_lt_of_le h1 hS.1) (fun z => h2 (hF q z))]; exact hS.2.1 q h1 h2, fun q hq => by
    rcases List.mem_append.mp hq with h | h
    · exact hS.2.2 q h
    · exact hF _ (hL q h)⟩
/-- behind a call that returned, the frame beside -/
theorem y_callR (hr : vx_Run p l e R s m args below meth c H locs cells slots mk (6 * mk) (F0 m pc ls st0) rest (YQ D tys w1 (va_A wc H.size) none r a) (YX D tys w0 (va_A wc H.size) none) (va_A wc H.size)) (hP : va_P D vwCl (wc ++ wf) H) (hD : va_D A (wc ++ wf)) (hS : va_S A s.heap H locs) (hA : ∀ q : Nat, s.heap.size ≤ q → A q)
    (kk : ∀ (H1 : Heap) (locs1 : List Loc), va_P D vwCl (w1 ++ wf) H1 → va_D A (w1 ++ wf) → va_S A s.heap H1 locs1 → W p l e R s m args below meth c H1 locs1 (cells + mk) (slots + 6 * mk) Q (F0 m (pc + 3) ls (r.toList ++ rest))) : W p l e R s m args below meth c H locs cells slots Q (F0 m pc ls st0) := by
  have hF := yA_of hD hS hA
  intro T hT X
  rcases hr T hT X with ⟨v, st₀, t, T', L, h0, X', hL, e1, e2, ⟨⟨hth, hv, hP1, hK1, hD1⟩, hz, hk⟩, st⟩ | ⟨q, st₀, t, T', L, E, ce, h0, X', hL, e1, e2, ⟨⟨hth, -⟩, -⟩, -⟩
  · cases hv
    rw [h0] at hz hk
    obtain ⟨f1, f2⟩ := y_frame hP hD hF hk hP1 hD1
    obtain ⟨t2, a1, b1⟩ := kk T'.heap (locs ++ L) (by rw [e1]; exact f1) f2 (y_keep hS hF e1 hz hk hL) T' rfl X'
    exact ⟨t2, st t2 a1, b1⟩
  · exact absurd hth (by simp)
/-- behind a call that threw, the frame beside -/
theorem y_callT {E : String} (hr : vx_Run p l e R s m args below meth c H locs cells slots mk (6 * mk) (F0 m pc ls st0) rest (YQ D tys w1 (va_A wc H.size) (some E) r a) (YX D tys w0 (va_A wc H.size) (some E)) (va_A wc H.size)) (hP : va_P D vwCl (wc ++ wf) H) (hD : va_D A (wc ++ wf)) (hS : va_S A s.heap H locs) (hA : ∀ q : Nat, s.heap.size ≤ q → A q)
    (kx : ∀ (H1 : Heap) (locs1 : List Loc) (q9 : Addr) (ce : Cell) (t : State), t.heap = H1 → s.vm.Alike t.vm → va_P D vwCl (w0 ++ wf) H1 → va_D A (w0 ++ wf) → va_S A s.heap H1 locs1 → H1[q9]? = some ce → ce.vm = .none → s.vm.findClass E = some ce.cls → vx_W p l e R s m args below meth c H1 locs1 (cells + mk) (slots + 6 * mk) Q (F0 m pc ls rest) q9) : W p l e R s m args below meth c H locs cells slots Q (F0 m pc ls st0) := by
  have hF := yA_of hD hS hA
  intro T hT X
  rcases hr T hT X with ⟨v, st₀, t, T', L, h0, X', hL, e1, e2, ⟨⟨hth, -⟩, -⟩, -⟩ | ⟨q, st₀, t, T', L, E', ce, h0, X', hL, e1, e2, ⟨⟨hth, hP1, hK1, hD1⟩, hz, hk⟩, hce, hcv, hcl, st⟩
  · exact absurd hth (by simp)
  · cases hth
    rw [h0] at hz hk
    obtain ⟨f1, f2⟩ := y_frame hP hD hF hk hP1 hD1
    obtain ⟨t2, a1, b1⟩ := kx T'.heap (locs ++ L) q ce t e1.symm (by rw [← e2]; exact X'.warmed.alike) (by rw [e1]; exact f1) f2 (y_keep hS hF e1 hz hk hL) (by rw [e1]; exact hce) hcv hcl T' rfl X'
    exact ⟨t2, st.trans a1, b1⟩
/-- it goes on to the caller -/
theorem y_out {E : String} {q9 : Addr} {ce : Cell} (hnt : ∀ x ∈ c.exceptionTable.toList, False) (hlocks : meth.locks = false) (hK : va_K D vwCl tys s) (hP : va_P D vwCl w0 H) (hD : va_D A w0) (hS : va_S A s.heap H locs) (hcell : H[q9]? = some ce) (hv : ce.vm = .none) (hcl : s.vm.findClass E = some ce.cls)
    (hQ : Q = YE below D tys w0 w1 A th r args s mc) (hth : th = some E) (hc : cells ≤ mc) (hs : slots ≤ 6 * mc) : vx_W p l e R s m args below meth c H locs cells slots Q (F0 m pc ls rest) q9 := by
  subst hQ
  exact vx_out (fun x hx => absurd hx (fun h => hnt x h)) hlocks hcell hv hcl (fun t ht hal => ⟨⟨hth, by rw [ht]; exact hP, va_K.moved hal hK, hD⟩, hS.F ht⟩) hS.2.2 hc hs
/-- 'throw new E("text")' -/
theorem y_throw (hl0 : l.stackTraces = false) (F : XF p s m args meth c cc maxL ret RX3) (hnt : ∀ x ∈ c.exceptionTable.toList, False) (hK : va_K D vwCl tys s) (hP : va_P D vwCl w0 H) (hD : va_D A w0) (hS : va_S A s.heap H locs) (hSt : yS t0 sv A s s.heap) (hQ : Q = YE below D tys w0 w1 A th r args s mc) (hls : ls.size = maxL)
    {E text : String} {ik is ic sa : Nat} (hth : th = some E) (hfit : Bundle.fit E = true) (hk : Cond.classLink RX3 ik E ∈ gW) (hini : Cond.initialized E ∈ gW) (hstr : vk_R RX3 is text sa s) (hat : ∀ w ∈ vx_atS RX3 ic E yNs, w ∈ yW)
    (d0 : decode cc pc = .ok (.new ik, 3)) (d3 : decode cc (pc + 3) = .ok (.dup, 1)) (d4 : decode cc (pc + 4) = .ok (.ldc is, 2)) (d6 : decode cc (pc + 6) = .ok (.invokespecial ic, 3)) (d9 : decode cc (pc + 9) = .ok (.athrow, 1))
    (hRf : 5 < R.frames) (hRl : (rest.map fun v => v.category).sum + 82 ≤ R.locals) (hRc : cells + 1 ≤ R.cells) (hRs : slots + 6 ≤ R.slots) (hc : cells + 1 ≤ mc) (hs : slots + 6 ≤ 6 * mc) : W p l e R s m args below meth c H locs cells slots Q (F0 m pc ls rest) := by
  obtain ⟨hx, hb, hr, hts, hown, hlocks, hml⟩ := F
  obtain ⟨z1, z2, z3, z4, z5, z6⟩ := hSt
  subst hQ
  refine vx_throwS (own := RX3) (cls := E) (text := text) (names := yNs) (ik := ik) (is := is) (ic := ic) (sa := sa) (A := A) hx hb hl0 hown hfit (by decide) (hts _ hk) (hts _ hini) hstr (fun w hw => yW_use z5 w (hat w hw)) ?_ z2 z3 hS (hls.trans hml.symm) d0 d3 d4 d6 d9 (fun x hx => absurd hx (fun h => hnt x h)) hRf hRl hRc hRs hlocks ?_ hS.2.2 hc hs
  · intro w hw
    rcases List.mem_cons.mp hw with h | hw
    · rw [h]; rfl
    · rcases List.mem_cons.mp hw with h | hw
      · rw [h]; rfl
      · exact List.all_eq_true.mp yW_ot w (hat w hw)
  · intro t hal hsz hkq
    refine ⟨⟨hth, hP.kept (fun k q hk => hkq q.1 (vx_lt hP hk)), va_K.moved hal hK, hD⟩, Nat.le_trans hS.1 hsz, fun q h1 h2 => ?_⟩
    rw [hkq q (Nat.lt_of_lt_of_le h1 hS.1)]
    exact hS.2.1 q h1 h2
theorem yat_IO : ∀ w ∈ vx_atS RX3 109 eIO yNs, w ∈ yW := fun _ h => List.mem_append_left _ h
theorem yat_IA : ∀ w ∈ vx_atS RX3 50 eIA yNs, w ∈ yW := fun _ h => List.mem_append_right _ (List.mem_append_left _ h)
theorem yat_AE : ∀ w ∈ vx_atS RX3 69 eAE yNs, w ∈ yW := fun _ h => List.mem_append_right _ (List.mem_append_right _ h)
/-! returns -/
theorem y_vret (hexec : p.tables.exec = Jvm.exec) (hb : c.code = cc) (hr : meth.sig.returnType = none) (hlocks : meth.locks = false) (hQ : Q = YE below D tys w0 w1 A none none args s mc) (hK : va_K D vwCl tys s) (hP : va_P D vwCl w H) (hD : va_D A w) (hS : va_S A s.heap H locs) (hw : w = w1) (hc : cells ≤ mc) (hs : slots ≤ 6 * mc)
    (hdg : decode cc pc = .ok (.return_, 1)) : W p l e R s m args below meth c H locs cells slots Q (F0 m pc ls []) := by
  subst hQ; subst hw
  exact W.widen hc hs (vx_ret (W.vret hexec hb hr (fun t ht hW => ⟨⟨rfl, rfl, by rw [ht]; exact hP, va_K.moved hW.alike hK, hD⟩, hS.F ht⟩) hS.2.2 hdg hlocks))
theorem y_iret {v : Int32} (hexec : p.tables.exec = Jvm.exec) (hb : c.code = cc) (hr : meth.sig.returnType = some .int) (hlocks : meth.locks = false) (hQ : Q = YE below D tys w0 w1 A none r args s mc) (hK : va_K D vwCl tys s) (hP : va_P D vwCl w H) (hD : va_D A w) (hS : va_S A s.heap H locs) (hw : w = w1) (hc : cells ≤ mc) (hs : slots ≤ 6 * mc) (hv : r = some (.int v))
    (hdg : decode cc pc = .ok (.ireturn, 1)) : W p l e R s m args below meth c H locs cells slots Q (F0 m pc ls [.int v]) := by
  subst hQ; subst hw; subst hv
  exact W.widen hc hs (vx_ret (W.iret hexec hb hr (fun t ht hW => ⟨⟨rfl, rfl, by rw [ht]; exact hP, va_K.moved hW.alike hK, hD⟩, hS.F ht⟩) hS.2.2 hdg hlocks))
theorem y_lret {v : Int64} (hexec : p.tables.exec = Jvm.exec) (hb : c.code = cc) (hr : meth.sig.returnType = some .long) (hlocks : meth.locks = false) (hQ : Q = YE below D tys w0 w1 A none r args s mc) (hK : va_K D vwCl tys s) (hP : va_P D vwCl w H) (hD : va_D A w) (hS : va_S A s.heap H locs) (hw : w = w1) (hc : cells ≤ mc) (hs : slots ≤ 6 * mc) (hv : r = some (.long v))
    (hdg : decode cc pc = .ok (.lreturn, 1)) : W p l e R s m args below meth c H locs cells slots Q (F0 m pc ls [.long v]) := by
  subst hQ; subst hw; subst hv
  exact W.widen hc hs (vx_ret (W.lret hexec hb hr (fun t ht hW => ⟨⟨rfl, rfl, by rw [ht]; exact hP, va_K.moved hW.alike hK, hD⟩, hS.F ht⟩) hS.2.2 hdg hlocks))
end YC
