/-! ===== the law's own wrappers: their contract, their rows ===== -/
def yws (y : MethodName) (cc : ByteArray) (maxL : Nat) (ret : Option FieldType) (hh : List (Nat × Nat × Nat × Nat)) : List Cond := .codeWith y cc maxL ret hh :: gW
theorem yMet_ofWH {l : Launch} {y : MethodName} {ws ws' : List Cond} {rm : Room} {Pc : Array Value → State → Prop} {Qc : Array Value → State → Outcome → State → Prop} {mc ms : Nat} {free : Addr → Prop} {cc : ByteArray} {maxL : Nat} {ret : Option FieldType} {hh : List (Nat × Nat × Nat × Nat)}
    (hy : plainName y.cls = true) (hw : ws = Cond.codeWith y cc maxL ret hh :: ws')
    (body : ∀ p e s m args below meth c s₁, BodyLoose p l y (headSpec ws rm) cc maxL ret e s m args below meth c s₁ → c.maxLocals = maxL → Pc args s →
      W p l e (headSpec ws rm).room s m args below meth c s.heap [] 0 0 (MQ below Qc args s mc ms free) (entryFrame m args maxL)) : Met l y ws rm Pc Qc mc ms free := by
  refine MetFree.of_bodyS (code := cc) (maxLocals := maxL) (ret := ret) hy ?_ ?_
  · intro args s m h hn
    obtain ⟨m9, meth, c, hn9, h1, h2, h3, h4, -, h5, h6, -⟩ := Cond.codeWith_spec (atoms_spec (ws := ws) h _ (by rw [hw]; exact List.mem_cons_self))
    cases hn.symm.trans hn9
    exact ⟨meth, c, h1, h2, h3, h4, h5, h6⟩
  · intro p e s m args below meth c s₁ B hml hP _
    have hh0 : s₁.heap = s.heap := by rw [B.state]; rfl
    obtain ⟨t, a1, o, b1, b2, b3⟩ := body p e s m args below meth c s₁ B hml hP s₁ hh0 (Stand.of_body B)
    exact ⟨t, o, a1, b1, b2, ⟨b3.1, b3.2⟩⟩
def XL (l : Launch) (D : va_G) (tys : List (ClassId × FieldType)) (t0 : Nat) (sv : Nat → Nat) (y : MethodName) (cc : ByteArray) (maxL : Nat) (ret : Option FieldType) (hh : List (Nat × Nat × Nat × Nat)) (rm : Room) (mc : Nat) (av : List Value) (r : Option Value) (w0 w1 : va_W) : Prop :=
  ∀ sz : Nat, Met l y (yws y cc maxL ret hh) rm (va_Pc av (YB D tys t0 sv w0 sz)) (XQ D tys w1 (va_A w0 sz) r) mc (6 * mc) (va_A w0 sz)
def ZE (below : List Frame) (D : va_G) (tys : List (ClassId × FieldType)) (w1 : va_W) (A : Nat → Prop) (r : Option Value) (args : Array Value) (s : State) (mc : Nat) : State → Prop :=
  MQ below (XQ D tys w1 A r) args s mc (6 * mc) A
theorem XL.of {l : Launch} {D : va_G} {tys : List (ClassId × FieldType)} {t0 : Nat} {sv : Nat → Nat} {y : MethodName} {rm : Room} {mc : Nat} {av : List Value} {r : Option Value} {w0 w1 : va_W} {cc : ByteArray} {maxL : Nat} {ret : Option FieldType} {hh : List (Nat × Nat × Nat × Nat)}
    (hy : plainName y.cls = true) (hlen : (lg_sl av).length ≤ maxL)
    (body : ∀ (p : Program) (e : Env) (s : State) (m : MethodId) (args : Array Value) (below : List Frame) (meth : Method) (c : Code) (A : Nat → Prop) (Q : State → Prop),
      XF p s m args meth c cc maxL ret y.cls → c.exceptionTable.toList = tableOf hh → va_K D vwCl tys s → va_P D vwCl w0 s.heap → va_D A w0 → (∀ q : Nat, s.heap.size ≤ q → A q) → yS t0 sv A s s.heap → va_S A s.heap s.heap [] →
      Q = ZE below D tys w1 A r args s mc → ∀ ls : Array Slot, lv_has ls maxL (lv_args 0 av) →
      W p l e rm s m args below meth c s.heap [] 0 0 Q (F0 m 0 ls [])) : XL l D tys t0 sv y cc maxL ret hh rm mc av r w0 w1 := by
  intro sz
  refine yMet_ofWH (cc := cc) (maxL := maxL) (ret := ret) (hh := hh) (ws' := gW) hy rfl ?_
  intro p e s m args below meth c s₁ B hml hv
  obtain ⟨hav, hsz, hP, hK, hD0, hSt⟩ := hv
  have hfr : entryFrame m args maxL = F0 m 0 ((lg_sl av ++ List.replicate (maxL - (lg_sl av).length) Slot.unset).toArray) [] := by rw [hav, lg_entry_eq]
  rw [hfr]
  subst hsz
  have ht := vx_table (x := y) B (atoms_spec (ws := yws y cc maxL ret hh) B.pre _ List.mem_cons_self)
  exact body p e s m args below meth c (va_A w0 s.heap.size) _ ⟨B.exec, B.bytes, B.returns, fun w hw => atoms_spec (ws := yws y cc maxL ret hh) B.pre w (List.mem_cons_of_mem _ hw), findClass_of_methodNamed B.named, B.notSynchronized, hml⟩ ht hK hP hD0.self (fun q h => Or.inr h) hSt va_S.rf rfl _ (lv_entry av hlen)
section YL
variable {p : Program} {l : Launch} {e : Env} {R : Room} {s : State} {m : MethodId} {args : Array Value} {below : List Frame} {meth : Method} {c : Code} {H : Heap} {locs : List Loc} {cells slots : Nat} {Q : State → Prop}
variable {pc : Nat} {ls : Array Slot} {rest st0 : List Value} {A : Nat → Prop} {D : va_G} {tys : List (ClassId × FieldType)} {t0 : Nat} {sv : Nat → Nat} {w0 w1 wc wf w : va_W} {r : Option Value} {mc mk : Nat}
variable {y : MethodName} {bytes cc : ByteArray} {maxL nL n index : Nat} {ret : Option FieldType} {rm : Room} {own C : String} {As : List Value} {b : Addr} {hh : List (Nat × Nat × Nat × Nat)}
theorem y_Vok (S : CallFix p m c cc nL s args gW own) (hM : XT l D tys t0 sv y bytes maxL ret rm mk (.ref b :: As) none r wc w1) (cw : CallW R s args own C index y bytes maxL ret (xws y bytes maxL ret) rm mk (6 * mk) n)
    (hK : va_K D vwCl tys s) (hP : va_P D vwCl (wc ++ wf) H) (hD : va_D A (wc ++ wf)) (hS : va_S A s.heap H locs) (hA : ∀ q : Nat, s.heap.size ≤ q → A q) (hY : yS t0 sv A s s.heap) (q0 : Nat) {ci N : Nat} {T : u_T} {fs : List Value} (hb0 : wc[q0]? = some (b, .inr (ci, fs))) (hc : vwCl[ci]? = some (C, T, N))
    (hn : As.length = n) (hsize : ls.size = nL) (hstack : st0 = As.reverse ++ .ref b :: rest) (hW : (rest.map fun v => v.category).sum ≤ 8) (hdg : decode cc pc = .ok (.invokevirtual index, 3)) (hf : cells + mk ≤ R.cells ∧ slots + 6 * mk ≤ R.slots)
    (kk : ∀ (H1 : Heap) (locs1 : List Loc), va_P D vwCl (w1 ++ wf) H1 → va_D A (w1 ++ wf) → va_S A s.heap H1 locs1 → W p l e R s m args below meth c H1 locs1 (cells + mk) (slots + 6 * mk) Q (F0 m (pc + 3) ls (r.toList ++ rest))) : W p l e R s m args below meth c H locs cells slots Q (F0 m pc ls st0) :=
  y_callR (w0 := w1) (vx_runV S (hM H.size) cw ⟨yB_blind D tys t0 sv wc H.size (.ref b :: As), va_recv hK hP.left (q0 := q0) hc hb0, fun U hU hW => ⟨rfl, yB_of hK hP hD hS hA hY U hU hW⟩⟩ rfl hn hsize hstack (lv_room hW) hdg hf) hP hD hS hA kk
theorem y_Vcat {E name : String} (S : CallFix p m c cc nL s args gW own) (hM : XT l D tys t0 sv y bytes maxL ret rm mk (.ref b :: As) (some E) r wc w1) (cw : CallW R s args own C index y bytes maxL ret (xws y bytes maxL ret) rm mk (6 * mk) n)
    (hK : va_K D vwCl tys s) (hP : va_P D vwCl (wc ++ wf) H) (hD : va_D A (wc ++ wf)) (hS : va_S A s.heap H locs) (hA : ∀ q : Nat, s.heap.size ≤ q → A q) (hY : yS t0 sv A s s.heap) (q0 : Nat) {ci N : Nat} {T : u_T} {fs : List Value} (hb0 : wc[q0]? = some (b, .inr (ci, fs))) (hc : vwCl[ci]? = some (C, T, N))
    (hn : As.length = n) (hsize : ls.size = nL) (hstack : st0 = As.reverse ++ .ref b :: rest) (hW : (rest.map fun v => v.category).sum ≤ 8) (hdg : decode cc pc = .ok (.invokevirtual index, 3)) (hf : cells + mk ≤ R.cells ∧ slots + 6 * mk ≤ R.slots)
    (pre : List ExceptionTableEntry) (x : ExceptionTableEntry) (suf : List ExceptionTableEntry) (hsplit : c.exceptionTable.toList = pre ++ x :: suf)
    (hpass : ∀ z ∈ pre, covers z pc = false ∨ (z.catchType ≠ 0 ∧ ∃ nm : String, (Cond.classLink own z.catchType nm).before args s = true ∧ va_Nc E nm s)) (hx : covers x pc = true) (h0 : x.catchType ≠ 0)
    (hlink : Cond.classLink own x.catchType name ∈ gW) (hcast : Cond.castable E name ∈ yW)
    (kk : ∀ (H1 : Heap) (locs1 : List Loc) (q9 : Addr), va_P D vwCl (w1 ++ wf) H1 → va_D A (w1 ++ wf) → va_S A s.heap H1 locs1 → W p l e R s m args below meth c H1 locs1 (cells + mk) (slots + 6 * mk) Q (F0 m x.handlerPc ls [.ref q9])) : W p l e R s m args below meth c H locs cells slots Q (F0 m pc ls st0) := by
  obtain ⟨hx1, hb1, hml1, ho1, hts1⟩ := S
  exact y_callT (w1 := w1) (vx_runV ⟨hx1, hb1, hml1, ho1, hts1⟩ (hM H.size) cw ⟨yB_blind D tys t0 sv wc H.size (.ref b :: As), va_recv hK hP.left (q0 := q0) hc hb0, fun U hU hW => ⟨rfl, yB_of hK hP hD hS hA hY U hU hW⟩⟩ rfl hn hsize hstack (lv_room hW) hdg hf) hP hD hS hA
    (fun H1 locs1 q9 ce t _ _ hP hD hS h1 h2 h3 => vx_catch ho1 pre x suf hsplit hpass hx h0 (hts1 _ hlink) (yW_use hY.2.2.2.2.1 _ hcast) h1 h2 h3 (kk H1 locs1 q9 hP hD hS))
theorem y_nil {P : va_W → Prop} (h : P w) : P (w ++ []) := by rw [List.append_nil]; exact h
theorem y_unnil {P : va_W → Prop} (h : P (w ++ [])) : P w := by rw [List.append_nil] at h; exact h
theorem z_iret {v : Int32} (hexec : p.tables.exec = Jvm.exec) (hb : c.code = cc) (hr : meth.sig.returnType = some .int) (hlocks : meth.locks = false) (hQ : Q = ZE below D tys w1 A r args s mc) (hK : va_K D vwCl tys s) (hP : va_P D vwCl w H) (hD : va_D A w) (hS : va_S A s.heap H locs) (hw : w = w1) (hc : cells ≤ mc) (hs : slots ≤ 6 * mc) (hv : r = some (.int v))
    (hdg : decode cc pc = .ok (.ireturn, 1)) : W p l e R s m args below meth c H locs cells slots Q (F0 m pc ls [.int v]) := by
  subst hQ; subst hw; subst hv
  exact W.widen hc hs (W.iret hexec hb hr (fun t ht hW => ⟨⟨rfl, by rw [ht]; exact hP, va_K.moved hW.alike hK, hD⟩, hS.F ht⟩) hS.2.2 hdg hlocks)
/-! calls of the wrappers, of the class' and the reference's methods that don't throw, the frame beside -/
theorem y_cwSW (n : Nat) (hts : ∀ w ∈ gW, w.before args s = true) (h1 : Cond.methodLink own index y ∈ gW) (h2 : Cond.static y ∈ gW) (h4 : Cond.initialized y.cls ∈ gW) (h5 : Cond.codeWith y bytes maxL ret hh ∈ gW) (hrc : rm.cells = mk) (hrs : rm.slots = 6 * mk)
    (hd : y.cls ≠ "java/lang/invoke/MethodHandle" ∧ y.cls ≠ "java/lang/invoke/VarHandle" ∧ (parseMethodDescriptor y.desc).map (fun d => d.parameters.length) = some n) (hR : rm.frames + 1 ≤ R.frames ∧ 8 + (maxL + 11) + rm.locals ≤ R.locals) : vx_CSW R s args own index y bytes maxL ret hh (yws y bytes maxL ret hh) rm mk (6 * mk) n :=
  vx_cwSW (ws' := gW) n hts (gW_in (fun w hw => by
    rcases List.mem_append.mp (show w ∈ ([.methodLink own index y, .static y, .initialized y.cls] : List Cond) ++ yws y bytes maxL ret hh from hw) with h | h
    · simp only [List.mem_cons, List.not_mem_nil, or_false] at h
      rcases h with rfl | rfl | rfl
      · exact h1
      · exact h2
      · exact h4
    · exact (List.mem_cons.mp h).elim (fun e => e ▸ h5) id)) rfl hrc hrs hd hR
/-- behind a call, the frame beside -/
theorem y_call {a : Array Value} (hr : va_Run p l e R s m args below meth c H locs cells slots mk (6 * mk) (F0 m pc ls st0) rest (XQ D tys w1 (va_A wc H.size) r a) (va_A wc H.size)) (hP : va_P D vwCl (wc ++ wf) H) (hD : va_D A (wc ++ wf)) (hS : va_S A s.heap H locs) (hA : ∀ q : Nat, s.heap.size ≤ q → A q)
    (kk : ∀ (H1 : Heap) (locs1 : List Loc), va_P D vwCl (w1 ++ wf) H1 → va_D A (w1 ++ wf) → va_S A s.heap H1 locs1 → W p l e R s m args below meth c H1 locs1 (cells + mk) (slots + 6 * mk) Q (F0 m (pc + 3) ls (r.toList ++ rest))) : W p l e R s m args below meth c H locs cells slots Q (F0 m pc ls st0) := by
  have hF := yA_of hD hS hA
  intro T hT X
  obtain ⟨v, st₀, t, T', L, h0, X', hL, e1, e2, ⟨⟨hv, hP1, hK1, hD1⟩, hz, hk⟩, st⟩ := hr T hT X
  cases hv
  rw [h0] at hz hk
  obtain ⟨f1, f2⟩ := y_frame hP hD hF hk hP1 hD1
  obtain ⟨t2, a1, b1⟩ := kk T'.heap (locs ++ L) (by rw [e1]; exact f1) f2 (y_keep hS hF e1 hz hk hL) T' rfl X'
  exact ⟨t2, st t2 a1, b1⟩
theorem y_SW (S : CallFix p m c cc nL s args gW own) (hM : XL l D tys t0 sv y bytes maxL ret hh rm mk As r wc w1) (cw : vx_CSW R s args own index y bytes maxL ret hh (yws y bytes maxL ret hh) rm mk (6 * mk) n)
    (hK : va_K D vwCl tys s) (hP : va_P D vwCl (wc ++ wf) H) (hD : va_D A (wc ++ wf)) (hS : va_S A s.heap H locs) (hA : ∀ q : Nat, s.heap.size ≤ q → A q) (hY : yS t0 sv A s s.heap)
    (hn : As.length = n) (hsize : ls.size = nL) (hstack : st0 = As.reverse ++ rest) (hW : (rest.map fun v => v.category).sum ≤ 8) (hdg : decode cc pc = .ok (.invokestatic index, 3)) (hf : cells + mk ≤ R.cells ∧ slots + 6 * mk ≤ R.slots)
    (kk : ∀ (H1 : Heap) (locs1 : List Loc), va_P D vwCl (w1 ++ wf) H1 → va_D A (w1 ++ wf) → va_S A s.heap H1 locs1 → W p l e R s m args below meth c H1 locs1 (cells + mk) (slots + 6 * mk) Q (F0 m (pc + 3) ls (r.toList ++ rest))) : W p l e R s m args below meth c H locs cells slots Q (F0 m pc ls st0) :=
  y_call (vx_runSW S (hM H.size) cw ⟨yB_blind D tys t0 sv wc H.size As, fun U hU hW => ⟨rfl, yB_of hK hP hD hS hA hY U hU hW⟩⟩ rfl hn hsize hstack (lv_room hW) hdg hf) hP hD hS hA kk
theorem y_VX (S : CallFix p m c cc nL s args gW own) (hM : XM l D tys t0 y bytes maxL ret rm (.ref b :: As) r wc w1) (cw : CallW R s args own C index y bytes maxL ret (xws y bytes maxL ret) rm 0 0 n)
    (hK : va_K D vwCl tys s) (hP : va_P D vwCl (wc ++ wf) H) (hD : va_D A (wc ++ wf)) (hS : va_S A s.heap H locs) (hA : ∀ q : Nat, s.heap.size ≤ q → A q) (hSt : xSt t0 A s s.heap) (q0 : Nat) {ci N : Nat} {T : u_T} {fs : List Value} (hb0 : wc[q0]? = some (b, .inr (ci, fs))) (hc : vwCl[ci]? = some (C, T, N))
    (hn : As.length = n) (hsize : ls.size = nL) (hstack : st0 = As.reverse ++ .ref b :: rest) (hW : (rest.map fun v => v.category).sum ≤ 8) (hdg : decode cc pc = .ok (.invokevirtual index, 3)) (hf : cells ≤ R.cells ∧ slots ≤ R.slots)
    (kk : ∀ (H1 : Heap) (locs1 : List Loc), va_P D vwCl (w1 ++ wf) H1 → va_D A (w1 ++ wf) → va_S A s.heap H1 locs1 → W p l e R s m args below meth c H1 locs1 cells slots Q (F0 m (pc + 3) ls (r.toList ++ rest))) : W p l e R s m args below meth c H locs cells slots Q (F0 m pc ls st0) :=
  y_call (mk := 0) (va_runV S (hM H.size) cw ⟨xB_blind D tys t0 wc H.size (.ref b :: As), va_recv hK hP.left (q0 := q0) hc hb0, fun U hU hW => ⟨rfl, yB_ofX hK hP hD hS hA hSt U hU hW⟩⟩ rfl hn hsize hstack (lv_room hW) hdg hf) hP hD hS hA kk
end YL
theorem yc_IO : Cond.castable eIO eIO ∈ yW := by decide +kernel
theorem yc_IA : Cond.castable eIA eIA ∈ yW := by decide +kernel
theorem yc_AE : Cond.castable eAE eAE ∈ yW := by decide +kernel
