/-! ===== the two worlds ===== -/
def dcell (ad : Nat → Nat) (so : Nat → Int32) (mi : Nat → Bool) (co : Nat → Int64) (ex : Nat → Int32) (i : Nat) : Nat × va_E := (ad i, .inr (2, [.int (so i), .int (bI (mi i)), .long (co i), .int (ex i)]))
/-- the class' cells: itself, the row of registers, the outcome, the nine data (the last one is the result) -/
def xw (cR : ClassId) (hx hr ho : Nat) (ad : Nat → Nat) (rd tr sd rn : Int32) (om : Bool) (oh ol : Int64) (op : Int32) (oe : Bool) (ow : Int32) (ok : Int64) (os : Int32) (so : Nat → Int32) (mi : Nat → Bool) (co : Nat → Int64) (ex : Nat → Int32) : va_W :=
  [(hx, .inr (4, [.ref hr, .ref (ad 8), .ref ho, .int rd, .int tr, .int sd, .int rn])), (hr, .inl (cR, 8, .inr (.inr (.inr (.inr (fun k => some (ad k))))))), (ho, .inr (3, [.int (bI om), .long oh, .long ol, .int op, .int (bI oe), .int ow, .long ok, .int os]))] ++ (List.range 9).map (dcell ad so mi co ex)
/-- the reference's cells -/
def mw (cI cJ cZ : ClassId) (hm hk hn hc he hd hq : Nat) (th mo fg tp kd : Int32) (ng : Bool) (cc : Int64) (qq rs ct un : Int32) (re : Bool) (ks : Nat → Int32) (ms : Nat → Bool) (cs : Nat → Int64) (es dg og : Nat → Int32) : va_W :=
  [(hm, .inr (5, [.int th, .ref hk, .ref hn, .ref hc, .ref he, .int mo, .int fg, .int tp, .int kd, .int (bI ng), .long cc, .int qq, .int rs, .int ct, .ref hd, .ref hq, .int un, .int (bI re)])), (hk, .inl (cI, 8, .inl ks)), (hn, .inl (cZ, 8, .inl (fun k => bI (ms k)))), (hc, .inl (cJ, 8, .inr (.inl cs))), (he, .inl (cI, 8, .inl es)), (hd, .inl (cI, 900, .inl dg)), (hq, .inl (cI, 900, .inl og))]
def xty (cR cI cJ cZ : ClassId) : List (ClassId × FieldType) := [(cR, .object RX0), (cI, .int), (cJ, .long), (cZ, .boolean)]
theorem map_set {α : Type} {n i : Nat} {f g : Nat → α} {v : α} (h1 : g i = v) (h2 : ∀ j, j ≠ i → g j = f j) : ((List.range n).map f).set i v = (List.range n).map g := by
  apply List.ext_getElem?
  intro j
  rw [List.getElem?_set, List.getElem?_map, List.getElem?_map, List.length_map, List.length_range]
  by_cases hj : i = j
  · subst hj
    by_cases hn : i < n
    · simp [hn, h1]
    · simp [hn]
  · rw [if_neg hj]
    by_cases hn : j < n
    · simp [hn, h2 j (fun e => hj e.symm)]
    · simp [hn]
section XWD
variable {cR : ClassId} {hx hr ho : Nat} {ad : Nat → Nat} {rd tr sd rn : Int32} {om : Bool} {oh ol : Int64} {op : Int32} {oe : Bool} {ow : Int32} {ok : Int64} {os : Int32} {so : Nat → Int32} {mi : Nat → Bool} {co : Nat → Int64} {ex : Nat → Int32} {i : Nat}
theorem xw_dat (hi : i < 9) : (xw cR hx hr ho ad rd tr sd rn om oh ol op oe ow ok os so mi co ex)[3 + i]? = some (dcell ad so mi co ex i) := by
  unfold xw
  rw [List.getElem?_append_right (by simp)]
  simp [hi]
theorem xw_set {so' : Nat → Int32} {mi' : Nat → Bool} {co' : Nat → Int64} {ex' : Nat → Int32} {v : Nat × va_E} (h1 : dcell ad so' mi' co' ex' i = v) (h2 : ∀ j, j ≠ i → dcell ad so' mi' co' ex' j = dcell ad so mi co ex j) : (xw cR hx hr ho ad rd tr sd rn om oh ol op oe ow ok os so mi co ex).set (3 + i) v = xw cR hx hr ho ad rd tr sd rn om oh ol op oe ow ok os so' mi' co' ex' := by
  unfold xw
  rw [List.set_append_right _ _ (by simp)]
  congr 1
  rw [show 3 + i - [(hx, (Sum.inr (4, [Value.ref hr, .ref (ad 8), .ref ho, .int rd, .int tr, .int sd, .int rn]) : va_E)), (hr, .inl (cR, 8, .inr (.inr (.inr (.inr (fun k => some (ad k))))))), (ho, .inr (3, [.int (bI om), .long oh, .long ol, .int op, .int (bI oe), .int ow, .long ok, .int os]))].length = i from by simp]
  exact map_set h1 h2
theorem xw_so (v : Int32) : (xw cR hx hr ho ad rd tr sd rn om oh ol op oe ow ok os so mi co ex).set (3 + i) (ad i, .inr (2, [.int v, .int (bI (mi i)), .long (co i), .int (ex i)])) = xw cR hx hr ho ad rd tr sd rn om oh ol op oe ow ok os (va_up so i v) mi co ex :=
  xw_set (by simp [dcell, va_up]) (fun j hj => by simp [dcell, va_up, hj])
theorem xw_mi (v : Bool) : (xw cR hx hr ho ad rd tr sd rn om oh ol op oe ow ok os so mi co ex).set (3 + i) (ad i, .inr (2, [.int (so i), .int (bI v), .long (co i), .int (ex i)])) = xw cR hx hr ho ad rd tr sd rn om oh ol op oe ow ok os so (va_up mi i v) co ex :=
  xw_set (by simp [dcell, va_up]) (fun j hj => by simp [dcell, va_up, hj])
theorem xw_co (v : Int64) : (xw cR hx hr ho ad rd tr sd rn om oh ol op oe ow ok os so mi co ex).set (3 + i) (ad i, .inr (2, [.int (so i), .int (bI (mi i)), .long v, .int (ex i)])) = xw cR hx hr ho ad rd tr sd rn om oh ol op oe ow ok os so mi (va_up co i v) ex :=
  xw_set (by simp [dcell, va_up]) (fun j hj => by simp [dcell, va_up, hj])
theorem xw_ex (v : Int32) : (xw cR hx hr ho ad rd tr sd rn om oh ol op oe ow ok os so mi co ex).set (3 + i) (ad i, .inr (2, [.int (so i), .int (bI (mi i)), .long (co i), .int v])) = xw cR hx hr ho ad rd tr sd rn om oh ol op oe ow ok os so mi co (va_up ex i v) :=
  xw_set (by simp [dcell, va_up]) (fun j hj => by simp [dcell, va_up, hj])
end XWD
section XWR
variable {p : Program} {l : Launch} {e : Env} {R : Room} {s : State} {m : MethodId} {args : Array Value} {below : List Frame} {meth : Method} {c : Code} {H : Heap} {locs : List Loc} {cells slots : Nat} {Q : State → Prop}
variable {pc : Nat} {ls : Array Slot} {rest : List Value} {A : Nat → Prop} {D : va_G} {tys : List (ClassId × FieldType)} {H0 : Heap} {cc : ByteArray} {own : String} {index : Nat} {Ts : List Cond}
variable {cR : ClassId} {hx hr ho : Nat} {ad : Nat → Nat} {rd tr sd rn : Int32} {om : Bool} {oh ol : Int64} {op : Int32} {oe : Bool} {ow : Int32} {ok : Int64} {os : Int32} {so : Nat → Int32} {mi : Nat → Bool} {co : Nat → Int64} {ex : Nat → Int32} {i : Nat}
theorem g_so (hexec : p.tables.exec = Jvm.exec) (hb : c.code = cc) (hts : ∀ w ∈ Ts, w.before args s = true) (hin : ∀ w ∈ wsX00, w ∈ Ts) (hown : s.vm.findClass own = some m.cls) (hK : va_K D vwCl tys s) (hP : va_P D vwCl (xw cR hx hr ho ad rd tr sd rn om oh ol op oe ow ok os so mi co ex) H) (hi : i < 9) (hlink : (Cond.fieldLink own index RX0 "sort" "I").before args s = true) (hdg : decode cc pc = .ok (.getfield index, 3))
    (kk : W p l e R s m args below meth c H locs cells slots Q (F0 m (pc + 3) ls (.int (so i) :: rest))) : W p l e R s m args below meth c H locs cells slots Q (F0 m pc ls (.ref (ad i) :: rest)) :=
  va_get (D := D) (ci := 2) (v := .int (so i)) (C := RX0) (T := TX0) (N := 4) hexec hb hts hin hown hK hP (3 + i) (xw_dat hi) rfl 0 (by decide) hlink (fun _ h9 => h9) rfl hdg kk
theorem p_so (hexec : p.tables.exec = Jvm.exec) (hb : c.code = cc) (hts : ∀ w ∈ Ts, w.before args s = true) (hin : ∀ w ∈ wsX00, w ∈ Ts) (hown : s.vm.findClass own = some m.cls) (hK : va_K D vwCl tys s) (hP : va_P D vwCl (xw cR hx hr ho ad rd tr sd rn om oh ol op oe ow ok os so mi co ex) H) (hD : va_D A (xw cR hx hr ho ad rd tr sd rn om oh ol op oe ow ok os so mi co ex)) (hS : va_S A H0 H locs) (hi : i < 9) (hlink : (Cond.fieldLink own index RX0 "sort" "I").before args s = true) (v : Int32) (hdg : decode cc pc = .ok (.putfield index, 3))
    (kk : ∀ (H1 : Heap) (locs1 : List Loc), va_P D vwCl (xw cR hx hr ho ad rd tr sd rn om oh ol op oe ow ok os (va_up so i v) mi co ex) H1 → va_D A (xw cR hx hr ho ad rd tr sd rn om oh ol op oe ow ok os (va_up so i v) mi co ex) → va_S A H0 H1 locs1 → W p l e R s m args below meth c H1 locs1 cells slots Q (F0 m (pc + 3) ls rest)) : W p l e R s m args below meth c H locs cells slots Q (F0 m pc ls (.int v :: .ref (ad i) :: rest)) :=
  va_put (D := D) (ci := 2) (v := .int v) (ty := .int) (C := RX0) (T := TX0) (N := 4) hexec hb hts hin tyX0 tyX0_ok nmX0 hown hK hP hD hS (3 + i) (xw_dat hi) rfl 0 (by decide) hlink (fun _ h9 => h9) rfl (by decide +kernel) rfl rfl (Nat.le_of_ble_eq_true rfl) hdg
    (fun H1 locs1 h1 h2 h3 => kk H1 locs1 ((xw_so (cR := cR) (hx := hx) (hr := hr) (ho := ho) (i := i) v) ▸ h1) ((xw_so (cR := cR) (hx := hx) (hr := hr) (ho := ho) (i := i) v) ▸ h2) h3)
theorem g_mi (hexec : p.tables.exec = Jvm.exec) (hb : c.code = cc) (hts : ∀ w ∈ Ts, w.before args s = true) (hin : ∀ w ∈ wsX00, w ∈ Ts) (hown : s.vm.findClass own = some m.cls) (hK : va_K D vwCl tys s) (hP : va_P D vwCl (xw cR hx hr ho ad rd tr sd rn om oh ol op oe ow ok os so mi co ex) H) (hi : i < 9) (hlink : (Cond.fieldLink own index RX0 "minus" "Z").before args s = true) (hdg : decode cc pc = .ok (.getfield index, 3))
    (kk : W p l e R s m args below meth c H locs cells slots Q (F0 m (pc + 3) ls (.int (bI (mi i)) :: rest))) : W p l e R s m args below meth c H locs cells slots Q (F0 m pc ls (.ref (ad i) :: rest)) :=
  va_get (D := D) (ci := 2) (v := .int (bI (mi i))) (C := RX0) (T := TX0) (N := 4) hexec hb hts hin hown hK hP (3 + i) (xw_dat hi) rfl 1 (by decide) hlink (fun _ h9 => h9) rfl hdg kk
theorem p_mi (hexec : p.tables.exec = Jvm.exec) (hb : c.code = cc) (hts : ∀ w ∈ Ts, w.before args s = true) (hin : ∀ w ∈ wsX00, w ∈ Ts) (hown : s.vm.findClass own = some m.cls) (hK : va_K D vwCl tys s) (hP : va_P D vwCl (xw cR hx hr ho ad rd tr sd rn om oh ol op oe ow ok os so mi co ex) H) (hD : va_D A (xw cR hx hr ho ad rd tr sd rn om oh ol op oe ow ok os so mi co ex)) (hS : va_S A H0 H locs) (hi : i < 9) (hlink : (Cond.fieldLink own index RX0 "minus" "Z").before args s = true) (v : Bool) (hdg : decode cc pc = .ok (.putfield index, 3))
    (kk : ∀ (H1 : Heap) (locs1 : List Loc), va_P D vwCl (xw cR hx hr ho ad rd tr sd rn om oh ol op oe ow ok os so (va_up mi i v) co ex) H1 → va_D A (xw cR hx hr ho ad rd tr sd rn om oh ol op oe ow ok os so (va_up mi i v) co ex) → va_S A H0 H1 locs1 → W p l e R s m args below meth c H1 locs1 cells slots Q (F0 m (pc + 3) ls rest)) : W p l e R s m args below meth c H locs cells slots Q (F0 m pc ls (.int (bI v) :: .ref (ad i) :: rest)) :=
  va_put (D := D) (ci := 2) (v := .int (bI v)) (ty := .boolean) (C := RX0) (T := TX0) (N := 4) hexec hb hts hin tyX0 tyX0_ok nmX0 hown hK hP hD hS (3 + i) (xw_dat hi) rfl 1 (by decide) hlink (fun _ h9 => h9) rfl (by decide +kernel) (bI_nar v) (bI_fit v) (Nat.le_of_ble_eq_true rfl) hdg
    (fun H1 locs1 h1 h2 h3 => kk H1 locs1 ((xw_mi (cR := cR) (hx := hx) (hr := hr) (ho := ho) (i := i) v) ▸ h1) ((xw_mi (cR := cR) (hx := hx) (hr := hr) (ho := ho) (i := i) v) ▸ h2) h3)
theorem g_co (hexec : p.tables.exec = Jvm.exec) (hb : c.code = cc) (hts : ∀ w ∈ Ts, w.before args s = true) (hin : ∀ w ∈ wsX00, w ∈ Ts) (hown : s.vm.findClass own = some m.cls) (hK : va_K D vwCl tys s) (hP : va_P D vwCl (xw cR hx hr ho ad rd tr sd rn om oh ol op oe ow ok os so mi co ex) H) (hi : i < 9) (hlink : (Cond.fieldLink own index RX0 "coefficient" "J").before args s = true) (hdg : decode cc pc = .ok (.getfield index, 3))
    (kk : W p l e R s m args below meth c H locs cells slots Q (F0 m (pc + 3) ls (.long (co i) :: rest))) : W p l e R s m args below meth c H locs cells slots Q (F0 m pc ls (.ref (ad i) :: rest)) :=
  va_get (D := D) (ci := 2) (v := .long (co i)) (C := RX0) (T := TX0) (N := 4) hexec hb hts hin hown hK hP (3 + i) (xw_dat hi) rfl 2 (by decide) hlink (fun _ h9 => h9) rfl hdg kk
theorem p_co (hexec : p.tables.exec = Jvm.exec) (hb : c.code = cc) (hts : ∀ w ∈ Ts, w.before args s = true) (hin : ∀ w ∈ wsX00, w ∈ Ts) (hown : s.vm.findClass own = some m.cls) (hK : va_K D vwCl tys s) (hP : va_P D vwCl (xw cR hx hr ho ad rd tr sd rn om oh ol op oe ow ok os so mi co ex) H) (hD : va_D A (xw cR hx hr ho ad rd tr sd rn om oh ol op oe ow ok os so mi co ex)) (hS : va_S A H0 H locs) (hi : i < 9) (hlink : (Cond.fieldLink own index RX0 "coefficient" "J").before args s = true) (v : Int64) (hdg : decode cc pc = .ok (.putfield index, 3))
    (kk : ∀ (H1 : Heap) (locs1 : List Loc), va_P D vwCl (xw cR hx hr ho ad rd tr sd rn om oh ol op oe ow ok os so mi (va_up co i v) ex) H1 → va_D A (xw cR hx hr ho ad rd tr sd rn om oh ol op oe ow ok os so mi (va_up co i v) ex) → va_S A H0 H1 locs1 → W p l e R s m args below meth c H1 locs1 cells slots Q (F0 m (pc + 3) ls rest)) : W p l e R s m args below meth c H locs cells slots Q (F0 m pc ls (.long v :: .ref (ad i) :: rest)) :=
  va_put (D := D) (ci := 2) (v := .long v) (ty := .long) (C := RX0) (T := TX0) (N := 4) hexec hb hts hin tyX0 tyX0_ok nmX0 hown hK hP hD hS (3 + i) (xw_dat hi) rfl 2 (by decide) hlink (fun _ h9 => h9) rfl (by decide +kernel) rfl rfl (Nat.le_of_ble_eq_true rfl) hdg
    (fun H1 locs1 h1 h2 h3 => kk H1 locs1 ((xw_co (cR := cR) (hx := hx) (hr := hr) (ho := ho) (i := i) v) ▸ h1) ((xw_co (cR := cR) (hx := hx) (hr := hr) (ho := ho) (i := i) v) ▸ h2) h3)
theorem g_ex (hexec : p.tables.exec = Jvm.exec) (hb : c.code = cc) (hts : ∀ w ∈ Ts, w.before args s = true) (hin : ∀ w ∈ wsX00, w ∈ Ts) (hown : s.vm.findClass own = some m.cls) (hK : va_K D vwCl tys s) (hP : va_P D vwCl (xw cR hx hr ho ad rd tr sd rn om oh ol op oe ow ok os so mi co ex) H) (hi : i < 9) (hlink : (Cond.fieldLink own index RX0 "exponent" "I").before args s = true) (hdg : decode cc pc = .ok (.getfield index, 3))
    (kk : W p l e R s m args below meth c H locs cells slots Q (F0 m (pc + 3) ls (.int (ex i) :: rest))) : W p l e R s m args below meth c H locs cells slots Q (F0 m pc ls (.ref (ad i) :: rest)) :=
  va_get (D := D) (ci := 2) (v := .int (ex i)) (C := RX0) (T := TX0) (N := 4) hexec hb hts hin hown hK hP (3 + i) (xw_dat hi) rfl 3 (by decide) hlink (fun _ h9 => h9) rfl hdg kk
theorem p_ex (hexec : p.tables.exec = Jvm.exec) (hb : c.code = cc) (hts : ∀ w ∈ Ts, w.before args s = true) (hin : ∀ w ∈ wsX00, w ∈ Ts) (hown : s.vm.findClass own = some m.cls) (hK : va_K D vwCl tys s) (hP : va_P D vwCl (xw cR hx hr ho ad rd tr sd rn om oh ol op oe ow ok os so mi co ex) H) (hD : va_D A (xw cR hx hr ho ad rd tr sd rn om oh ol op oe ow ok os so mi co ex)) (hS : va_S A H0 H locs) (hi : i < 9) (hlink : (Cond.fieldLink own index RX0 "exponent" "I").before args s = true) (v : Int32) (hdg : decode cc pc = .ok (.putfield index, 3))
    (kk : ∀ (H1 : Heap) (locs1 : List Loc), va_P D vwCl (xw cR hx hr ho ad rd tr sd rn om oh ol op oe ow ok os so mi co (va_up ex i v)) H1 → va_D A (xw cR hx hr ho ad rd tr sd rn om oh ol op oe ow ok os so mi co (va_up ex i v)) → va_S A H0 H1 locs1 → W p l e R s m args below meth c H1 locs1 cells slots Q (F0 m (pc + 3) ls rest)) : W p l e R s m args below meth c H locs cells slots Q (F0 m pc ls (.int v :: .ref (ad i) :: rest)) :=
  va_put (D := D) (ci := 2) (v := .int v) (ty := .int) (C := RX0) (T := TX0) (N := 4) hexec hb hts hin tyX0 tyX0_ok nmX0 hown hK hP hD hS (3 + i) (xw_dat hi) rfl 3 (by decide) hlink (fun _ h9 => h9) rfl (by decide +kernel) rfl rfl (Nat.le_of_ble_eq_true rfl) hdg
    (fun H1 locs1 h1 h2 h3 => kk H1 locs1 ((xw_ex (cR := cR) (hx := hx) (hr := hr) (ho := ho) (i := i) v) ▸ h1) ((xw_ex (cR := cR) (hx := hx) (hr := hr) (ho := ho) (i := i) v) ▸ h2) h3)
end XWR
/-! rows of arithmetic, with names for what they answer -/
def jmax (x y : Int32) : Int32 := if x < y then y else x
def jmin (x y : Int32) : Int32 := if y < x then y else x
def jmaxL (x y : Int64) : Int64 := if y < x then x else y
def jrem (x y : Int32) : Int32 := x - x / y * y
def jremL (x y : Int64) : Int64 := x - x / y * y
def jshl (x y : Int32) : Int32 := x <<< (y &&& 31)
def jshr (x y : Int32) : Int32 := x >>> (y &&& 31)
def jshlL (x : Int64) (y : Int32) : Int64 := x <<< (y.toInt64 &&& 63)
def jshrL (x : Int64) (y : Int32) : Int64 := x >>> (y.toInt64 &&& 63)
def jushrL (x : Int64) (y : Int32) : Int64 := (x.toUInt64 >>> (y.toInt64.toUInt64 &&& Int64.toUInt64 63)).toInt64
section XOP
variable {p : Program} {l : Launch} {e : Env} {R : Room} {s : State} {m : MethodId} {args : Array Value} {below : List Frame} {meth : Method} {c : Code} {H : Heap} {locs : List Loc} {cells slots : Nat} {Q : State → Prop}
variable {pc : Nat} {ls : Array Slot} {rest : List Value} {cc : ByteArray}
theorem x_irem (hexec : p.tables.exec = Jvm.exec) (hb : c.code = cc) {x : Int32} {y : Int32} (hdg : decode cc pc = .ok (.irem, 1)) (hne : ¬ y = 0)
    (k : W p l e R s m args below meth c H locs cells slots Q (F0 m (pc + 1) ls (.int (jrem x y) :: rest))) : W p l e R s m args below meth c H locs cells slots Q (F0 m pc ls (.int y :: .int x :: rest)) := lv_irem hexec hb hdg hne k
theorem x_lrem (hexec : p.tables.exec = Jvm.exec) (hb : c.code = cc) {x : Int64} {y : Int64} (hdg : decode cc pc = .ok (.lrem, 1)) (hne : ¬ y = 0)
    (k : W p l e R s m args below meth c H locs cells slots Q (F0 m (pc + 1) ls (.long (jremL x y) :: rest))) : W p l e R s m args below meth c H locs cells slots Q (F0 m pc ls (.long y :: .long x :: rest)) := lv_lrem hexec hb hdg hne k
theorem x_ishl (hexec : p.tables.exec = Jvm.exec) (hb : c.code = cc) {x : Int32} {y : Int32} (hdg : decode cc pc = .ok (.ishl, 1))
    (k : W p l e R s m args below meth c H locs cells slots Q (F0 m (pc + 1) ls (.int (jshl x y) :: rest))) : W p l e R s m args below meth c H locs cells slots Q (F0 m pc ls (.int y :: .int x :: rest)) := lv_ishl hexec hb hdg k
theorem x_ishr (hexec : p.tables.exec = Jvm.exec) (hb : c.code = cc) {x : Int32} {y : Int32} (hdg : decode cc pc = .ok (.ishr, 1))
    (k : W p l e R s m args below meth c H locs cells slots Q (F0 m (pc + 1) ls (.int (jshr x y) :: rest))) : W p l e R s m args below meth c H locs cells slots Q (F0 m pc ls (.int y :: .int x :: rest)) := lv_ishr hexec hb hdg k
theorem x_lshl (hexec : p.tables.exec = Jvm.exec) (hb : c.code = cc) {x : Int64} {y : Int32} (hdg : decode cc pc = .ok (.lshl, 1))
    (k : W p l e R s m args below meth c H locs cells slots Q (F0 m (pc + 1) ls (.long (jshlL x y) :: rest))) : W p l e R s m args below meth c H locs cells slots Q (F0 m pc ls (.int y :: .long x :: rest)) := lv_lshl hexec hb hdg rfl k
theorem x_lshr (hexec : p.tables.exec = Jvm.exec) (hb : c.code = cc) {x : Int64} {y : Int32} (hdg : decode cc pc = .ok (.lshr, 1))
    (k : W p l e R s m args below meth c H locs cells slots Q (F0 m (pc + 1) ls (.long (jshrL x y) :: rest))) : W p l e R s m args below meth c H locs cells slots Q (F0 m pc ls (.int y :: .long x :: rest)) := lv_lshr hexec hb hdg rfl k
theorem x_lushr (hexec : p.tables.exec = Jvm.exec) (hb : c.code = cc) {x : Int64} {y : Int32} (hdg : decode cc pc = .ok (.lushr, 1))
    (k : W p l e R s m args below meth c H locs cells slots Q (F0 m (pc + 1) ls (.long (jushrL x y) :: rest))) : W p l e R s m args below meth c H locs cells slots Q (F0 m pc ls (.int y :: .long x :: rest)) := lv_lushr hexec hb hdg rfl k
theorem x_i2l (hexec : p.tables.exec = Jvm.exec) (hb : c.code = cc) {x : Int32} (hdg : decode cc pc = .ok (.i2l, 1)) (k : W p l e R s m args below meth c H locs cells slots Q (F0 m (pc + 1) ls (.long x.toInt64 :: rest))) : W p l e R s m args below meth c H locs cells slots Q (F0 m pc ls (.int x :: rest)) := lv_i2l hexec hb hdg rfl k
theorem x_l2i (hexec : p.tables.exec = Jvm.exec) (hb : c.code = cc) {x : Int64} (hdg : decode cc pc = .ok (.l2i, 1)) (k : W p l e R s m args below meth c H locs cells slots Q (F0 m (pc + 1) ls (.int x.toInt32 :: rest))) : W p l e R s m args below meth c H locs cells slots Q (F0 m pc ls (.long x :: rest)) := lv_l2i hexec hb hdg rfl k
theorem x_max {Ts : List Cond} {nL : Nat} (hexec : p.tables.exec = Jvm.exec) (hb : c.code = cc) (hml : c.maxLocals = nL) (hsz : ls.size = nL) (hts : ∀ w ∈ Ts, w.before args s = true) {own : String} {index : Nat} (hown : s.vm.findClass own = some m.cls) (hlink : Cond.methodLink own index Lib.Math.max.name ∈ Ts) (hstat : Cond.static Lib.Math.max.name ∈ Ts) (hini : Cond.initialized "java/lang/Math" ∈ Ts) (hcode : Cond.code Lib.Math.max.name Lib.Math.max.code 2 (some .int) ∈ Ts)
    (hframes : 1 ≤ R.frames) (hlocals : (rest.map fun v => v.category).sum + 13 ≤ R.locals) (hc : cells ≤ R.cells) (hs : slots ≤ R.slots) {x y : Int32} (hdg : decode cc pc = .ok (.invokestatic index, 3))
    (k : W p l e R s m args below meth c H locs cells slots Q (F0 m (pc + 3) ls (.int (jmax x y) :: rest))) : W p l e R s m args below meth c H locs cells slots Q (F0 m pc ls (.int y :: .int x :: rest)) :=
  va_mmax hexec hb (hml.trans hsz.symm) hown (hts _ hlink) (hts _ hstat) (hts _ hini) (hts _ hcode) hframes hlocals hc hs hdg k
theorem x_min {Ts : List Cond} {nL : Nat} (hexec : p.tables.exec = Jvm.exec) (hb : c.code = cc) (hml : c.maxLocals = nL) (hsz : ls.size = nL) (hts : ∀ w ∈ Ts, w.before args s = true) {own : String} {index : Nat} (hown : s.vm.findClass own = some m.cls) (hlink : Cond.methodLink own index Lib.Math.min.name ∈ Ts) (hstat : Cond.static Lib.Math.min.name ∈ Ts) (hini : Cond.initialized "java/lang/Math" ∈ Ts) (hcode : Cond.code Lib.Math.min.name Lib.Math.min.code 2 (some .int) ∈ Ts)
    (hframes : 1 ≤ R.frames) (hlocals : (rest.map fun v => v.category).sum + 13 ≤ R.locals) (hc : cells ≤ R.cells) (hs : slots ≤ R.slots) {x y : Int32} (hdg : decode cc pc = .ok (.invokestatic index, 3))
    (k : W p l e R s m args below meth c H locs cells slots Q (F0 m (pc + 3) ls (.int (jmin x y) :: rest))) : W p l e R s m args below meth c H locs cells slots Q (F0 m pc ls (.int y :: .int x :: rest)) :=
  va_mmin hexec hb (hml.trans hsz.symm) hown (hts _ hlink) (hts _ hstat) (hts _ hini) (hts _ hcode) hframes hlocals hc hs hdg k
theorem x_maxL {Ts : List Cond} {nL : Nat} (hexec : p.tables.exec = Jvm.exec) (hb : c.code = cc) (hml : c.maxLocals = nL) (hsz : ls.size = nL) (hts : ∀ w ∈ Ts, w.before args s = true) {own : String} {index : Nat} (hown : s.vm.findClass own = some m.cls) (hlink : Cond.methodLink own index Lib.MathLoose.max_long.x ∈ Ts) (hstat : Cond.static Lib.MathLoose.max_long.x ∈ Ts) (hini : Cond.initialized "java/lang/Math" ∈ Ts) (hcode : Cond.code Lib.MathLoose.max_long.x Lib.MathLoose.max_long.code 4 (some .long) ∈ Ts)
    (hframes : 1 ≤ R.frames) (hlocals : (rest.map fun v => v.category).sum + 15 ≤ R.locals) (hc : cells ≤ R.cells) (hs : slots ≤ R.slots) {x y : Int64} (hdg : decode cc pc = .ok (.invokestatic index, 3))
    (k : W p l e R s m args below meth c H locs cells slots Q (F0 m (pc + 3) ls (.long (jmaxL x y) :: rest))) : W p l e R s m args below meth c H locs cells slots Q (F0 m pc ls (.long y :: .long x :: rest)) :=
  va_mmax_long hexec hb (hml.trans hsz.symm) hown (hts _ hlink) (hts _ hstat) (hts _ hini) (hts _ hcode) hframes hlocals hc hs hdg k
end XOP
section XAA
variable {p : Program} {l : Launch} {e : Env} {R : Room} {s : State} {m : MethodId} {args : Array Value} {below : List Frame} {meth : Method} {c : Code} {H : Heap} {locs : List Loc} {cells slots : Nat} {Q : State → Prop}
variable {pc : Nat} {ls : Array Slot} {rest : List Value} {cc : ByteArray} {A : Nat → Prop} {D : va_G} {cI cJ cZ cR : ClassId} {H0 : Heap}
theorem vp_lt9 {i : Int32} (h : vp_in i 8) : i.toNatClampNeg < 9 := Nat.lt_succ_of_lt (Nat.not_le.mp fun q => h (Or.inr q))
theorem x_topb {x : Bool} (k : ∀ y : Bool, y = x → W p l e R s m args below meth c H locs cells slots Q (F0 m pc ls (.int (bI y) :: rest))) : W p l e R s m args below meth c H locs cells slots Q (F0 m pc ls (.int (bI x) :: rest)) := k x rfl
theorem x_aald {hx hr ho : Nat} {ad : Nat → Nat} {rd tr sd rn : Int32} {om : Bool} {oh ol : Int64} {op : Int32} {oe : Bool} {ow : Int32} {ok : Int64} {os : Int32} {so : Nat → Int32} {mi : Nat → Bool} {co : Nat → Int64} {ex : Nat → Int32} (hexec : p.tables.exec = Jvm.exec) (hb : c.code = cc) (hK : va_K D vwCl (xty cR cI cJ cZ) s) (hP : va_P D vwCl (xw cR hx hr ho ad rd tr sd rn om oh ol op oe ow ok os so mi co ex) H) {i : Int32} (hin : vp_in i 8) (hdg : decode cc pc = .ok (.aaload, 1))
    (kk : W p l e R s m args below meth c H locs cells slots Q (F0 m (pc + 1) ls (.ref (ad i.toNatClampNeg) :: rest))) : W p l e R s m args below meth c H locs cells slots Q (F0 m pc ls (.int i :: .ref hr :: rest)) :=
  va_aldq hexec hb hK hP 1 0 rfl rfl hin hdg kk
end XAA
/-! a row's end by its cells' update -/
theorem va_up_upd (f : Nat → Int32) (k : Nat) (x : Int32) : upd f k x = va_up f k x := rfl
theorem va_up_b (g : Nat → Bool) (k : Nat) (b : Bool) : upd (fun j => bI (g j)) k (vp_nar .boolean (bI b)) = fun j => bI (va_up g k b j) := by
  funext j
  simp only [upd, va_up, bI_vp]
  split <;> rfl
section XZA
variable {p : Program} {l : Launch} {e : Env} {R : Room} {s : State} {m : MethodId} {args : Array Value} {below : List Frame} {meth : Method} {c : Code} {H : Heap} {locs : List Loc} {cells slots : Nat} {Q : State → Prop}
variable {pc : Nat} {ls : Array Slot} {rest : List Value} {cc : ByteArray} {A : Nat → Prop} {D : va_G} {cl : List vw_C} {tys : List (ClassId × FieldType)} {a : Nat} {ws : va_W} {H0 : Heap}
theorem x_zast {b : Bool} (hexec : p.tables.exec = Jvm.exec) (hb : c.code = cc) (hK : va_K D cl tys s) (hP : va_P D cl ws H) (hD : va_D A ws) (hS : va_S A H0 H locs) (q0 t0 : Nat) {cA : ClassId} {n : Nat} {g : Nat → Bool} (ha : ws[q0]? = some (a, .inl (cA, n, .inl (fun k => bI (g k))))) (ht : tys[t0]? = some (cA, .boolean)) {i : Int32} (hin : vp_in i n) (hdg : decode cc pc = .ok (.bastore, 1))
    (kk : ∀ (H1 : Heap) (locs1 : List Loc), va_P D cl (ws.set q0 (a, .inl (cA, n, .inl (fun k => bI (va_up g i.toNatClampNeg b k))))) H1 → va_D A (ws.set q0 (a, .inl (cA, n, .inl (fun k => bI (va_up g i.toNatClampNeg b k))))) → va_S A H0 H1 locs1 → W p l e R s m args below meth c H1 locs1 cells slots Q (F0 m (pc + 1) ls rest)) : W p l e R s m args below meth c H locs cells slots Q (F0 m pc ls (.int (bI b) :: .int i :: .ref a :: rest)) := by
  have e1 := va_up_b g i.toNatClampNeg b
  refine va_zast hexec hb hK hP hD hS q0 t0 ha ht hin hdg (fun H1 l1 h1 h2 h3 => ?_)
  rw [e1] at h1 h2
  exact kk H1 l1 h1 h2 h3
end XZA
/-! loops -/
def itn {T : Type} (B : T → T) : Nat → T → T
  | 0, t => t
  | n + 1, t => itn B n (B t)
theorem itn_s {T : Type} (B : T → T) (n : Nat) (t : T) : itn B (n + 1) t = B (itn B n t) := by
  induction n generalizing t with
  | zero => rfl
  | succ n ih => exact ih (B t)
def nW {T : Type} (G : T → Bool) (B : T → T) : Nat → T → Nat
  | 0, _ => 0
  | b + 1, t => if G t = true then nW G B b (B t) + 1 else 0
theorem nW_lt {T : Type} (G : T → Bool) (B : T → T) : ∀ (b : Nat) (t : T) (j : Nat), j < nW G B b t → G (itn B j t) = true := by
  intro b
  induction b with
  | zero => intro t j h; exact absurd h (Nat.not_lt_zero j)
  | succ b ih =>
    intro t j h
    unfold nW at h
    by_cases hg : G t = true
    · rw [if_pos hg] at h
      cases j with
      | zero => exact hg
      | succ j => exact ih (B t) j (Nat.lt_of_succ_lt_succ h)
    · rw [if_neg hg] at h
      exact absurd h (Nat.not_lt_zero j)
/-- 'while G do B', at most b times -/
def wl {T : Type} (G : T → Bool) (B : T → T) (b : Nat) (t : T) : T := itn B (nW G B b t) t
theorem wl_0 {T : Type} (G : T → Bool) (B : T → T) (t : T) : wl G B 0 t = t := rfl
theorem wl_t {T : Type} (G : T → Bool) (B : T → T) (b : Nat) (t : T) (h : G t = true) : wl G B (b + 1) t = wl G B b (B t) := by
  show itn B (if G t = true then nW G B b (B t) + 1 else 0) t = itn B (nW G B b (B t)) (B t)
  rw [if_pos h]
  rfl
theorem wl_f {T : Type} (G : T → Bool) (B : T → T) (b : Nat) (t : T) (h : ¬ G t = true) : wl G B b t = t := by
  cases b with
  | zero => rfl
  | succ b =>
    show itn B (if G t = true then nW G B b (B t) + 1 else 0) t = t
    rw [if_neg h]
    rfl
theorem ite_P {c : Prop} {i : Decidable c} {A B : Prop} (h1 : c → A) (h2 : ¬ c → B) : @ite Prop c i A B := by
  by_cases h : c
  · rw [if_pos h]; exact h1 h
  · rw [if_neg h]; exact h2 h
def bnd {α β : Type} (e : α) (f : α → β) : β := f e
theorem bnd_n {α β : Type} {e n : α} {f : α → β} {u : β} (hu : u = bnd e f) (en : n = e) : u = f n := by rw [en]; exact hu
