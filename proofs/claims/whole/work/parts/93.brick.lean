/-! ===== the law: what stands fast, short runs of its instructions ===== -/
abbrev hA9 (s : State) : Nat → Prop := fun q => s.heap.size ≤ q
theorem pw_swap {D : va_G} {cl : List vw_C} {a b : va_W} {H : Heap} (h : va_P D cl (a ++ b) H) : va_P D cl (b ++ a) H := va_P.swap (a := []) (b := a) (c := b) h
theorem dw_swap {A : Nat → Prop} {a b : va_W} (h : va_D A (a ++ b)) : va_D A (b ++ a) := va_D.swap (a := []) (b := a) (c := b) h
/-- what stands fast while the law runs -/
def LF (p : Program) (l : Launch) (s : State) (m : MethodId) (c : Code) (D : va_G) (cR cI cJ cZ : ClassId) (t0 : Nat) (sv : Nat → Nat) (b L : Nat) (xs : Nat → Int32) : Prop :=
  l.stackTraces = false ∧ CallFix p m c code 8 s #[Value.ref b] gW RL ∧ va_K D vwCl (xty cR cI cJ cZ) s ∧ yS t0 sv (hA9 s) s s.heap ∧ va_X b L xs s s.heap ∧ b < s.heap.size
theorem lf_b {s : State} {b : Nat} (h : b < s.heap.size) : ¬ hA9 s b := Nat.not_le.mpr h
theorem lr_x0 {cR cI cJ cZ : ClassId} {ax ar ao : Nat} {ad : Nat → Nat} {am ak an ac ae ag aq : Nat} {th : Int32} {w wm : va_W} (h : LR cR cI cJ cZ ax ar ao ad am ak an ac ae ag aq th w wm) : ∃ fs : List Value, w[0]? = some (ax, .inr (4, fs)) := by
  obtain ⟨rd, tr, sd, so, mi, co, ex, ks, ms, cs, es, hR, ⟨rn, om, oh, ol, op, oe, ow, ok, os, rfl⟩, ⟨kd, ng, cc, qq, rs, ct, un, re, dg, og, rfl⟩⟩ := h
  exact ⟨_, rfl⟩
theorem lr_m0 {cR cI cJ cZ : ClassId} {ax ar ao : Nat} {ad : Nat → Nat} {am ak an ac ae ag aq : Nat} {th : Int32} {w wm : va_W} (h : LR cR cI cJ cZ ax ar ao ad am ak an ac ae ag aq th w wm) : ∃ fs : List Value, wm[0]? = some (am, .inr (5, fs)) := by
  obtain ⟨rd, tr, sd, so, mi, co, ex, ks, ms, cs, es, hR, ⟨rn, om, oh, ol, op, oe, ow, ok, os, rfl⟩, ⟨kd, ng, cc, qq, rs, ct, un, re, dg, og, rfl⟩⟩ := h
  exact ⟨_, rfl⟩
/-- the script's int at the call's place k -/
def cv (xs : Nat → Int32) (i k : Int32) : Int32 := xs (i + k).toNatClampNeg
def lgL (xs : Nat → Int32) (i : Int32) : Int64 := ((cv xs i 3).toInt64 <<< ((32 : Int32).toInt64 &&& 63)) ||| ((cv xs i 4).toInt64 &&& 4294967295)
abbrev bc_cell (pc : Nat) (k : Int) : Prop := decode code pc = .ok (.aload_n 0, 1) ∧ decode code (pc + 1) = .ok (.iload 4, 2) ∧ decode code (pc + 3) = .ok (.iconst k, 1) ∧ decode code (pc + 4) = .ok (.iadd, 1) ∧ decode code (pc + 5) = .ok (.iaload, 1)
section BR
variable {p : Program} {l : Launch} {e : Env} {s : State} {m : MethodId} {below : List Frame} {meth : Method} {c : Code} {Q : State → Prop}
variable {D : va_G} {cR cI cJ cZ : ClassId} {ax ar ao : Nat} {ad : Nat → Nat} {am ak an ac ae ag aq : Nat} {aw t0 : Nat} {sv : Nat → Nat} {b L : Nat} {xs : Nat → Int32}
variable {H : Heap} {locs : List Loc} {cells slots : Nat} {ls : Array Slot} {rest : List Value} {pc : Nat} {i : Int32}
theorem b_cell (F : LF p l s m c D cR cI cJ cZ t0 sv b L xs) (hS : va_S (hA9 s) s.heap H locs) (h0 : ls[0]? = some (.val (.ref b))) (h4 : ls[4]? = some (.val (.int i))) {k : Int} {k9 : Int32} (hk : Int32.ofInt k = k9) (h : bc_cell pc k) (hin : vp_in (i + k9) L)
    (kk : W p l e room_1 s m #[Value.ref b] below meth c H locs cells slots Q (F0 m (pc + 6) ls (.int (cv xs i k9) :: rest))) : W p l e room_1 s m #[Value.ref b] below meth c H locs cells slots Q (F0 m pc ls rest) := by
  obtain ⟨-, ⟨hx, hb, -, -, -⟩, -, -, hX, hbl⟩ := F
  obtain ⟨d1, d2, d3, d4, d5⟩ := h
  refine lv_aload_n hx hb d1 rfl h0 ?_
  refine lv_iload hx hb d2 h4 ?_
  refine lv_iconst (v := k9) hx hb d3 hk ?_
  refine lv_iadd hx hb d4 ?_
  exact va_sld hx hb hX hbl (lf_b hbl) hS hin d5 kk
abbrev bc_bool (pc : Nat) : Prop := bc_cell pc 2 ∧ decode code (pc + 6) = .ok (.ifCond .eq 7, 3) ∧ decode code (pc + 9) = .ok (.iconst 1, 1) ∧ decode code (pc + 10) = .ok (.goto 4, 3) ∧ decode code (pc + 13) = .ok (.iconst 0, 1)
theorem b_bool (F : LF p l s m c D cR cI cJ cZ t0 sv b L xs) (hS : va_S (hA9 s) s.heap H locs) (h0 : ls[0]? = some (.val (.ref b))) (h4 : ls[4]? = some (.val (.int i))) (h : bc_bool pc) (hin : vp_in (i + 2) L)
    (kk : W p l e room_1 s m #[Value.ref b] below meth c H locs cells slots Q (F0 m (pc + 14) ls (.int (bI (decide (¬ cv xs i 2 = 0))) :: rest))) : W p l e room_1 s m #[Value.ref b] below meth c H locs cells slots Q (F0 m pc ls rest) := by
  obtain ⟨h1, d1, d2, d3, d4⟩ := h
  refine b_cell F hS h0 h4 (k9 := 2) (by decide) h1 hin ?_
  obtain ⟨-, ⟨hx, hb, -, -, -⟩, -, -, hX, hbl⟩ := F
  refine lv_if_eq (tgt := pc + 13) hx hb d1 (by omega) (fun h => ?_) (fun h => ?_)
  · refine lv_iconst (v := 0) hx hb d4 (by decide) ?_
    rw [show decide (¬ cv xs i 2 = 0) = false from decide_eq_false (fun q => q h)] at kk
    exact kk
  · refine lv_iconst (v := 1) hx hb d2 (by decide) ?_
    refine lv_goto (tgt := pc + 14) hx hb d3 (by omega) ?_
    rw [show decide (¬ cv xs i 2 = 0) = true from decide_eq_true h] at kk
    exact kk
abbrev bc_long (pc : Nat) : Prop := bc_cell pc 3 ∧ decode code (pc + 6) = .ok (.i2l, 1) ∧ decode code (pc + 7) = .ok (.bipush 32, 2) ∧ decode code (pc + 9) = .ok (.lshl, 1) ∧ bc_cell (pc + 10) 4 ∧ decode code (pc + 16) = .ok (.i2l, 1) ∧ decode code (pc + 17) = .ok (.ldc2_w 61, 3) ∧ decode code (pc + 20) = .ok (.land, 1) ∧ decode code (pc + 21) = .ok (.lor, 1)
theorem b_long (F : LF p l s m c D cR cI cJ cZ t0 sv b L xs) (hS : va_S (hA9 s) s.heap H locs) (h0 : ls[0]? = some (.val (.ref b))) (h4 : ls[4]? = some (.val (.int i))) (h : bc_long pc) (hi3 : vp_in (i + 3) L) (hi4 : vp_in (i + 4) L)
    (kk : W p l e room_1 s m #[Value.ref b] below meth c H locs cells slots Q (F0 m (pc + 22) ls (.long (lgL xs i) :: rest))) : W p l e room_1 s m #[Value.ref b] below meth c H locs cells slots Q (F0 m pc ls rest) := by
  obtain ⟨h1, d1, d2, d3, h2, d4, d5, d6, d7⟩ := h
  refine b_cell F hS h0 h4 (k9 := 3) (by decide) h1 hi3 ?_
  have F9 := F
  obtain ⟨-, ⟨hx, hb, -, hown, hts⟩, -, -, hX, hbl⟩ := F
  refine lv_i2l hx hb d1 rfl ?_
  refine lv_bipush (v := 32) hx hb d2 (by decide) ?_
  refine lv_lshl hx hb d3 rfl ?_
  refine b_cell F9 hS h0 h4 (k9 := 4) (by decide) h2 hi4 ?_
  refine lv_i2l hx hb d4 rfl ?_
  refine lv_ldc2 hx hb hown (hts _ (inW_14 _ (List.mem_of_getElem? (i := 20) rfl))) d5 ?_
  refine lv_land hx hb d6 ?_
  exact lv_lor hx hb d7 kk
/-- behind a call: to the head of the loop's step -/
def LK (p : Program) (l : Launch) (e : Env) (s : State) (m : MethodId) (below : List Frame) (meth : Method) (c : Code) (Q : State → Prop) (D : va_G) (cR cI cJ cZ : ClassId) (ax ar ao : Nat) (ad : Nat → Nat) (am ak an ac ae ag aq : Nat) (aw b : Nat) (cells slots : Nat) (i : Int32) : Prop :=
  ∀ (th : Int32) (w wm : va_W) (vou : Nat → Int64) (H : Heap) (locs : List Loc) (ls : Array Slot), LR cR cI cJ cZ ax ar ao ad am ak an ac ae ag aq th w wm → va_P D vwCl ((w ++ [(aw, .inl (cJ, 1, .inr (.inl vou)))]) ++ wm) H → va_D (hA9 s) ((w ++ [(aw, .inl (cJ, 1, .inr (.inl vou)))]) ++ wm) → va_S (hA9 s) s.heap H locs → lv_has ls 8 [(0, .ref b), (1, .ref ax), (2, .ref am), (3, .ref aw), (4, .int i)] →
    W p l e room_1 s m #[Value.ref b] below meth c H locs cells slots Q (F0 m 870 ls [])
theorem b_thrown (F : LF p l s m c D cR cI cJ cZ t0 sv b L xs) {th : Int32} {w wm : va_W} {vou : Nat → Int64} (hL : LR cR cI cJ cZ ax ar ao ad am ak an ac ae ag aq th w wm) (hP : va_P D vwCl ((w ++ [(aw, .inl (cJ, 1, .inr (.inl vou)))]) ++ wm) H) (hD : va_D (hA9 s) ((w ++ [(aw, .inl (cJ, 1, .inr (.inl vou)))]) ++ wm)) (hS : va_S (hA9 s) s.heap H locs) (h2 : ls[2]? = some (.val (.ref am))) (hls : ls.size = 8) (hc : cells ≤ 600384 ∧ slots ≤ 7290346)
    (d1 : decode code pc = .ok (.aload_n 2, 1)) (d2 : decode code (pc + 1) = .ok (.invokevirtual 69, 3))
    (kk : ∀ (H : Heap) (locs : List Loc), va_P D vwCl ((w ++ [(aw, .inl (cJ, 1, .inr (.inl vou)))]) ++ wm) H → va_D (hA9 s) ((w ++ [(aw, .inl (cJ, 1, .inr (.inl vou)))]) ++ wm) → va_S (hA9 s) s.heap H locs → W p l e room_1 s m #[Value.ref b] below meth c H locs cells slots Q (F0 m (pc + 4) ls [.int th])) : W p l e room_1 s m #[Value.ref b] below meth c H locs cells slots Q (F0 m pc ls []) := by
  obtain ⟨hl0, hCF, hK, hY, hX, hbl⟩ := F
  obtain ⟨hx, hb, hml, hown, hts⟩ := id hCF
  refine lv_aload_n hx hb d1 rfl h2 ?_
  obtain ⟨fs, hm0⟩ := lr_m0 hL
  refine y_VX (As := []) (rest := []) (wc := wm) (wf := w ++ [(aw, .inl (cJ, 1, .inr (.inl vou)))]) hCF (st_thrown (D := D) (t0 := t0) hL) (x_cwV 0 hts (inW_14 _ (List.mem_of_getElem? (i := 31) rfl)) (inW_14 _ (List.mem_of_getElem? (i := 32) rfl)) (inW_14 _ (List.mem_of_getElem? (i := 33) rfl)) (inW_9 _ (List.mem_of_getElem? (i := 5) rfl)) (inW_8 _ (List.mem_of_getElem? (i := 37) rfl)) rfl rfl (by decide +kernel) ⟨Nat.le_of_ble_eq_true rfl, Nat.le_of_ble_eq_true rfl⟩) hK (pw_swap hP) (dw_swap hD) hS (fun _ h => h) hY.1 0 hm0 rfl rfl hls rfl (Nat.le_of_ble_eq_true rfl) d2 hc (fun H locs hP hD hS => ?_)
  exact kk H locs (pw_swap hP) (dw_swap hD) hS
abbrev bc_end0 (pc : Nat) (o : Int) : Prop := decode code pc = .ok (.aload_n 2, 1) ∧ decode code (pc + 1) = .ok (.invokevirtual 69, 3) ∧ decode code (pc + 4) = .ok (.iload 5, 2) ∧ decode code (pc + 6) = .ok (.if_icmp .eq 5, 3) ∧ decode code (pc + 11) = .ok (.goto o, 3) ∧ (pc : Int) + 11 + o = 870
theorem b_end0 (F : LF p l s m c D cR cI cJ cZ t0 sv b L xs) {th : Int32} {w wm : va_W} {vou : Nat → Int64} {o : Int} (hL : LR cR cI cJ cZ ax ar ao ad am ak an ac ae ag aq th w wm) (hP : va_P D vwCl ((w ++ [(aw, .inl (cJ, 1, .inr (.inl vou)))]) ++ wm) H) (hD : va_D (hA9 s) ((w ++ [(aw, .inl (cJ, 1, .inr (.inl vou)))]) ++ wm)) (hS : va_S (hA9 s) s.heap H locs) (hl : lv_has ls 8 [(5, .int th), (0, .ref b), (1, .ref ax), (2, .ref am), (3, .ref aw), (4, .int i)]) (hc : cells ≤ 600384 ∧ slots ≤ 7290346)
    (h : bc_end0 pc o) (kk : LK p l e s m below meth c Q D cR cI cJ cZ ax ar ao ad am ak an ac ae ag aq aw b cells slots i) : W p l e room_1 s m #[Value.ref b] below meth c H locs cells slots Q (F0 m pc ls []) := by
  obtain ⟨d1, d2, d3, d4, d5, ho⟩ := h
  refine b_thrown F hL hP hD hS (lv_at hl 3 rfl) hl.1 hc d1 d2 (fun H locs hP hD hS => ?_)
  obtain ⟨-, ⟨hx, hb, -, -, -⟩, -, -, -, -⟩ := F
  refine lv_iload hx hb d3 (lv_at hl 0 rfl) ?_
  refine lv_icmp_eq (tgt := pc + 11) hx hb d4 (by omega) (fun _ => ?_) (fun h9 => absurd rfl h9)
  refine lv_goto (tgt := 870) hx hb d5 (by omega) ?_
  exact kk th w wm vou H locs ls hL hP hD hS (lv_sub hl [1, 2, 3, 4, 5] rfl)
abbrev bc_end1 (pc : Nat) (o : Int) : Prop := decode code pc = .ok (.aload_n 2, 1) ∧ decode code (pc + 1) = .ok (.invokevirtual 69, 3) ∧ decode code (pc + 4) = .ok (.iload 5, 2) ∧ decode code (pc + 6) = .ok (.if_icmp .eq 5, 3) ∧ decode code (pc + 11) = .ok (.iload 5, 2) ∧ decode code (pc + 13) = .ok (.ifCond .ne 15, 3) ∧ decode code (pc + 16) = .ok (.aload_n 3, 1) ∧ decode code (pc + 17) = .ok (.iconst 0, 1) ∧ decode code (pc + 18) = .ok (.laload, 1) ∧ decode code (pc + 19) = .ok (.iload 6, 2) ∧ decode code (pc + 21) = .ok (.i2l, 1) ∧ decode code (pc + 22) = .ok (.lcmp, 1) ∧ decode code (pc + 23) = .ok (.ifCond .eq 5, 3) ∧ decode code (pc + 28) = .ok (.goto o, 3) ∧ (pc : Int) + 28 + o = 870
theorem b_end1 (F : LF p l s m c D cR cI cJ cZ t0 sv b L xs) {th x : Int32} {w wm : va_W} {vou : Nat → Int64} {o : Int} (hL : LR cR cI cJ cZ ax ar ao ad am ak an ac ae ag aq th w wm) (hx9 : th = 0 → vou 0 = x.toInt64) (hw : (w ++ [(aw, .inl (cJ, 1, .inr (.inl vou)))])[w.length]? = some (aw, .inl (cJ, 1, .inr (.inl vou)))) (hP : va_P D vwCl ((w ++ [(aw, .inl (cJ, 1, .inr (.inl vou)))]) ++ wm) H) (hD : va_D (hA9 s) ((w ++ [(aw, .inl (cJ, 1, .inr (.inl vou)))]) ++ wm)) (hS : va_S (hA9 s) s.heap H locs) (hl : lv_has ls 8 [(6, .int x), (5, .int th), (0, .ref b), (1, .ref ax), (2, .ref am), (3, .ref aw), (4, .int i)]) (hc : cells ≤ 600384 ∧ slots ≤ 7290346)
    (h : bc_end1 pc o) (kk : LK p l e s m below meth c Q D cR cI cJ cZ ax ar ao ad am ak an ac ae ag aq aw b cells slots i) : W p l e room_1 s m #[Value.ref b] below meth c H locs cells slots Q (F0 m pc ls []) := by
  obtain ⟨d1, d2, d3, d4, d5, d6, d7, d8, d9, d10, d11, d12, d13, d14, ho⟩ := h
  refine b_thrown F hL hP hD hS (lv_at hl 4 rfl) hl.1 hc d1 d2 (fun H locs hP hD hS => ?_)
  obtain ⟨-, ⟨hx, hb, -, -, -⟩, hK, -, -, -⟩ := F
  have k9 := kk th w wm vou H locs ls hL hP hD hS (lv_sub hl [2, 3, 4, 5, 6] rfl)
  refine lv_iload hx hb d3 (lv_at hl 1 rfl) ?_
  refine lv_icmp_eq (tgt := pc + 11) hx hb d4 (by omega) (fun _ => ?_) (fun h9 => absurd rfl h9)
  refine lv_iload hx hb d5 (lv_at hl 1 rfl) ?_
  refine lv_if_ne (tgt := pc + 28) hx hb d6 (by omega) (fun _ => ?_) (fun h0 => ?_)
  · exact lv_goto (tgt := 870) hx hb d14 (by omega) k9
  · refine lv_aload_n hx hb d7 rfl (lv_at hl 5 rfl) ?_
    refine lv_iconst (v := 0) hx hb d8 (by decide) ?_
    refine va_lald hx hb hK hP w.length 2 (by rw [List.getElem?_append_left (by simp)]; exact hw) rfl st_01 d9 ?_
    refine lv_iload hx hb d10 (lv_at hl 0 rfl) ?_
    refine lv_i2l hx hb d11 rfl ?_
    refine xl_eq (tgt := pc + 28) hx hb d12 d13 (by omega) (fun _ => ?_) (fun h9 => ?_)
    · exact lv_goto (tgt := 870) hx hb d14 (by omega) k9
    · refine absurd ?_ h9
      rw [show (0 : Int32).toNatClampNeg = 0 by decide]
      exact hx9 h0
abbrev bc_end2 (pc : Nat) (o : Int) : Prop := decode code pc = .ok (.aload_n 2, 1) ∧ decode code (pc + 1) = .ok (.invokevirtual 69, 3) ∧ decode code (pc + 4) = .ok (.iload 5, 2) ∧ decode code (pc + 6) = .ok (.if_icmp .eq 5, 3) ∧ decode code (pc + 11) = .ok (.iload 5, 2) ∧ decode code (pc + 13) = .ok (.ifCond .ne 14, 3) ∧ decode code (pc + 16) = .ok (.aload_n 3, 1) ∧ decode code (pc + 17) = .ok (.iconst 0, 1) ∧ decode code (pc + 18) = .ok (.laload, 1) ∧ decode code (pc + 19) = .ok (.lload 6, 2) ∧ decode code (pc + 21) = .ok (.lcmp, 1) ∧ decode code (pc + 22) = .ok (.ifCond .eq 5, 3) ∧ decode code (pc + 27) = .ok (.goto o, 3) ∧ (pc : Int) + 27 + o = 870
theorem b_end2 (F : LF p l s m c D cR cI cJ cZ t0 sv b L xs) {th : Int32} {x : Int64} {w wm : va_W} {vou : Nat → Int64} {o : Int} (hL : LR cR cI cJ cZ ax ar ao ad am ak an ac ae ag aq th w wm) (hx9 : th = 0 → vou 0 = x) (hw : (w ++ [(aw, .inl (cJ, 1, .inr (.inl vou)))])[w.length]? = some (aw, .inl (cJ, 1, .inr (.inl vou)))) (hP : va_P D vwCl ((w ++ [(aw, .inl (cJ, 1, .inr (.inl vou)))]) ++ wm) H) (hD : va_D (hA9 s) ((w ++ [(aw, .inl (cJ, 1, .inr (.inl vou)))]) ++ wm)) (hS : va_S (hA9 s) s.heap H locs) (hl : lv_has ls 8 [(6, .long x), (5, .int th), (0, .ref b), (1, .ref ax), (2, .ref am), (3, .ref aw), (4, .int i)]) (hc : cells ≤ 600384 ∧ slots ≤ 7290346)
    (h : bc_end2 pc o) (kk : LK p l e s m below meth c Q D cR cI cJ cZ ax ar ao ad am ak an ac ae ag aq aw b cells slots i) : W p l e room_1 s m #[Value.ref b] below meth c H locs cells slots Q (F0 m pc ls []) := by
  obtain ⟨d1, d2, d3, d4, d5, d6, d7, d8, d9, d10, d12, d13, d14, ho⟩ := h
  refine b_thrown F hL hP hD hS (lv_at hl 4 rfl) hl.1 hc d1 d2 (fun H locs hP hD hS => ?_)
  obtain ⟨-, ⟨hx, hb, -, -, -⟩, hK, -, -, -⟩ := F
  have k9 := kk th w wm vou H locs ls hL hP hD hS (lv_sub hl [2, 3, 4, 5, 6] rfl)
  refine lv_iload hx hb d3 (lv_at hl 1 rfl) ?_
  refine lv_icmp_eq (tgt := pc + 11) hx hb d4 (by omega) (fun _ => ?_) (fun h9 => absurd rfl h9)
  refine lv_iload hx hb d5 (lv_at hl 1 rfl) ?_
  refine lv_if_ne (tgt := pc + 27) hx hb d6 (by omega) (fun _ => ?_) (fun h0 => ?_)
  · exact lv_goto (tgt := 870) hx hb d14 (by omega) k9
  · refine lv_aload_n hx hb d7 rfl (lv_at hl 5 rfl) ?_
    refine lv_iconst (v := 0) hx hb d8 (by decide) ?_
    refine va_lald hx hb hK hP w.length 2 (by rw [List.getElem?_append_left (by simp)]; exact hw) rfl st_01 d9 ?_
    refine lv_lload hx hb d10 (lv_at hl 0 rfl) ?_
    refine xl_eq (tgt := pc + 27) hx hb d12 d13 (by omega) (fun _ => ?_) (fun h9 => ?_)
    · exact lv_goto (tgt := 870) hx hb d14 (by omega) k9
    · refine absurd ?_ h9
      rw [show (0 : Int32).toNatClampNeg = 0 by decide]
      exact hx9 h0
end BR
