/-! ===== the law: calls with an answer ===== -/
section LC2
variable {p : Program} {l : Launch} {e : Env} {s : State} {m : MethodId} {below : List Frame} {meth : Method} {c : Code} {Q : State → Prop}
variable {D : va_G} {cR cI cJ cZ : ClassId} {ax ar ao : Nat} {ad : Nat → Nat} {am ak an ac ae ag aq : Nat} {aw t0 : Nat} {sv : Nat → Nat} {b L : Nat} {xs : Nat → Int32}
variable {H : Heap} {locs : List Loc} {cells slots : Nat} {ls : Array Slot} {i : Int32}
theorem lc_compare (F : LF p l s m c D cR cI cJ cZ t0 sv b L xs) {th : Int32} {w wm : va_W} {vou : Nat → Int64} (hL : LR cR cI cJ cZ ax ar ao ad am ak an ac ae ag aq th w wm) (hP : va_P D vwCl ((w ++ [(aw, .inl (cJ, 1, .inr (.inl vou)))]) ++ wm) H) (hD : va_D (hA9 s) ((w ++ [(aw, .inl (cJ, 1, .inr (.inl vou)))]) ++ wm)) (hS : va_S (hA9 s) s.heap H locs) (hl : lv_has ls 8 [(0, .ref b), (1, .ref ax), (2, .ref am), (3, .ref aw), (4, .int i)]) (hc : cells ≤ 1000 ∧ slots ≤ 8000) (hi1 : vp_in (i + 1) L) (hi2 : vp_in (i + 2) L) (hi3 : vp_in (i + 3) L) (hi4 : vp_in (i + 4) L) (hi5 : vp_in (i + 5) L)
    (kk : LK p l e s m below meth c Q D cR cI cJ cZ ax ar ao ad am ak an ac ae ag aq aw b (cells + 4) (slots + 24) i) : W p l e room_1 s m #[Value.ref b] below meth c H locs cells slots Q (F0 m 300 ls []) := by
  have F9 := F
  obtain ⟨hl0, hCF, hK, hY, hX, hbl⟩ := F9
  obtain ⟨hx, hb, hml, hown, hts⟩ := id hCF
  obtain ⟨fs, hm0⟩ := lr_m0 hL
  obtain ⟨u, x, vo, w1, wm1, hM1, hM2, hL1, hx9⟩ := st_compare (l := l) (D := D) (t0 := t0) (sv := sv) (aw := aw) (vou := vou) hl0 hL (cv xs i 1) (cv xs i 2)
  refine lv_aload_n hx hb dLaw_300 rfl (lv_at hl 1 rfl) ?_
  refine b_cell F hS (lv_at hl 0 rfl) (lv_at hl 4 rfl) (k9 := 1) (by decide) ⟨dLaw_301, dLaw_302, dLaw_304, dLaw_305, dLaw_306⟩ hi1 ?_
  refine b_cell F hS (lv_at hl 0 rfl) (lv_at hl 4 rfl) (k9 := 2) (by decide) ⟨dLaw_307, dLaw_308, dLaw_310, dLaw_311, dLaw_312⟩ hi2 ?_
  refine lv_aload_n hx hb dLaw_313 rfl (lv_at hl 3 rfl) ?_
  refine y_SW (mk := 2) (As := [.ref ax, .int (cv xs i 1), .int (cv xs i 2), .ref aw]) (rest := []) (wc := w ++ [(aw, .inl (cJ, 1, .inr (.inl vou)))]) (wf := wm) hCF hM1 (y_cwSW 4 hts (inW_14 _ (List.mem_of_getElem? (i := 39) rfl)) (inW_15 _ (List.mem_of_getElem? (i := 0) rfl)) (inW_14 _ (List.mem_of_getElem? (i := 27) rfl)) (inW_13 _ (List.mem_of_getElem? (i := 20) rfl)) rfl rfl (by decide +kernel) ⟨Nat.le_of_ble_eq_true rfl, Nat.le_of_ble_eq_true rfl⟩) hK hP hD hS (fun _ h => h) hY rfl hl.1 rfl (Nat.le_of_ble_eq_true rfl) dLaw_314 ⟨by show cells + 2 ≤ 600384; omega, by show slots + 6 * 2 ≤ 7290346; omega⟩ (fun H locs hP hD hS => ?_)
  have hP : va_P D vwCl ((w1 ++ [(aw, .inl (cJ, 1, .inr (.inl vo)))]) ++ wm) H := hP
  have hD : va_D (hA9 s) ((w1 ++ [(aw, .inl (cJ, 1, .inr (.inl vo)))]) ++ wm) := hD
  refine lv_istore (lv' := [(5, .int u), (0, .ref b), (1, .ref ax), (2, .ref am), (3, .ref aw), (4, .int i)]) hx hb dLaw_317 hl (by decide) rfl (fun ls hl => ?_)
  refine lv_aload_n hx hb dLaw_319 rfl (lv_at hl 3 rfl) ?_
  refine b_cell F hS (lv_at hl 1 rfl) (lv_at hl 5 rfl) (k9 := 1) (by decide) ⟨dLaw_320, dLaw_321, dLaw_323, dLaw_324, dLaw_325⟩ hi1 ?_
  refine b_cell F hS (lv_at hl 1 rfl) (lv_at hl 5 rfl) (k9 := 2) (by decide) ⟨dLaw_326, dLaw_327, dLaw_329, dLaw_330, dLaw_331⟩ hi2 ?_
  refine y_VX (As := [.int (cv xs i 1), .int (cv xs i 2)]) (rest := []) (wc := wm) (wf := w1 ++ [(aw, .inl (cJ, 1, .inr (.inl vo)))]) hCF hM2 (x_cwV 2 hts (inW_15 _ (List.mem_of_getElem? (i := 1) rfl)) (inW_15 _ (List.mem_of_getElem? (i := 2) rfl)) (inW_15 _ (List.mem_of_getElem? (i := 3) rfl)) (inW_9 _ (List.mem_of_getElem? (i := 5) rfl)) (inW_12 _ (List.mem_of_getElem? (i := 15) rfl)) rfl rfl (by decide +kernel) ⟨Nat.le_of_ble_eq_true rfl, Nat.le_of_ble_eq_true rfl⟩) hK (pw_swap hP) (dw_swap hD) hS (fun _ h => h) hY.1 0 hm0 rfl rfl hl.1 rfl (Nat.le_of_ble_eq_true rfl) dLaw_332 ⟨by show cells + 2 ≤ 600384; omega, by show slots + 6 * 2 ≤ 7290346; omega⟩ (fun H locs hP hD hS => ?_)
  refine lv_istore (lv' := [(6, .int x), (5, .int u), (0, .ref b), (1, .ref ax), (2, .ref am), (3, .ref aw), (4, .int i)]) hx hb dLaw_335 hl (by decide) rfl (fun ls hl => ?_)
  refine W.widen (k := cells + 4) (n := slots + 24) (by omega) (by omega) ?_
  exact b_end1 (o := 505) F hL1 hx9 (by simp) (pw_swap hP) (dw_swap hD) hS hl ⟨by omega, by omega⟩ ⟨dLaw_337, dLaw_338, dLaw_341, dLaw_343, dLaw_348, dLaw_350, dLaw_353, dLaw_354, dLaw_355, dLaw_356, dLaw_358, dLaw_359, dLaw_360, dLaw_365, by decide⟩ kk
theorem lc_kind (F : LF p l s m c D cR cI cJ cZ t0 sv b L xs) {th : Int32} {w wm : va_W} {vou : Nat → Int64} (hL : LR cR cI cJ cZ ax ar ao ad am ak an ac ae ag aq th w wm) (hP : va_P D vwCl ((w ++ [(aw, .inl (cJ, 1, .inr (.inl vou)))]) ++ wm) H) (hD : va_D (hA9 s) ((w ++ [(aw, .inl (cJ, 1, .inr (.inl vou)))]) ++ wm)) (hS : va_S (hA9 s) s.heap H locs) (hl : lv_has ls 8 [(0, .ref b), (1, .ref ax), (2, .ref am), (3, .ref aw), (4, .int i)]) (hc : cells ≤ 1000 ∧ slots ≤ 8000) (hi1 : vp_in (i + 1) L) (hi2 : vp_in (i + 2) L) (hi3 : vp_in (i + 3) L) (hi4 : vp_in (i + 4) L) (hi5 : vp_in (i + 5) L)
    (kk : LK p l e s m below meth c Q D cR cI cJ cZ ax ar ao ad am ak an ac ae ag aq aw b (cells + 4) (slots + 24) i) : W p l e room_1 s m #[Value.ref b] below meth c H locs cells slots Q (F0 m 368 ls []) := by
  have F9 := F
  obtain ⟨hl0, hCF, hK, hY, hX, hbl⟩ := F9
  obtain ⟨hx, hb, hml, hown, hts⟩ := id hCF
  obtain ⟨fs, hm0⟩ := lr_m0 hL
  obtain ⟨u, x, vo, w1, wm1, hM1, hM2, hL1, hx9⟩ := st_kind (l := l) (D := D) (t0 := t0) (sv := sv) (aw := aw) (vou := vou) hl0 hL (cv xs i 1)
  refine lv_aload_n hx hb dLaw_368 rfl (lv_at hl 1 rfl) ?_
  refine b_cell F hS (lv_at hl 0 rfl) (lv_at hl 4 rfl) (k9 := 1) (by decide) ⟨dLaw_369, dLaw_370, dLaw_372, dLaw_373, dLaw_374⟩ hi1 ?_
  refine lv_aload_n hx hb dLaw_375 rfl (lv_at hl 3 rfl) ?_
  refine y_SW (mk := 1) (As := [.ref ax, .int (cv xs i 1), .ref aw]) (rest := []) (wc := w ++ [(aw, .inl (cJ, 1, .inr (.inl vou)))]) (wf := wm) hCF hM1 (y_cwSW 3 hts (inW_15 _ (List.mem_of_getElem? (i := 4) rfl)) (inW_15 _ (List.mem_of_getElem? (i := 5) rfl)) (inW_14 _ (List.mem_of_getElem? (i := 27) rfl)) (inW_13 _ (List.mem_of_getElem? (i := 24) rfl)) rfl rfl (by decide +kernel) ⟨Nat.le_of_ble_eq_true rfl, Nat.le_of_ble_eq_true rfl⟩) hK hP hD hS (fun _ h => h) hY rfl hl.1 rfl (Nat.le_of_ble_eq_true rfl) dLaw_376 ⟨by show cells + 1 ≤ 600384; omega, by show slots + 6 * 1 ≤ 7290346; omega⟩ (fun H locs hP hD hS => ?_)
  have hP : va_P D vwCl ((w1 ++ [(aw, .inl (cJ, 1, .inr (.inl vo)))]) ++ wm) H := hP
  have hD : va_D (hA9 s) ((w1 ++ [(aw, .inl (cJ, 1, .inr (.inl vo)))]) ++ wm) := hD
  refine lv_istore (lv' := [(5, .int u), (0, .ref b), (1, .ref ax), (2, .ref am), (3, .ref aw), (4, .int i)]) hx hb dLaw_379 hl (by decide) rfl (fun ls hl => ?_)
  refine lv_aload_n hx hb dLaw_381 rfl (lv_at hl 3 rfl) ?_
  refine b_cell F hS (lv_at hl 1 rfl) (lv_at hl 5 rfl) (k9 := 1) (by decide) ⟨dLaw_382, dLaw_383, dLaw_385, dLaw_386, dLaw_387⟩ hi1 ?_
  refine y_VX (As := [.int (cv xs i 1)]) (rest := []) (wc := wm) (wf := w1 ++ [(aw, .inl (cJ, 1, .inr (.inl vo)))]) hCF hM2 (x_cwV 1 hts (inW_15 _ (List.mem_of_getElem? (i := 6) rfl)) (inW_15 _ (List.mem_of_getElem? (i := 7) rfl)) (inW_15 _ (List.mem_of_getElem? (i := 8) rfl)) (inW_9 _ (List.mem_of_getElem? (i := 5) rfl)) (inW_12 _ (List.mem_of_getElem? (i := 16) rfl)) rfl rfl (by decide +kernel) ⟨Nat.le_of_ble_eq_true rfl, Nat.le_of_ble_eq_true rfl⟩) hK (pw_swap hP) (dw_swap hD) hS (fun _ h => h) hY.1 0 hm0 rfl rfl hl.1 rfl (Nat.le_of_ble_eq_true rfl) dLaw_388 ⟨by show cells + 1 ≤ 600384; omega, by show slots + 6 * 1 ≤ 7290346; omega⟩ (fun H locs hP hD hS => ?_)
  refine lv_istore (lv' := [(6, .int x), (5, .int u), (0, .ref b), (1, .ref ax), (2, .ref am), (3, .ref aw), (4, .int i)]) hx hb dLaw_391 hl (by decide) rfl (fun ls hl => ?_)
  refine W.widen (k := cells + 4) (n := slots + 24) (by omega) (by omega) ?_
  exact b_end1 (o := 449) F hL1 hx9 (by simp) (pw_swap hP) (dw_swap hD) hS hl ⟨by omega, by omega⟩ ⟨dLaw_393, dLaw_394, dLaw_397, dLaw_399, dLaw_404, dLaw_406, dLaw_409, dLaw_410, dLaw_411, dLaw_412, dLaw_414, dLaw_415, dLaw_416, dLaw_421, by decide⟩ kk
theorem lc_coefficient (F : LF p l s m c D cR cI cJ cZ t0 sv b L xs) {th : Int32} {w wm : va_W} {vou : Nat → Int64} (hL : LR cR cI cJ cZ ax ar ao ad am ak an ac ae ag aq th w wm) (hP : va_P D vwCl ((w ++ [(aw, .inl (cJ, 1, .inr (.inl vou)))]) ++ wm) H) (hD : va_D (hA9 s) ((w ++ [(aw, .inl (cJ, 1, .inr (.inl vou)))]) ++ wm)) (hS : va_S (hA9 s) s.heap H locs) (hl : lv_has ls 8 [(0, .ref b), (1, .ref ax), (2, .ref am), (3, .ref aw), (4, .int i)]) (hc : cells ≤ 1000 ∧ slots ≤ 8000) (hi1 : vp_in (i + 1) L) (hi2 : vp_in (i + 2) L) (hi3 : vp_in (i + 3) L) (hi4 : vp_in (i + 4) L) (hi5 : vp_in (i + 5) L)
    (kk : LK p l e s m below meth c Q D cR cI cJ cZ ax ar ao ad am ak an ac ae ag aq aw b (cells + 4) (slots + 24) i) : W p l e room_1 s m #[Value.ref b] below meth c H locs cells slots Q (F0 m 424 ls []) := by
  have F9 := F
  obtain ⟨hl0, hCF, hK, hY, hX, hbl⟩ := F9
  obtain ⟨hx, hb, hml, hown, hts⟩ := id hCF
  obtain ⟨fs, hm0⟩ := lr_m0 hL
  obtain ⟨u, x, vo, w1, wm1, hM1, hM2, hL1, hx9⟩ := st_coefficient (l := l) (D := D) (t0 := t0) (sv := sv) (aw := aw) (vou := vou) hl0 hL (cv xs i 1)
  refine lv_aload_n hx hb dLaw_424 rfl (lv_at hl 1 rfl) ?_
  refine b_cell F hS (lv_at hl 0 rfl) (lv_at hl 4 rfl) (k9 := 1) (by decide) ⟨dLaw_425, dLaw_426, dLaw_428, dLaw_429, dLaw_430⟩ hi1 ?_
  refine lv_aload_n hx hb dLaw_431 rfl (lv_at hl 3 rfl) ?_
  refine y_SW (mk := 1) (As := [.ref ax, .int (cv xs i 1), .ref aw]) (rest := []) (wc := w ++ [(aw, .inl (cJ, 1, .inr (.inl vou)))]) (wf := wm) hCF hM1 (y_cwSW 3 hts (inW_15 _ (List.mem_of_getElem? (i := 9) rfl)) (inW_15 _ (List.mem_of_getElem? (i := 10) rfl)) (inW_14 _ (List.mem_of_getElem? (i := 27) rfl)) (inW_13 _ (List.mem_of_getElem? (i := 28) rfl)) rfl rfl (by decide +kernel) ⟨Nat.le_of_ble_eq_true rfl, Nat.le_of_ble_eq_true rfl⟩) hK hP hD hS (fun _ h => h) hY rfl hl.1 rfl (Nat.le_of_ble_eq_true rfl) dLaw_432 ⟨by show cells + 1 ≤ 600384; omega, by show slots + 6 * 1 ≤ 7290346; omega⟩ (fun H locs hP hD hS => ?_)
  have hP : va_P D vwCl ((w1 ++ [(aw, .inl (cJ, 1, .inr (.inl vo)))]) ++ wm) H := hP
  have hD : va_D (hA9 s) ((w1 ++ [(aw, .inl (cJ, 1, .inr (.inl vo)))]) ++ wm) := hD
  refine lv_istore (lv' := [(5, .int u), (0, .ref b), (1, .ref ax), (2, .ref am), (3, .ref aw), (4, .int i)]) hx hb dLaw_435 hl (by decide) rfl (fun ls hl => ?_)
  refine lv_aload_n hx hb dLaw_437 rfl (lv_at hl 3 rfl) ?_
  refine b_cell F hS (lv_at hl 1 rfl) (lv_at hl 5 rfl) (k9 := 1) (by decide) ⟨dLaw_438, dLaw_439, dLaw_441, dLaw_442, dLaw_443⟩ hi1 ?_
  refine y_VX (As := [.int (cv xs i 1)]) (rest := []) (wc := wm) (wf := w1 ++ [(aw, .inl (cJ, 1, .inr (.inl vo)))]) hCF hM2 (x_cwV 1 hts (inW_15 _ (List.mem_of_getElem? (i := 11) rfl)) (inW_15 _ (List.mem_of_getElem? (i := 12) rfl)) (inW_15 _ (List.mem_of_getElem? (i := 13) rfl)) (inW_9 _ (List.mem_of_getElem? (i := 5) rfl)) (inW_12 _ (List.mem_of_getElem? (i := 17) rfl)) rfl rfl (by decide +kernel) ⟨Nat.le_of_ble_eq_true rfl, Nat.le_of_ble_eq_true rfl⟩) hK (pw_swap hP) (dw_swap hD) hS (fun _ h => h) hY.1 0 hm0 rfl rfl hl.1 rfl (Nat.le_of_ble_eq_true rfl) dLaw_444 ⟨by show cells + 1 ≤ 600384; omega, by show slots + 6 * 1 ≤ 7290346; omega⟩ (fun H locs hP hD hS => ?_)
  refine lv_lstore (lv' := [(6, .long x), (5, .int u), (0, .ref b), (1, .ref ax), (2, .ref am), (3, .ref aw), (4, .int i)]) hx hb dLaw_447 hl (by decide) rfl (fun ls hl => ?_)
  refine W.widen (k := cells + 4) (n := slots + 24) (by omega) (by omega) ?_
  exact b_end2 (o := 394) F hL1 hx9 (by simp) (pw_swap hP) (dw_swap hD) hS hl ⟨by omega, by omega⟩ ⟨dLaw_449, dLaw_450, dLaw_453, dLaw_455, dLaw_460, dLaw_462, dLaw_465, dLaw_466, dLaw_467, dLaw_468, dLaw_470, dLaw_471, dLaw_476, by decide⟩ kk
theorem lc_exponent (F : LF p l s m c D cR cI cJ cZ t0 sv b L xs) {th : Int32} {w wm : va_W} {vou : Nat → Int64} (hL : LR cR cI cJ cZ ax ar ao ad am ak an ac ae ag aq th w wm) (hP : va_P D vwCl ((w ++ [(aw, .inl (cJ, 1, .inr (.inl vou)))]) ++ wm) H) (hD : va_D (hA9 s) ((w ++ [(aw, .inl (cJ, 1, .inr (.inl vou)))]) ++ wm)) (hS : va_S (hA9 s) s.heap H locs) (hl : lv_has ls 8 [(0, .ref b), (1, .ref ax), (2, .ref am), (3, .ref aw), (4, .int i)]) (hc : cells ≤ 1000 ∧ slots ≤ 8000) (hi1 : vp_in (i + 1) L) (hi2 : vp_in (i + 2) L) (hi3 : vp_in (i + 3) L) (hi4 : vp_in (i + 4) L) (hi5 : vp_in (i + 5) L)
    (kk : LK p l e s m below meth c Q D cR cI cJ cZ ax ar ao ad am ak an ac ae ag aq aw b (cells + 4) (slots + 24) i) : W p l e room_1 s m #[Value.ref b] below meth c H locs cells slots Q (F0 m 479 ls []) := by
  have F9 := F
  obtain ⟨hl0, hCF, hK, hY, hX, hbl⟩ := F9
  obtain ⟨hx, hb, hml, hown, hts⟩ := id hCF
  obtain ⟨fs, hm0⟩ := lr_m0 hL
  obtain ⟨u, x, vo, w1, wm1, hM1, hM2, hL1, hx9⟩ := st_exponent (l := l) (D := D) (t0 := t0) (sv := sv) (aw := aw) (vou := vou) hl0 hL (cv xs i 1)
  refine lv_aload_n hx hb dLaw_479 rfl (lv_at hl 1 rfl) ?_
  refine b_cell F hS (lv_at hl 0 rfl) (lv_at hl 4 rfl) (k9 := 1) (by decide) ⟨dLaw_480, dLaw_481, dLaw_483, dLaw_484, dLaw_485⟩ hi1 ?_
  refine lv_aload_n hx hb dLaw_486 rfl (lv_at hl 3 rfl) ?_
  refine y_SW (mk := 1) (As := [.ref ax, .int (cv xs i 1), .ref aw]) (rest := []) (wc := w ++ [(aw, .inl (cJ, 1, .inr (.inl vou)))]) (wf := wm) hCF hM1 (y_cwSW 3 hts (inW_15 _ (List.mem_of_getElem? (i := 14) rfl)) (inW_15 _ (List.mem_of_getElem? (i := 15) rfl)) (inW_14 _ (List.mem_of_getElem? (i := 27) rfl)) (inW_13 _ (List.mem_of_getElem? (i := 32) rfl)) rfl rfl (by decide +kernel) ⟨Nat.le_of_ble_eq_true rfl, Nat.le_of_ble_eq_true rfl⟩) hK hP hD hS (fun _ h => h) hY rfl hl.1 rfl (Nat.le_of_ble_eq_true rfl) dLaw_487 ⟨by show cells + 1 ≤ 600384; omega, by show slots + 6 * 1 ≤ 7290346; omega⟩ (fun H locs hP hD hS => ?_)
  have hP : va_P D vwCl ((w1 ++ [(aw, .inl (cJ, 1, .inr (.inl vo)))]) ++ wm) H := hP
  have hD : va_D (hA9 s) ((w1 ++ [(aw, .inl (cJ, 1, .inr (.inl vo)))]) ++ wm) := hD
  refine lv_istore (lv' := [(5, .int u), (0, .ref b), (1, .ref ax), (2, .ref am), (3, .ref aw), (4, .int i)]) hx hb dLaw_490 hl (by decide) rfl (fun ls hl => ?_)
  refine lv_aload_n hx hb dLaw_492 rfl (lv_at hl 3 rfl) ?_
  refine b_cell F hS (lv_at hl 1 rfl) (lv_at hl 5 rfl) (k9 := 1) (by decide) ⟨dLaw_493, dLaw_494, dLaw_496, dLaw_497, dLaw_498⟩ hi1 ?_
  refine y_VX (As := [.int (cv xs i 1)]) (rest := []) (wc := wm) (wf := w1 ++ [(aw, .inl (cJ, 1, .inr (.inl vo)))]) hCF hM2 (x_cwV 1 hts (inW_15 _ (List.mem_of_getElem? (i := 16) rfl)) (inW_15 _ (List.mem_of_getElem? (i := 17) rfl)) (inW_15 _ (List.mem_of_getElem? (i := 18) rfl)) (inW_9 _ (List.mem_of_getElem? (i := 5) rfl)) (inW_12 _ (List.mem_of_getElem? (i := 18) rfl)) rfl rfl (by decide +kernel) ⟨Nat.le_of_ble_eq_true rfl, Nat.le_of_ble_eq_true rfl⟩) hK (pw_swap hP) (dw_swap hD) hS (fun _ h => h) hY.1 0 hm0 rfl rfl hl.1 rfl (Nat.le_of_ble_eq_true rfl) dLaw_499 ⟨by show cells + 1 ≤ 600384; omega, by show slots + 6 * 1 ≤ 7290346; omega⟩ (fun H locs hP hD hS => ?_)
  refine lv_istore (lv' := [(6, .int x), (5, .int u), (0, .ref b), (1, .ref ax), (2, .ref am), (3, .ref aw), (4, .int i)]) hx hb dLaw_502 hl (by decide) rfl (fun ls hl => ?_)
  refine W.widen (k := cells + 4) (n := slots + 24) (by omega) (by omega) ?_
  exact b_end1 (o := 338) F hL1 hx9 (by simp) (pw_swap hP) (dw_swap hD) hS hl ⟨by omega, by omega⟩ ⟨dLaw_504, dLaw_505, dLaw_508, dLaw_510, dLaw_515, dLaw_517, dLaw_520, dLaw_521, dLaw_522, dLaw_523, dLaw_525, dLaw_526, dLaw_527, dLaw_532, by decide⟩ kk
theorem lc_pack (F : LF p l s m c D cR cI cJ cZ t0 sv b L xs) {th : Int32} {w wm : va_W} {vou : Nat → Int64} (hL : LR cR cI cJ cZ ax ar ao ad am ak an ac ae ag aq th w wm) (hP : va_P D vwCl ((w ++ [(aw, .inl (cJ, 1, .inr (.inl vou)))]) ++ wm) H) (hD : va_D (hA9 s) ((w ++ [(aw, .inl (cJ, 1, .inr (.inl vou)))]) ++ wm)) (hS : va_S (hA9 s) s.heap H locs) (hl : lv_has ls 8 [(0, .ref b), (1, .ref ax), (2, .ref am), (3, .ref aw), (4, .int i)]) (hc : cells ≤ 1000 ∧ slots ≤ 8000) (hi1 : vp_in (i + 1) L) (hi2 : vp_in (i + 2) L) (hi3 : vp_in (i + 3) L) (hi4 : vp_in (i + 4) L) (hi5 : vp_in (i + 5) L)
    (kk : LK p l e s m below meth c Q D cR cI cJ cZ ax ar ao ad am ak an ac ae ag aq aw b (cells + 4) (slots + 24) i) : W p l e room_1 s m #[Value.ref b] below meth c H locs cells slots Q (F0 m 535 ls []) := by
  have F9 := F
  obtain ⟨hl0, hCF, hK, hY, hX, hbl⟩ := F9
  obtain ⟨hx, hb, hml, hown, hts⟩ := id hCF
  obtain ⟨fs, hm0⟩ := lr_m0 hL
  obtain ⟨u, x, vo, w1, wm1, hM1, hM2, hL1, hx9⟩ := st_pack (l := l) (D := D) (t0 := t0) (sv := sv) (aw := aw) (vou := vou) hl0 hL (cv xs i 1) (cv xs i 2)
  refine lv_aload_n hx hb dLaw_535 rfl (lv_at hl 1 rfl) ?_
  refine b_cell F hS (lv_at hl 0 rfl) (lv_at hl 4 rfl) (k9 := 1) (by decide) ⟨dLaw_536, dLaw_537, dLaw_539, dLaw_540, dLaw_541⟩ hi1 ?_
  refine b_cell F hS (lv_at hl 0 rfl) (lv_at hl 4 rfl) (k9 := 2) (by decide) ⟨dLaw_542, dLaw_543, dLaw_545, dLaw_546, dLaw_547⟩ hi2 ?_
  refine lv_aload_n hx hb dLaw_548 rfl (lv_at hl 3 rfl) ?_
  refine y_SW (mk := 2) (As := [.ref ax, .int (cv xs i 1), .int (cv xs i 2), .ref aw]) (rest := []) (wc := w ++ [(aw, .inl (cJ, 1, .inr (.inl vou)))]) (wf := wm) hCF hM1 (y_cwSW 4 hts (inW_15 _ (List.mem_of_getElem? (i := 19) rfl)) (inW_15 _ (List.mem_of_getElem? (i := 20) rfl)) (inW_14 _ (List.mem_of_getElem? (i := 27) rfl)) (inW_13 _ (List.mem_of_getElem? (i := 36) rfl)) rfl rfl (by decide +kernel) ⟨Nat.le_of_ble_eq_true rfl, Nat.le_of_ble_eq_true rfl⟩) hK hP hD hS (fun _ h => h) hY rfl hl.1 rfl (Nat.le_of_ble_eq_true rfl) dLaw_549 ⟨by show cells + 2 ≤ 600384; omega, by show slots + 6 * 2 ≤ 7290346; omega⟩ (fun H locs hP hD hS => ?_)
  have hP : va_P D vwCl ((w1 ++ [(aw, .inl (cJ, 1, .inr (.inl vo)))]) ++ wm) H := hP
  have hD : va_D (hA9 s) ((w1 ++ [(aw, .inl (cJ, 1, .inr (.inl vo)))]) ++ wm) := hD
  refine lv_istore (lv' := [(5, .int u), (0, .ref b), (1, .ref ax), (2, .ref am), (3, .ref aw), (4, .int i)]) hx hb dLaw_552 hl (by decide) rfl (fun ls hl => ?_)
  refine lv_aload_n hx hb dLaw_554 rfl (lv_at hl 3 rfl) ?_
  refine b_cell F hS (lv_at hl 1 rfl) (lv_at hl 5 rfl) (k9 := 1) (by decide) ⟨dLaw_555, dLaw_556, dLaw_558, dLaw_559, dLaw_560⟩ hi1 ?_
  refine b_cell F hS (lv_at hl 1 rfl) (lv_at hl 5 rfl) (k9 := 2) (by decide) ⟨dLaw_561, dLaw_562, dLaw_564, dLaw_565, dLaw_566⟩ hi2 ?_
  refine y_VX (As := [.int (cv xs i 1), .int (cv xs i 2)]) (rest := []) (wc := wm) (wf := w1 ++ [(aw, .inl (cJ, 1, .inr (.inl vo)))]) hCF hM2 (x_cwV 2 hts (inW_15 _ (List.mem_of_getElem? (i := 21) rfl)) (inW_15 _ (List.mem_of_getElem? (i := 22) rfl)) (inW_15 _ (List.mem_of_getElem? (i := 23) rfl)) (inW_9 _ (List.mem_of_getElem? (i := 5) rfl)) (inW_12 _ (List.mem_of_getElem? (i := 29) rfl)) rfl rfl (by decide +kernel) ⟨Nat.le_of_ble_eq_true rfl, Nat.le_of_ble_eq_true rfl⟩) hK (pw_swap hP) (dw_swap hD) hS (fun _ h => h) hY.1 0 hm0 rfl rfl hl.1 rfl (Nat.le_of_ble_eq_true rfl) dLaw_567 ⟨by show cells + 2 ≤ 600384; omega, by show slots + 6 * 2 ≤ 7290346; omega⟩ (fun H locs hP hD hS => ?_)
  refine lv_lstore (lv' := [(6, .long x), (5, .int u), (0, .ref b), (1, .ref ax), (2, .ref am), (3, .ref aw), (4, .int i)]) hx hb dLaw_570 hl (by decide) rfl (fun ls hl => ?_)
  refine W.widen (k := cells + 4) (n := slots + 24) (by omega) (by omega) ?_
  exact b_end2 (o := 271) F hL1 hx9 (by simp) (pw_swap hP) (dw_swap hD) hS hl ⟨by omega, by omega⟩ ⟨dLaw_572, dLaw_573, dLaw_576, dLaw_578, dLaw_583, dLaw_585, dLaw_588, dLaw_589, dLaw_590, dLaw_591, dLaw_593, dLaw_594, dLaw_599, by decide⟩ kk
theorem lc_sum (F : LF p l s m c D cR cI cJ cZ t0 sv b L xs) {th : Int32} {w wm : va_W} {vou : Nat → Int64} (hL : LR cR cI cJ cZ ax ar ao ad am ak an ac ae ag aq th w wm) (hP : va_P D vwCl ((w ++ [(aw, .inl (cJ, 1, .inr (.inl vou)))]) ++ wm) H) (hD : va_D (hA9 s) ((w ++ [(aw, .inl (cJ, 1, .inr (.inl vou)))]) ++ wm)) (hS : va_S (hA9 s) s.heap H locs) (hl : lv_has ls 8 [(0, .ref b), (1, .ref ax), (2, .ref am), (3, .ref aw), (4, .int i)]) (hc : cells ≤ 1000 ∧ slots ≤ 8000) (hi1 : vp_in (i + 1) L) (hi2 : vp_in (i + 2) L) (hi3 : vp_in (i + 3) L) (hi4 : vp_in (i + 4) L) (hi5 : vp_in (i + 5) L)
    (kk : LK p l e s m below meth c Q D cR cI cJ cZ ax ar ao ad am ak an ac ae ag aq aw b (cells + 4) (slots + 24) i) : W p l e room_1 s m #[Value.ref b] below meth c H locs cells slots Q (F0 m 790 ls []) := by
  have F9 := F
  obtain ⟨hl0, hCF, hK, hY, hX, hbl⟩ := F9
  obtain ⟨hx, hb, hml, hown, hts⟩ := id hCF
  obtain ⟨fs, hm0⟩ := lr_m0 hL
  obtain ⟨u, x, vo, w1, wm1, hM1, hM2, hL1, hx9⟩ := st_sum (l := l) (D := D) (t0 := t0) (sv := sv) (aw := aw) (vou := vou) hl0 hL (cv xs i 1) (cv xs i 2) (cv xs i 3)
  refine lv_aload_n hx hb dLaw_790 rfl (lv_at hl 1 rfl) ?_
  refine b_cell F hS (lv_at hl 0 rfl) (lv_at hl 4 rfl) (k9 := 1) (by decide) ⟨dLaw_791, dLaw_792, dLaw_794, dLaw_795, dLaw_796⟩ hi1 ?_
  refine b_cell F hS (lv_at hl 0 rfl) (lv_at hl 4 rfl) (k9 := 2) (by decide) ⟨dLaw_797, dLaw_798, dLaw_800, dLaw_801, dLaw_802⟩ hi2 ?_
  refine b_cell F hS (lv_at hl 0 rfl) (lv_at hl 4 rfl) (k9 := 3) (by decide) ⟨dLaw_803, dLaw_804, dLaw_806, dLaw_807, dLaw_808⟩ hi3 ?_
  refine lv_aload_n hx hb dLaw_809 rfl (lv_at hl 3 rfl) ?_
  refine y_SW (mk := 3) (As := [.ref ax, .int (cv xs i 1), .int (cv xs i 2), .int (cv xs i 3), .ref aw]) (rest := []) (wc := w ++ [(aw, .inl (cJ, 1, .inr (.inl vou)))]) (wf := wm) hCF hM1 (y_cwSW 5 hts (inW_16 _ (List.mem_of_getElem? (i := 11) rfl)) (inW_16 _ (List.mem_of_getElem? (i := 12) rfl)) (inW_14 _ (List.mem_of_getElem? (i := 27) rfl)) (inW_14 _ (List.mem_of_getElem? (i := 12) rfl)) rfl rfl (by decide +kernel) ⟨Nat.le_of_ble_eq_true rfl, Nat.le_of_ble_eq_true rfl⟩) hK hP hD hS (fun _ h => h) hY rfl hl.1 rfl (Nat.le_of_ble_eq_true rfl) dLaw_810 ⟨by show cells + 3 ≤ 600384; omega, by show slots + 6 * 3 ≤ 7290346; omega⟩ (fun H locs hP hD hS => ?_)
  have hP : va_P D vwCl ((w1 ++ [(aw, .inl (cJ, 1, .inr (.inl vo)))]) ++ wm) H := hP
  have hD : va_D (hA9 s) ((w1 ++ [(aw, .inl (cJ, 1, .inr (.inl vo)))]) ++ wm) := hD
  refine lv_istore (lv' := [(5, .int u), (0, .ref b), (1, .ref ax), (2, .ref am), (3, .ref aw), (4, .int i)]) hx hb dLaw_813 hl (by decide) rfl (fun ls hl => ?_)
  refine lv_aload_n hx hb dLaw_815 rfl (lv_at hl 3 rfl) ?_
  refine b_cell F hS (lv_at hl 1 rfl) (lv_at hl 5 rfl) (k9 := 1) (by decide) ⟨dLaw_816, dLaw_817, dLaw_819, dLaw_820, dLaw_821⟩ hi1 ?_
  refine b_cell F hS (lv_at hl 1 rfl) (lv_at hl 5 rfl) (k9 := 2) (by decide) ⟨dLaw_822, dLaw_823, dLaw_825, dLaw_826, dLaw_827⟩ hi2 ?_
  refine b_cell F hS (lv_at hl 1 rfl) (lv_at hl 5 rfl) (k9 := 3) (by decide) ⟨dLaw_828, dLaw_829, dLaw_831, dLaw_832, dLaw_833⟩ hi3 ?_
  refine y_VX (As := [.int (cv xs i 1), .int (cv xs i 2), .int (cv xs i 3)]) (rest := []) (wc := wm) (wf := w1 ++ [(aw, .inl (cJ, 1, .inr (.inl vo)))]) hCF hM2 (x_cwV 3 hts (inW_16 _ (List.mem_of_getElem? (i := 13) rfl)) (inW_16 _ (List.mem_of_getElem? (i := 14) rfl)) (inW_16 _ (List.mem_of_getElem? (i := 15) rfl)) (inW_9 _ (List.mem_of_getElem? (i := 5) rfl)) (inW_12 _ (List.mem_of_getElem? (i := 13) rfl)) rfl rfl (by decide +kernel) ⟨Nat.le_of_ble_eq_true rfl, Nat.le_of_ble_eq_true rfl⟩) hK (pw_swap hP) (dw_swap hD) hS (fun _ h => h) hY.1 0 hm0 rfl rfl hl.1 rfl (Nat.le_of_ble_eq_true rfl) dLaw_834 ⟨by show cells + 3 ≤ 600384; omega, by show slots + 6 * 3 ≤ 7290346; omega⟩ (fun H locs hP hD hS => ?_)
  refine lv_istore (lv' := [(6, .int x), (5, .int u), (0, .ref b), (1, .ref ax), (2, .ref am), (3, .ref aw), (4, .int i)]) hx hb dLaw_837 hl (by decide) rfl (fun ls hl => ?_)
  refine W.widen (k := cells + 4) (n := slots + 24) (by omega) (by omega) ?_
  exact b_end1 (o := 3) F hL1 hx9 (by simp) (pw_swap hP) (dw_swap hD) hS hl ⟨by omega, by omega⟩ ⟨dLaw_839, dLaw_840, dLaw_843, dLaw_845, dLaw_850, dLaw_852, dLaw_855, dLaw_856, dLaw_857, dLaw_858, dLaw_860, dLaw_861, dLaw_862, dLaw_867, by decide⟩ kk
end LC2
