/-! ===== the law: calls without an answer ===== -/
section LC1
variable {p : Program} {l : Launch} {e : Env} {s : State} {m : MethodId} {below : List Frame} {meth : Method} {c : Code} {Q : State → Prop}
variable {D : va_G} {cR cI cJ cZ : ClassId} {ax ar ao : Nat} {ad : Nat → Nat} {am ak an ac ae ag aq : Nat} {aw t0 : Nat} {sv : Nat → Nat} {b L : Nat} {xs : Nat → Int32}
variable {H : Heap} {locs : List Loc} {cells slots : Nat} {ls : Array Slot} {i : Int32}
theorem lc_put (F : LF p l s m c D cR cI cJ cZ t0 sv b L xs) {th : Int32} {w wm : va_W} {vou : Nat → Int64} (hL : LR cR cI cJ cZ ax ar ao ad am ak an ac ae ag aq th w wm) (hP : va_P D vwCl ((w ++ [(aw, .inl (cJ, 1, .inr (.inl vou)))]) ++ wm) H) (hD : va_D (hA9 s) ((w ++ [(aw, .inl (cJ, 1, .inr (.inl vou)))]) ++ wm)) (hS : va_S (hA9 s) s.heap H locs) (hl : lv_has ls 8 [(0, .ref b), (1, .ref ax), (2, .ref am), (3, .ref aw), (4, .int i)]) (hc : cells ≤ 1000 ∧ slots ≤ 8000) (hi1 : vp_in (i + 1) L) (hi2 : vp_in (i + 2) L) (hi3 : vp_in (i + 3) L) (hi4 : vp_in (i + 4) L) (hi5 : vp_in (i + 5) L)
    (kk : LK p l e s m below meth c Q D cR cI cJ cZ ax ar ao ad am ak an ac ae ag aq aw b (cells + 4) (slots + 24) i) : W p l e room_1 s m #[Value.ref b] below meth c H locs cells slots Q (F0 m 108 ls []) := by
  have F9 := F
  obtain ⟨hl0, hCF, hK, hY, hX, hbl⟩ := F9
  obtain ⟨hx, hb, hml, hown, hts⟩ := id hCF
  obtain ⟨fs, hm0⟩ := lr_m0 hL
  obtain ⟨u, w1, wm1, hM1, hM2, hL1⟩ := st_put (l := l) (D := D) (t0 := t0) (sv := sv) hl0 hL (cv xs i 1) (decide (¬ cv xs i 2 = 0)) (lgL xs i) (cv xs i 5)
  refine lv_aload_n hx hb dLaw_108 rfl (lv_at hl 1 rfl) ?_
  refine b_cell F hS (lv_at hl 0 rfl) (lv_at hl 4 rfl) (k9 := 1) (by decide) ⟨dLaw_109, dLaw_110, dLaw_112, dLaw_113, dLaw_114⟩ hi1 ?_
  refine b_bool F hS (lv_at hl 0 rfl) (lv_at hl 4 rfl) ⟨⟨dLaw_115, dLaw_116, dLaw_118, dLaw_119, dLaw_120⟩, dLaw_121, dLaw_124, dLaw_125, dLaw_128⟩ hi2 ?_
  refine b_long F hS (lv_at hl 0 rfl) (lv_at hl 4 rfl) ⟨⟨dLaw_129, dLaw_130, dLaw_132, dLaw_133, dLaw_134⟩, dLaw_135, dLaw_136, dLaw_138, ⟨dLaw_139, dLaw_140, dLaw_142, dLaw_143, dLaw_144⟩, dLaw_145, dLaw_146, dLaw_149, dLaw_150⟩ hi3 hi4 ?_
  refine b_cell F hS (lv_at hl 0 rfl) (lv_at hl 4 rfl) (k9 := 5) (by decide) ⟨dLaw_151, dLaw_152, dLaw_154, dLaw_155, dLaw_156⟩ hi5 ?_
  refine y_SW (mk := 2) (As := [.ref ax, .int (cv xs i 1), .int (bI (decide (¬ cv xs i 2 = 0))), .long (lgL xs i), .int (cv xs i 5)]) (rest := []) (wc := w) (wf := [(aw, .inl (cJ, 1, .inr (.inl vou)))] ++ wm) hCF hM1 (y_cwSW 5 hts (inW_14 _ (List.mem_of_getElem? (i := 25) rfl)) (inW_14 _ (List.mem_of_getElem? (i := 26) rfl)) (inW_14 _ (List.mem_of_getElem? (i := 27) rfl)) (inW_13 _ (List.mem_of_getElem? (i := 9) rfl)) rfl rfl (by decide +kernel) ⟨Nat.le_of_ble_eq_true rfl, Nat.le_of_ble_eq_true rfl⟩) hK (by rw [← List.append_assoc]; exact hP) (by rw [← List.append_assoc]; exact hD) hS (fun _ h => h) hY rfl hl.1 rfl (Nat.le_of_ble_eq_true rfl) dLaw_157 ⟨by show cells + 2 ≤ 600384; omega, by show slots + 6 * 2 ≤ 7290346; omega⟩ (fun H locs hP hD hS => ?_)
  have hP : va_P D vwCl ((w1 ++ [(aw, .inl (cJ, 1, .inr (.inl vou)))]) ++ wm) H := by rw [List.append_assoc]; exact hP
  have hD : va_D (hA9 s) ((w1 ++ [(aw, .inl (cJ, 1, .inr (.inl vou)))]) ++ wm) := by rw [List.append_assoc]; exact hD
  refine lv_istore (lv' := [(5, .int u), (0, .ref b), (1, .ref ax), (2, .ref am), (3, .ref aw), (4, .int i)]) hx hb dLaw_160 hl (by decide) rfl (fun ls hl => ?_)
  refine lv_aload_n hx hb dLaw_162 rfl (lv_at hl 3 rfl) ?_
  refine b_cell F hS (lv_at hl 1 rfl) (lv_at hl 5 rfl) (k9 := 1) (by decide) ⟨dLaw_163, dLaw_164, dLaw_166, dLaw_167, dLaw_168⟩ hi1 ?_
  refine b_bool F hS (lv_at hl 1 rfl) (lv_at hl 5 rfl) ⟨⟨dLaw_169, dLaw_170, dLaw_172, dLaw_173, dLaw_174⟩, dLaw_175, dLaw_178, dLaw_179, dLaw_182⟩ hi2 ?_
  refine b_long F hS (lv_at hl 1 rfl) (lv_at hl 5 rfl) ⟨⟨dLaw_183, dLaw_184, dLaw_186, dLaw_187, dLaw_188⟩, dLaw_189, dLaw_190, dLaw_192, ⟨dLaw_193, dLaw_194, dLaw_196, dLaw_197, dLaw_198⟩, dLaw_199, dLaw_200, dLaw_203, dLaw_204⟩ hi3 hi4 ?_
  refine b_cell F hS (lv_at hl 1 rfl) (lv_at hl 5 rfl) (k9 := 5) (by decide) ⟨dLaw_205, dLaw_206, dLaw_208, dLaw_209, dLaw_210⟩ hi5 ?_
  refine y_VX (As := [.int (cv xs i 1), .int (bI (decide (¬ cv xs i 2 = 0))), .long (lgL xs i), .int (cv xs i 5)]) (rest := []) (wc := wm) (wf := w1 ++ [(aw, .inl (cJ, 1, .inr (.inl vou)))]) hCF hM2 (x_cwV 4 hts (inW_14 _ (List.mem_of_getElem? (i := 28) rfl)) (inW_14 _ (List.mem_of_getElem? (i := 29) rfl)) (inW_14 _ (List.mem_of_getElem? (i := 30) rfl)) (inW_9 _ (List.mem_of_getElem? (i := 5) rfl)) (inW_12 _ (List.mem_of_getElem? (i := 14) rfl)) rfl rfl (by decide +kernel) ⟨Nat.le_of_ble_eq_true rfl, Nat.le_of_ble_eq_true rfl⟩) hK (pw_swap hP) (dw_swap hD) hS (fun _ h => h) hY.1 0 hm0 rfl rfl hl.1 rfl (Nat.le_of_ble_eq_true rfl) dLaw_211 ⟨by show cells + 2 ≤ 600384; omega, by show slots + 6 * 2 ≤ 7290346; omega⟩ (fun H locs hP hD hS => ?_)
  refine W.widen (k := cells + 4) (n := slots + 24) (by omega) (by omega) ?_
  exact b_end0 (o := 645) F hL1 (pw_swap hP) (dw_swap hD) hS hl ⟨by omega, by omega⟩ ⟨dLaw_214, dLaw_215, dLaw_218, dLaw_220, dLaw_225, by decide⟩ kk
theorem lc_apply (F : LF p l s m c D cR cI cJ cZ t0 sv b L xs) {th : Int32} {w wm : va_W} {vou : Nat → Int64} (hL : LR cR cI cJ cZ ax ar ao ad am ak an ac ae ag aq th w wm) (hP : va_P D vwCl ((w ++ [(aw, .inl (cJ, 1, .inr (.inl vou)))]) ++ wm) H) (hD : va_D (hA9 s) ((w ++ [(aw, .inl (cJ, 1, .inr (.inl vou)))]) ++ wm)) (hS : va_S (hA9 s) s.heap H locs) (hl : lv_has ls 8 [(0, .ref b), (1, .ref ax), (2, .ref am), (3, .ref aw), (4, .int i)]) (hc : cells ≤ 1000 ∧ slots ≤ 8000) (hi1 : vp_in (i + 1) L) (hi2 : vp_in (i + 2) L) (hi3 : vp_in (i + 3) L) (hi4 : vp_in (i + 4) L) (hi5 : vp_in (i + 5) L)
    (kk : LK p l e s m below meth c Q D cR cI cJ cZ ax ar ao ad am ak an ac ae ag aq aw b (cells + 4) (slots + 24) i) : W p l e room_1 s m #[Value.ref b] below meth c H locs cells slots Q (F0 m 228 ls []) := by
  have F9 := F
  obtain ⟨hl0, hCF, hK, hY, hX, hbl⟩ := F9
  obtain ⟨hx, hb, hml, hown, hts⟩ := id hCF
  obtain ⟨fs, hm0⟩ := lr_m0 hL
  obtain ⟨u, w1, wm1, hM1, hM2, hL1⟩ := st_apply (l := l) (D := D) (t0 := t0) (sv := sv) hl0 hL (cv xs i 1) (cv xs i 2) (cv xs i 3) (cv xs i 4)
  refine lv_aload_n hx hb dLaw_228 rfl (lv_at hl 1 rfl) ?_
  refine b_cell F hS (lv_at hl 0 rfl) (lv_at hl 4 rfl) (k9 := 1) (by decide) ⟨dLaw_229, dLaw_230, dLaw_232, dLaw_233, dLaw_234⟩ hi1 ?_
  refine b_cell F hS (lv_at hl 0 rfl) (lv_at hl 4 rfl) (k9 := 2) (by decide) ⟨dLaw_235, dLaw_236, dLaw_238, dLaw_239, dLaw_240⟩ hi2 ?_
  refine b_cell F hS (lv_at hl 0 rfl) (lv_at hl 4 rfl) (k9 := 3) (by decide) ⟨dLaw_241, dLaw_242, dLaw_244, dLaw_245, dLaw_246⟩ hi3 ?_
  refine b_cell F hS (lv_at hl 0 rfl) (lv_at hl 4 rfl) (k9 := 4) (by decide) ⟨dLaw_247, dLaw_248, dLaw_250, dLaw_251, dLaw_252⟩ hi4 ?_
  refine y_SW (mk := 4) (As := [.ref ax, .int (cv xs i 1), .int (cv xs i 2), .int (cv xs i 3), .int (cv xs i 4)]) (rest := []) (wc := w) (wf := [(aw, .inl (cJ, 1, .inr (.inl vou)))] ++ wm) hCF hM1 (y_cwSW 5 hts (inW_14 _ (List.mem_of_getElem? (i := 34) rfl)) (inW_14 _ (List.mem_of_getElem? (i := 35) rfl)) (inW_14 _ (List.mem_of_getElem? (i := 27) rfl)) (inW_13 _ (List.mem_of_getElem? (i := 15) rfl)) rfl rfl (by decide +kernel) ⟨Nat.le_of_ble_eq_true rfl, Nat.le_of_ble_eq_true rfl⟩) hK (by rw [← List.append_assoc]; exact hP) (by rw [← List.append_assoc]; exact hD) hS (fun _ h => h) hY rfl hl.1 rfl (Nat.le_of_ble_eq_true rfl) dLaw_253 ⟨by show cells + 4 ≤ 600384; omega, by show slots + 6 * 4 ≤ 7290346; omega⟩ (fun H locs hP hD hS => ?_)
  have hP : va_P D vwCl ((w1 ++ [(aw, .inl (cJ, 1, .inr (.inl vou)))]) ++ wm) H := by rw [List.append_assoc]; exact hP
  have hD : va_D (hA9 s) ((w1 ++ [(aw, .inl (cJ, 1, .inr (.inl vou)))]) ++ wm) := by rw [List.append_assoc]; exact hD
  refine lv_istore (lv' := [(5, .int u), (0, .ref b), (1, .ref ax), (2, .ref am), (3, .ref aw), (4, .int i)]) hx hb dLaw_256 hl (by decide) rfl (fun ls hl => ?_)
  refine lv_aload_n hx hb dLaw_258 rfl (lv_at hl 3 rfl) ?_
  refine b_cell F hS (lv_at hl 1 rfl) (lv_at hl 5 rfl) (k9 := 1) (by decide) ⟨dLaw_259, dLaw_260, dLaw_262, dLaw_263, dLaw_264⟩ hi1 ?_
  refine b_cell F hS (lv_at hl 1 rfl) (lv_at hl 5 rfl) (k9 := 2) (by decide) ⟨dLaw_265, dLaw_266, dLaw_268, dLaw_269, dLaw_270⟩ hi2 ?_
  refine b_cell F hS (lv_at hl 1 rfl) (lv_at hl 5 rfl) (k9 := 3) (by decide) ⟨dLaw_271, dLaw_272, dLaw_274, dLaw_275, dLaw_276⟩ hi3 ?_
  refine b_cell F hS (lv_at hl 1 rfl) (lv_at hl 5 rfl) (k9 := 4) (by decide) ⟨dLaw_277, dLaw_278, dLaw_280, dLaw_281, dLaw_282⟩ hi4 ?_
  refine y_VX (As := [.int (cv xs i 1), .int (cv xs i 2), .int (cv xs i 3), .int (cv xs i 4)]) (rest := []) (wc := wm) (wf := w1 ++ [(aw, .inl (cJ, 1, .inr (.inl vou)))]) hCF hM2 (x_cwV 4 hts (inW_14 _ (List.mem_of_getElem? (i := 36) rfl)) (inW_14 _ (List.mem_of_getElem? (i := 37) rfl)) (inW_14 _ (List.mem_of_getElem? (i := 38) rfl)) (inW_9 _ (List.mem_of_getElem? (i := 5) rfl)) (inW_12 _ (List.mem_of_getElem? (i := 1) rfl)) rfl rfl (by decide +kernel) ⟨Nat.le_of_ble_eq_true rfl, Nat.le_of_ble_eq_true rfl⟩) hK (pw_swap hP) (dw_swap hD) hS (fun _ h => h) hY.1 0 hm0 rfl rfl hl.1 rfl (Nat.le_of_ble_eq_true rfl) dLaw_283 ⟨by show cells + 4 ≤ 600384; omega, by show slots + 6 * 4 ≤ 7290346; omega⟩ (fun H locs hP hD hS => ?_)
  refine W.widen (k := cells + 4) (n := slots + 24) (by omega) (by omega) ?_
  exact b_end0 (o := 573) F hL1 (pw_swap hP) (dw_swap hD) hS hl ⟨by omega, by omega⟩ ⟨dLaw_286, dLaw_287, dLaw_290, dLaw_292, dLaw_297, by decide⟩ kk
theorem lc_unpack (F : LF p l s m c D cR cI cJ cZ t0 sv b L xs) {th : Int32} {w wm : va_W} {vou : Nat → Int64} (hL : LR cR cI cJ cZ ax ar ao ad am ak an ac ae ag aq th w wm) (hP : va_P D vwCl ((w ++ [(aw, .inl (cJ, 1, .inr (.inl vou)))]) ++ wm) H) (hD : va_D (hA9 s) ((w ++ [(aw, .inl (cJ, 1, .inr (.inl vou)))]) ++ wm)) (hS : va_S (hA9 s) s.heap H locs) (hl : lv_has ls 8 [(0, .ref b), (1, .ref ax), (2, .ref am), (3, .ref aw), (4, .int i)]) (hc : cells ≤ 1000 ∧ slots ≤ 8000) (hi1 : vp_in (i + 1) L) (hi2 : vp_in (i + 2) L) (hi3 : vp_in (i + 3) L) (hi4 : vp_in (i + 4) L) (hi5 : vp_in (i + 5) L)
    (kk : LK p l e s m below meth c Q D cR cI cJ cZ ax ar ao ad am ak an ac ae ag aq aw b (cells + 4) (slots + 24) i) : W p l e room_1 s m #[Value.ref b] below meth c H locs cells slots Q (F0 m 602 ls []) := by
  have F9 := F
  obtain ⟨hl0, hCF, hK, hY, hX, hbl⟩ := F9
  obtain ⟨hx, hb, hml, hown, hts⟩ := id hCF
  obtain ⟨fs, hm0⟩ := lr_m0 hL
  obtain ⟨u, w1, wm1, hM1, hM2, hL1⟩ := st_unpack (l := l) (D := D) (t0 := t0) (sv := sv) hl0 hL (cv xs i 1) (cv xs i 2) (lgL xs i)
  refine lv_aload_n hx hb dLaw_602 rfl (lv_at hl 1 rfl) ?_
  refine b_cell F hS (lv_at hl 0 rfl) (lv_at hl 4 rfl) (k9 := 1) (by decide) ⟨dLaw_603, dLaw_604, dLaw_606, dLaw_607, dLaw_608⟩ hi1 ?_
  refine b_cell F hS (lv_at hl 0 rfl) (lv_at hl 4 rfl) (k9 := 2) (by decide) ⟨dLaw_609, dLaw_610, dLaw_612, dLaw_613, dLaw_614⟩ hi2 ?_
  refine b_long F hS (lv_at hl 0 rfl) (lv_at hl 4 rfl) ⟨⟨dLaw_615, dLaw_616, dLaw_618, dLaw_619, dLaw_620⟩, dLaw_621, dLaw_622, dLaw_624, ⟨dLaw_625, dLaw_626, dLaw_628, dLaw_629, dLaw_630⟩, dLaw_631, dLaw_632, dLaw_635, dLaw_636⟩ hi3 hi4 ?_
  refine y_SW (mk := 2) (As := [.ref ax, .int (cv xs i 1), .int (cv xs i 2), .long (lgL xs i)]) (rest := []) (wc := w) (wf := [(aw, .inl (cJ, 1, .inr (.inl vou)))] ++ wm) hCF hM1 (y_cwSW 4 hts (inW_15 _ (List.mem_of_getElem? (i := 24) rfl)) (inW_15 _ (List.mem_of_getElem? (i := 25) rfl)) (inW_14 _ (List.mem_of_getElem? (i := 27) rfl)) (inW_14 _ (List.mem_of_getElem? (i := 0) rfl)) rfl rfl (by decide +kernel) ⟨Nat.le_of_ble_eq_true rfl, Nat.le_of_ble_eq_true rfl⟩) hK (by rw [← List.append_assoc]; exact hP) (by rw [← List.append_assoc]; exact hD) hS (fun _ h => h) hY rfl hl.1 rfl (Nat.le_of_ble_eq_true rfl) dLaw_637 ⟨by show cells + 2 ≤ 600384; omega, by show slots + 6 * 2 ≤ 7290346; omega⟩ (fun H locs hP hD hS => ?_)
  have hP : va_P D vwCl ((w1 ++ [(aw, .inl (cJ, 1, .inr (.inl vou)))]) ++ wm) H := by rw [List.append_assoc]; exact hP
  have hD : va_D (hA9 s) ((w1 ++ [(aw, .inl (cJ, 1, .inr (.inl vou)))]) ++ wm) := by rw [List.append_assoc]; exact hD
  refine lv_istore (lv' := [(5, .int u), (0, .ref b), (1, .ref ax), (2, .ref am), (3, .ref aw), (4, .int i)]) hx hb dLaw_640 hl (by decide) rfl (fun ls hl => ?_)
  refine lv_aload_n hx hb dLaw_642 rfl (lv_at hl 3 rfl) ?_
  refine b_cell F hS (lv_at hl 1 rfl) (lv_at hl 5 rfl) (k9 := 1) (by decide) ⟨dLaw_643, dLaw_644, dLaw_646, dLaw_647, dLaw_648⟩ hi1 ?_
  refine b_cell F hS (lv_at hl 1 rfl) (lv_at hl 5 rfl) (k9 := 2) (by decide) ⟨dLaw_649, dLaw_650, dLaw_652, dLaw_653, dLaw_654⟩ hi2 ?_
  refine b_long F hS (lv_at hl 1 rfl) (lv_at hl 5 rfl) ⟨⟨dLaw_655, dLaw_656, dLaw_658, dLaw_659, dLaw_660⟩, dLaw_661, dLaw_662, dLaw_664, ⟨dLaw_665, dLaw_666, dLaw_668, dLaw_669, dLaw_670⟩, dLaw_671, dLaw_672, dLaw_675, dLaw_676⟩ hi3 hi4 ?_
  refine y_VX (As := [.int (cv xs i 1), .int (cv xs i 2), .long (lgL xs i)]) (rest := []) (wc := wm) (wf := w1 ++ [(aw, .inl (cJ, 1, .inr (.inl vou)))]) hCF hM2 (x_cwV 3 hts (inW_15 _ (List.mem_of_getElem? (i := 26) rfl)) (inW_15 _ (List.mem_of_getElem? (i := 27) rfl)) (inW_15 _ (List.mem_of_getElem? (i := 28) rfl)) (inW_9 _ (List.mem_of_getElem? (i := 5) rfl)) (inW_12 _ (List.mem_of_getElem? (i := 37) rfl)) rfl rfl (by decide +kernel) ⟨Nat.le_of_ble_eq_true rfl, Nat.le_of_ble_eq_true rfl⟩) hK (pw_swap hP) (dw_swap hD) hS (fun _ h => h) hY.1 0 hm0 rfl rfl hl.1 rfl (Nat.le_of_ble_eq_true rfl) dLaw_677 ⟨by show cells + 2 ≤ 600384; omega, by show slots + 6 * 2 ≤ 7290346; omega⟩ (fun H locs hP hD hS => ?_)
  refine W.widen (k := cells + 4) (n := slots + 24) (by omega) (by omega) ?_
  exact b_end0 (o := 179) F hL1 (pw_swap hP) (dw_swap hD) hS hl ⟨by omega, by omega⟩ ⟨dLaw_680, dLaw_681, dLaw_684, dLaw_686, dLaw_691, by decide⟩ kk
theorem lc_mode (F : LF p l s m c D cR cI cJ cZ t0 sv b L xs) {th : Int32} {w wm : va_W} {vou : Nat → Int64} (hL : LR cR cI cJ cZ ax ar ao ad am ak an ac ae ag aq th w wm) (hP : va_P D vwCl ((w ++ [(aw, .inl (cJ, 1, .inr (.inl vou)))]) ++ wm) H) (hD : va_D (hA9 s) ((w ++ [(aw, .inl (cJ, 1, .inr (.inl vou)))]) ++ wm)) (hS : va_S (hA9 s) s.heap H locs) (hl : lv_has ls 8 [(0, .ref b), (1, .ref ax), (2, .ref am), (3, .ref aw), (4, .int i)]) (hc : cells ≤ 1000 ∧ slots ≤ 8000) (hi1 : vp_in (i + 1) L) (hi2 : vp_in (i + 2) L) (hi3 : vp_in (i + 3) L) (hi4 : vp_in (i + 4) L) (hi5 : vp_in (i + 5) L)
    (kk : LK p l e s m below meth c Q D cR cI cJ cZ ax ar ao ad am ak an ac ae ag aq aw b (cells + 4) (slots + 24) i) : W p l e room_1 s m #[Value.ref b] below meth c H locs cells slots Q (F0 m 694 ls []) := by
  have F9 := F
  obtain ⟨hl0, hCF, hK, hY, hX, hbl⟩ := F9
  obtain ⟨hx, hb, hml, hown, hts⟩ := id hCF
  obtain ⟨fs, hm0⟩ := lr_m0 hL
  obtain ⟨u, w1, wm1, hM1, hM2, hL1⟩ := st_mode (l := l) (D := D) (t0 := t0) (sv := sv) hl0 hL (cv xs i 1)
  refine lv_aload_n hx hb dLaw_694 rfl (lv_at hl 1 rfl) ?_
  refine b_cell F hS (lv_at hl 0 rfl) (lv_at hl 4 rfl) (k9 := 1) (by decide) ⟨dLaw_695, dLaw_696, dLaw_698, dLaw_699, dLaw_700⟩ hi1 ?_
  refine y_SW (mk := 1) (As := [.ref ax, .int (cv xs i 1)]) (rest := []) (wc := w) (wf := [(aw, .inl (cJ, 1, .inr (.inl vou)))] ++ wm) hCF hM1 (y_cwSW 2 hts (inW_15 _ (List.mem_of_getElem? (i := 29) rfl)) (inW_15 _ (List.mem_of_getElem? (i := 30) rfl)) (inW_14 _ (List.mem_of_getElem? (i := 27) rfl)) (inW_14 _ (List.mem_of_getElem? (i := 4) rfl)) rfl rfl (by decide +kernel) ⟨Nat.le_of_ble_eq_true rfl, Nat.le_of_ble_eq_true rfl⟩) hK (by rw [← List.append_assoc]; exact hP) (by rw [← List.append_assoc]; exact hD) hS (fun _ h => h) hY rfl hl.1 rfl (Nat.le_of_ble_eq_true rfl) dLaw_701 ⟨by show cells + 1 ≤ 600384; omega, by show slots + 6 * 1 ≤ 7290346; omega⟩ (fun H locs hP hD hS => ?_)
  have hP : va_P D vwCl ((w1 ++ [(aw, .inl (cJ, 1, .inr (.inl vou)))]) ++ wm) H := by rw [List.append_assoc]; exact hP
  have hD : va_D (hA9 s) ((w1 ++ [(aw, .inl (cJ, 1, .inr (.inl vou)))]) ++ wm) := by rw [List.append_assoc]; exact hD
  refine lv_istore (lv' := [(5, .int u), (0, .ref b), (1, .ref ax), (2, .ref am), (3, .ref aw), (4, .int i)]) hx hb dLaw_704 hl (by decide) rfl (fun ls hl => ?_)
  refine lv_aload_n hx hb dLaw_706 rfl (lv_at hl 3 rfl) ?_
  refine b_cell F hS (lv_at hl 1 rfl) (lv_at hl 5 rfl) (k9 := 1) (by decide) ⟨dLaw_707, dLaw_708, dLaw_710, dLaw_711, dLaw_712⟩ hi1 ?_
  refine y_VX (As := [.int (cv xs i 1)]) (rest := []) (wc := wm) (wf := w1 ++ [(aw, .inl (cJ, 1, .inr (.inl vou)))]) hCF hM2 (x_cwV 1 hts (inW_15 _ (List.mem_of_getElem? (i := 31) rfl)) (inW_15 _ (List.mem_of_getElem? (i := 32) rfl)) (inW_15 _ (List.mem_of_getElem? (i := 33) rfl)) (inW_9 _ (List.mem_of_getElem? (i := 5) rfl)) (inW_13 _ (List.mem_of_getElem? (i := 5) rfl)) rfl rfl (by decide +kernel) ⟨Nat.le_of_ble_eq_true rfl, Nat.le_of_ble_eq_true rfl⟩) hK (pw_swap hP) (dw_swap hD) hS (fun _ h => h) hY.1 0 hm0 rfl rfl hl.1 rfl (Nat.le_of_ble_eq_true rfl) dLaw_713 ⟨by show cells + 1 ≤ 600384; omega, by show slots + 6 * 1 ≤ 7290346; omega⟩ (fun H locs hP hD hS => ?_)
  refine W.widen (k := cells + 4) (n := slots + 24) (by omega) (by omega) ?_
  exact b_end0 (o := 143) F hL1 (pw_swap hP) (dw_swap hD) hS hl ⟨by omega, by omega⟩ ⟨dLaw_716, dLaw_717, dLaw_720, dLaw_722, dLaw_727, by decide⟩ kk
theorem lc_trap (F : LF p l s m c D cR cI cJ cZ t0 sv b L xs) {th : Int32} {w wm : va_W} {vou : Nat → Int64} (hL : LR cR cI cJ cZ ax ar ao ad am ak an ac ae ag aq th w wm) (hP : va_P D vwCl ((w ++ [(aw, .inl (cJ, 1, .inr (.inl vou)))]) ++ wm) H) (hD : va_D (hA9 s) ((w ++ [(aw, .inl (cJ, 1, .inr (.inl vou)))]) ++ wm)) (hS : va_S (hA9 s) s.heap H locs) (hl : lv_has ls 8 [(0, .ref b), (1, .ref ax), (2, .ref am), (3, .ref aw), (4, .int i)]) (hc : cells ≤ 1000 ∧ slots ≤ 8000) (hi1 : vp_in (i + 1) L) (hi2 : vp_in (i + 2) L) (hi3 : vp_in (i + 3) L) (hi4 : vp_in (i + 4) L) (hi5 : vp_in (i + 5) L)
    (kk : LK p l e s m below meth c Q D cR cI cJ cZ ax ar ao ad am ak an ac ae ag aq aw b (cells + 4) (slots + 24) i) : W p l e room_1 s m #[Value.ref b] below meth c H locs cells slots Q (F0 m 730 ls []) := by
  have F9 := F
  obtain ⟨hl0, hCF, hK, hY, hX, hbl⟩ := F9
  obtain ⟨hx, hb, hml, hown, hts⟩ := id hCF
  obtain ⟨fs, hm0⟩ := lr_m0 hL
  obtain ⟨u, w1, wm1, hM1, hM2, hL1⟩ := st_trap (l := l) (D := D) (t0 := t0) (sv := sv) hl0 hL (cv xs i 1)
  refine lv_aload_n hx hb dLaw_730 rfl (lv_at hl 1 rfl) ?_
  refine b_cell F hS (lv_at hl 0 rfl) (lv_at hl 4 rfl) (k9 := 1) (by decide) ⟨dLaw_731, dLaw_732, dLaw_734, dLaw_735, dLaw_736⟩ hi1 ?_
  refine y_SW (mk := 1) (As := [.ref ax, .int (cv xs i 1)]) (rest := []) (wc := w) (wf := [(aw, .inl (cJ, 1, .inr (.inl vou)))] ++ wm) hCF hM1 (y_cwSW 2 hts (inW_15 _ (List.mem_of_getElem? (i := 34) rfl)) (inW_15 _ (List.mem_of_getElem? (i := 35) rfl)) (inW_14 _ (List.mem_of_getElem? (i := 27) rfl)) (inW_14 _ (List.mem_of_getElem? (i := 8) rfl)) rfl rfl (by decide +kernel) ⟨Nat.le_of_ble_eq_true rfl, Nat.le_of_ble_eq_true rfl⟩) hK (by rw [← List.append_assoc]; exact hP) (by rw [← List.append_assoc]; exact hD) hS (fun _ h => h) hY rfl hl.1 rfl (Nat.le_of_ble_eq_true rfl) dLaw_737 ⟨by show cells + 1 ≤ 600384; omega, by show slots + 6 * 1 ≤ 7290346; omega⟩ (fun H locs hP hD hS => ?_)
  have hP : va_P D vwCl ((w1 ++ [(aw, .inl (cJ, 1, .inr (.inl vou)))]) ++ wm) H := by rw [List.append_assoc]; exact hP
  have hD : va_D (hA9 s) ((w1 ++ [(aw, .inl (cJ, 1, .inr (.inl vou)))]) ++ wm) := by rw [List.append_assoc]; exact hD
  refine lv_istore (lv' := [(5, .int u), (0, .ref b), (1, .ref ax), (2, .ref am), (3, .ref aw), (4, .int i)]) hx hb dLaw_740 hl (by decide) rfl (fun ls hl => ?_)
  refine lv_aload_n hx hb dLaw_742 rfl (lv_at hl 3 rfl) ?_
  refine b_cell F hS (lv_at hl 1 rfl) (lv_at hl 5 rfl) (k9 := 1) (by decide) ⟨dLaw_743, dLaw_744, dLaw_746, dLaw_747, dLaw_748⟩ hi1 ?_
  refine y_VX (As := [.int (cv xs i 1)]) (rest := []) (wc := wm) (wf := w1 ++ [(aw, .inl (cJ, 1, .inr (.inl vou)))]) hCF hM2 (x_cwV 1 hts (inW_15 _ (List.mem_of_getElem? (i := 36) rfl)) (inW_15 _ (List.mem_of_getElem? (i := 37) rfl)) (inW_15 _ (List.mem_of_getElem? (i := 38) rfl)) (inW_9 _ (List.mem_of_getElem? (i := 5) rfl)) (inW_13 _ (List.mem_of_getElem? (i := 6) rfl)) rfl rfl (by decide +kernel) ⟨Nat.le_of_ble_eq_true rfl, Nat.le_of_ble_eq_true rfl⟩) hK (pw_swap hP) (dw_swap hD) hS (fun _ h => h) hY.1 0 hm0 rfl rfl hl.1 rfl (Nat.le_of_ble_eq_true rfl) dLaw_749 ⟨by show cells + 1 ≤ 600384; omega, by show slots + 6 * 1 ≤ 7290346; omega⟩ (fun H locs hP hD hS => ?_)
  refine W.widen (k := cells + 4) (n := slots + 24) (by omega) (by omega) ?_
  exact b_end0 (o := 107) F hL1 (pw_swap hP) (dw_swap hD) hS hl ⟨by omega, by omega⟩ ⟨dLaw_752, dLaw_753, dLaw_756, dLaw_758, dLaw_763, by decide⟩ kk
end LC1
