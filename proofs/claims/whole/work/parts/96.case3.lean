/-! ===== the law: flags, lower, the loop ===== -/
section LC3
variable {p : Program} {l : Launch} {e : Env} {s : State} {m : MethodId} {below : List Frame} {meth : Method} {c : Code} {Q : State → Prop}
variable {D : va_G} {cR cI cJ cZ : ClassId} {ax ar ao : Nat} {ad : Nat → Nat} {am ak an ac ae ag aq : Nat} {aw t0 : Nat} {sv : Nat → Nat} {b L : Nat} {xs : Nat → Int32}
variable {H : Heap} {locs : List Loc} {cells slots : Nat} {ls : Array Slot} {i : Int32}
theorem lc_flags (F : LF p l s m c D cR cI cJ cZ t0 sv b L xs) {th : Int32} {w wm : va_W} {vou : Nat → Int64} (hL : LR cR cI cJ cZ ax ar ao ad am ak an ac ae ag aq th w wm) (hP : va_P D vwCl ((w ++ [(aw, .inl (cJ, 1, .inr (.inl vou)))]) ++ wm) H) (hD : va_D (hA9 s) ((w ++ [(aw, .inl (cJ, 1, .inr (.inl vou)))]) ++ wm)) (hS : va_S (hA9 s) s.heap H locs) (hl : lv_has ls 8 [(0, .ref b), (1, .ref ax), (2, .ref am), (3, .ref aw), (4, .int i)]) (hc : cells ≤ 1000 ∧ slots ≤ 8000)
    (kk : LK p l e s m below meth c Q D cR cI cJ cZ ax ar ao ad am ak an ac ae ag aq aw b (cells + 4) (slots + 24) i) : W p l e room_1 s m #[Value.ref b] below meth c H locs cells slots Q (F0 m 766 ls []) := by
  have F9 := F
  obtain ⟨hl0, hCF, hK, hY, hX, hbl⟩ := F9
  obtain ⟨hx, hb, hml, hown, hts⟩ := id hCF
  obtain ⟨fs, hm0⟩ := lr_m0 hL
  obtain ⟨fx, hx0⟩ := lr_x0 hL
  obtain ⟨f, wm1, hM1, hM2, hL1⟩ := st_flags (l := l) (D := D) (t0 := t0) hL
  refine lv_aload_n hx hb dLaw_766 rfl (lv_at hl 1 rfl) ?_
  refine y_VX (As := []) (rest := []) (wc := w) (wf := [(aw, .inl (cJ, 1, .inr (.inl vou)))] ++ wm) hCF hM1 (x_cwV 0 hts (inW_15 _ (List.mem_of_getElem? (i := 39) rfl)) (inW_16 _ (List.mem_of_getElem? (i := 0) rfl)) (inW_16 _ (List.mem_of_getElem? (i := 1) rfl)) (inW_1 _ (List.mem_of_getElem? (i := 25) rfl)) (inW_8 _ (List.mem_of_getElem? (i := 23) rfl)) rfl rfl (by decide +kernel) ⟨Nat.le_of_ble_eq_true rfl, Nat.le_of_ble_eq_true rfl⟩) hK (by rw [← List.append_assoc]; exact hP) (by rw [← List.append_assoc]; exact hD) hS (fun _ h => h) hY.1 0 hx0 rfl rfl hl.1 rfl (Nat.le_of_ble_eq_true rfl) dLaw_767 ⟨by show cells ≤ 600384; omega, by show slots ≤ 7290346; omega⟩ (fun H locs hP hD hS => ?_)
  have hP : va_P D vwCl ((w ++ [(aw, .inl (cJ, 1, .inr (.inl vou)))]) ++ wm) H := by rw [List.append_assoc]; exact hP
  have hD : va_D (hA9 s) ((w ++ [(aw, .inl (cJ, 1, .inr (.inl vou)))]) ++ wm) := by rw [List.append_assoc]; exact hD
  refine lv_aload_n hx hb dLaw_770 rfl (lv_at hl 2 rfl) ?_
  refine y_VX (As := []) (rest := [.int f]) (wc := wm) (wf := w ++ [(aw, .inl (cJ, 1, .inr (.inl vou)))]) hCF hM2 (x_cwV 0 hts (inW_16 _ (List.mem_of_getElem? (i := 2) rfl)) (inW_16 _ (List.mem_of_getElem? (i := 3) rfl)) (inW_16 _ (List.mem_of_getElem? (i := 4) rfl)) (inW_9 _ (List.mem_of_getElem? (i := 5) rfl)) (inW_13 _ (List.mem_of_getElem? (i := 7) rfl)) rfl rfl (by decide +kernel) ⟨Nat.le_of_ble_eq_true rfl, Nat.le_of_ble_eq_true rfl⟩) hK (pw_swap hP) (dw_swap hD) hS (fun _ h => h) hY.1 0 hm0 rfl rfl hl.1 rfl (Nat.le_of_ble_eq_true rfl) dLaw_771 ⟨by show cells ≤ 600384; omega, by show slots ≤ 7290346; omega⟩ (fun H locs hP hD hS => ?_)
  refine lv_icmp_eq (tgt := 870) hx hb dLaw_774 (by omega) (fun _ => ?_) (fun h9 => absurd rfl h9)
  refine W.widen (k := cells + 4) (n := slots + 24) (by omega) (by omega) ?_
  exact kk 0 w wm1 vou H locs ls hL1 (pw_swap hP) (dw_swap hD) hS hl
theorem lc_lower (F : LF p l s m c D cR cI cJ cZ t0 sv b L xs) {th : Int32} {w wm : va_W} {vou : Nat → Int64} (hL : LR cR cI cJ cZ ax ar ao ad am ak an ac ae ag aq th w wm) (hP : va_P D vwCl ((w ++ [(aw, .inl (cJ, 1, .inr (.inl vou)))]) ++ wm) H) (hD : va_D (hA9 s) ((w ++ [(aw, .inl (cJ, 1, .inr (.inl vou)))]) ++ wm)) (hS : va_S (hA9 s) s.heap H locs) (hl : lv_has ls 8 [(0, .ref b), (1, .ref ax), (2, .ref am), (3, .ref aw), (4, .int i)]) (hc : cells ≤ 1000 ∧ slots ≤ 8000)
    (kk : LK p l e s m below meth c Q D cR cI cJ cZ ax ar ao ad am ak an ac ae ag aq aw b (cells + 4) (slots + 24) i) : W p l e room_1 s m #[Value.ref b] below meth c H locs cells slots Q (F0 m 779 ls []) := by
  have F9 := F
  obtain ⟨hl0, hCF, hK, hY, hX, hbl⟩ := F9
  obtain ⟨hx, hb, hml, hown, hts⟩ := id hCF
  obtain ⟨fs, hm0⟩ := lr_m0 hL
  obtain ⟨fx, hx0⟩ := lr_x0 hL
  obtain ⟨w1, wm1, hM1, hM2, hL1⟩ := st_lower (l := l) (D := D) (t0 := t0) hL
  refine lv_aload_n hx hb dLaw_779 rfl (lv_at hl 1 rfl) ?_
  refine y_VX (As := []) (rest := []) (wc := w) (wf := [(aw, .inl (cJ, 1, .inr (.inl vou)))] ++ wm) hCF hM1 (x_cwV 0 hts (inW_16 _ (List.mem_of_getElem? (i := 5) rfl)) (inW_16 _ (List.mem_of_getElem? (i := 6) rfl)) (inW_16 _ (List.mem_of_getElem? (i := 7) rfl)) (inW_1 _ (List.mem_of_getElem? (i := 25) rfl)) (inW_8 _ (List.mem_of_getElem? (i := 24) rfl)) rfl rfl (by decide +kernel) ⟨Nat.le_of_ble_eq_true rfl, Nat.le_of_ble_eq_true rfl⟩) hK (by rw [← List.append_assoc]; exact hP) (by rw [← List.append_assoc]; exact hD) hS (fun _ h => h) hY.1 0 hx0 rfl rfl hl.1 rfl (Nat.le_of_ble_eq_true rfl) dLaw_780 ⟨by show cells ≤ 600384; omega, by show slots ≤ 7290346; omega⟩ (fun H locs hP hD hS => ?_)
  have hP : va_P D vwCl ((w1 ++ [(aw, .inl (cJ, 1, .inr (.inl vou)))]) ++ wm) H := by rw [List.append_assoc]; exact hP
  have hD : va_D (hA9 s) ((w1 ++ [(aw, .inl (cJ, 1, .inr (.inl vou)))]) ++ wm) := by rw [List.append_assoc]; exact hD
  refine lv_aload_n hx hb dLaw_783 rfl (lv_at hl 2 rfl) ?_
  refine y_VX (As := []) (rest := []) (wc := wm) (wf := w1 ++ [(aw, .inl (cJ, 1, .inr (.inl vou)))]) hCF hM2 (x_cwV 0 hts (inW_16 _ (List.mem_of_getElem? (i := 8) rfl)) (inW_16 _ (List.mem_of_getElem? (i := 9) rfl)) (inW_16 _ (List.mem_of_getElem? (i := 10) rfl)) (inW_9 _ (List.mem_of_getElem? (i := 5) rfl)) (inW_13 _ (List.mem_of_getElem? (i := 8) rfl)) rfl rfl (by decide +kernel) ⟨Nat.le_of_ble_eq_true rfl, Nat.le_of_ble_eq_true rfl⟩) hK (pw_swap hP) (dw_swap hD) hS (fun _ h => h) hY.1 0 hm0 rfl rfl hl.1 rfl (Nat.le_of_ble_eq_true rfl) dLaw_784 ⟨by show cells ≤ 600384; omega, by show slots ≤ 7290346; omega⟩ (fun H locs hP hD hS => ?_)
  refine lv_goto (tgt := 870) hx hb dLaw_787 (by decide) ?_
  refine W.widen (k := cells + 4) (n := slots + 24) (by omega) (by omega) ?_
  exact kk 0 w1 wm1 vou H locs ls hL1 (pw_swap hP) (dw_swap hD) hS hl
end LC3
