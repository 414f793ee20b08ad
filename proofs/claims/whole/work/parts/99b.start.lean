/-! ===== the law, from its entry ===== -/
theorem lr_start {cR cI cJ cZ : ClassId} {ax ar ao : Nat} {ad : Nat → Nat} {am ak an ac ae ag aq : Nat} : LR cR cI cJ cZ ax ar ao ad am ak an ac ae ag aq 0 (zx cR ax ar ao ad) (zm cI cJ cZ am ak an ac ae ag aq) :=
  ⟨0, 0, 0, _, _, _, _, _, _, _, _, rs_zero, ⟨_, _, _, _, _, _, _, _, _, rfl⟩, ⟨_, _, _, _, _, _, _, _, _, _, rfl⟩⟩
set_option maxHeartbeats 4000000 in
theorem whole_start {p : Program} {e : Env} {s : State} {m : MethodId} {below : List Frame} {meth : Method} {c : Code} (l : Launch) (hflags : l.flags = flags0) {b L : Nat} {xs : Nat → Int32} (hL : L ≤ 384) (C0 : lw_At p s m meth c b L xs) : W p l e room_1 s m #[Value.ref b] below meth c s.heap [] 0 0 (lw_Z below #[Value.ref b] s) (entryFrame m ([Value.ref b] : List Value).toArray 8) := by
  obtain ⟨hx, hb, hr, hml, hown, hts, hX, hbl, hlocks, hgv⟩ := C0
  have hl0 := sf_hl0 l hflags
  obtain ⟨D, cR, cI, cJ, cZ, hK⟩ := sf_K hts
  obtain ⟨t0, sv, hY⟩ := sf_Y hts hgv
  have hN := sf_N hts
  have htg : ∀ w ∈ gW, w.before #[Value.ref b] s = true := fun w hw => hts w (gW_tbl w hw)
  have hti : ∀ w ∈ iGw, w.before #[Value.ref b] s = true := fun w hw => (List.mem_cons.mp hw).elim (fun e => e ▸ hts iOb tb_iOb) (htg w)
  have hown : s.vm.findClass RL = some m.cls := hown
  have hCF : CallFix p m c code 8 s #[Value.ref b] gW RL := ⟨hx, hb, hml, hown, htg⟩
  have hCI : CallFix p m c code 8 s #[Value.ref b] iGw RL := ⟨hx, hb, hml, hown, hti⟩
  have F : LF p l s m c D cR cI cJ cZ t0 sv b L xs := ⟨hl0, hCF, hK, hY, hX, hbl⟩
  have hA : ∀ q : Nat, s.heap.size ≤ q → hA9 s q := fun _ h => h
  have hS : va_S (hA9 s) s.heap s.heap [] := va_S.rf
  have hP : va_P D vwCl [] s.heap := fun k q h => by simp at h
  have hD : va_D (hA9 s) [] := ⟨fun i j p q h => by simp at h, fun k q h => by simp at h⟩
  have hl := lv_entry ([.ref b]) (n := 8) (Nat.le_of_ble_eq_true rfl)
  rw [lg_entry_eq]
  generalize (lg_sl ([.ref b]) ++ List.replicate (8 - (lg_sl ([.ref b])).length) Slot.unset).toArray = ls at hl ⊢
  have hl : lv_has ls 8 [(0, .ref b)] := hl
  refine va_new (own := RL) (C := RX3) (T := TX3) (N := 7) (ci := 4) (fs := i_m3) hx hb htg inW_X3 tyX3 tyX3_ok hown (htg _ (inW_14 _ (List.mem_of_getElem? (i := 16) rfl))) (htg _ (inW_14 _ (List.mem_of_getElem? (i := 17) rfl))) (htg _ (inW_1 _ (List.mem_of_getElem? (i := 25) rfl))) hK hP hD hS hA rfl i_fs3 (Nat.le_of_ble_eq_true rfl) (Nat.le_of_ble_eq_true rfl) dLaw_0 (fun ax H hP hD hS => ?_)
  refine lv_dup hx hb dLaw_3 rfl ?_
  refine i_I (wc := [(ax, .inr (4, i_m3))]) (wf := []) (As := []) (rest := [.ref ax]) hCI (c_X3_init l D cR cI cJ cZ ax) (i_cwI 0 hti (inW_14 _ (List.mem_of_getElem? (i := 21) rfl)) (inW_14 _ (List.mem_of_getElem? (i := 22) rfl)) (inW_1 _ (List.mem_of_getElem? (i := 25) rfl)) (inW_4 _ (List.mem_of_getElem? (i := 13) rfl)) rfl rfl rfl (by decide +kernel) ⟨Nat.le_of_ble_eq_true rfl, Nat.le_of_ble_eq_true rfl⟩) hK hP hD hS hA hN rfl hl.1 rfl (Nat.le_of_ble_eq_true rfl) dLaw_4 ⟨Nat.le_of_ble_eq_true rfl, Nat.le_of_ble_eq_true rfl⟩ (fun i H locs hP hD hS => ?_)
  obtain ⟨ar, ao, ad⟩ := i
  have hP : va_P D vwCl (zx cR ax ar ao ad) H := y_unnil (P := fun w => va_P D vwCl w H) hP
  have hD : va_D (hA9 s) (zx cR ax ar ao ad) := y_unnil (P := fun w => va_D (hA9 s) w) hD
  refine lv_astore_n (lv' := [(1, .ref ax), (0, .ref b)]) hx hb dLaw_7 rfl hl (by decide) rfl (fun ls hl => ?_)
  refine va_new (own := RL) (C := RX4) (T := TX4) (N := 18) (ci := 5) (fs := i_m4) hx hb htg inW_X4 tyX4 tyX4_ok hown (htg _ (inW_14 _ (List.mem_of_getElem? (i := 18) rfl))) (htg _ (inW_14 _ (List.mem_of_getElem? (i := 19) rfl))) (htg _ (inW_9 _ (List.mem_of_getElem? (i := 5) rfl))) hK hP hD hS hA rfl i_fs4 (Nat.le_of_ble_eq_true rfl) (Nat.le_of_ble_eq_true rfl) dLaw_8 (fun am H hP hD hS => ?_)
  refine lv_dup hx hb dLaw_11 rfl ?_
  refine i_I (wc := [(am, .inr (5, i_m4))]) (wf := zx cR ax ar ao ad) (As := []) (rest := [.ref am]) hCI (c_X4_init l D cR cI cJ cZ am) (i_cwI 0 hti (inW_14 _ (List.mem_of_getElem? (i := 23) rfl)) (inW_14 _ (List.mem_of_getElem? (i := 24) rfl)) (inW_9 _ (List.mem_of_getElem? (i := 5) rfl)) (inW_8 _ (List.mem_of_getElem? (i := 26) rfl)) rfl rfl rfl (by decide +kernel) ⟨Nat.le_of_ble_eq_true rfl, Nat.le_of_ble_eq_true rfl⟩) hK (pw_swap hP) (dw_swap hD) hS hA hN rfl hl.1 rfl (Nat.le_of_ble_eq_true rfl) dLaw_12 ⟨Nat.le_of_ble_eq_true rfl, Nat.le_of_ble_eq_true rfl⟩ (fun i H locs hP hD hS => ?_)
  obtain ⟨ak, an, ac, ae, ag, aq⟩ := i
  have hP : va_P D vwCl (zm cI cJ cZ am ak an ac ae ag aq ++ zx cR ax ar ao ad) H := hP
  have hD : va_D (hA9 s) (zm cI cJ cZ am ak an ac ae ag aq ++ zx cR ax ar ao ad) := hD
  have hR := lr_start (cR := cR) (ax := ax) (ar := ar) (ao := ao) (ad := ad) (cI := cI) (cJ := cJ) (cZ := cZ) (am := am) (ak := ak) (an := an) (ac := ac) (ae := ae) (ag := ag) (aq := aq)
  refine lv_astore_n (lv' := [(2, .ref am), (1, .ref ax), (0, .ref b)]) hx hb dLaw_15 rfl hl (by decide) rfl (fun ls hl => ?_)
  refine lv_iconst (v := 1) hx hb dLaw_16 (by decide) ?_
  refine va_newa (atype := .long) (N' := 1) (a0 := (1, .inr (.inl (fun _ => 0)))) hx hb (htg _ (inW_8 _ (List.mem_of_getElem? (i := 32) rfl))) rfl hK hP hD hS hA (fun cA => rfl) (by decide) (by decide) (Nat.le_of_ble_eq_true rfl) (Nat.le_of_ble_eq_true rfl) (Nat.le_of_ble_eq_true rfl) dLaw_17 (fun aw cA H hK2 hP hD hS => ?_)
  have hcA : cA = cJ := i_sameJ hK2 hK 2 rfl
  subst hcA
  refine lv_astore_n (lv' := [(3, .ref aw), (2, .ref am), (1, .ref ax), (0, .ref b)]) hx hb dLaw_19 rfl hl (by decide) rfl (fun ls hl => ?_)
  refine lv_iconst (v := 0) hx hb dLaw_20 (by decide) ?_
  refine lv_istore (lv' := [(4, .int 0), (3, .ref aw), (2, .ref am), (1, .ref ax), (0, .ref b)]) hx hb dLaw_21 hl (by decide) rfl (fun ls hl => ?_)
  rw [List.append_assoc] at hP hD
  exact lw_loop F hL hr hlocks rfl 65 0 (by omega) (by omega) 0 _ _ (fun _ => 0) H locs ls hR (pw_swap hP) (dw_swap hD) hS (lv_sub hl [4, 3, 2, 1, 0] rfl)
