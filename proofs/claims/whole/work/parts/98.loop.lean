/-! ===== the law: its loop ===== -/
theorem lq_and (y : Int32) : 0 ≤ (y &&& 15).toInt ∧ (y &&& 15).toInt ≤ 15 := by
  have h : (y &&& 15).toBitVec.toNat ≤ 15 := by
    rw [Int32.toBitVec_and, BitVec.toNat_and]
    exact Nat.le_trans Nat.and_le_right (by decide)
  rw [show (y &&& 15).toInt = (y &&& 15).toBitVec.toInt from rfl, BitVec.toInt_eq_toNat_of_lt (by omega)]
  omega
theorem lq_or {z : Int32} (h0 : 0 ≤ z.toInt) : z = 0 ∨ z = 1 ∨ z = 2 ∨ z = 3 ∨ z = 4 ∨ z = 5 ∨ z = 6 ∨ z = 7 ∨ z = 8 ∨ z = 9 ∨ z = 10 ∨ z = 11 ∨ z = 12 ∨ 12 < z.toInt := by
  rcases (show z.toInt = 0 ∨ z.toInt = 1 ∨ z.toInt = 2 ∨ z.toInt = 3 ∨ z.toInt = 4 ∨ z.toInt = 5 ∨ z.toInt = 6 ∨ z.toInt = 7 ∨ z.toInt = 8 ∨ z.toInt = 9 ∨ z.toInt = 10 ∨ z.toInt = 11 ∨ z.toInt = 12 ∨ 12 < z.toInt by omega) with h9 | h9 | h9 | h9 | h9 | h9 | h9 | h9 | h9 | h9 | h9 | h9 | h9 | h9
  · exact Or.inl (ti_eq.mpr (h9.trans (by decide)))
  · exact Or.inr (Or.inl (ti_eq.mpr (h9.trans (by decide))))
  · exact Or.inr (Or.inr (Or.inl (ti_eq.mpr (h9.trans (by decide)))))
  · exact Or.inr (Or.inr (Or.inr (Or.inl (ti_eq.mpr (h9.trans (by decide))))))
  · exact Or.inr (Or.inr (Or.inr (Or.inr (Or.inl (ti_eq.mpr (h9.trans (by decide)))))))
  · exact Or.inr (Or.inr (Or.inr (Or.inr (Or.inr (Or.inl (ti_eq.mpr (h9.trans (by decide))))))))
  · exact Or.inr (Or.inr (Or.inr (Or.inr (Or.inr (Or.inr (Or.inl (ti_eq.mpr (h9.trans (by decide)))))))))
  · exact Or.inr (Or.inr (Or.inr (Or.inr (Or.inr (Or.inr (Or.inr (Or.inl (ti_eq.mpr (h9.trans (by decide))))))))))
  · exact Or.inr (Or.inr (Or.inr (Or.inr (Or.inr (Or.inr (Or.inr (Or.inr (Or.inl (ti_eq.mpr (h9.trans (by decide)))))))))))
  · exact Or.inr (Or.inr (Or.inr (Or.inr (Or.inr (Or.inr (Or.inr (Or.inr (Or.inr (Or.inl (ti_eq.mpr (h9.trans (by decide))))))))))))
  · exact Or.inr (Or.inr (Or.inr (Or.inr (Or.inr (Or.inr (Or.inr (Or.inr (Or.inr (Or.inr (Or.inl (ti_eq.mpr (h9.trans (by decide)))))))))))))
  · exact Or.inr (Or.inr (Or.inr (Or.inr (Or.inr (Or.inr (Or.inr (Or.inr (Or.inr (Or.inr (Or.inr (Or.inl (ti_eq.mpr (h9.trans (by decide))))))))))))))
  · exact Or.inr (Or.inr (Or.inr (Or.inr (Or.inr (Or.inr (Or.inr (Or.inr (Or.inr (Or.inr (Or.inr (Or.inr (Or.inl (ti_eq.mpr (h9.trans (by decide)))))))))))))))
  · exact Or.inr (Or.inr (Or.inr (Or.inr (Or.inr (Or.inr (Or.inr (Or.inr (Or.inr (Or.inr (Or.inr (Or.inr (Or.inr (h9)))))))))))))
/-- the place k of the call at 6 j -/
theorem lq_in {j L k : Nat} {k9 : Int32} (hk : k9.toInt = k) (h : 6 * j + k < L) (hL : L ≤ 384) : vp_in (nI (6 * j) + k9) L := by
  have e : (nI (6 * j)).toInt = ((6 * j : Nat) : Int) := nI_toInt (by omega)
  rw [st_in, ti_add (by rw [e, hk]; omega) (by rw [e, hk]; omega), e, hk]
  omega
section LOOP
variable {p : Program} {l : Launch} {e : Env} {s : State} {m : MethodId} {below : List Frame} {meth : Method} {c : Code} {Q : State → Prop}
variable {D : va_G} {cR cI cJ cZ : ClassId} {ax ar ao : Nat} {ad : Nat → Nat} {am ak an ac ae ag aq : Nat} {aw t0 : Nat} {sv : Nat → Nat} {b L : Nat} {xs : Nat → Int32}
set_option maxHeartbeats 4000000 in
theorem lw_loop (F : LF p l s m c D cR cI cJ cZ t0 sv b L xs) (hL : L ≤ 384) (hr : meth.sig.returnType = ret) (hlocks : meth.locks = false) (hQ : Q = lw_Z below #[Value.ref b] s) : ∀ (n j : Nat), 65 ≤ j + n → j ≤ 64 → ∀ (th : Int32) (w wm : va_W) (vou : Nat → Int64) (H : Heap) (locs : List Loc) (ls : Array Slot), LR cR cI cJ cZ ax ar ao ad am ak an ac ae ag aq th w wm → va_P D vwCl ((w ++ [(aw, .inl (cJ, 1, .inr (.inl vou)))]) ++ wm) H → va_D (hA9 s) ((w ++ [(aw, .inl (cJ, 1, .inr (.inl vou)))]) ++ wm) → va_S (hA9 s) s.heap H locs → lv_has ls 8 [(0, .ref b), (1, .ref ax), (2, .ref am), (3, .ref aw), (4, .int (nI (6 * j)))] →
    W p l e room_1 s m #[Value.ref b] below meth c H locs (20 + 4 * j) (1910 + 24 * j) Q (F0 m 23 ls []) := by
  have F9 := F
  obtain ⟨hl0, hCF, hK, hY, hX, hbl⟩ := F9
  obtain ⟨hx, hb, hml, hown, hts⟩ := id hCF
  intro n
  induction n with
  | zero =>
    intro j h1 h2
    exact absurd h1 (by omega)
  | succ n ih =>
    intro j h1 h2 th w wm vou H locs ls hR hP hD hS hl
    refine lv_iload hx hb dLaw_23 (lv_at hl 4 rfl) ?_
    refine lv_aload_n hx hb dLaw_25 rfl (lv_at hl 0 rfl) ?_
    refine va_slen hx hb hX hbl (lf_b hbl) hS dLaw_26 ?_
    refine lv_bipush (v := 6) hx hb dLaw_27 (by decide) ?_
    refine lv_isub hx hb dLaw_29 ?_
    refine lv_icmp_gt (tgt := 876) hx hb dLaw_30 (by decide) (fun _ => ?_) (fun hg => ?_)
    · refine lv_iconst (v := 1) hx hb dLaw_876 (by decide) ?_
      refine va_forget (fun q hq => hS.2.2 q hq) ?_
      refine W.widen (k := 600384) (n := 7290346) (by omega) (by omega) ?_
      subst hQ
      exact lw_ret hx hb hr hlocks dLaw_877
    · have e0 : (nI (6 * j)).toInt = ((6 * j : Nat) : Int) := nI_toInt (by omega)
      have eL : (Int32.ofNat L).toInt = (L : Int) := nI_toInt (n := L) (by omega)
      have e6 : (6 : Int32).toInt = 6 := by decide
      have h6 : 6 * j + 6 ≤ L := by
        rw [ti_lt, ti_sub (by rw [eL, e6]; omega) (by rw [eL, e6]; omega), e0, eL, e6] at hg
        omega
      have hi1 : vp_in (nI (6 * j) + 1) L := lq_in (k := 1) (by decide) (by omega) hL
      have hi2 : vp_in (nI (6 * j) + 2) L := lq_in (k := 2) (by decide) (by omega) hL
      have hi3 : vp_in (nI (6 * j) + 3) L := lq_in (k := 3) (by decide) (by omega) hL
      have hi4 : vp_in (nI (6 * j) + 4) L := lq_in (k := 4) (by decide) (by omega) hL
      have hi5 : vp_in (nI (6 * j) + 5) L := lq_in (k := 5) (by decide) (by omega) hL
      have hi0 : vp_in (nI (6 * j)) L := st_in.mpr (by rw [e0]; omega)
      have hn : nI (6 * j) + Int32.ofInt 6 = nI (6 * (j + 1)) := by
        have e7 : (Int32.ofInt 6).toInt = 6 := by decide
        rw [ti_eq, ti_add (by rw [e0, e7]; omega) (by rw [e0, e7]; omega), e0, e7, nI_toInt (by omega)]
        omega
      have kk : LK p l e s m below meth c Q D cR cI cJ cZ ax ar ao ad am ak an ac ae ag aq aw b (20 + 4 * j + 4) (1910 + 24 * j + 24) (nI (6 * j)) := by
        intro th w wm vou H locs ls hR hP hD hS hl
        refine lv_iinc (v := nI (6 * (j + 1))) (lv' := [(4, .int (nI (6 * (j + 1)))), (0, .ref b), (1, .ref ax), (2, .ref am), (3, .ref aw)]) hx hb dLaw_870 hl (k := 4) rfl hn (by decide) rfl (fun ls hl => ?_)
        refine lv_goto (tgt := 23) hx hb dLaw_873 (by decide) ?_
        refine W.widen (k := 20 + 4 * (j + 1)) (n := 1910 + 24 * (j + 1)) (by omega) (by omega) ?_
        exact ih (j + 1) (by omega) (by omega) th w wm vou H locs ls hR hP hD hS (lv_sub hl [1, 2, 3, 4, 0] rfl)
      have hc : 20 + 4 * j ≤ 1000 ∧ 1910 + 24 * j ≤ 8000 := ⟨by omega, by omega⟩
      clear ih
      refine lv_aload_n hx hb dLaw_33 rfl (lv_at hl 0 rfl) ?_
      refine lv_iload hx hb dLaw_34 (lv_at hl 4 rfl) ?_
      refine va_sld hx hb hX hbl (lf_b hbl) hS hi0 dLaw_36 ?_
      refine lv_bipush (v := 15) hx hb dLaw_37 (by decide) ?_
      refine lv_iand hx hb dLaw_39 ?_
      have hz := lq_and (xs (nI (6 * j)).toNatClampNeg)
      refine lv_topi (fun z ez => ?_)
      rw [← ez] at hz
      clear ez
      rcases lq_or hz.1 with h9 | h9 | h9 | h9 | h9 | h9 | h9 | h9 | h9 | h9 | h9 | h9 | h9 | h9
      · refine lv_tableIn (tgt := 108) hx hb dLaw_40 (by rw [h9]; decide) (by rw [h9]; decide) (by rw [h9]; rfl) (by decide) ?_
        exact lc_put F hR hP hD hS hl hc hi1 hi2 hi3 hi4 hi5 kk
      · refine lv_tableIn (tgt := 228) hx hb dLaw_40 (by rw [h9]; decide) (by rw [h9]; decide) (by rw [h9]; rfl) (by decide) ?_
        exact lc_apply F hR hP hD hS hl hc hi1 hi2 hi3 hi4 hi5 kk
      · refine lv_tableIn (tgt := 300) hx hb dLaw_40 (by rw [h9]; decide) (by rw [h9]; decide) (by rw [h9]; rfl) (by decide) ?_
        exact lc_compare F hR hP hD hS hl hc hi1 hi2 hi3 hi4 hi5 kk
      · refine lv_tableIn (tgt := 368) hx hb dLaw_40 (by rw [h9]; decide) (by rw [h9]; decide) (by rw [h9]; rfl) (by decide) ?_
        exact lc_kind F hR hP hD hS hl hc hi1 hi2 hi3 hi4 hi5 kk
      · refine lv_tableIn (tgt := 424) hx hb dLaw_40 (by rw [h9]; decide) (by rw [h9]; decide) (by rw [h9]; rfl) (by decide) ?_
        exact lc_coefficient F hR hP hD hS hl hc hi1 hi2 hi3 hi4 hi5 kk
      · refine lv_tableIn (tgt := 479) hx hb dLaw_40 (by rw [h9]; decide) (by rw [h9]; decide) (by rw [h9]; rfl) (by decide) ?_
        exact lc_exponent F hR hP hD hS hl hc hi1 hi2 hi3 hi4 hi5 kk
      · refine lv_tableIn (tgt := 535) hx hb dLaw_40 (by rw [h9]; decide) (by rw [h9]; decide) (by rw [h9]; rfl) (by decide) ?_
        exact lc_pack F hR hP hD hS hl hc hi1 hi2 hi3 hi4 hi5 kk
      · refine lv_tableIn (tgt := 602) hx hb dLaw_40 (by rw [h9]; decide) (by rw [h9]; decide) (by rw [h9]; rfl) (by decide) ?_
        exact lc_unpack F hR hP hD hS hl hc hi1 hi2 hi3 hi4 hi5 kk
      · refine lv_tableIn (tgt := 694) hx hb dLaw_40 (by rw [h9]; decide) (by rw [h9]; decide) (by rw [h9]; rfl) (by decide) ?_
        exact lc_mode F hR hP hD hS hl hc hi1 hi2 hi3 hi4 hi5 kk
      · refine lv_tableIn (tgt := 730) hx hb dLaw_40 (by rw [h9]; decide) (by rw [h9]; decide) (by rw [h9]; rfl) (by decide) ?_
        exact lc_trap F hR hP hD hS hl hc hi1 hi2 hi3 hi4 hi5 kk
      · refine lv_tableIn (tgt := 766) hx hb dLaw_40 (by rw [h9]; decide) (by rw [h9]; decide) (by rw [h9]; rfl) (by decide) ?_
        exact lc_flags F hR hP hD hS hl hc kk
      · refine lv_tableIn (tgt := 779) hx hb dLaw_40 (by rw [h9]; decide) (by rw [h9]; decide) (by rw [h9]; rfl) (by decide) ?_
        exact lc_lower F hR hP hD hS hl hc kk
      · refine lv_tableIn (tgt := 790) hx hb dLaw_40 (by rw [h9]; decide) (by rw [h9]; decide) (by rw [h9]; rfl) (by decide) ?_
        exact lc_sum F hR hP hD hS hl hc hi1 hi2 hi3 hi4 hi5 kk
      · refine lv_tableOut (tgt := 870) hx hb dLaw_40 (Or.inr h9) (by decide) ?_
        refine W.widen (k := 20 + 4 * j + 4) (n := 1910 + 24 * j + 24) (by omega) (by omega) ?_
        exact kk th w wm vou H locs ls hR hP hD hS hl
end LOOP
