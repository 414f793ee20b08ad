/-! ===== both objects side by side: one call of the law ===== -/
def XS (cR : ClassId) (ax ar ao : Nat) (ad : Nat → Nat) (rd tr sd : Int32) (so : Nat → Int32) (mi : Nat → Bool) (co : Nat → Int64) (ex : Nat → Int32) (w : va_W) : Prop :=
  ∃ (rn : Int32) (om : Bool) (oh ol : Int64) (op : Int32) (oe : Bool) (ow : Int32) (ok : Int64) (os : Int32), w = xw cR ax ar ao ad rd tr sd rn om oh ol op oe ow ok os so mi co ex
def MS (cI cJ cZ : ClassId) (am ak an ac ae ag aq : Nat) (th rd sd tr : Int32) (ks : Nat → Int32) (ms : Nat → Bool) (cs : Nat → Int64) (es : Nat → Int32) (w : va_W) : Prop :=
  ∃ (kd : Int32) (ng : Bool) (cc : Int64) (qq rs ct un : Int32) (re : Bool) (dg og : Nat → Int32), w = mw cI cJ cZ am ak an ac ae ag aq th rd sd tr kd ng cc qq rs ct un re ks ms cs es dg og
/-- both objects' cells: the rounding, the traps, the flags and the registers are the same; the reference holds th as what was thrown last -/
def LR (cR cI cJ cZ : ClassId) (ax ar ao : Nat) (ad : Nat → Nat) (am ak an ac ae ag aq : Nat) (th : Int32) (w wm : va_W) : Prop :=
  ∃ (rd tr sd : Int32) (so : Nat → Int32) (mi : Nat → Bool) (co : Nat → Int64) (ex : Nat → Int32) (ks : Nat → Int32) (ms : Nat → Bool) (cs : Nat → Int64) (es : Nat → Int32),
    RS so mi co ex ks ms cs es ∧ XS cR ax ar ao ad rd tr sd so mi co ex w ∧ MS cI cJ cZ am ak an ac ae ag aq th rd sd tr ks ms cs es wm
/-- a call without an answer: what the class throws (as the wrapper numbers it) the reference's thrown() says -/
def ST0 (l : Launch) (D : va_G) (cR cI cJ cZ : ClassId) (ax ar ao : Nat) (ad : Nat → Nat) (am ak an ac ae ag aq : Nat) (t0 : Nat) (sv : Nat → Nat) (y : MethodName) (bt : ByteArray) (n : Nat) (hh : List (Nat × Nat × Nat × Nat)) (rm : Room) (mc : Nat) (ym : MethodName) (bm : ByteArray) (nm : Nat) (rmm : Room) (av : List Value) (w wm : va_W) : Prop :=
  ∃ (u : Int32) (w1 wm1 : va_W), XL l D (xty cR cI cJ cZ) t0 sv y bt n (some .int) hh rm mc (.ref ax :: av) (some (.int u)) w w1 ∧ XM l D (xty cR cI cJ cZ) t0 ym bm nm none rmm (.ref am :: av) none wm wm1 ∧ LR cR cI cJ cZ ax ar ao ad am ak an ac ae ag aq u w1 wm1
/-- a call that answers an int -/
def ST1 (l : Launch) (D : va_G) (cR cI cJ cZ : ClassId) (ax ar ao : Nat) (ad : Nat → Nat) (am ak an ac ae ag aq : Nat) (aw : Nat) (vou : Nat → Int64) (t0 : Nat) (sv : Nat → Nat) (y : MethodName) (bt : ByteArray) (n : Nat) (hh : List (Nat × Nat × Nat × Nat)) (rm : Room) (mc : Nat) (ym : MethodName) (bm : ByteArray) (nm : Nat) (rmm : Room) (av : List Value) (w wm : va_W) : Prop :=
  ∃ (u : Int32) (b : Int32) (vo : Nat → Int64) (w1 wm1 : va_W), XL l D (xty cR cI cJ cZ) t0 sv y bt n (some .int) hh rm mc (.ref ax :: (av ++ [.ref aw])) (some (.int u)) (w ++ [(aw, .inl (cJ, 1, .inr (.inl vou)))]) (w1 ++ [(aw, .inl (cJ, 1, .inr (.inl vo)))]) ∧ XM l D (xty cR cI cJ cZ) t0 ym bm nm (some .int) rmm (.ref am :: av) (some (.int b)) wm wm1 ∧ LR cR cI cJ cZ ax ar ao ad am ak an ac ae ag aq u w1 wm1 ∧ (u = 0 → vo 0 = b.toInt64)
/-- a call that answers a long -/
def ST2 (l : Launch) (D : va_G) (cR cI cJ cZ : ClassId) (ax ar ao : Nat) (ad : Nat → Nat) (am ak an ac ae ag aq : Nat) (aw : Nat) (vou : Nat → Int64) (t0 : Nat) (sv : Nat → Nat) (y : MethodName) (bt : ByteArray) (n : Nat) (hh : List (Nat × Nat × Nat × Nat)) (rm : Room) (mc : Nat) (ym : MethodName) (bm : ByteArray) (nm : Nat) (rmm : Room) (av : List Value) (w wm : va_W) : Prop :=
  ∃ (u : Int32) (b : Int64) (vo : Nat → Int64) (w1 wm1 : va_W), XL l D (xty cR cI cJ cZ) t0 sv y bt n (some .int) hh rm mc (.ref ax :: (av ++ [.ref aw])) (some (.int u)) (w ++ [(aw, .inl (cJ, 1, .inr (.inl vou)))]) (w1 ++ [(aw, .inl (cJ, 1, .inr (.inl vo)))]) ∧ XM l D (xty cR cI cJ cZ) t0 ym bm nm (some .long) rmm (.ref am :: av) (some (.long b)) wm wm1 ∧ LR cR cI cJ cZ ax ar ao ad am ak an ac ae ag aq u w1 wm1 ∧ (u = 0 → vo 0 = b)
section ST
variable {l : Launch} {D : va_G} {cR cI cJ cZ : ClassId} {ax ar ao : Nat} {ad : Nat → Nat} {am ak an ac ae ag aq : Nat} {t0 : Nat} {sv : Nat → Nat} {aw : Nat} {vou : Nat → Int64} {th : Int32} {w wm : va_W}
theorem st_thrown (h : LR cR cI cJ cZ ax ar ao ad am ak an ac ae ag aq th w wm) : XM l D (xty cR cI cJ cZ) t0 yX4_thrown cX4_thrown 1 (some .int) rm_X4_thrown [.ref am] (some (.int th)) wm wm := by
  obtain ⟨rd, tr, sd, so, mi, co, ex, ks, ms, cs, es, hR, ⟨rn, om, oh, ol, op, oe, ow, ok, os, rfl⟩, ⟨kd, ng, cc, qq, rs, ct, un, re, dg, og, rfl⟩⟩ := h
  exact c_X4_thrown l D cR cI cJ cZ t0 am ak an ac ae ag aq th rd sd tr kd ng cc qq rs ct un re ks ms cs es dg og th rfl
theorem st_flags (h : LR cR cI cJ cZ ax ar ao ad am ak an ac ae ag aq th w wm) : ∃ (f : Int32) (wm1 : va_W), XM l D (xty cR cI cJ cZ) t0 yX3_flags cX3_flags 1 (some .int) rm_X3_flags [.ref ax] (some (.int f)) w w ∧ XM l D (xty cR cI cJ cZ) t0 yX4_flags cX4_flags 1 (some .int) rm_X4_flags [.ref am] (some (.int f)) wm wm1 ∧ LR cR cI cJ cZ ax ar ao ad am ak an ac ae ag aq 0 w wm1 := by
  obtain ⟨rd, tr, sd, so, mi, co, ex, ks, ms, cs, es, hR, ⟨rn, om, oh, ol, op, oe, ow, ok, os, rfl⟩, ⟨kd, ng, cc, qq, rs, ct, un, re, dg, og, rfl⟩⟩ := h
  exact ⟨sd, _, c_X3_flags l D cR cI cJ cZ t0 ax ar ao ad rd tr sd rn om oh ol op oe ow ok os so mi co ex sd rfl, c_X4_flags l D cR cI cJ cZ t0 am ak an ac ae ag aq th rd sd tr kd ng cc qq rs ct un re ks ms cs es dg og (sd, 0) rfl, ⟨_, _, _, _, _, _, _, _, _, _, _, hR, ⟨_, _, _, _, _, _, _, _, _, rfl⟩, ⟨_, _, _, _, _, _, _, _, _, _, rfl⟩⟩⟩
theorem st_lower (h : LR cR cI cJ cZ ax ar ao ad am ak an ac ae ag aq th w wm) : ∃ (w1 wm1 : va_W), XM l D (xty cR cI cJ cZ) t0 yX3_lower cX3_lower 1 none rm_X3_lower [.ref ax] none w w1 ∧ XM l D (xty cR cI cJ cZ) t0 yX4_lower cX4_lower 1 none rm_X4_lower [.ref am] none wm wm1 ∧ LR cR cI cJ cZ ax ar ao ad am ak an ac ae ag aq 0 w1 wm1 := by
  obtain ⟨rd, tr, sd, so, mi, co, ex, ks, ms, cs, es, hR, ⟨rn, om, oh, ol, op, oe, ow, ok, os, rfl⟩, ⟨kd, ng, cc, qq, rs, ct, un, re, dg, og, rfl⟩⟩ := h
  exact ⟨_, _, c_X3_lower l D cR cI cJ cZ t0 ax ar ao ad rd tr sd rn om oh ol op oe ow ok os so mi co ex 0 rfl, c_X4_lower l D cR cI cJ cZ t0 am ak an ac ae ag aq th rd sd tr kd ng cc qq rs ct un re ks ms cs es dg og (0, 0) rfl, ⟨_, _, _, _, _, _, _, _, _, _, _, hR, ⟨_, _, _, _, _, _, _, _, _, rfl⟩, ⟨_, _, _, _, _, _, _, _, _, _, rfl⟩⟩⟩
theorem st_mode (hl0 : l.stackTraces = false) (h : LR cR cI cJ cZ ax ar ao ad am ak an ac ae ag aq th w wm) (p1 : Int32) : ST0 l D cR cI cJ cZ ax ar ao ad am ak an ac ae ag aq t0 sv yL_mode cL_mode 3 [(0, 5, 8, 15)] rm_L_mode 1 yX4_mode cX4_mode 2 rm_X4_mode [.int p1] w wm := by
  obtain ⟨rd, tr, sd, so, mi, co, ex, ks, ms, cs, es, hR, ⟨rn, om, oh, ol, op, oe, ow, ok, os, rfl⟩, ⟨kd, ng, cc, qq, rs, ct, un, re, dg, og, rfl⟩⟩ := h
  have hF : ∀ z : Bool, Z_X4_mode_J_105 p1 = z → F_X4_mode rd p1 = (bI z, if z = true then rd else p1) := by
    intro z hz
    unfold F_X4_mode bnd
    dsimp only
    rw [hz]
    unfold Z_X4_mode_J_110
    cases z <;> rfl
  rcases cs_mode p1 with ⟨hs, hz⟩ | ⟨hs, hz⟩ | ⟨hs, hz⟩
  · exact ⟨0, _, _, c_L_mode_ok l hl0 D cR cI cJ cZ t0 sv ax ar ao ad rd tr sd rn om oh ol op oe ow ok os so mi co ex p1 (0, p1) rfl hs, c_X4_mode l D cR cI cJ cZ t0 am ak an ac ae ag aq th rd sd tr kd ng cc qq rs ct un re ks ms cs es dg og p1 (0, p1) (hF _ hz).symm, ⟨_, _, _, _, _, _, _, _, _, _, _, hR, ⟨_, _, _, _, _, _, _, _, _, rfl⟩, ⟨_, _, _, _, _, _, _, _, _, _, rfl⟩⟩⟩
  · exact ⟨1, _, _, c_L_mode_b1 l hl0 D cR cI cJ cZ t0 sv ax ar ao ad rd tr sd rn om oh ol op oe ow ok os so mi co ex p1 1 rfl hs, c_X4_mode l D cR cI cJ cZ t0 am ak an ac ae ag aq th rd sd tr kd ng cc qq rs ct un re ks ms cs es dg og p1 (1, rd) (hF _ hz).symm, ⟨_, _, _, _, _, _, _, _, _, _, _, hR, ⟨_, _, _, _, _, _, _, _, _, rfl⟩, ⟨_, _, _, _, _, _, _, _, _, _, rfl⟩⟩⟩
  · exact ⟨1, _, _, c_L_mode_b2 l hl0 D cR cI cJ cZ t0 sv ax ar ao ad rd tr sd rn om oh ol op oe ow ok os so mi co ex p1 1 rfl hs, c_X4_mode l D cR cI cJ cZ t0 am ak an ac ae ag aq th rd sd tr kd ng cc qq rs ct un re ks ms cs es dg og p1 (1, rd) (hF _ hz).symm, ⟨_, _, _, _, _, _, _, _, _, _, _, hR, ⟨_, _, _, _, _, _, _, _, _, rfl⟩, ⟨_, _, _, _, _, _, _, _, _, _, rfl⟩⟩⟩
theorem st_trap (hl0 : l.stackTraces = false) (h : LR cR cI cJ cZ ax ar ao ad am ak an ac ae ag aq th w wm) (p1 : Int32) : ST0 l D cR cI cJ cZ ax ar ao ad am ak an ac ae ag aq t0 sv yL_trap cL_trap 3 [(0, 5, 8, 15)] rm_L_trap 1 yX4_trap cX4_trap 2 rm_X4_trap [.int p1] w wm := by
  obtain ⟨rd, tr, sd, so, mi, co, ex, ks, ms, cs, es, hR, ⟨rn, om, oh, ol, op, oe, ow, ok, os, rfl⟩, ⟨kd, ng, cc, qq, rs, ct, un, re, dg, og, rfl⟩⟩ := h
  have hF : ∀ z : Bool, Z_X4_trap_J_105 p1 = z → F_X4_trap tr p1 = (bI z, if z = true then tr else p1) := by
    intro z hz
    unfold F_X4_trap bnd
    dsimp only
    rw [hz]
    unfold Z_X4_trap_J_110
    cases z <;> rfl
  rcases cs_trap p1 with ⟨hs, hz⟩ | ⟨hs, hz⟩ | ⟨hs, hz⟩
  · exact ⟨0, _, _, c_L_trap_ok l hl0 D cR cI cJ cZ t0 sv ax ar ao ad rd tr sd rn om oh ol op oe ow ok os so mi co ex p1 (0, p1) rfl hs, c_X4_trap l D cR cI cJ cZ t0 am ak an ac ae ag aq th rd sd tr kd ng cc qq rs ct un re ks ms cs es dg og p1 (0, p1) (hF _ hz).symm, ⟨_, _, _, _, _, _, _, _, _, _, _, hR, ⟨_, _, _, _, _, _, _, _, _, rfl⟩, ⟨_, _, _, _, _, _, _, _, _, _, rfl⟩⟩⟩
  · exact ⟨1, _, _, c_L_trap_b1 l hl0 D cR cI cJ cZ t0 sv ax ar ao ad rd tr sd rn om oh ol op oe ow ok os so mi co ex p1 1 rfl hs, c_X4_trap l D cR cI cJ cZ t0 am ak an ac ae ag aq th rd sd tr kd ng cc qq rs ct un re ks ms cs es dg og p1 (1, tr) (hF _ hz).symm, ⟨_, _, _, _, _, _, _, _, _, _, _, hR, ⟨_, _, _, _, _, _, _, _, _, rfl⟩, ⟨_, _, _, _, _, _, _, _, _, _, rfl⟩⟩⟩
  · exact ⟨1, _, _, c_L_trap_b2 l hl0 D cR cI cJ cZ t0 sv ax ar ao ad rd tr sd rn om oh ol op oe ow ok os so mi co ex p1 1 rfl hs, c_X4_trap l D cR cI cJ cZ t0 am ak an ac ae ag aq th rd sd tr kd ng cc qq rs ct un re ks ms cs es dg og p1 (1, tr) (hF _ hz).symm, ⟨_, _, _, _, _, _, _, _, _, _, _, hR, ⟨_, _, _, _, _, _, _, _, _, rfl⟩, ⟨_, _, _, _, _, _, _, _, _, _, rfl⟩⟩⟩
theorem st_put (hl0 : l.stackTraces = false) (h : LR cR cI cJ cZ ax ar ao ad am ak an ac ae ag aq th w wm) (p1 : Int32) (p2 : Bool) (p3 : Int64) (p4 : Int32) : ST0 l D cR cI cJ cZ ax ar ao ad am ak an ac ae ag aq t0 sv yL_put cL_put 7 [(0, 9, 12, 13), (0, 9, 16, 15)] rm_L_put 2 yX4_put cX4_put 6 rm_X4_put [.int p1, .int (bI p2), .long p3, .int p4] w wm := by
  obtain ⟨rd, tr, sd, so, mi, co, ex, ks, ms, cs, es, hR, ⟨rn, om, oh, ol, op, oe, ow, ok, os, rfl⟩, ⟨kd, ng, cc, qq, rs, ct, un, re, dg, og, rfl⟩⟩ := h
  have hF : ∀ z : Int32, ¬ z = 0 → Z_X4_put_J_109 p1 p3 p4 = z → F_X4_put kd ng cc qq ks ms cs es p1 p2 p3 p4 = (z, kd, ng, cc, qq, ks, ms, cs, es) := by
    intro z h0 hz
    unfold F_X4_put bnd
    dsimp only
    rw [hz]
    exact if_neg h0
  have hG : Z_X4_put_J_109 p1 p3 p4 = 0 → F_X4_put kd ng cc qq ks ms cs es p1 p2 p3 p4 = (0, 0, p2, p3, p4, zP ks ms cs es p1.toNatClampNeg (0, p2, p3, p4)) := by
    intro hz
    unfold F_X4_put bnd
    dsimp only
    rw [hz]
    rfl
  rcases cs_put so mi co ex p1 p2 p3 p4 with ⟨hs, hz⟩ | ⟨hs, hz⟩ | ⟨hs, hz⟩ | ⟨hs, hz⟩ | ⟨hs, hz⟩ | ⟨hs, hz⟩
  · have hv : ∃ c : Nat, p3.toInt = (c : Int) ∧ VS (0 : Int32).toInt p2 c p4.toInt := by
      obtain ⟨-, h1, h2, h3, h4⟩ := hs
      have e0 : (0 : Int64).toInt = 0 := by decide
      have e1 : (10000000000000000 : Int64).toInt = 10000000000000000 := by decide
      have e2 : (-398 : Int32).toInt = -398 := by decide
      have e3 : (369 : Int32).toInt = 369 := by decide
      rw [tl_lt, e0] at h1
      rw [tl_lt, e1] at h2
      rw [ti_lt, e2] at h3
      rw [ti_le, e3] at h4
      exact ⟨p3.toInt.toNat, by omega, Or.inl ⟨by decide, by omega, by omega, h4⟩⟩
    exact ⟨0, _, _, c_L_put_ok l hl0 D cR cI cJ cZ t0 sv ax ar ao ad rd tr sd rn om oh ol op oe ow ok os so mi co ex p1 p2 p3 p4 (0, zP so mi co ex p1.toNatClampNeg (0, p2, p3, p4)) rfl hs, c_X4_put l D cR cI cJ cZ t0 am ak an ac ae ag aq th rd sd tr kd ng cc qq rs ct un re ks ms cs es dg og p1 p2 p3 p4 _ (hG hz).symm (rs_Sput p1 p2 p3 p4), ⟨_, _, _, _, _, _, _, _, _, _, _, rs_put hR hv, ⟨_, _, _, _, _, _, _, _, _, rfl⟩, ⟨_, _, _, _, _, _, _, _, _, _, rfl⟩⟩⟩
  · exact ⟨1, _, _, c_L_put_b0 l hl0 D cR cI cJ cZ t0 sv ax ar ao ad rd tr sd rn om oh ol op oe ow ok os so mi co ex p1 p2 p3 p4 1 rfl hs, c_X4_put l D cR cI cJ cZ t0 am ak an ac ae ag aq th rd sd tr kd ng cc qq rs ct un re ks ms cs es dg og p1 p2 p3 p4 _ (hF _ (by decide) hz).symm (rs_Sput p1 p2 p3 p4), ⟨_, _, _, _, _, _, _, _, _, _, _, hR, ⟨_, _, _, _, _, _, _, _, _, rfl⟩, ⟨_, _, _, _, _, _, _, _, _, _, rfl⟩⟩⟩
  · exact ⟨2, _, _, c_L_put_b1 l hl0 D cR cI cJ cZ t0 sv ax ar ao ad rd tr sd rn om oh ol op oe ow ok os so mi co ex p1 p2 p3 p4 2 rfl hs, c_X4_put l D cR cI cJ cZ t0 am ak an ac ae ag aq th rd sd tr kd ng cc qq rs ct un re ks ms cs es dg og p1 p2 p3 p4 _ (hF _ (by decide) hz).symm (rs_Sput p1 p2 p3 p4), ⟨_, _, _, _, _, _, _, _, _, _, _, hR, ⟨_, _, _, _, _, _, _, _, _, rfl⟩, ⟨_, _, _, _, _, _, _, _, _, _, rfl⟩⟩⟩
  · exact ⟨2, _, _, c_L_put_b2 l hl0 D cR cI cJ cZ t0 sv ax ar ao ad rd tr sd rn om oh ol op oe ow ok os so mi co ex p1 p2 p3 p4 2 rfl hs, c_X4_put l D cR cI cJ cZ t0 am ak an ac ae ag aq th rd sd tr kd ng cc qq rs ct un re ks ms cs es dg og p1 p2 p3 p4 _ (hF _ (by decide) hz).symm (rs_Sput p1 p2 p3 p4), ⟨_, _, _, _, _, _, _, _, _, _, _, hR, ⟨_, _, _, _, _, _, _, _, _, rfl⟩, ⟨_, _, _, _, _, _, _, _, _, _, rfl⟩⟩⟩
  · exact ⟨2, _, _, c_L_put_b3 l hl0 D cR cI cJ cZ t0 sv ax ar ao ad rd tr sd rn om oh ol op oe ow ok os so mi co ex p1 p2 p3 p4 2 rfl hs, c_X4_put l D cR cI cJ cZ t0 am ak an ac ae ag aq th rd sd tr kd ng cc qq rs ct un re ks ms cs es dg og p1 p2 p3 p4 _ (hF _ (by decide) hz).symm (rs_Sput p1 p2 p3 p4), ⟨_, _, _, _, _, _, _, _, _, _, _, hR, ⟨_, _, _, _, _, _, _, _, _, rfl⟩, ⟨_, _, _, _, _, _, _, _, _, _, rfl⟩⟩⟩
  · exact ⟨2, _, _, c_L_put_b4 l hl0 D cR cI cJ cZ t0 sv ax ar ao ad rd tr sd rn om oh ol op oe ow ok os so mi co ex p1 p2 p3 p4 2 rfl hs, c_X4_put l D cR cI cJ cZ t0 am ak an ac ae ag aq th rd sd tr kd ng cc qq rs ct un re ks ms cs es dg og p1 p2 p3 p4 _ (hF _ (by decide) hz).symm (rs_Sput p1 p2 p3 p4), ⟨_, _, _, _, _, _, _, _, _, _, _, hR, ⟨_, _, _, _, _, _, _, _, _, rfl⟩, ⟨_, _, _, _, _, _, _, _, _, _, rfl⟩⟩⟩
theorem st_unpack (hl0 : l.stackTraces = false) (h : LR cR cI cJ cZ ax ar ao ad am ak an ac ae ag aq th w wm) (p1 p2 : Int32) (p3 : Int64) : ST0 l D cR cI cJ cZ ax ar ao ad am ak an ac ae ag aq t0 sv yL_unpack cL_unpack 6 [(0, 7, 10, 13), (0, 7, 14, 15)] rm_L_unpack 2 yX4_unpack cX4_unpack 12 rm_X4_unpack [.int p1, .int p2, .long p3] w wm := by
  obtain ⟨rd, tr, sd, so, mi, co, ex, ks, ms, cs, es, hR, ⟨rn, om, oh, ol, op, oe, ow, ok, os, rfl⟩, ⟨kd, ng, cc, qq, rs, ct, un, re, dg, og, rfl⟩⟩ := h
  have hS : S_X4_unpack kd ng cc qq ks ms cs es p1 p2 p3 := zk_SR4 (fun h => zk_reg.mp h)
  rcases cs_unpack p1 p2 p3 with ⟨⟨h1, h2⟩, hz⟩ | ⟨hs, hz⟩ | ⟨hs, hz⟩
  · obtain ⟨e1, e2⟩ := rs_unpack (so := so) (mi := mi) (co := co) (ex := ex) (kd := kd) (ng := ng) (cc := cc) (qq := qq) (ks := ks) (ms := ms) (cs := cs) (es := es) (x := p3) h1 h2
    have hs : S_L_unpack_ok so mi co ex p1 p2 p3 := ⟨h1, h2, fun _ _ => zk_SR2 _ _ _ _ _ _ _⟩
    have hu : ((0 : Int32), zP so mi co ex p1.toNatClampNeg (zU p2 p3)) = F_L_unpack_ok so mi co ex p1 p2 p3 := by
      unfold F_L_unpack_ok bnd
      rw [e1]
    exact ⟨0, _, _, c_L_unpack_ok l hl0 D cR cI cJ cZ t0 sv ax ar ao ad rd tr sd rn om oh ol op oe ow ok os so mi co ex p1 p2 p3 _ hu hs, c_X4_unpack l D cR cI cJ cZ t0 am ak an ac ae ag aq th rd sd tr kd ng cc qq rs ct un re ks ms cs es dg og p1 p2 p3 _ e2.symm hS, ⟨_, _, _, _, _, _, _, _, _, _, _, rs_put hR (zk_uv (zk_in2.mp h2) p3), ⟨_, _, _, _, _, _, _, _, _, rfl⟩, ⟨_, _, _, _, _, _, _, _, _, _, rfl⟩⟩⟩
  · exact ⟨1, _, _, c_L_unpack_b0 l hl0 D cR cI cJ cZ t0 sv ax ar ao ad rd tr sd rn om oh ol op oe ow ok os so mi co ex p1 p2 p3 1 rfl hs, c_X4_unpack l D cR cI cJ cZ t0 am ak an ac ae ag aq th rd sd tr kd ng cc qq rs ct un re ks ms cs es dg og p1 p2 p3 _ ((zk_unbad (by rw [hz]; decide)).trans (by rw [hz])).symm hS, ⟨_, _, _, _, _, _, _, _, _, _, _, hR, ⟨_, _, _, _, _, _, _, _, _, rfl⟩, ⟨_, _, _, _, _, _, _, _, _, _, rfl⟩⟩⟩
  · exact ⟨2, _, _, c_L_unpack_b1 l hl0 D cR cI cJ cZ t0 sv ax ar ao ad rd tr sd rn om oh ol op oe ow ok os so mi co ex p1 p2 p3 2 rfl hs, c_X4_unpack l D cR cI cJ cZ t0 am ak an ac ae ag aq th rd sd tr kd ng cc qq rs ct un re ks ms cs es dg og p1 p2 p3 _ ((zk_unbad (by rw [hz]; decide)).trans (by rw [hz])).symm hS, ⟨_, _, _, _, _, _, _, _, _, _, _, hR, ⟨_, _, _, _, _, _, _, _, _, rfl⟩, ⟨_, _, _, _, _, _, _, _, _, _, rfl⟩⟩⟩
end ST
