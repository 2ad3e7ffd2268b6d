/-! the law's methods that catch -/
def wO (cI cJ cZ : ClassId) (qo : Nat) (q : Nat → Nat) (R C : Nat) (ov : Nat → Int64) (dr sz : Nat) (sa : Bool) (cu fi st : Nat → Nat) (lo hi : Nat → Option Nat) (wa sw : Nat → Nat) : va_W := (qo, .inl (cJ, 1, .inr (.inl ov))) :: wX cI cZ q R C dr sz sa cu fi st lo hi wa sw
def OW (cI cJ cZ : ClassId) (qo : Nat) (q : Nat → Nat) (R C : Nat) (ov : Nat → Int64) (dr : Nat) (cu : Nat → Nat) (u : va_W) : Prop :=
  ∃ (sz : Nat) (sa : Bool) (fi st : Nat → Nat) (lo hi : Nat → Option Nat) (wa sw : Nat → Nat), XI0 R C cu sa sz fi st lo hi wa dr ∧ u = wO cI cJ cZ qo q R C ov dr sz sa cu fi st lo hi wa sw
set_option maxHeartbeats 4000000 in
set_option maxRecDepth 100000 in
theorem w_point (l : Launch) (hfl : l.flags = flags0) (D : va_G) (cI cJ cZ : ClassId) (qo : Nat) (q : Nat → Nat) (R C : Nat) (hG : GS R C) (dr sz : Nat) (sa : Bool) (cu fi st : Nat → Nat) (lo hi : Nat → Option Nat) (wa sw : Nat → Nat) (ov : Nat → Int64) (hx : XOK R C cu) (hI : XI0 R C cu sa sz fi st lo hi wa dr) (e : Nat) (he : e < nE R C) (t : Bool) : CtW l yL_point method_3_code 5 (Option.some FieldType.int) [(0, 10, 13, 13)] ({ frames := 7, cells := 1, slots := 6, locals := 104 } : Room) D (tys3 cI cJ cZ) (wO cI cJ cZ qo q R C ov dr sz sa cu fi st lo hi wa sw) [.ref (q 0), .int (nI (e)), .int (bI (t)), .ref (qo)] (fun r u => r = some (.int (nI (0))) ∧ OW cI cJ cZ qo q R C (va_up ov 0 ((nI (if t then mHigh R C e else mLow R C e)).toInt64)) dr cu u) 1 6 := by
  refine CtW.of hfl (by decide) (Nat.le_of_ble_eq_true rfl) ?_
  intro k hR hC
  show V k l D (tys3 cI cJ cZ) ({ frames := 7, cells := 1, slots := 6, locals := 104 } : Room) method_3_code 5 RL (wO cI cJ cZ qo q R C ov dr sz sa cu fi st lo hi wa sw) 0 0 0 [(0, .ref (q 0)), (1, .int (nI (e))), (2, .int (bI (t))), (3, .ref (qo))] []
  refine j_widen (k2 := 1) (n2 := 6) (by decide) (by decide) ?_
  refine j_aload_n dL_point_0 rfl 3 rfl ?_
  refine j_iconst (v := nI (0)) dL_point_1 (by decide) ?_
  refine j_aload_n dL_point_2 rfl 0 rfl ?_
  refine j_iload_n dL_point_3 rfl 1 rfl ?_
  refine j_iload_n dL_point_4 rfl 2 rfl ?_
  refine j_callV (mc := 0) (ms := 0) (wc := wX cI cZ q R C dr sz sa cu fi st lo hi wa sw) (wr := [(qo, .inl (cJ, 1, .inr (.inl ov)))]) (tys3 := tys3 cI cJ cZ) (av := [.int (nI (e)), .int (bI (t))]) (rest := [.int (nI (0)), .ref (qo)]) (c_point l hfl D cI cJ cZ q R C hG dr sz sa cu fi st lo hi wa sw hx hI e he t) 1 rfl rfl mw1_209 mw1_210 mw1_211 mw1_1 mw1_212 ⟨rfl, hd_X2_point⟩ rfl ⟨rfl, rfl⟩ ⟨Nat.le_of_ble_eq_true rfl, Nat.le_of_ble_eq_true rfl⟩ ⟨Nat.le_of_ble_eq_true rfl, Nat.le_of_ble_eq_true rfl⟩ (Nat.le_of_ble_eq_true rfl) [1, 2, 3, 4, 5, 6, 7, 8, 9, 10, 11, 12, 13] [0] rfl rfl rfl rfl (by decide) (fun _ h _ => h) rfl dL_point_5 ?_
  rintro _ _ ⟨rfl, sz2, sa2, fi2, st2, lo2, hi2, wa2, sw2, hI2, rfl⟩
  show V k l D (tys3 cI cJ cZ) ({ frames := 7, cells := 1, slots := 6, locals := 104 } : Room) method_3_code 5 RL (wO cI cJ cZ qo q R C ov dr sz2 sa2 cu fi2 st2 lo2 hi2 wa2 sw2) 1 6 8 [(0, .ref (q 0)), (1, .int (nI (e))), (2, .int (bI (t))), (3, .ref (qo))] [.int (nI (if t then mHigh R C e else mLow R C e)), .int (nI (0)), .ref (qo)]
  refine j_i2l dL_point_8 rfl ?_
  refine jn_last (wO cI cJ cZ qo q R C (va_up ov 0 ((nI (if t then mHigh R C e else mLow R C e)).toInt64)) dr sz2 sa2 cu fi2 st2 lo2 hi2 wa2 sw2) 0 1 rfl rfl (by omega) (by omega) rfl dL_point_9 ?_
  refine j_goto (tgt := 17) dL_point_10 (by decide) ?_
  refine j_iconst (v := nI (0)) dL_point_17 (by decide) ?_
  exact j_iret (tys' := []) rfl hR dL_point_18 (⟨rfl, sz2, sa2, fi2, st2, lo2, hi2, wa2, sw2, hI2, rfl⟩)

set_option maxHeartbeats 4000000 in
set_option maxRecDepth 100000 in
theorem w_pointX (l : Launch) (hfl : l.flags = flags0) (D : va_G) (cI cJ cZ : ClassId) (qo : Nat) (q : Nat → Nat) (R C : Nat) (hG : GS R C) (dr sz : Nat) (sa : Bool) (cu fi st : Nat → Nat) (lo hi : Nat → Option Nat) (wa sw : Nat → Nat) (ov : Nat → Int64) (hx : XOK R C cu) (hI : XI0 R C cu sa sz fi st lo hi wa dr) (x : Int32) (hxx : inB (nE R C) x = false) (t : Bool) : CtW l yL_point method_3_code 5 (Option.some FieldType.int) [(0, 10, 13, 13)] ({ frames := 7, cells := 1, slots := 6, locals := 104 } : Room) D (tys3 cI cJ cZ) (wO cI cJ cZ qo q R C ov dr sz sa cu fi st lo hi wa sw) [.ref (q 0), .int (x), .int (bI (t)), .ref (qo)] (fun r u => r = some (.int (nI (1))) ∧ OW cI cJ cZ qo q R C ov dr cu u) 1 6 := by
  refine CtW.of hfl (by decide) (Nat.le_of_ble_eq_true rfl) ?_
  intro k hR hC
  show V k l D (tys3 cI cJ cZ) ({ frames := 7, cells := 1, slots := 6, locals := 104 } : Room) method_3_code 5 RL (wO cI cJ cZ qo q R C ov dr sz sa cu fi st lo hi wa sw) 0 0 0 [(0, .ref (q 0)), (1, .int (x)), (2, .int (bI (t))), (3, .ref (qo))] []
  refine j_aload_n dL_point_0 rfl 3 rfl ?_
  refine j_iconst (v := nI (0)) dL_point_1 (by decide) ?_
  refine j_aload_n dL_point_2 rfl 0 rfl ?_
  refine j_iload_n dL_point_3 rfl 1 rfl ?_
  refine j_iload_n dL_point_4 rfl 2 rfl ?_
  refine j_callT (mc := 1) (ms := 6) (wc := wX cI cZ q R C dr sz sa cu fi st lo hi wa sw) (wr := [(qo, .inl (cJ, 1, .inr (.inl ov)))]) (av := [.int (x), .int (bI (t))]) (rest := [.int (nI (0)), .ref (qo)]) (E0 := XI) (name := XI) (hh := [(0, 10, 13, 13)]) (c_pointX l hfl D cI cJ cZ q R C hG dr sz sa cu fi st lo hi wa sw hx hI x hxx t) 1 rfl rfl mw1_209 mw1_210 mw1_211 mw1_1 mw1_212 ⟨rfl, hd_X2_point⟩ rfl ⟨rfl, rfl⟩ ⟨Nat.le_of_ble_eq_true rfl, Nat.le_of_ble_eq_true rfl⟩ ⟨Nat.le_of_ble_eq_true rfl, Nat.le_of_ble_eq_true rfl⟩ (Nat.le_of_ble_eq_true rfl) [1, 2, 3, 4, 5, 6, 7, 8, 9, 10, 11, 12, 13] [0] rfl rfl rfl rfl (by decide) hC [] ⟨0, 10, 13, 13⟩ [] rfl (fun z hz => absurd hz List.not_mem_nil) rfl (by decide) mw1_208 ca_XI rfl dL_point_5 ?_
  rintro q9 _ ⟨sz2, sa2, fi2, st2, lo2, hi2, wa2, sw2, hI2, rfl⟩
  show V k l D (tys3 cI cJ cZ) ({ frames := 7, cells := 1, slots := 6, locals := 104 } : Room) method_3_code 5 RL (wO cI cJ cZ qo q R C ov dr sz2 sa2 cu fi2 st2 lo2 hi2 wa2 sw2) 1 6 13 [(0, .ref (q 0)), (1, .int (x)), (2, .int (bI (t))), (3, .ref (qo))] [.ref (q9)]
  refine j_astore [(4, .ref (q9)), (0, .ref (q 0)), (1, .int (x)), (2, .int (bI (t))), (3, .ref (qo))] dL_point_13 (by decide) rfl ?_
  refine j_iconst (v := nI (1)) dL_point_15 (by decide) ?_
  exact j_iret (tys' := []) rfl hR dL_point_16 (⟨rfl, sz2, sa2, fi2, st2, lo2, hi2, wa2, sw2, hI2, rfl⟩)

set_option maxHeartbeats 4000000 in
set_option maxRecDepth 100000 in
theorem w_clue (l : Launch) (hfl : l.flags = flags0) (D : va_G) (cI cJ cZ : ClassId) (q : Nat → Nat) (R C : Nat) (hG : GS R C) (dr sz : Nat) (sa : Bool) (cu fi st : Nat → Nat) (lo hi : Nat → Option Nat) (wa sw : Nat → Nat) (hx : XOK R C cu) (hI : XI0 R C cu sa sz fi st lo hi wa dr) (yr xc v : Nat) (hr : yr < R) (hc : xc < C) (hv : v = 99 ∨ v ≤ 4) : CtW l yL_clue method_4_code 5 (Option.some FieldType.int) [(0, 7, 10, 13), (0, 7, 14, 19)] ({ frames := 7, cells := 1, slots := 6, locals := 104 } : Room) D (tys3 cI cJ cZ) (wX cI cZ q R C dr sz sa cu fi st lo hi wa sw) [.ref (q 0), .int (nI (yr)), .int (nI (xc)), .int (eI (v))] (fun r u => r = some (.int (nI (0))) ∧ XW cI cZ q R C dr (va_up cu (yr * C + xc) v) u) 1 6 := by
  refine CtW.of hfl (by decide) (Nat.le_of_ble_eq_true rfl) ?_
  intro k hR hC
  show V k l D (tys3 cI cJ cZ) ({ frames := 7, cells := 1, slots := 6, locals := 104 } : Room) method_4_code 5 RL (wX cI cZ q R C dr sz sa cu fi st lo hi wa sw) 0 0 0 [(0, .ref (q 0)), (1, .int (nI (yr))), (2, .int (nI (xc))), (3, .int (eI (v)))] []
  refine j_widen (k2 := 1) (n2 := 6) (by decide) (by decide) ?_
  refine j_aload_n dL_clue_0 rfl 0 rfl ?_
  refine j_iload_n dL_clue_1 rfl 1 rfl ?_
  refine j_iload_n dL_clue_2 rfl 2 rfl ?_
  refine j_iload_n dL_clue_3 rfl 3 rfl ?_
  refine j_callV (mc := 0) (ms := 0) (wc := wX cI cZ q R C dr sz sa cu fi st lo hi wa sw) (wr := []) (tys3 := tys3 cI cJ cZ) (av := [.int (nI (yr)), .int (nI (xc)), .int (eI (v))]) (rest := []) (c_clue l hfl D cI cJ cZ q R C hG dr sz sa cu fi st lo hi wa sw hx hI yr xc v hr hc hv) 0 rfl rfl mw2_45 mw2_46 mw2_47 mw1_1 mw2_48 ⟨rfl, hd_X2_clue⟩ rfl ⟨rfl, rfl⟩ ⟨Nat.le_of_ble_eq_true rfl, Nat.le_of_ble_eq_true rfl⟩ ⟨Nat.le_of_ble_eq_true rfl, Nat.le_of_ble_eq_true rfl⟩ (Nat.le_of_ble_eq_true rfl) [0, 1, 2, 3, 4, 5, 6, 7, 8, 9, 10, 11, 12] [] rfl rfl rfl rfl (by decide) (fun _ h _ => h) rfl dL_clue_4 ?_
  rintro _ _ ⟨rfl, sz2, sa2, fi2, st2, lo2, hi2, wa2, sw2, hI2, rfl⟩
  show V k l D (tys3 cI cJ cZ) ({ frames := 7, cells := 1, slots := 6, locals := 104 } : Room) method_4_code 5 RL (wX cI cZ q R C dr sz2 sa2 (va_up cu (yr * C + xc) v) fi2 st2 lo2 hi2 wa2 sw2) 1 6 7 [(0, .ref (q 0)), (1, .int (nI (yr))), (2, .int (nI (xc))), (3, .int (eI (v)))] []
  refine j_goto (tgt := 18) dL_clue_7 (by decide) ?_
  refine j_iconst (v := nI (0)) dL_clue_18 (by decide) ?_
  exact j_iret (tys' := []) rfl hR dL_clue_19 (⟨rfl, XW_of hI2⟩)

set_option maxHeartbeats 4000000 in
set_option maxRecDepth 100000 in
theorem w_clueV (l : Launch) (hfl : l.flags = flags0) (D : va_G) (cI cJ cZ : ClassId) (q : Nat → Nat) (R C : Nat) (hG : GS R C) (dr sz : Nat) (sa : Bool) (cu fi st : Nat → Nat) (lo hi : Nat → Option Nat) (wa sw : Nat → Nat) (hx : XOK R C cu) (hI : XI0 R C cu sa sz fi st lo hi wa dr) (yr xc : Nat) (hr : yr < R) (hc : xc < C) (x : Int32) (hxx : x < -1 ∨ ¬ x ≤ nI 4) : CtW l yL_clue method_4_code 5 (Option.some FieldType.int) [(0, 7, 10, 13), (0, 7, 14, 19)] ({ frames := 7, cells := 1, slots := 6, locals := 104 } : Room) D (tys3 cI cJ cZ) (wX cI cZ q R C dr sz sa cu fi st lo hi wa sw) [.ref (q 0), .int (nI (yr)), .int (nI (xc)), .int (x)] (fun r u => r = some (.int (nI (2))) ∧ XW cI cZ q R C dr cu u) 1 6 := by
  refine CtW.of hfl (by decide) (Nat.le_of_ble_eq_true rfl) ?_
  intro k hR hC
  show V k l D (tys3 cI cJ cZ) ({ frames := 7, cells := 1, slots := 6, locals := 104 } : Room) method_4_code 5 RL (wX cI cZ q R C dr sz sa cu fi st lo hi wa sw) 0 0 0 [(0, .ref (q 0)), (1, .int (nI (yr))), (2, .int (nI (xc))), (3, .int (x))] []
  refine j_aload_n dL_clue_0 rfl 0 rfl ?_
  refine j_iload_n dL_clue_1 rfl 1 rfl ?_
  refine j_iload_n dL_clue_2 rfl 2 rfl ?_
  refine j_iload_n dL_clue_3 rfl 3 rfl ?_
  refine j_callT (mc := 1) (ms := 6) (wc := wX cI cZ q R C dr sz sa cu fi st lo hi wa sw) (wr := []) (av := [.int (nI (yr)), .int (nI (xc)), .int (x)]) (rest := []) (E0 := XA) (name := XA) (hh := [(0, 7, 10, 13), (0, 7, 14, 19)]) (c_clueV l hfl D cI cJ cZ q R C hG dr sz sa cu fi st lo hi wa sw hx hI yr xc hr hc x hxx) 0 rfl rfl mw2_45 mw2_46 mw2_47 mw1_1 mw2_48 ⟨rfl, hd_X2_clue⟩ rfl ⟨rfl, rfl⟩ ⟨Nat.le_of_ble_eq_true rfl, Nat.le_of_ble_eq_true rfl⟩ ⟨Nat.le_of_ble_eq_true rfl, Nat.le_of_ble_eq_true rfl⟩ (Nat.le_of_ble_eq_true rfl) [0, 1, 2, 3, 4, 5, 6, 7, 8, 9, 10, 11, 12] [] rfl rfl rfl rfl (by decide) hC [⟨0, 7, 10, 13⟩] ⟨0, 7, 14, 19⟩ [] rfl (fun z hz => by rw [List.mem_singleton.mp hz]; exact ⟨by decide, XI, mw1_208, Or.inl ⟨rfl, rfl⟩⟩) rfl (by decide) mw2_44 ca_XA rfl dL_clue_4 ?_
  rintro q9 _ ⟨sz2, sa2, fi2, st2, lo2, hi2, wa2, sw2, hI2, rfl⟩
  show V k l D (tys3 cI cJ cZ) ({ frames := 7, cells := 1, slots := 6, locals := 104 } : Room) method_4_code 5 RL (wX cI cZ q R C dr sz2 sa2 cu fi2 st2 lo2 hi2 wa2 sw2) 1 6 14 [(0, .ref (q 0)), (1, .int (nI (yr))), (2, .int (nI (xc))), (3, .int (x))] [.ref (q9)]
  refine j_astore [(4, .ref (q9)), (0, .ref (q 0)), (1, .int (nI (yr))), (2, .int (nI (xc))), (3, .int (x))] dL_clue_14 (by decide) rfl ?_
  refine j_iconst (v := nI (2)) dL_clue_16 (by decide) ?_
  exact j_iret (tys' := []) rfl hR dL_clue_17 (⟨rfl, XW_of hI2⟩)

set_option maxHeartbeats 4000000 in
set_option maxRecDepth 100000 in
theorem w_clueX (l : Launch) (hfl : l.flags = flags0) (D : va_G) (cI cJ cZ : ClassId) (q : Nat → Nat) (R C : Nat) (hG : GS R C) (dr sz : Nat) (sa : Bool) (cu fi st : Nat → Nat) (lo hi : Nat → Option Nat) (wa sw : Nat → Nat) (hx : XOK R C cu) (hI : XI0 R C cu sa sz fi st lo hi wa dr) (x y z : Int32) (hxy : (inB R x && inB C y) = false) : CtW l yL_clue method_4_code 5 (Option.some FieldType.int) [(0, 7, 10, 13), (0, 7, 14, 19)] ({ frames := 7, cells := 1, slots := 6, locals := 104 } : Room) D (tys3 cI cJ cZ) (wX cI cZ q R C dr sz sa cu fi st lo hi wa sw) [.ref (q 0), .int (x), .int (y), .int (z)] (fun r u => r = some (.int (nI (1))) ∧ XW cI cZ q R C dr cu u) 1 6 := by
  refine CtW.of hfl (by decide) (Nat.le_of_ble_eq_true rfl) ?_
  intro k hR hC
  show V k l D (tys3 cI cJ cZ) ({ frames := 7, cells := 1, slots := 6, locals := 104 } : Room) method_4_code 5 RL (wX cI cZ q R C dr sz sa cu fi st lo hi wa sw) 0 0 0 [(0, .ref (q 0)), (1, .int (x)), (2, .int (y)), (3, .int (z))] []
  refine j_aload_n dL_clue_0 rfl 0 rfl ?_
  refine j_iload_n dL_clue_1 rfl 1 rfl ?_
  refine j_iload_n dL_clue_2 rfl 2 rfl ?_
  refine j_iload_n dL_clue_3 rfl 3 rfl ?_
  refine j_callT (mc := 1) (ms := 6) (wc := wX cI cZ q R C dr sz sa cu fi st lo hi wa sw) (wr := []) (av := [.int (x), .int (y), .int (z)]) (rest := []) (E0 := XI) (name := XI) (hh := [(0, 7, 10, 13), (0, 7, 14, 19)]) (c_clueX l hfl D cI cJ cZ q R C hG dr sz sa cu fi st lo hi wa sw hx hI x y z hxy) 0 rfl rfl mw2_45 mw2_46 mw2_47 mw1_1 mw2_48 ⟨rfl, hd_X2_clue⟩ rfl ⟨rfl, rfl⟩ ⟨Nat.le_of_ble_eq_true rfl, Nat.le_of_ble_eq_true rfl⟩ ⟨Nat.le_of_ble_eq_true rfl, Nat.le_of_ble_eq_true rfl⟩ (Nat.le_of_ble_eq_true rfl) [0, 1, 2, 3, 4, 5, 6, 7, 8, 9, 10, 11, 12] [] rfl rfl rfl rfl (by decide) hC [] ⟨0, 7, 10, 13⟩ [⟨0, 7, 14, 19⟩] rfl (fun z hz => absurd hz List.not_mem_nil) rfl (by decide) mw1_208 ca_XI rfl dL_clue_4 ?_
  rintro q9 _ ⟨sz2, sa2, fi2, st2, lo2, hi2, wa2, sw2, hI2, rfl⟩
  show V k l D (tys3 cI cJ cZ) ({ frames := 7, cells := 1, slots := 6, locals := 104 } : Room) method_4_code 5 RL (wX cI cZ q R C dr sz2 sa2 cu fi2 st2 lo2 hi2 wa2 sw2) 1 6 10 [(0, .ref (q 0)), (1, .int (x)), (2, .int (y)), (3, .int (z))] [.ref (q9)]
  refine j_astore [(4, .ref (q9)), (0, .ref (q 0)), (1, .int (x)), (2, .int (y)), (3, .int (z))] dL_clue_10 (by decide) rfl ?_
  refine j_iconst (v := nI (1)) dL_clue_12 (by decide) ?_
  exact j_iret (tys' := []) rfl hR dL_clue_13 (⟨rfl, XW_of hI2⟩)

set_option maxHeartbeats 4000000 in
set_option maxRecDepth 100000 in
theorem w_width (l : Launch) (hfl : l.flags = flags0) (D : va_G) (cI cJ cZ : ClassId) (qo : Nat) (q : Nat → Nat) (R C : Nat) (hG : GS R C) (dr sz : Nat) (sa : Bool) (cu fi st : Nat → Nat) (lo hi : Nat → Option Nat) (wa sw : Nat → Nat) (ov : Nat → Int64) (hx : XOK R C cu) (hI : XI0 R C cu sa sz fi st lo hi wa dr) (kq : Nat) (hk : kq ≤ nE R C) (t : Bool) : CtW l yL_width method_5_code 5 (Option.some FieldType.int) [(0, 10, 13, 13)] ({ frames := 7, cells := 1, slots := 6, locals := 164 } : Room) D (tys3 cI cJ cZ) (wO cI cJ cZ qo q R C ov dr sz sa cu fi st lo hi wa sw) [.ref (q 0), .int (nI (kq)), .int (bI (t)), .ref (qo)] (fun r u => r = some (.int (nI (0))) ∧ OW cI cJ cZ qo q R C (va_up ov 0 ((nI (if t then usA R C cu kq (LvS R C cu kq).length else (LvS R C cu kq).length)).toInt64)) dr cu u) 1 6 := by
  refine CtW.of hfl (by decide) (Nat.le_of_ble_eq_true rfl) ?_
  intro k hR hC
  show V k l D (tys3 cI cJ cZ) ({ frames := 7, cells := 1, slots := 6, locals := 164 } : Room) method_5_code 5 RL (wO cI cJ cZ qo q R C ov dr sz sa cu fi st lo hi wa sw) 0 0 0 [(0, .ref (q 0)), (1, .int (nI (kq))), (2, .int (bI (t))), (3, .ref (qo))] []
  refine j_widen (k2 := 1) (n2 := 6) (by decide) (by decide) ?_
  refine j_aload_n dL_width_0 rfl 3 rfl ?_
  refine j_iconst (v := nI (0)) dL_width_1 (by decide) ?_
  refine j_aload_n dL_width_2 rfl 0 rfl ?_
  refine j_iload_n dL_width_3 rfl 1 rfl ?_
  refine j_iload_n dL_width_4 rfl 2 rfl ?_
  refine j_callV (mc := 0) (ms := 0) (wc := wX cI cZ q R C dr sz sa cu fi st lo hi wa sw) (wr := [(qo, .inl (cJ, 1, .inr (.inl ov)))]) (tys3 := tys3 cI cJ cZ) (av := [.int (nI (kq)), .int (bI (t))]) (rest := [.int (nI (0)), .ref (qo)]) (c_width l hfl D cI cJ cZ q R C hG dr sz sa cu fi st lo hi wa sw hx hI kq hk t) 1 rfl rfl mw2_75 mw2_76 mw2_77 mw1_1 mw2_78 ⟨rfl, hd_X2_width⟩ rfl ⟨rfl, rfl⟩ ⟨Nat.le_of_ble_eq_true rfl, Nat.le_of_ble_eq_true rfl⟩ ⟨Nat.le_of_ble_eq_true rfl, Nat.le_of_ble_eq_true rfl⟩ (Nat.le_of_ble_eq_true rfl) [1, 2, 3, 4, 5, 6, 7, 8, 9, 10, 11, 12, 13] [0] rfl rfl rfl rfl (by decide) (fun _ h _ => h) rfl dL_width_5 ?_
  rintro _ _ ⟨rfl, sz2, sa2, fi2, st2, lo2, hi2, wa2, sw2, hI2, rfl⟩
  show V k l D (tys3 cI cJ cZ) ({ frames := 7, cells := 1, slots := 6, locals := 164 } : Room) method_5_code 5 RL (wO cI cJ cZ qo q R C ov dr sz2 sa2 cu fi2 st2 lo2 hi2 wa2 sw2) 1 6 8 [(0, .ref (q 0)), (1, .int (nI (kq))), (2, .int (bI (t))), (3, .ref (qo))] [.int (nI (if t then usA R C cu kq (LvS R C cu kq).length else (LvS R C cu kq).length)), .int (nI (0)), .ref (qo)]
  refine j_i2l dL_width_8 rfl ?_
  refine jn_last (wO cI cJ cZ qo q R C (va_up ov 0 ((nI (if t then usA R C cu kq (LvS R C cu kq).length else (LvS R C cu kq).length)).toInt64)) dr sz2 sa2 cu fi2 st2 lo2 hi2 wa2 sw2) 0 1 rfl rfl (by omega) (by omega) rfl dL_width_9 ?_
  refine j_goto (tgt := 17) dL_width_10 (by decide) ?_
  refine j_iconst (v := nI (0)) dL_width_17 (by decide) ?_
  exact j_iret (tys' := []) rfl hR dL_width_18 (⟨rfl, sz2, sa2, fi2, st2, lo2, hi2, wa2, sw2, hI2, rfl⟩)

set_option maxHeartbeats 4000000 in
set_option maxRecDepth 100000 in
theorem w_widthX (l : Launch) (hfl : l.flags = flags0) (D : va_G) (cI cJ cZ : ClassId) (qo : Nat) (q : Nat → Nat) (R C : Nat) (hG : GS R C) (dr sz : Nat) (sa : Bool) (cu fi st : Nat → Nat) (lo hi : Nat → Option Nat) (wa sw : Nat → Nat) (ov : Nat → Int64) (hx : XOK R C cu) (hI : XI0 R C cu sa sz fi st lo hi wa dr) (x : Int32) (hxx : inB (nE R C + 1) x = false) (t : Bool) : CtW l yL_width method_5_code 5 (Option.some FieldType.int) [(0, 10, 13, 13)] ({ frames := 7, cells := 1, slots := 6, locals := 164 } : Room) D (tys3 cI cJ cZ) (wO cI cJ cZ qo q R C ov dr sz sa cu fi st lo hi wa sw) [.ref (q 0), .int (x), .int (bI (t)), .ref (qo)] (fun r u => r = some (.int (nI (1))) ∧ OW cI cJ cZ qo q R C ov dr cu u) 1 6 := by
  refine CtW.of hfl (by decide) (Nat.le_of_ble_eq_true rfl) ?_
  intro k hR hC
  show V k l D (tys3 cI cJ cZ) ({ frames := 7, cells := 1, slots := 6, locals := 164 } : Room) method_5_code 5 RL (wO cI cJ cZ qo q R C ov dr sz sa cu fi st lo hi wa sw) 0 0 0 [(0, .ref (q 0)), (1, .int (x)), (2, .int (bI (t))), (3, .ref (qo))] []
  refine j_aload_n dL_width_0 rfl 3 rfl ?_
  refine j_iconst (v := nI (0)) dL_width_1 (by decide) ?_
  refine j_aload_n dL_width_2 rfl 0 rfl ?_
  refine j_iload_n dL_width_3 rfl 1 rfl ?_
  refine j_iload_n dL_width_4 rfl 2 rfl ?_
  refine j_callT (mc := 1) (ms := 6) (wc := wX cI cZ q R C dr sz sa cu fi st lo hi wa sw) (wr := [(qo, .inl (cJ, 1, .inr (.inl ov)))]) (av := [.int (x), .int (bI (t))]) (rest := [.int (nI (0)), .ref (qo)]) (E0 := XI) (name := XI) (hh := [(0, 10, 13, 13)]) (c_widthX l hfl D cI cJ cZ q R C hG dr sz sa cu fi st lo hi wa sw hx hI x hxx t) 1 rfl rfl mw2_75 mw2_76 mw2_77 mw1_1 mw2_78 ⟨rfl, hd_X2_width⟩ rfl ⟨rfl, rfl⟩ ⟨Nat.le_of_ble_eq_true rfl, Nat.le_of_ble_eq_true rfl⟩ ⟨Nat.le_of_ble_eq_true rfl, Nat.le_of_ble_eq_true rfl⟩ (Nat.le_of_ble_eq_true rfl) [1, 2, 3, 4, 5, 6, 7, 8, 9, 10, 11, 12, 13] [0] rfl rfl rfl rfl (by decide) hC [] ⟨0, 10, 13, 13⟩ [] rfl (fun z hz => absurd hz List.not_mem_nil) rfl (by decide) mw1_208 ca_XI rfl dL_width_5 ?_
  rintro q9 _ ⟨sz2, sa2, fi2, st2, lo2, hi2, wa2, sw2, hI2, rfl⟩
  show V k l D (tys3 cI cJ cZ) ({ frames := 7, cells := 1, slots := 6, locals := 164 } : Room) method_5_code 5 RL (wO cI cJ cZ qo q R C ov dr sz2 sa2 cu fi2 st2 lo2 hi2 wa2 sw2) 1 6 13 [(0, .ref (q 0)), (1, .int (x)), (2, .int (bI (t))), (3, .ref (qo))] [.ref (q9)]
  refine j_astore [(4, .ref (q9)), (0, .ref (q 0)), (1, .int (x)), (2, .int (bI (t))), (3, .ref (qo))] dL_width_13 (by decide) rfl ?_
  refine j_iconst (v := nI (1)) dL_width_15 (by decide) ?_
  exact j_iret (tys' := []) rfl hR dL_width_16 (⟨rfl, sz2, sa2, fi2, st2, lo2, hi2, wa2, sw2, hI2, rfl⟩)

set_option maxHeartbeats 4000000 in
set_option maxRecDepth 100000 in
theorem w_has (l : Launch) (hfl : l.flags = flags0) (D : va_G) (cI cJ cZ : ClassId) (qo : Nat) (q : Nat → Nat) (R C : Nat) (hG : GS R C) (dr sz : Nat) (sa : Bool) (cu fi st : Nat → Nat) (lo hi : Nat → Option Nat) (wa sw : Nat → Nat) (ov : Nat → Int64) (hx : XOK R C cu) (hI : XI0 R C cu sa sz fi st lo hi wa dr) (x : Int32) (hs0 : solI R C cu x ≠ 0) (e : Nat) (he : e < nE R C) : CtW l yL_has method_6_code 5 (Option.some FieldType.int) [(0, 17, 20, 28), (0, 17, 24, 13)] ({ frames := 7, cells := 1, slots := 6, locals := 164 } : Room) D (tys3 cI cJ cZ) (wO cI cJ cZ qo q R C ov dr sz sa cu fi st lo hi wa sw) [.ref (q 0), .int (x), .int (nI (e)), .ref (qo)] (fun r u => r = some (.int (nI (0))) ∧ OW cI cJ cZ qo q R C (va_up ov 0 (if Nat.testBit (solI R C cu x) e then 1 else 0)) dr cu u) 1 6 := by
  refine CtW.of hfl (by decide) (Nat.le_of_ble_eq_true rfl) ?_
  intro k hR hC
  show V k l D (tys3 cI cJ cZ) ({ frames := 7, cells := 1, slots := 6, locals := 164 } : Room) method_6_code 5 RL (wO cI cJ cZ qo q R C ov dr sz sa cu fi st lo hi wa sw) 0 0 0 [(0, .ref (q 0)), (1, .int (x)), (2, .int (nI (e))), (3, .ref (qo))] []
  refine j_widen (k2 := 1) (n2 := 6) (by decide) (by decide) ?_
  refine j_aload_n dL_has_0 rfl 3 rfl ?_
  refine j_iconst (v := nI (0)) dL_has_1 (by decide) ?_
  refine j_aload_n dL_has_2 rfl 0 rfl ?_
  refine j_iload_n dL_has_3 rfl 1 rfl ?_
  refine j_iload_n dL_has_4 rfl 2 rfl ?_
  refine j_callV (mc := 0) (ms := 0) (wc := wX cI cZ q R C dr sz sa cu fi st lo hi wa sw) (wr := [(qo, .inl (cJ, 1, .inr (.inl ov)))]) (tys3 := tys3 cI cJ cZ) (av := [.int (x), .int (nI (e))]) (rest := [.int (nI (0)), .ref (qo)]) (c_has l hfl D cI cJ cZ q R C hG dr sz sa cu fi st lo hi wa sw hx hI x hs0 e he) 1 rfl rfl mw2_87 mw2_88 mw2_89 mw1_1 mw2_90 ⟨rfl, hd_X2_has⟩ rfl ⟨rfl, rfl⟩ ⟨Nat.le_of_ble_eq_true rfl, Nat.le_of_ble_eq_true rfl⟩ ⟨Nat.le_of_ble_eq_true rfl, Nat.le_of_ble_eq_true rfl⟩ (Nat.le_of_ble_eq_true rfl) [1, 2, 3, 4, 5, 6, 7, 8, 9, 10, 11, 12, 13] [0] rfl rfl rfl rfl (by decide) (fun _ h _ => h) rfl dL_has_5 ?_
  rintro _ _ ⟨rfl, sz2, sa2, fi2, st2, lo2, hi2, wa2, sw2, hI2, rfl⟩
  show V k l D (tys3 cI cJ cZ) ({ frames := 7, cells := 1, slots := 6, locals := 164 } : Room) method_6_code 5 RL (wO cI cJ cZ qo q R C ov dr sz2 sa2 cu fi2 st2 lo2 hi2 wa2 sw2) 1 6 8 [(0, .ref (q 0)), (1, .int (x)), (2, .int (nI (e))), (3, .ref (qo))] [.int (bI ((Nat.testBit (solI R C cu x) e))), .int (nI (0)), .ref (qo)]
  refine jb_if_eq (tgt := 15) (b := (Nat.testBit (solI R C cu x) e)) dL_has_8 (by decide) (fun c8 => ?_) (fun c8 => ?_)
  · refine j_lconst (v := 0) dL_has_15 (by decide) ?_
    refine jn_last (wO cI cJ cZ qo q R C (va_up ov 0 0) dr sz2 sa2 cu fi2 st2 lo2 hi2 wa2 sw2) 0 1 rfl rfl (by omega) (by omega) rfl dL_has_16 ?_
    refine j_goto (tgt := 28) dL_has_17 (by decide) ?_
    refine j_iconst (v := nI (0)) dL_has_28 (by decide) ?_
    exact j_iret (tys' := []) rfl hR dL_has_29 (⟨rfl, sz2, sa2, fi2, st2, lo2, hi2, wa2, sw2, hI2, by rw [c8]; rfl⟩)
  · refine j_lconst (v := 1) dL_has_11 (by decide) ?_
    refine j_goto (tgt := 16) dL_has_12 (by decide) ?_
    refine jn_last (wO cI cJ cZ qo q R C (va_up ov 0 1) dr sz2 sa2 cu fi2 st2 lo2 hi2 wa2 sw2) 0 1 rfl rfl (by omega) (by omega) rfl dL_has_16 ?_
    refine j_goto (tgt := 28) dL_has_17 (by decide) ?_
    refine j_iconst (v := nI (0)) dL_has_28 (by decide) ?_
    exact j_iret (tys' := []) rfl hR dL_has_29 (⟨rfl, sz2, sa2, fi2, st2, lo2, hi2, wa2, sw2, hI2, by rw [c8]; rfl⟩)

set_option maxHeartbeats 4000000 in
set_option maxRecDepth 100000 in
theorem w_hasX (l : Launch) (hfl : l.flags = flags0) (D : va_G) (cI cJ cZ : ClassId) (qo : Nat) (q : Nat → Nat) (R C : Nat) (hG : GS R C) (dr sz : Nat) (sa : Bool) (cu fi st : Nat → Nat) (lo hi : Nat → Option Nat) (wa sw : Nat → Nat) (ov : Nat → Int64) (hx : XOK R C cu) (hI : XI0 R C cu sa sz fi st lo hi wa dr) (x : Int32) (hs0 : solI R C cu x = 0) (z : Int32) : CtW l yL_has method_6_code 5 (Option.some FieldType.int) [(0, 17, 20, 28), (0, 17, 24, 13)] ({ frames := 7, cells := 1, slots := 6, locals := 164 } : Room) D (tys3 cI cJ cZ) (wO cI cJ cZ qo q R C ov dr sz sa cu fi st lo hi wa sw) [.ref (q 0), .int (x), .int (z), .ref (qo)] (fun r u => r = some (.int (nI (1))) ∧ OW cI cJ cZ qo q R C ov dr cu u) 1 6 := by
  refine CtW.of hfl (by decide) (Nat.le_of_ble_eq_true rfl) ?_
  intro k hR hC
  show V k l D (tys3 cI cJ cZ) ({ frames := 7, cells := 1, slots := 6, locals := 164 } : Room) method_6_code 5 RL (wO cI cJ cZ qo q R C ov dr sz sa cu fi st lo hi wa sw) 0 0 0 [(0, .ref (q 0)), (1, .int (x)), (2, .int (z)), (3, .ref (qo))] []
  refine j_aload_n dL_has_0 rfl 3 rfl ?_
  refine j_iconst (v := nI (0)) dL_has_1 (by decide) ?_
  refine j_aload_n dL_has_2 rfl 0 rfl ?_
  refine j_iload_n dL_has_3 rfl 1 rfl ?_
  refine j_iload_n dL_has_4 rfl 2 rfl ?_
  refine j_callT (mc := 1) (ms := 6) (wc := wX cI cZ q R C dr sz sa cu fi st lo hi wa sw) (wr := [(qo, .inl (cJ, 1, .inr (.inl ov)))]) (av := [.int (x), .int (z)]) (rest := [.int (nI (0)), .ref (qo)]) (E0 := XN) (name := XN) (hh := [(0, 17, 20, 28), (0, 17, 24, 13)]) (c_hasX l hfl D cI cJ cZ q R C hG dr sz sa cu fi st lo hi wa sw hx hI x hs0 z) 1 rfl rfl mw2_87 mw2_88 mw2_89 mw1_1 mw2_90 ⟨rfl, hd_X2_has⟩ rfl ⟨rfl, rfl⟩ ⟨Nat.le_of_ble_eq_true rfl, Nat.le_of_ble_eq_true rfl⟩ ⟨Nat.le_of_ble_eq_true rfl, Nat.le_of_ble_eq_true rfl⟩ (Nat.le_of_ble_eq_true rfl) [1, 2, 3, 4, 5, 6, 7, 8, 9, 10, 11, 12, 13] [0] rfl rfl rfl rfl (by decide) hC [] ⟨0, 17, 20, 28⟩ [⟨0, 17, 24, 13⟩] rfl (fun z hz => absurd hz List.not_mem_nil) rfl (by decide) mw2_86 ca_XN rfl dL_has_5 ?_
  rintro q9 _ ⟨sz2, sa2, fi2, st2, lo2, hi2, wa2, sw2, hI2, rfl⟩
  show V k l D (tys3 cI cJ cZ) ({ frames := 7, cells := 1, slots := 6, locals := 164 } : Room) method_6_code 5 RL (wO cI cJ cZ qo q R C ov dr sz2 sa2 cu fi2 st2 lo2 hi2 wa2 sw2) 1 6 20 [(0, .ref (q 0)), (1, .int (x)), (2, .int (z)), (3, .ref (qo))] [.ref (q9)]
  refine j_astore [(4, .ref (q9)), (0, .ref (q 0)), (1, .int (x)), (2, .int (z)), (3, .ref (qo))] dL_has_20 (by decide) rfl ?_
  refine j_iconst (v := nI (1)) dL_has_22 (by decide) ?_
  exact j_iret (tys' := []) rfl hR dL_has_23 (⟨rfl, sz2, sa2, fi2, st2, lo2, hi2, wa2, sw2, hI2, rfl⟩)

set_option maxHeartbeats 4000000 in
set_option maxRecDepth 100000 in
theorem w_hasE (l : Launch) (hfl : l.flags = flags0) (D : va_G) (cI cJ cZ : ClassId) (qo : Nat) (q : Nat → Nat) (R C : Nat) (hG : GS R C) (dr sz : Nat) (sa : Bool) (cu fi st : Nat → Nat) (lo hi : Nat → Option Nat) (wa sw : Nat → Nat) (ov : Nat → Int64) (hx : XOK R C cu) (hI : XI0 R C cu sa sz fi st lo hi wa dr) (x : Int32) (hs0 : solI R C cu x ≠ 0) (z : Int32) (hxx : inB (nE R C) z = false) : CtW l yL_has method_6_code 5 (Option.some FieldType.int) [(0, 17, 20, 28), (0, 17, 24, 13)] ({ frames := 7, cells := 1, slots := 6, locals := 164 } : Room) D (tys3 cI cJ cZ) (wO cI cJ cZ qo q R C ov dr sz sa cu fi st lo hi wa sw) [.ref (q 0), .int (x), .int (z), .ref (qo)] (fun r u => r = some (.int (nI (2))) ∧ OW cI cJ cZ qo q R C ov dr cu u) 1 6 := by
  refine CtW.of hfl (by decide) (Nat.le_of_ble_eq_true rfl) ?_
  intro k hR hC
  show V k l D (tys3 cI cJ cZ) ({ frames := 7, cells := 1, slots := 6, locals := 164 } : Room) method_6_code 5 RL (wO cI cJ cZ qo q R C ov dr sz sa cu fi st lo hi wa sw) 0 0 0 [(0, .ref (q 0)), (1, .int (x)), (2, .int (z)), (3, .ref (qo))] []
  refine j_aload_n dL_has_0 rfl 3 rfl ?_
  refine j_iconst (v := nI (0)) dL_has_1 (by decide) ?_
  refine j_aload_n dL_has_2 rfl 0 rfl ?_
  refine j_iload_n dL_has_3 rfl 1 rfl ?_
  refine j_iload_n dL_has_4 rfl 2 rfl ?_
  refine j_callT (mc := 1) (ms := 6) (wc := wX cI cZ q R C dr sz sa cu fi st lo hi wa sw) (wr := [(qo, .inl (cJ, 1, .inr (.inl ov)))]) (av := [.int (x), .int (z)]) (rest := [.int (nI (0)), .ref (qo)]) (E0 := XI) (name := XI) (hh := [(0, 17, 20, 28), (0, 17, 24, 13)]) (c_hasE l hfl D cI cJ cZ q R C hG dr sz sa cu fi st lo hi wa sw hx hI x hs0 z hxx) 1 rfl rfl mw2_87 mw2_88 mw2_89 mw1_1 mw2_90 ⟨rfl, hd_X2_has⟩ rfl ⟨rfl, rfl⟩ ⟨Nat.le_of_ble_eq_true rfl, Nat.le_of_ble_eq_true rfl⟩ ⟨Nat.le_of_ble_eq_true rfl, Nat.le_of_ble_eq_true rfl⟩ (Nat.le_of_ble_eq_true rfl) [1, 2, 3, 4, 5, 6, 7, 8, 9, 10, 11, 12, 13] [0] rfl rfl rfl rfl (by decide) hC [⟨0, 17, 20, 28⟩] ⟨0, 17, 24, 13⟩ [] rfl (fun z hz => by rw [List.mem_singleton.mp hz]; exact ⟨by decide, XN, mw2_86, Or.inr ⟨rfl, rfl⟩⟩) rfl (by decide) mw1_208 ca_XI rfl dL_has_5 ?_
  rintro q9 _ ⟨sz2, sa2, fi2, st2, lo2, hi2, wa2, sw2, hI2, rfl⟩
  show V k l D (tys3 cI cJ cZ) ({ frames := 7, cells := 1, slots := 6, locals := 164 } : Room) method_6_code 5 RL (wO cI cJ cZ qo q R C ov dr sz2 sa2 cu fi2 st2 lo2 hi2 wa2 sw2) 1 6 24 [(0, .ref (q 0)), (1, .int (x)), (2, .int (z)), (3, .ref (qo))] [.ref (q9)]
  refine j_astore [(4, .ref (q9)), (0, .ref (q 0)), (1, .int (x)), (2, .int (z)), (3, .ref (qo))] dL_has_24 (by decide) rfl ?_
  refine j_iconst (v := nI (2)) dL_has_26 (by decide) ?_
  exact j_iret (tys' := []) rfl hR dL_has_27 (⟨rfl, sz2, sa2, fi2, st2, lo2, hi2, wa2, sw2, hI2, rfl⟩)

set_option maxHeartbeats 4000000 in
set_option maxRecDepth 100000 in
theorem w_length (l : Launch) (hfl : l.flags = flags0) (D : va_G) (cI cJ cZ : ClassId) (qo : Nat) (q : Nat → Nat) (R C : Nat) (hG : GS R C) (dr sz : Nat) (sa : Bool) (cu fi st : Nat → Nat) (lo hi : Nat → Option Nat) (wa sw : Nat → Nat) (ov : Nat → Int64) (hx : XOK R C cu) (hI : XI0 R C cu sa sz fi st lo hi wa dr) (x : Int32) (hs0 : solI R C cu x ≠ 0) : CtW l yL_length method_7_code 4 (Option.some FieldType.int) [(0, 9, 12, 28)] ({ frames := 7, cells := 1, slots := 6, locals := 163 } : Room) D (tys3 cI cJ cZ) (wO cI cJ cZ qo q R C ov dr sz sa cu fi st lo hi wa sw) [.ref (q 0), .int (x), .ref (qo)] (fun r u => r = some (.int (nI (0))) ∧ OW cI cJ cZ qo q R C (va_up ov 0 ((nI (pop (solI R C cu x) 32)).toInt64)) dr cu u) 1 6 := by
  refine CtW.of hfl (by decide) (Nat.le_of_ble_eq_true rfl) ?_
  intro k hR hC
  show V k l D (tys3 cI cJ cZ) ({ frames := 7, cells := 1, slots := 6, locals := 163 } : Room) method_7_code 4 RL (wO cI cJ cZ qo q R C ov dr sz sa cu fi st lo hi wa sw) 0 0 0 [(0, .ref (q 0)), (1, .int (x)), (2, .ref (qo))] []
  refine j_widen (k2 := 1) (n2 := 6) (by decide) (by decide) ?_
  refine j_aload_n dL_length_0 rfl 2 rfl ?_
  refine j_iconst (v := nI (0)) dL_length_1 (by decide) ?_
  refine j_aload_n dL_length_2 rfl 0 rfl ?_
  refine j_iload_n dL_length_3 rfl 1 rfl ?_
  refine j_callV (mc := 0) (ms := 0) (wc := wX cI cZ q R C dr sz sa cu fi st lo hi wa sw) (wr := [(qo, .inl (cJ, 1, .inr (.inl ov)))]) (tys3 := tys3 cI cJ cZ) (av := [.int (x)]) (rest := [.int (nI (0)), .ref (qo)]) (c_length l hfl D cI cJ cZ q R C hG dr sz sa cu fi st lo hi wa sw hx hI x hs0) 1 rfl rfl mw2_113 mw2_114 mw2_115 mw1_1 mw2_116 ⟨rfl, hd_X2_length⟩ rfl ⟨rfl, rfl⟩ ⟨Nat.le_of_ble_eq_true rfl, Nat.le_of_ble_eq_true rfl⟩ ⟨Nat.le_of_ble_eq_true rfl, Nat.le_of_ble_eq_true rfl⟩ (Nat.le_of_ble_eq_true rfl) [1, 2, 3, 4, 5, 6, 7, 8, 9, 10, 11, 12, 13] [0] rfl rfl rfl rfl (by decide) (fun _ h _ => h) rfl dL_length_4 ?_
  rintro _ _ ⟨rfl, sz2, sa2, fi2, st2, lo2, hi2, wa2, sw2, hI2, rfl⟩
  show V k l D (tys3 cI cJ cZ) ({ frames := 7, cells := 1, slots := 6, locals := 163 } : Room) method_7_code 4 RL (wO cI cJ cZ qo q R C ov dr sz2 sa2 cu fi2 st2 lo2 hi2 wa2 sw2) 1 6 7 [(0, .ref (q 0)), (1, .int (x)), (2, .ref (qo))] [.int (nI (pop (solI R C cu x) 32)), .int (nI (0)), .ref (qo)]
  refine j_i2l dL_length_7 rfl ?_
  refine jn_last (wO cI cJ cZ qo q R C (va_up ov 0 ((nI (pop (solI R C cu x) 32)).toInt64)) dr sz2 sa2 cu fi2 st2 lo2 hi2 wa2 sw2) 0 1 rfl rfl (by omega) (by omega) rfl dL_length_8 ?_
  refine j_goto (tgt := 15) dL_length_9 (by decide) ?_
  refine j_iconst (v := nI (0)) dL_length_15 (by decide) ?_
  exact j_iret (tys' := []) rfl hR dL_length_16 (⟨rfl, sz2, sa2, fi2, st2, lo2, hi2, wa2, sw2, hI2, rfl⟩)

set_option maxHeartbeats 4000000 in
set_option maxRecDepth 100000 in
theorem w_lengthX (l : Launch) (hfl : l.flags = flags0) (D : va_G) (cI cJ cZ : ClassId) (qo : Nat) (q : Nat → Nat) (R C : Nat) (hG : GS R C) (dr sz : Nat) (sa : Bool) (cu fi st : Nat → Nat) (lo hi : Nat → Option Nat) (wa sw : Nat → Nat) (ov : Nat → Int64) (hx : XOK R C cu) (hI : XI0 R C cu sa sz fi st lo hi wa dr) (x : Int32) (hs0 : solI R C cu x = 0) : CtW l yL_length method_7_code 4 (Option.some FieldType.int) [(0, 9, 12, 28)] ({ frames := 7, cells := 1, slots := 6, locals := 163 } : Room) D (tys3 cI cJ cZ) (wO cI cJ cZ qo q R C ov dr sz sa cu fi st lo hi wa sw) [.ref (q 0), .int (x), .ref (qo)] (fun r u => r = some (.int (nI (1))) ∧ OW cI cJ cZ qo q R C ov dr cu u) 1 6 := by
  refine CtW.of hfl (by decide) (Nat.le_of_ble_eq_true rfl) ?_
  intro k hR hC
  show V k l D (tys3 cI cJ cZ) ({ frames := 7, cells := 1, slots := 6, locals := 163 } : Room) method_7_code 4 RL (wO cI cJ cZ qo q R C ov dr sz sa cu fi st lo hi wa sw) 0 0 0 [(0, .ref (q 0)), (1, .int (x)), (2, .ref (qo))] []
  refine j_aload_n dL_length_0 rfl 2 rfl ?_
  refine j_iconst (v := nI (0)) dL_length_1 (by decide) ?_
  refine j_aload_n dL_length_2 rfl 0 rfl ?_
  refine j_iload_n dL_length_3 rfl 1 rfl ?_
  refine j_callT (mc := 1) (ms := 6) (wc := wX cI cZ q R C dr sz sa cu fi st lo hi wa sw) (wr := [(qo, .inl (cJ, 1, .inr (.inl ov)))]) (av := [.int (x)]) (rest := [.int (nI (0)), .ref (qo)]) (E0 := XN) (name := XN) (hh := [(0, 9, 12, 28)]) (c_lengthX l hfl D cI cJ cZ q R C hG dr sz sa cu fi st lo hi wa sw hx hI x hs0) 1 rfl rfl mw2_113 mw2_114 mw2_115 mw1_1 mw2_116 ⟨rfl, hd_X2_length⟩ rfl ⟨rfl, rfl⟩ ⟨Nat.le_of_ble_eq_true rfl, Nat.le_of_ble_eq_true rfl⟩ ⟨Nat.le_of_ble_eq_true rfl, Nat.le_of_ble_eq_true rfl⟩ (Nat.le_of_ble_eq_true rfl) [1, 2, 3, 4, 5, 6, 7, 8, 9, 10, 11, 12, 13] [0] rfl rfl rfl rfl (by decide) hC [] ⟨0, 9, 12, 28⟩ [] rfl (fun z hz => absurd hz List.not_mem_nil) rfl (by decide) mw2_86 ca_XN rfl dL_length_4 ?_
  rintro q9 _ ⟨sz2, sa2, fi2, st2, lo2, hi2, wa2, sw2, hI2, rfl⟩
  show V k l D (tys3 cI cJ cZ) ({ frames := 7, cells := 1, slots := 6, locals := 163 } : Room) method_7_code 4 RL (wO cI cJ cZ qo q R C ov dr sz2 sa2 cu fi2 st2 lo2 hi2 wa2 sw2) 1 6 12 [(0, .ref (q 0)), (1, .int (x)), (2, .ref (qo))] [.ref (q9)]
  refine j_astore_n [(3, .ref (q9)), (0, .ref (q 0)), (1, .int (x)), (2, .ref (qo))] dL_length_12 rfl (by decide) rfl ?_
  refine j_iconst (v := nI (1)) dL_length_13 (by decide) ?_
  exact j_iret (tys' := []) rfl hR dL_length_14 (⟨rfl, sz2, sa2, fi2, st2, lo2, hi2, wa2, sw2, hI2, rfl⟩)

set_option maxHeartbeats 4000000 in
set_option maxRecDepth 100000 in
theorem w_often (l : Launch) (hfl : l.flags = flags0) (D : va_G) (cI cJ cZ : ClassId) (qo : Nat) (q : Nat → Nat) (R C : Nat) (hG : GS R C) (dr sz : Nat) (sa : Bool) (cu fi st : Nat → Nat) (lo hi : Nat → Option Nat) (wa sw : Nat → Nat) (ov : Nat → Int64) (hx : XOK R C cu) (hI : XI0 R C cu sa sz fi st lo hi wa dr) (e : Nat) (he : e < nE R C) : CtW l yL_often method_8_code 4 (Option.some FieldType.int) [(0, 9, 12, 13)] ({ frames := 7, cells := 1, slots := 6, locals := 162 } : Room) D (tys3 cI cJ cZ) (wO cI cJ cZ qo q R C ov dr sz sa cu fi st lo hi wa sw) [.ref (q 0), .int (nI (e)), .ref (qo)] (fun r u => r = some (.int (nI (0))) ∧ OW cI cJ cZ qo q R C (va_up ov 0 ((nI (WS R C cu (2 ^ e) (nE R C) 0 1672)).toInt64)) dr cu u) 1 6 := by
  refine CtW.of hfl (by decide) (Nat.le_of_ble_eq_true rfl) ?_
  intro k hR hC
  show V k l D (tys3 cI cJ cZ) ({ frames := 7, cells := 1, slots := 6, locals := 162 } : Room) method_8_code 4 RL (wO cI cJ cZ qo q R C ov dr sz sa cu fi st lo hi wa sw) 0 0 0 [(0, .ref (q 0)), (1, .int (nI (e))), (2, .ref (qo))] []
  refine j_widen (k2 := 1) (n2 := 6) (by decide) (by decide) ?_
  refine j_aload_n dL_often_0 rfl 2 rfl ?_
  refine j_iconst (v := nI (0)) dL_often_1 (by decide) ?_
  refine j_aload_n dL_often_2 rfl 0 rfl ?_
  refine j_iload_n dL_often_3 rfl 1 rfl ?_
  refine j_callV (mc := 0) (ms := 0) (wc := wX cI cZ q R C dr sz sa cu fi st lo hi wa sw) (wr := [(qo, .inl (cJ, 1, .inr (.inl ov)))]) (tys3 := tys3 cI cJ cZ) (av := [.int (nI (e))]) (rest := [.int (nI (0)), .ref (qo)]) (c_often l hfl D cI cJ cZ q R C hG dr sz sa cu fi st lo hi wa sw hx hI e he) 1 rfl rfl mw2_120 mw2_121 mw2_122 mw1_1 mw2_123 ⟨rfl, hd_X2_often⟩ rfl ⟨rfl, rfl⟩ ⟨Nat.le_of_ble_eq_true rfl, Nat.le_of_ble_eq_true rfl⟩ ⟨Nat.le_of_ble_eq_true rfl, Nat.le_of_ble_eq_true rfl⟩ (Nat.le_of_ble_eq_true rfl) [1, 2, 3, 4, 5, 6, 7, 8, 9, 10, 11, 12, 13] [0] rfl rfl rfl rfl (by decide) (fun _ h _ => h) rfl dL_often_4 ?_
  rintro _ _ ⟨rfl, sz2, sa2, fi2, st2, lo2, hi2, wa2, sw2, hI2, rfl⟩
  show V k l D (tys3 cI cJ cZ) ({ frames := 7, cells := 1, slots := 6, locals := 162 } : Room) method_8_code 4 RL (wO cI cJ cZ qo q R C ov dr sz2 sa2 cu fi2 st2 lo2 hi2 wa2 sw2) 1 6 7 [(0, .ref (q 0)), (1, .int (nI (e))), (2, .ref (qo))] [.int (nI (WS R C cu (2 ^ e) (nE R C) 0 1672)), .int (nI (0)), .ref (qo)]
  refine j_i2l dL_often_7 rfl ?_
  refine jn_last (wO cI cJ cZ qo q R C (va_up ov 0 ((nI (WS R C cu (2 ^ e) (nE R C) 0 1672)).toInt64)) dr sz2 sa2 cu fi2 st2 lo2 hi2 wa2 sw2) 0 1 rfl rfl (by omega) (by omega) rfl dL_often_8 ?_
  refine j_goto (tgt := 15) dL_often_9 (by decide) ?_
  refine j_iconst (v := nI (0)) dL_often_15 (by decide) ?_
  exact j_iret (tys' := []) rfl hR dL_often_16 (⟨rfl, sz2, sa2, fi2, st2, lo2, hi2, wa2, sw2, hI2, rfl⟩)

set_option maxHeartbeats 4000000 in
set_option maxRecDepth 100000 in
theorem w_oftenX (l : Launch) (hfl : l.flags = flags0) (D : va_G) (cI cJ cZ : ClassId) (qo : Nat) (q : Nat → Nat) (R C : Nat) (hG : GS R C) (dr sz : Nat) (sa : Bool) (cu fi st : Nat → Nat) (lo hi : Nat → Option Nat) (wa sw : Nat → Nat) (ov : Nat → Int64) (hx : XOK R C cu) (hI : XI0 R C cu sa sz fi st lo hi wa dr) (x : Int32) (hxx : inB (nE R C) x = false) : CtW l yL_often method_8_code 4 (Option.some FieldType.int) [(0, 9, 12, 13)] ({ frames := 7, cells := 1, slots := 6, locals := 162 } : Room) D (tys3 cI cJ cZ) (wO cI cJ cZ qo q R C ov dr sz sa cu fi st lo hi wa sw) [.ref (q 0), .int (x), .ref (qo)] (fun r u => r = some (.int (nI (1))) ∧ OW cI cJ cZ qo q R C ov dr cu u) 1 6 := by
  refine CtW.of hfl (by decide) (Nat.le_of_ble_eq_true rfl) ?_
  intro k hR hC
  show V k l D (tys3 cI cJ cZ) ({ frames := 7, cells := 1, slots := 6, locals := 162 } : Room) method_8_code 4 RL (wO cI cJ cZ qo q R C ov dr sz sa cu fi st lo hi wa sw) 0 0 0 [(0, .ref (q 0)), (1, .int (x)), (2, .ref (qo))] []
  refine j_aload_n dL_often_0 rfl 2 rfl ?_
  refine j_iconst (v := nI (0)) dL_often_1 (by decide) ?_
  refine j_aload_n dL_often_2 rfl 0 rfl ?_
  refine j_iload_n dL_often_3 rfl 1 rfl ?_
  refine j_callT (mc := 1) (ms := 6) (wc := wX cI cZ q R C dr sz sa cu fi st lo hi wa sw) (wr := [(qo, .inl (cJ, 1, .inr (.inl ov)))]) (av := [.int (x)]) (rest := [.int (nI (0)), .ref (qo)]) (E0 := XI) (name := XI) (hh := [(0, 9, 12, 13)]) (c_oftenX l hfl D cI cJ cZ q R C hG dr sz sa cu fi st lo hi wa sw hx hI x hxx) 1 rfl rfl mw2_120 mw2_121 mw2_122 mw1_1 mw2_123 ⟨rfl, hd_X2_often⟩ rfl ⟨rfl, rfl⟩ ⟨Nat.le_of_ble_eq_true rfl, Nat.le_of_ble_eq_true rfl⟩ ⟨Nat.le_of_ble_eq_true rfl, Nat.le_of_ble_eq_true rfl⟩ (Nat.le_of_ble_eq_true rfl) [1, 2, 3, 4, 5, 6, 7, 8, 9, 10, 11, 12, 13] [0] rfl rfl rfl rfl (by decide) hC [] ⟨0, 9, 12, 13⟩ [] rfl (fun z hz => absurd hz List.not_mem_nil) rfl (by decide) mw1_208 ca_XI rfl dL_often_4 ?_
  rintro q9 _ ⟨sz2, sa2, fi2, st2, lo2, hi2, wa2, sw2, hI2, rfl⟩
  show V k l D (tys3 cI cJ cZ) ({ frames := 7, cells := 1, slots := 6, locals := 162 } : Room) method_8_code 4 RL (wO cI cJ cZ qo q R C ov dr sz2 sa2 cu fi2 st2 lo2 hi2 wa2 sw2) 1 6 12 [(0, .ref (q 0)), (1, .int (x)), (2, .ref (qo))] [.ref (q9)]
  refine j_astore_n [(3, .ref (q9)), (0, .ref (q 0)), (1, .int (x)), (2, .ref (qo))] dL_often_12 rfl (by decide) rfl ?_
  refine j_iconst (v := nI (1)) dL_often_13 (by decide) ?_
  exact j_iret (tys' := []) rfl hR dL_often_14 (⟨rfl, sz2, sa2, fi2, st2, lo2, hi2, wa2, sw2, hI2, rfl⟩)

set_option maxHeartbeats 4000000 in
set_option maxRecDepth 100000 in
theorem w_draw (l : Launch) (hfl : l.flags = flags0) (D : va_G) (cI cJ cZ : ClassId) (qo : Nat) (q : Nat → Nat) (R C : Nat) (hG : GS R C) (dr sz : Nat) (sa : Bool) (cu fi st : Nat → Nat) (lo hi : Nat → Option Nat) (wa sw : Nat → Nat) (ov : Nat → Int64) (hx : XOK R C cu) (hI : XI0 R C cu sa sz fi st lo hi wa dr) (e : Nat) (he : e < nE R C) : CtW l yL_draw method_9_code 4 (Option.some FieldType.int) [(0, 16, 19, 13)] ({ frames := 7, cells := 1, slots := 6, locals := 102 } : Room) D (tys3 cI cJ cZ) (wO cI cJ cZ qo q R C ov dr sz sa cu fi st lo hi wa sw) [.ref (q 0), .int (nI (e)), .ref (qo)] (fun r u => r = some (.int (nI (0))) ∧ OW cI cJ cZ qo q R C (va_up ov 0 (if Nat.testBit (dr ^^^ 2 ^ e) e then 1 else 0)) (dr ^^^ 2 ^ e) cu u) 1 6 := by
  refine CtW.of hfl (by decide) (Nat.le_of_ble_eq_true rfl) ?_
  intro k hR hC
  show V k l D (tys3 cI cJ cZ) ({ frames := 7, cells := 1, slots := 6, locals := 102 } : Room) method_9_code 4 RL (wO cI cJ cZ qo q R C ov dr sz sa cu fi st lo hi wa sw) 0 0 0 [(0, .ref (q 0)), (1, .int (nI (e))), (2, .ref (qo))] []
  refine j_widen (k2 := 1) (n2 := 6) (by decide) (by decide) ?_
  refine j_aload_n dL_draw_0 rfl 2 rfl ?_
  refine j_iconst (v := nI (0)) dL_draw_1 (by decide) ?_
  refine j_aload_n dL_draw_2 rfl 0 rfl ?_
  refine j_iload_n dL_draw_3 rfl 1 rfl ?_
  refine j_callV (mc := 0) (ms := 0) (wc := wX cI cZ q R C dr sz sa cu fi st lo hi wa sw) (wr := [(qo, .inl (cJ, 1, .inr (.inl ov)))]) (tys3 := tys3 cI cJ cZ) (av := [.int (nI (e))]) (rest := [.int (nI (0)), .ref (qo)]) (c_draw l hfl D cI cJ cZ q R C hG dr sz sa cu fi st lo hi wa sw hx hI e he) 1 rfl rfl mw2_127 mw2_128 mw2_129 mw1_1 mw2_130 ⟨rfl, hd_X2_draw⟩ rfl ⟨rfl, rfl⟩ ⟨Nat.le_of_ble_eq_true rfl, Nat.le_of_ble_eq_true rfl⟩ ⟨Nat.le_of_ble_eq_true rfl, Nat.le_of_ble_eq_true rfl⟩ (Nat.le_of_ble_eq_true rfl) [1, 2, 3, 4, 5, 6, 7, 8, 9, 10, 11, 12, 13] [0] rfl rfl rfl rfl (by decide) (fun _ h _ => h) rfl dL_draw_4 ?_
  rintro _ _ ⟨rfl, sz2, sa2, fi2, st2, lo2, hi2, wa2, sw2, hI2, rfl⟩
  show V k l D (tys3 cI cJ cZ) ({ frames := 7, cells := 1, slots := 6, locals := 102 } : Room) method_9_code 4 RL (wO cI cJ cZ qo q R C ov (dr ^^^ 2 ^ e) sz2 sa2 cu fi2 st2 lo2 hi2 wa2 sw2) 1 6 7 [(0, .ref (q 0)), (1, .int (nI (e))), (2, .ref (qo))] [.int (bI ((Nat.testBit (dr ^^^ 2 ^ e) e))), .int (nI (0)), .ref (qo)]
  refine jb_if_eq (tgt := 14) (b := (Nat.testBit (dr ^^^ 2 ^ e) e)) dL_draw_7 (by decide) (fun c7 => ?_) (fun c7 => ?_)
  · refine j_lconst (v := 0) dL_draw_14 (by decide) ?_
    refine jn_last (wO cI cJ cZ qo q R C (va_up ov 0 0) (dr ^^^ 2 ^ e) sz2 sa2 cu fi2 st2 lo2 hi2 wa2 sw2) 0 1 rfl rfl (by omega) (by omega) rfl dL_draw_15 ?_
    refine j_goto (tgt := 22) dL_draw_16 (by decide) ?_
    refine j_iconst (v := nI (0)) dL_draw_22 (by decide) ?_
    exact j_iret (tys' := []) rfl hR dL_draw_23 (⟨rfl, sz2, sa2, fi2, st2, lo2, hi2, wa2, sw2, hI2, by rw [c7]; rfl⟩)
  · refine j_lconst (v := 1) dL_draw_10 (by decide) ?_
    refine j_goto (tgt := 15) dL_draw_11 (by decide) ?_
    refine jn_last (wO cI cJ cZ qo q R C (va_up ov 0 1) (dr ^^^ 2 ^ e) sz2 sa2 cu fi2 st2 lo2 hi2 wa2 sw2) 0 1 rfl rfl (by omega) (by omega) rfl dL_draw_15 ?_
    refine j_goto (tgt := 22) dL_draw_16 (by decide) ?_
    refine j_iconst (v := nI (0)) dL_draw_22 (by decide) ?_
    exact j_iret (tys' := []) rfl hR dL_draw_23 (⟨rfl, sz2, sa2, fi2, st2, lo2, hi2, wa2, sw2, hI2, by rw [c7]; rfl⟩)

set_option maxHeartbeats 4000000 in
set_option maxRecDepth 100000 in
theorem w_drawX (l : Launch) (hfl : l.flags = flags0) (D : va_G) (cI cJ cZ : ClassId) (qo : Nat) (q : Nat → Nat) (R C : Nat) (hG : GS R C) (dr sz : Nat) (sa : Bool) (cu fi st : Nat → Nat) (lo hi : Nat → Option Nat) (wa sw : Nat → Nat) (ov : Nat → Int64) (hx : XOK R C cu) (hI : XI0 R C cu sa sz fi st lo hi wa dr) (x : Int32) (hxx : inB (nE R C) x = false) : CtW l yL_draw method_9_code 4 (Option.some FieldType.int) [(0, 16, 19, 13)] ({ frames := 7, cells := 1, slots := 6, locals := 102 } : Room) D (tys3 cI cJ cZ) (wO cI cJ cZ qo q R C ov dr sz sa cu fi st lo hi wa sw) [.ref (q 0), .int (x), .ref (qo)] (fun r u => r = some (.int (nI (1))) ∧ OW cI cJ cZ qo q R C ov dr cu u) 1 6 := by
  refine CtW.of hfl (by decide) (Nat.le_of_ble_eq_true rfl) ?_
  intro k hR hC
  show V k l D (tys3 cI cJ cZ) ({ frames := 7, cells := 1, slots := 6, locals := 102 } : Room) method_9_code 4 RL (wO cI cJ cZ qo q R C ov dr sz sa cu fi st lo hi wa sw) 0 0 0 [(0, .ref (q 0)), (1, .int (x)), (2, .ref (qo))] []
  refine j_aload_n dL_draw_0 rfl 2 rfl ?_
  refine j_iconst (v := nI (0)) dL_draw_1 (by decide) ?_
  refine j_aload_n dL_draw_2 rfl 0 rfl ?_
  refine j_iload_n dL_draw_3 rfl 1 rfl ?_
  refine j_callT (mc := 1) (ms := 6) (wc := wX cI cZ q R C dr sz sa cu fi st lo hi wa sw) (wr := [(qo, .inl (cJ, 1, .inr (.inl ov)))]) (av := [.int (x)]) (rest := [.int (nI (0)), .ref (qo)]) (E0 := XI) (name := XI) (hh := [(0, 16, 19, 13)]) (c_drawX l hfl D cI cJ cZ q R C hG dr sz sa cu fi st lo hi wa sw hx hI x hxx) 1 rfl rfl mw2_127 mw2_128 mw2_129 mw1_1 mw2_130 ⟨rfl, hd_X2_draw⟩ rfl ⟨rfl, rfl⟩ ⟨Nat.le_of_ble_eq_true rfl, Nat.le_of_ble_eq_true rfl⟩ ⟨Nat.le_of_ble_eq_true rfl, Nat.le_of_ble_eq_true rfl⟩ (Nat.le_of_ble_eq_true rfl) [1, 2, 3, 4, 5, 6, 7, 8, 9, 10, 11, 12, 13] [0] rfl rfl rfl rfl (by decide) hC [] ⟨0, 16, 19, 13⟩ [] rfl (fun z hz => absurd hz List.not_mem_nil) rfl (by decide) mw1_208 ca_XI rfl dL_draw_4 ?_
  rintro q9 _ ⟨sz2, sa2, fi2, st2, lo2, hi2, wa2, sw2, hI2, rfl⟩
  show V k l D (tys3 cI cJ cZ) ({ frames := 7, cells := 1, slots := 6, locals := 102 } : Room) method_9_code 4 RL (wO cI cJ cZ qo q R C ov dr sz2 sa2 cu fi2 st2 lo2 hi2 wa2 sw2) 1 6 19 [(0, .ref (q 0)), (1, .int (x)), (2, .ref (qo))] [.ref (q9)]
  refine j_astore_n [(3, .ref (q9)), (0, .ref (q 0)), (1, .int (x)), (2, .ref (qo))] dL_draw_19 rfl (by decide) rfl ?_
  refine j_iconst (v := nI (1)) dL_draw_20 (by decide) ?_
  exact j_iret (tys' := []) rfl hR dL_draw_21 (⟨rfl, sz2, sa2, fi2, st2, lo2, hi2, wa2, sw2, hI2, rfl⟩)

set_option maxHeartbeats 4000000 in
set_option maxRecDepth 100000 in
theorem w_copy (l : Launch) (hfl : l.flags = flags0) (D : va_G) (cI cJ cZ : ClassId) (q : Nat → Nat) (R C : Nat) (hG : GS R C) (dr sz : Nat) (sa : Bool) (cu fi st : Nat → Nat) (lo hi : Nat → Option Nat) (wa sw : Nat → Nat) (hx : XOK R C cu) (hI : XI0 R C cu sa sz fi st lo hi wa dr) (x : Int32) (hs0 : solI R C cu x ≠ 0) : CtW l yL_copy method_10_code 3 (Option.some FieldType.int) [(0, 5, 8, 28)] ({ frames := 7, cells := 1, slots := 6, locals := 163 } : Room) D (tys3 cI cJ cZ) (wX cI cZ q R C dr sz sa cu fi st lo hi wa sw) [.ref (q 0), .int (x)] (fun r u => r = some (.int (nI (0))) ∧ XW cI cZ q R C (solI R C cu x) cu u) 1 6 := by
  refine CtW.of hfl (by decide) (Nat.le_of_ble_eq_true rfl) ?_
  intro k hR hC
  show V k l D (tys3 cI cJ cZ) ({ frames := 7, cells := 1, slots := 6, locals := 163 } : Room) method_10_code 3 RL (wX cI cZ q R C dr sz sa cu fi st lo hi wa sw) 0 0 0 [(0, .ref (q 0)), (1, .int (x))] []
  refine j_widen (k2 := 1) (n2 := 6) (by decide) (by decide) ?_
  refine j_aload_n dL_copy_0 rfl 0 rfl ?_
  refine j_iload_n dL_copy_1 rfl 1 rfl ?_
  refine j_callV (mc := 0) (ms := 0) (wc := wX cI cZ q R C dr sz sa cu fi st lo hi wa sw) (wr := []) (tys3 := tys3 cI cJ cZ) (av := [.int (x)]) (rest := []) (c_copy l hfl D cI cJ cZ q R C hG dr sz sa cu fi st lo hi wa sw hx hI x hs0) 0 rfl rfl mw2_134 mw2_135 mw2_136 mw1_1 mw2_137 ⟨rfl, hd_X2_copy⟩ rfl ⟨rfl, rfl⟩ ⟨Nat.le_of_ble_eq_true rfl, Nat.le_of_ble_eq_true rfl⟩ ⟨Nat.le_of_ble_eq_true rfl, Nat.le_of_ble_eq_true rfl⟩ (Nat.le_of_ble_eq_true rfl) [0, 1, 2, 3, 4, 5, 6, 7, 8, 9, 10, 11, 12] [] rfl rfl rfl rfl (by decide) (fun _ h _ => h) rfl dL_copy_2 ?_
  rintro _ _ ⟨rfl, sz2, sa2, fi2, st2, lo2, hi2, wa2, sw2, hI2, rfl⟩
  show V k l D (tys3 cI cJ cZ) ({ frames := 7, cells := 1, slots := 6, locals := 163 } : Room) method_10_code 3 RL (wX cI cZ q R C (solI R C cu x) sz2 sa2 cu fi2 st2 lo2 hi2 wa2 sw2) 1 6 5 [(0, .ref (q 0)), (1, .int (x))] []
  refine j_goto (tgt := 11) dL_copy_5 (by decide) ?_
  refine j_iconst (v := nI (0)) dL_copy_11 (by decide) ?_
  exact j_iret (tys' := []) rfl hR dL_copy_12 (⟨rfl, XW_of hI2⟩)

set_option maxHeartbeats 4000000 in
set_option maxRecDepth 100000 in
theorem w_copyX (l : Launch) (hfl : l.flags = flags0) (D : va_G) (cI cJ cZ : ClassId) (q : Nat → Nat) (R C : Nat) (hG : GS R C) (dr sz : Nat) (sa : Bool) (cu fi st : Nat → Nat) (lo hi : Nat → Option Nat) (wa sw : Nat → Nat) (hx : XOK R C cu) (hI : XI0 R C cu sa sz fi st lo hi wa dr) (x : Int32) (hs0 : solI R C cu x = 0) : CtW l yL_copy method_10_code 3 (Option.some FieldType.int) [(0, 5, 8, 28)] ({ frames := 7, cells := 1, slots := 6, locals := 163 } : Room) D (tys3 cI cJ cZ) (wX cI cZ q R C dr sz sa cu fi st lo hi wa sw) [.ref (q 0), .int (x)] (fun r u => r = some (.int (nI (1))) ∧ XW cI cZ q R C dr cu u) 1 6 := by
  refine CtW.of hfl (by decide) (Nat.le_of_ble_eq_true rfl) ?_
  intro k hR hC
  show V k l D (tys3 cI cJ cZ) ({ frames := 7, cells := 1, slots := 6, locals := 163 } : Room) method_10_code 3 RL (wX cI cZ q R C dr sz sa cu fi st lo hi wa sw) 0 0 0 [(0, .ref (q 0)), (1, .int (x))] []
  refine j_aload_n dL_copy_0 rfl 0 rfl ?_
  refine j_iload_n dL_copy_1 rfl 1 rfl ?_
  refine j_callT (mc := 1) (ms := 6) (wc := wX cI cZ q R C dr sz sa cu fi st lo hi wa sw) (wr := []) (av := [.int (x)]) (rest := []) (E0 := XN) (name := XN) (hh := [(0, 5, 8, 28)]) (c_copyX l hfl D cI cJ cZ q R C hG dr sz sa cu fi st lo hi wa sw hx hI x hs0) 0 rfl rfl mw2_134 mw2_135 mw2_136 mw1_1 mw2_137 ⟨rfl, hd_X2_copy⟩ rfl ⟨rfl, rfl⟩ ⟨Nat.le_of_ble_eq_true rfl, Nat.le_of_ble_eq_true rfl⟩ ⟨Nat.le_of_ble_eq_true rfl, Nat.le_of_ble_eq_true rfl⟩ (Nat.le_of_ble_eq_true rfl) [0, 1, 2, 3, 4, 5, 6, 7, 8, 9, 10, 11, 12] [] rfl rfl rfl rfl (by decide) hC [] ⟨0, 5, 8, 28⟩ [] rfl (fun z hz => absurd hz List.not_mem_nil) rfl (by decide) mw2_86 ca_XN rfl dL_copy_2 ?_
  rintro q9 _ ⟨sz2, sa2, fi2, st2, lo2, hi2, wa2, sw2, hI2, rfl⟩
  show V k l D (tys3 cI cJ cZ) ({ frames := 7, cells := 1, slots := 6, locals := 163 } : Room) method_10_code 3 RL (wX cI cZ q R C dr sz2 sa2 cu fi2 st2 lo2 hi2 wa2 sw2) 1 6 8 [(0, .ref (q 0)), (1, .int (x))] [.ref (q9)]
  refine j_astore_n [(2, .ref (q9)), (0, .ref (q 0)), (1, .int (x))] dL_copy_8 rfl (by decide) rfl ?_
  refine j_iconst (v := nI (1)) dL_copy_9 (by decide) ?_
  exact j_iret (tys' := []) rfl hR dL_copy_10 (⟨rfl, XW_of hI2⟩)

set_option maxHeartbeats 4000000 in
set_option maxRecDepth 100000 in
theorem w_rank (l : Launch) (hfl : l.flags = flags0) (D : va_G) (cI cJ cZ : ClassId) (qo : Nat) (q : Nat → Nat) (R C : Nat) (hG : GS R C) (dr sz : Nat) (sa : Bool) (cu fi st : Nat → Nat) (lo hi : Nat → Option Nat) (wa sw : Nat → Nat) (ov : Nat → Int64) (hx : XOK R C cu) (hI : XI0 R C cu sa sz fi st lo hi wa dr) (kq : Nat) (hk : rkA R C cu dr (nE R C) 0 1672 0 = some kq) (hk31 : kq < 2 ^ 31) : CtW l yL_rank method_11_code 3 (Option.some FieldType.int) [(0, 8, 11, 28)] ({ frames := 7, cells := 1, slots := 6, locals := 162 } : Room) D (tys3 cI cJ cZ) (wO cI cJ cZ qo q R C ov dr sz sa cu fi st lo hi wa sw) [.ref (q 0), .ref (qo)] (fun r u => r = some (.int (nI (0))) ∧ OW cI cJ cZ qo q R C (va_up ov 0 ((nI (kq)).toInt64)) dr cu u) 1 6 := by
  refine CtW.of hfl (by decide) (Nat.le_of_ble_eq_true rfl) ?_
  intro k hR hC
  show V k l D (tys3 cI cJ cZ) ({ frames := 7, cells := 1, slots := 6, locals := 162 } : Room) method_11_code 3 RL (wO cI cJ cZ qo q R C ov dr sz sa cu fi st lo hi wa sw) 0 0 0 [(0, .ref (q 0)), (1, .ref (qo))] []
  refine j_widen (k2 := 1) (n2 := 6) (by decide) (by decide) ?_
  refine j_aload_n dL_rank_0 rfl 1 rfl ?_
  refine j_iconst (v := nI (0)) dL_rank_1 (by decide) ?_
  refine j_aload_n dL_rank_2 rfl 0 rfl ?_
  refine j_callV (mc := 0) (ms := 0) (wc := wX cI cZ q R C dr sz sa cu fi st lo hi wa sw) (wr := [(qo, .inl (cJ, 1, .inr (.inl ov)))]) (tys3 := tys3 cI cJ cZ) (av := []) (rest := [.int (nI (0)), .ref (qo)]) (c_rank l hfl D cI cJ cZ q R C hG dr sz sa cu fi st lo hi wa sw hx hI kq hk hk31) 1 rfl rfl mw2_141 mw2_142 mw2_143 mw1_1 mw2_144 ⟨rfl, hd_X2_rank⟩ rfl ⟨rfl, rfl⟩ ⟨Nat.le_of_ble_eq_true rfl, Nat.le_of_ble_eq_true rfl⟩ ⟨Nat.le_of_ble_eq_true rfl, Nat.le_of_ble_eq_true rfl⟩ (Nat.le_of_ble_eq_true rfl) [1, 2, 3, 4, 5, 6, 7, 8, 9, 10, 11, 12, 13] [0] rfl rfl rfl rfl (by decide) (fun _ h _ => h) rfl dL_rank_3 ?_
  rintro _ _ ⟨rfl, sz2, sa2, fi2, st2, lo2, hi2, wa2, sw2, hI2, rfl⟩
  show V k l D (tys3 cI cJ cZ) ({ frames := 7, cells := 1, slots := 6, locals := 162 } : Room) method_11_code 3 RL (wO cI cJ cZ qo q R C ov dr sz2 sa2 cu fi2 st2 lo2 hi2 wa2 sw2) 1 6 6 [(0, .ref (q 0)), (1, .ref (qo))] [.int (nI (kq)), .int (nI (0)), .ref (qo)]
  refine j_i2l dL_rank_6 rfl ?_
  refine jn_last (wO cI cJ cZ qo q R C (va_up ov 0 ((nI (kq)).toInt64)) dr sz2 sa2 cu fi2 st2 lo2 hi2 wa2 sw2) 0 1 rfl rfl (by omega) (by omega) rfl dL_rank_7 ?_
  refine j_goto (tgt := 14) dL_rank_8 (by decide) ?_
  refine j_iconst (v := nI (0)) dL_rank_14 (by decide) ?_
  exact j_iret (tys' := []) rfl hR dL_rank_15 (⟨rfl, sz2, sa2, fi2, st2, lo2, hi2, wa2, sw2, hI2, rfl⟩)

set_option maxHeartbeats 4000000 in
set_option maxRecDepth 100000 in
theorem w_rankX (l : Launch) (hfl : l.flags = flags0) (D : va_G) (cI cJ cZ : ClassId) (qo : Nat) (q : Nat → Nat) (R C : Nat) (hG : GS R C) (dr sz : Nat) (sa : Bool) (cu fi st : Nat → Nat) (lo hi : Nat → Option Nat) (wa sw : Nat → Nat) (ov : Nat → Int64) (hx : XOK R C cu) (hI : XI0 R C cu sa sz fi st lo hi wa dr) (hk : rkA R C cu dr (nE R C) 0 1672 0 = none) : CtW l yL_rank method_11_code 3 (Option.some FieldType.int) [(0, 8, 11, 28)] ({ frames := 7, cells := 1, slots := 6, locals := 162 } : Room) D (tys3 cI cJ cZ) (wO cI cJ cZ qo q R C ov dr sz sa cu fi st lo hi wa sw) [.ref (q 0), .ref (qo)] (fun r u => r = some (.int (nI (1))) ∧ OW cI cJ cZ qo q R C ov dr cu u) 1 6 := by
  refine CtW.of hfl (by decide) (Nat.le_of_ble_eq_true rfl) ?_
  intro k hR hC
  show V k l D (tys3 cI cJ cZ) ({ frames := 7, cells := 1, slots := 6, locals := 162 } : Room) method_11_code 3 RL (wO cI cJ cZ qo q R C ov dr sz sa cu fi st lo hi wa sw) 0 0 0 [(0, .ref (q 0)), (1, .ref (qo))] []
  refine j_aload_n dL_rank_0 rfl 1 rfl ?_
  refine j_iconst (v := nI (0)) dL_rank_1 (by decide) ?_
  refine j_aload_n dL_rank_2 rfl 0 rfl ?_
  refine j_callT (mc := 1) (ms := 6) (wc := wX cI cZ q R C dr sz sa cu fi st lo hi wa sw) (wr := [(qo, .inl (cJ, 1, .inr (.inl ov)))]) (av := []) (rest := [.int (nI (0)), .ref (qo)]) (E0 := XN) (name := XN) (hh := [(0, 8, 11, 28)]) (c_rankX l hfl D cI cJ cZ q R C hG dr sz sa cu fi st lo hi wa sw hx hI hk) 1 rfl rfl mw2_141 mw2_142 mw2_143 mw1_1 mw2_144 ⟨rfl, hd_X2_rank⟩ rfl ⟨rfl, rfl⟩ ⟨Nat.le_of_ble_eq_true rfl, Nat.le_of_ble_eq_true rfl⟩ ⟨Nat.le_of_ble_eq_true rfl, Nat.le_of_ble_eq_true rfl⟩ (Nat.le_of_ble_eq_true rfl) [1, 2, 3, 4, 5, 6, 7, 8, 9, 10, 11, 12, 13] [0] rfl rfl rfl rfl (by decide) hC [] ⟨0, 8, 11, 28⟩ [] rfl (fun z hz => absurd hz List.not_mem_nil) rfl (by decide) mw2_86 ca_XN rfl dL_rank_3 ?_
  rintro q9 _ ⟨sz2, sa2, fi2, st2, lo2, hi2, wa2, sw2, hI2, rfl⟩
  show V k l D (tys3 cI cJ cZ) ({ frames := 7, cells := 1, slots := 6, locals := 162 } : Room) method_11_code 3 RL (wO cI cJ cZ qo q R C ov dr sz2 sa2 cu fi2 st2 lo2 hi2 wa2 sw2) 1 6 11 [(0, .ref (q 0)), (1, .ref (qo))] [.ref (q9)]
  refine j_astore_n [(2, .ref (q9)), (0, .ref (q 0)), (1, .ref (qo))] dL_rank_11 rfl (by decide) rfl ?_
  refine j_iconst (v := nI (1)) dL_rank_12 (by decide) ?_
  exact j_iret (tys' := []) rfl hR dL_rank_13 (⟨rfl, sz2, sa2, fi2, st2, lo2, hi2, wa2, sw2, hI2, rfl⟩)

set_option maxHeartbeats 4000000 in
set_option maxRecDepth 100000 in
theorem w_spare (l : Launch) (hfl : l.flags = flags0) (D : va_G) (cI cJ cZ : ClassId) (qo : Nat) (q : Nat → Nat) (R C : Nat) (hG : GS R C) (dr sz : Nat) (sa : Bool) (cu fi st : Nat → Nat) (lo hi : Nat → Option Nat) (wa sw : Nat → Nat) (ov : Nat → Int64) (hx : XOK R C cu) (hI : XI0 R C cu sa sz fi st lo hi wa dr) (hXA : ∀ c2, CU R C c2 → XOK R C c2) (hone : WS R C cu 0 (nE R C) 0 1672 = 1) : CtW l yL_spare method_12_code 3 (Option.some FieldType.int) [(0, 8, 11, 52)] ({ frames := 7, cells := 1, slots := 6, locals := 164 } : Room) D (tys3 cI cJ cZ) (wO cI cJ cZ qo q R C ov dr sz sa cu fi st lo hi wa sw) [.ref (q 0), .ref (qo)] (fun r u => r = some (.int (nI (0))) ∧ OW cI cJ cZ qo q R C (va_up ov 0 ((nI ((spX R C cu (R * C)).2)).toInt64)) dr ((spX R C cu (R * C)).1) u) 1 6 := by
  refine CtW.of hfl (by decide) (Nat.le_of_ble_eq_true rfl) ?_
  intro k hR hC
  show V k l D (tys3 cI cJ cZ) ({ frames := 7, cells := 1, slots := 6, locals := 164 } : Room) method_12_code 3 RL (wO cI cJ cZ qo q R C ov dr sz sa cu fi st lo hi wa sw) 0 0 0 [(0, .ref (q 0)), (1, .ref (qo))] []
  refine j_widen (k2 := 1) (n2 := 6) (by decide) (by decide) ?_
  refine j_aload_n dL_spare_0 rfl 1 rfl ?_
  refine j_iconst (v := nI (0)) dL_spare_1 (by decide) ?_
  refine j_aload_n dL_spare_2 rfl 0 rfl ?_
  refine j_callV (mc := 0) (ms := 0) (wc := wX cI cZ q R C dr sz sa cu fi st lo hi wa sw) (wr := [(qo, .inl (cJ, 1, .inr (.inl ov)))]) (tys3 := tys3 cI cJ cZ) (av := []) (rest := [.int (nI (0)), .ref (qo)]) (c_spare l hfl D cI cJ cZ q R C hG dr sz sa cu fi st lo hi wa sw hx hI hXA hone) 1 rfl rfl mw2_153 mw2_154 mw2_155 mw1_1 mw2_156 ⟨rfl, hd_X2_spare⟩ rfl ⟨rfl, rfl⟩ ⟨Nat.le_of_ble_eq_true rfl, Nat.le_of_ble_eq_true rfl⟩ ⟨Nat.le_of_ble_eq_true rfl, Nat.le_of_ble_eq_true rfl⟩ (Nat.le_of_ble_eq_true rfl) [1, 2, 3, 4, 5, 6, 7, 8, 9, 10, 11, 12, 13] [0] rfl rfl rfl rfl (by decide) (fun _ h _ => h) rfl dL_spare_3 ?_
  rintro _ _ ⟨rfl, sz2, sa2, fi2, st2, lo2, hi2, wa2, sw2, hI2, rfl⟩
  show V k l D (tys3 cI cJ cZ) ({ frames := 7, cells := 1, slots := 6, locals := 164 } : Room) method_12_code 3 RL (wO cI cJ cZ qo q R C ov dr sz2 sa2 ((spX R C cu (R * C)).1) fi2 st2 lo2 hi2 wa2 sw2) 1 6 6 [(0, .ref (q 0)), (1, .ref (qo))] [.int (nI ((spX R C cu (R * C)).2)), .int (nI (0)), .ref (qo)]
  refine j_i2l dL_spare_6 rfl ?_
  refine jn_last (wO cI cJ cZ qo q R C (va_up ov 0 ((nI ((spX R C cu (R * C)).2)).toInt64)) dr sz2 sa2 ((spX R C cu (R * C)).1) fi2 st2 lo2 hi2 wa2 sw2) 0 1 rfl rfl (by omega) (by omega) rfl dL_spare_7 ?_
  refine j_goto (tgt := 14) dL_spare_8 (by decide) ?_
  refine j_iconst (v := nI (0)) dL_spare_14 (by decide) ?_
  exact j_iret (tys' := []) rfl hR dL_spare_15 (⟨rfl, sz2, sa2, fi2, st2, lo2, hi2, wa2, sw2, hI2, rfl⟩)

set_option maxHeartbeats 4000000 in
set_option maxRecDepth 100000 in
theorem w_spareX (l : Launch) (hfl : l.flags = flags0) (D : va_G) (cI cJ cZ : ClassId) (qo : Nat) (q : Nat → Nat) (R C : Nat) (hG : GS R C) (dr sz : Nat) (sa : Bool) (cu fi st : Nat → Nat) (lo hi : Nat → Option Nat) (wa sw : Nat → Nat) (ov : Nat → Int64) (hx : XOK R C cu) (hI : XI0 R C cu sa sz fi st lo hi wa dr) (hone : WS R C cu 0 (nE R C) 0 1672 ≠ 1) : CtW l yL_spare method_12_code 3 (Option.some FieldType.int) [(0, 8, 11, 52)] ({ frames := 7, cells := 1, slots := 6, locals := 164 } : Room) D (tys3 cI cJ cZ) (wO cI cJ cZ qo q R C ov dr sz sa cu fi st lo hi wa sw) [.ref (q 0), .ref (qo)] (fun r u => r = some (.int (nI (1))) ∧ OW cI cJ cZ qo q R C ov dr cu u) 1 6 := by
  refine CtW.of hfl (by decide) (Nat.le_of_ble_eq_true rfl) ?_
  intro k hR hC
  show V k l D (tys3 cI cJ cZ) ({ frames := 7, cells := 1, slots := 6, locals := 164 } : Room) method_12_code 3 RL (wO cI cJ cZ qo q R C ov dr sz sa cu fi st lo hi wa sw) 0 0 0 [(0, .ref (q 0)), (1, .ref (qo))] []
  refine j_aload_n dL_spare_0 rfl 1 rfl ?_
  refine j_iconst (v := nI (0)) dL_spare_1 (by decide) ?_
  refine j_aload_n dL_spare_2 rfl 0 rfl ?_
  refine j_callT (mc := 1) (ms := 6) (wc := wX cI cZ q R C dr sz sa cu fi st lo hi wa sw) (wr := [(qo, .inl (cJ, 1, .inr (.inl ov)))]) (av := []) (rest := [.int (nI (0)), .ref (qo)]) (E0 := XS) (name := XS) (hh := [(0, 8, 11, 52)]) (c_spareX l hfl D cI cJ cZ q R C hG dr sz sa cu fi st lo hi wa sw hx hI hone) 1 rfl rfl mw2_153 mw2_154 mw2_155 mw1_1 mw2_156 ⟨rfl, hd_X2_spare⟩ rfl ⟨rfl, rfl⟩ ⟨Nat.le_of_ble_eq_true rfl, Nat.le_of_ble_eq_true rfl⟩ ⟨Nat.le_of_ble_eq_true rfl, Nat.le_of_ble_eq_true rfl⟩ (Nat.le_of_ble_eq_true rfl) [1, 2, 3, 4, 5, 6, 7, 8, 9, 10, 11, 12, 13] [0] rfl rfl rfl rfl (by decide) hC [] ⟨0, 8, 11, 52⟩ [] rfl (fun z hz => absurd hz List.not_mem_nil) rfl (by decide) mw2_152 ca_XS rfl dL_spare_3 ?_
  rintro q9 _ ⟨sz2, sa2, fi2, st2, lo2, hi2, wa2, sw2, hI2, rfl⟩
  show V k l D (tys3 cI cJ cZ) ({ frames := 7, cells := 1, slots := 6, locals := 164 } : Room) method_12_code 3 RL (wO cI cJ cZ qo q R C ov dr sz2 sa2 cu fi2 st2 lo2 hi2 wa2 sw2) 1 6 11 [(0, .ref (q 0)), (1, .ref (qo))] [.ref (q9)]
  refine j_astore_n [(2, .ref (q9)), (0, .ref (q 0)), (1, .ref (qo))] dL_spare_11 rfl (by decide) rfl ?_
  refine j_iconst (v := nI (1)) dL_spare_12 (by decide) ?_
  exact j_iret (tys' := []) rfl hR dL_spare_13 (⟨rfl, sz2, sa2, fi2, st2, lo2, hi2, wa2, sw2, hI2, rfl⟩)

set_option maxHeartbeats 4000000 in
set_option maxRecDepth 100000 in
theorem w_clueOf (l : Launch) (hfl : l.flags = flags0) (D : va_G) (cI cJ cZ : ClassId) (qo : Nat) (q : Nat → Nat) (R C : Nat) (hG : GS R C) (dr sz : Nat) (sa : Bool) (cu fi st : Nat → Nat) (lo hi : Nat → Option Nat) (wa sw : Nat → Nat) (ov : Nat → Int64) (hx : XOK R C cu) (hI : XI0 R C cu sa sz fi st lo hi wa dr) (yr xc : Nat) (hr : yr < R) (hc : xc < C) : CtW l yL_clueOf method_13_code 5 (Option.some FieldType.int) [(0, 10, 13, 13)] ({ frames := 7, cells := 1, slots := 6, locals := 103 } : Room) D (tys3 cI cJ cZ) (wO cI cJ cZ qo q R C ov dr sz sa cu fi st lo hi wa sw) [.ref (q 0), .int (nI (yr)), .int (nI (xc)), .ref (qo)] (fun r u => r = some (.int (nI (0))) ∧ OW cI cJ cZ qo q R C (va_up ov 0 ((eI (cu (yr * C + xc))).toInt64)) dr cu u) 1 6 := by
  refine CtW.of hfl (by decide) (Nat.le_of_ble_eq_true rfl) ?_
  intro k hR hC
  show V k l D (tys3 cI cJ cZ) ({ frames := 7, cells := 1, slots := 6, locals := 103 } : Room) method_13_code 5 RL (wO cI cJ cZ qo q R C ov dr sz sa cu fi st lo hi wa sw) 0 0 0 [(0, .ref (q 0)), (1, .int (nI (yr))), (2, .int (nI (xc))), (3, .ref (qo))] []
  refine j_widen (k2 := 1) (n2 := 6) (by decide) (by decide) ?_
  refine j_aload_n dL_clueOf_0 rfl 3 rfl ?_
  refine j_iconst (v := nI (0)) dL_clueOf_1 (by decide) ?_
  refine j_aload_n dL_clueOf_2 rfl 0 rfl ?_
  refine j_iload_n dL_clueOf_3 rfl 1 rfl ?_
  refine j_iload_n dL_clueOf_4 rfl 2 rfl ?_
  refine j_callV (mc := 0) (ms := 0) (wc := wX cI cZ q R C dr sz sa cu fi st lo hi wa sw) (wr := [(qo, .inl (cJ, 1, .inr (.inl ov)))]) (tys3 := tys3 cI cJ cZ) (av := [.int (nI (yr)), .int (nI (xc))]) (rest := [.int (nI (0)), .ref (qo)]) (c_clueOf l hfl D cI cJ cZ q R C hG dr sz sa cu fi st lo hi wa sw hx hI yr xc hr hc) 1 rfl rfl mw2_175 mw2_176 mw2_177 mw1_1 mw2_178 ⟨rfl, hd_X2_clueOf⟩ rfl ⟨rfl, rfl⟩ ⟨Nat.le_of_ble_eq_true rfl, Nat.le_of_ble_eq_true rfl⟩ ⟨Nat.le_of_ble_eq_true rfl, Nat.le_of_ble_eq_true rfl⟩ (Nat.le_of_ble_eq_true rfl) [1, 2, 3, 4, 5, 6, 7, 8, 9, 10, 11, 12, 13] [0] rfl rfl rfl rfl (by decide) (fun _ h _ => h) rfl dL_clueOf_5 ?_
  rintro _ _ ⟨rfl, sz2, sa2, fi2, st2, lo2, hi2, wa2, sw2, hI2, rfl⟩
  show V k l D (tys3 cI cJ cZ) ({ frames := 7, cells := 1, slots := 6, locals := 103 } : Room) method_13_code 5 RL (wO cI cJ cZ qo q R C ov dr sz2 sa2 cu fi2 st2 lo2 hi2 wa2 sw2) 1 6 8 [(0, .ref (q 0)), (1, .int (nI (yr))), (2, .int (nI (xc))), (3, .ref (qo))] [.int (eI (cu (yr * C + xc))), .int (nI (0)), .ref (qo)]
  refine j_i2l dL_clueOf_8 rfl ?_
  refine jn_last (wO cI cJ cZ qo q R C (va_up ov 0 ((eI (cu (yr * C + xc))).toInt64)) dr sz2 sa2 cu fi2 st2 lo2 hi2 wa2 sw2) 0 1 rfl rfl (by omega) (by omega) rfl dL_clueOf_9 ?_
  refine j_goto (tgt := 17) dL_clueOf_10 (by decide) ?_
  refine j_iconst (v := nI (0)) dL_clueOf_17 (by decide) ?_
  exact j_iret (tys' := []) rfl hR dL_clueOf_18 (⟨rfl, sz2, sa2, fi2, st2, lo2, hi2, wa2, sw2, hI2, rfl⟩)

set_option maxHeartbeats 4000000 in
set_option maxRecDepth 100000 in
theorem w_clueOfX (l : Launch) (hfl : l.flags = flags0) (D : va_G) (cI cJ cZ : ClassId) (qo : Nat) (q : Nat → Nat) (R C : Nat) (hG : GS R C) (dr sz : Nat) (sa : Bool) (cu fi st : Nat → Nat) (lo hi : Nat → Option Nat) (wa sw : Nat → Nat) (ov : Nat → Int64) (hx : XOK R C cu) (hI : XI0 R C cu sa sz fi st lo hi wa dr) (x y : Int32) (hxy : (inB R x && inB C y) = false) : CtW l yL_clueOf method_13_code 5 (Option.some FieldType.int) [(0, 10, 13, 13)] ({ frames := 7, cells := 1, slots := 6, locals := 103 } : Room) D (tys3 cI cJ cZ) (wO cI cJ cZ qo q R C ov dr sz sa cu fi st lo hi wa sw) [.ref (q 0), .int (x), .int (y), .ref (qo)] (fun r u => r = some (.int (nI (1))) ∧ OW cI cJ cZ qo q R C ov dr cu u) 1 6 := by
  refine CtW.of hfl (by decide) (Nat.le_of_ble_eq_true rfl) ?_
  intro k hR hC
  show V k l D (tys3 cI cJ cZ) ({ frames := 7, cells := 1, slots := 6, locals := 103 } : Room) method_13_code 5 RL (wO cI cJ cZ qo q R C ov dr sz sa cu fi st lo hi wa sw) 0 0 0 [(0, .ref (q 0)), (1, .int (x)), (2, .int (y)), (3, .ref (qo))] []
  refine j_aload_n dL_clueOf_0 rfl 3 rfl ?_
  refine j_iconst (v := nI (0)) dL_clueOf_1 (by decide) ?_
  refine j_aload_n dL_clueOf_2 rfl 0 rfl ?_
  refine j_iload_n dL_clueOf_3 rfl 1 rfl ?_
  refine j_iload_n dL_clueOf_4 rfl 2 rfl ?_
  refine j_callT (mc := 1) (ms := 6) (wc := wX cI cZ q R C dr sz sa cu fi st lo hi wa sw) (wr := [(qo, .inl (cJ, 1, .inr (.inl ov)))]) (av := [.int (x), .int (y)]) (rest := [.int (nI (0)), .ref (qo)]) (E0 := XI) (name := XI) (hh := [(0, 10, 13, 13)]) (c_clueOfX l hfl D cI cJ cZ q R C hG dr sz sa cu fi st lo hi wa sw hx hI x y hxy) 1 rfl rfl mw2_175 mw2_176 mw2_177 mw1_1 mw2_178 ⟨rfl, hd_X2_clueOf⟩ rfl ⟨rfl, rfl⟩ ⟨Nat.le_of_ble_eq_true rfl, Nat.le_of_ble_eq_true rfl⟩ ⟨Nat.le_of_ble_eq_true rfl, Nat.le_of_ble_eq_true rfl⟩ (Nat.le_of_ble_eq_true rfl) [1, 2, 3, 4, 5, 6, 7, 8, 9, 10, 11, 12, 13] [0] rfl rfl rfl rfl (by decide) hC [] ⟨0, 10, 13, 13⟩ [] rfl (fun z hz => absurd hz List.not_mem_nil) rfl (by decide) mw1_208 ca_XI rfl dL_clueOf_5 ?_
  rintro q9 _ ⟨sz2, sa2, fi2, st2, lo2, hi2, wa2, sw2, hI2, rfl⟩
  show V k l D (tys3 cI cJ cZ) ({ frames := 7, cells := 1, slots := 6, locals := 103 } : Room) method_13_code 5 RL (wO cI cJ cZ qo q R C ov dr sz2 sa2 cu fi2 st2 lo2 hi2 wa2 sw2) 1 6 13 [(0, .ref (q 0)), (1, .int (x)), (2, .int (y)), (3, .ref (qo))] [.ref (q9)]
  refine j_astore [(4, .ref (q9)), (0, .ref (q 0)), (1, .int (x)), (2, .int (y)), (3, .ref (qo))] dL_clueOf_13 (by decide) rfl ?_
  refine j_iconst (v := nI (1)) dL_clueOf_15 (by decide) ?_
  exact j_iret (tys' := []) rfl hR dL_clueOf_16 (⟨rfl, sz2, sa2, fi2, st2, lo2, hi2, wa2, sw2, hI2, rfl⟩)

