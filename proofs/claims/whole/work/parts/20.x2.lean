/-! LoopDiagram: the methods that don't throw -/
def noE (R C : Nat) (x : Int32) : Bool := decide (x < 0) || decide (nI (nE R C) ≤ x)
def noC (R C : Nat) (x y : Int32) : Bool := decide (x < 0) || decide (nI R ≤ x) || decide (y < 0) || decide (nI C ≤ y)
/-- the diagram is as the clues want it, if it isn't stale -/
def Frs (R C : Nat) (cu : Nat → Nat) (sa : Bool) (sz : Nat) (fi st : Nat → Nat) (lo hi : Nat → Option Nat) (wa : Nat → Nat) : Prop := sa = false → Gr R C cu sz fi st lo hi ∧ Wy R C cu 0 0 wa
theorem i_nlt {a b : Int32} (h : ¬ a < b) : b ≤ a := by
  rw [Int32.lt_iff_toInt_lt] at h
  rw [Int32.le_iff_toInt_le]
  omega
def ilA (R C set : Nat) : Nat → Nat → Nat → Bool
  | 0, _, _ => true
  | n + 1, e, s => match pointsF R C s e (set.testBit e) with | none => false | some t => ilA R C set n (e + 1) t
theorem va_up_id {f : Nat → Nat} {i v : Nat} (h : f i = v) : va_up f i v = f := by
  funext j
  simp only [va_up]
  split
  · rename_i e; rw [e, h]
  · rfl
theorem eI_inj {x y : Nat} (hx : x = 99 ∨ x ≤ 4) (hy : y = 99 ∨ y ≤ 4) (h : eI x = eI y) : x = y := by
  have hx' : x < 2 ^ 31 := by omega
  have hy' : y < 2 ^ 31 := by omega
  by_cases h1 : x = 99
  · rw [h1, eI_99] at h
    rw [h1]
    exact ((eI_m1 hy').mp h.symm).symm
  · by_cases h2 : y = 99
    · rw [h2, eI_99] at h
      exact absurd ((eI_m1 hx').mp h) h1
    · rw [eI_ne h1, eI_ne h2] at h
      exact (nI_eq hx' hy').mp h
set_option maxHeartbeats 4000000 in
set_option maxRecDepth 100000 in
theorem c_fresh (l : Launch) (hfl : l.flags = flags0) (D : va_G) (cI cJ cZ : ClassId) (q : Nat → Nat) (R C : Nat) (hG : GS R C) (dr sz : Nat) (sa : Bool) (cu fi st : Nat → Nat) (lo hi : Nat → Option Nat) (wa sw : Nat → Nat) (hx : XOK R C cu) (hf : Frs R C cu sa sz fi st lo hi wa) : Ct l yX2_fresh cX2_fresh 1 (Option.some (FieldType.object RX0)) ({ frames := 5, cells := 0, slots := 0, locals := 121 } : Room) D (tys3 cI cJ cZ) (tys3 cI cJ cZ) (wX cI cZ q R C dr sz sa cu fi st lo hi wa sw) [.ref (q 0)] (fun r u => r = some (.ref (q 2)) ∧ ∃ (sz2 : Nat) (fi2 st2 : Nat → Nat) (lo2 hi2 : Nat → Option Nat) (wa2 : Nat → Nat), Gr R C cu sz2 fi2 st2 lo2 hi2 ∧ Wy R C cu 0 0 wa2 ∧ u = wX cI cZ q R C dr sz2 false cu fi2 st2 lo2 hi2 wa2 sw) 0 0 := by
  refine Ct.of hfl (by decide) (Nat.le_of_ble_eq_true rfl) ?_
  intro k hR _
  show V k l D (tys3 cI cJ cZ) ({ frames := 5, cells := 0, slots := 0, locals := 121 } : Room) cX2_fresh 1 RX2 (wX cI cZ q R C dr sz sa cu fi st lo hi wa sw) 0 0 0 [(0, .ref (q 0))] []
  refine j_aload_n dX2_fresh_0 rfl 0 rfl ?_
  refine gf_X2_31 0 rfl (rfl) dX2_fresh_1 ?_
  refine jb_if_eq (tgt := 19) (b := sa) dX2_fresh_4 (by decide) (fun c4 => ?_) (fun c4 => ?_)
  · refine j_aload_n dX2_fresh_19 rfl 0 rfl ?_
    refine gf_X2_23 0 rfl (rfl) dX2_fresh_20 ?_
    exact j_aret rfl (Or.inl ⟨_, rfl⟩) hR dX2_fresh_23 (⟨rfl, sz, fi, st, lo, hi, wa, (hf c4).1, (hf c4).2, by rw [c4]⟩)
  · refine j_aload_n dX2_fresh_7 rfl 0 rfl ?_
    refine gf_X2_23 0 rfl (rfl) dX2_fresh_8 ?_
    refine j_vW (av := []) (c_grow l hfl D cI cJ cZ q R C hG dr sz sa cu fi st lo hi wa sw hx) 2 rfl rfl mw1_118 mw1_119 mw1_120 mw1_3 mw1_121 rfl hd_X0_grow rfl ⟨rfl, rfl⟩ ⟨Nat.le_of_ble_eq_true rfl, Nat.le_of_ble_eq_true rfl⟩ ⟨Nat.zero_le _, Nat.zero_le _⟩ (Nat.le_of_ble_eq_true rfl) rfl dX2_fresh_11 ?_
    rintro _ _ ⟨rfl, sz3, fi3, st3, lo3, hi3, wa3, hg3, hW3, rfl⟩
    refine j_st (st' := []) rfl ?_
    refine j_aload_n dX2_fresh_14 rfl 0 rfl ?_
    refine j_iconst (v := nI (0)) dX2_fresh_15 (by decide) ?_
    refine j_st (st' := [.int (bI (false)), .ref (q 0)]) (by rfl) ?_
    refine pf_X2_31 (wX cI cZ q R C dr sz3 false cu fi3 st3 lo3 hi3 wa3 sw) 0 rfl (Nat.le_of_ble_eq_true rfl) (nar_bI _) (fit_bI _) rfl dX2_fresh_16 ?_
    refine j_aload_n dX2_fresh_19 rfl 0 rfl ?_
    refine gf_X2_23 0 rfl (rfl) dX2_fresh_20 ?_
    exact j_aret rfl (Or.inl ⟨_, rfl⟩) hR dX2_fresh_23 (⟨rfl, sz3, fi3, st3, lo3, hi3, wa3, hg3, hW3, rfl⟩)

set_option maxHeartbeats 4000000 in
set_option maxRecDepth 100000 in
theorem c_edges (l : Launch) (hfl : l.flags = flags0) (D : va_G) (cI cJ cZ : ClassId) (q : Nat → Nat) (R C : Nat) (hG : GS R C) (dr sz : Nat) (sa : Bool) (cu fi st : Nat → Nat) (lo hi : Nat → Option Nat) (wa sw : Nat → Nat)  : Ct l yX2_edges cX2_edges 1 (Option.some FieldType.int) ({ frames := 0, cells := 0, slots := 0, locals := 0 } : Room) D (tys3 cI cJ cZ) (tys3 cI cJ cZ) (wX cI cZ q R C dr sz sa cu fi st lo hi wa sw) [.ref (q 0)] (fun r u => r = some (.int (nI (nE R C))) ∧ u = wX cI cZ q R C dr sz sa cu fi st lo hi wa sw) 0 0 := by
  refine Ct.of hfl (by decide) (Nat.le_of_ble_eq_true rfl) ?_
  intro k hR _
  show V k l D (tys3 cI cJ cZ) ({ frames := 0, cells := 0, slots := 0, locals := 0 } : Room) cX2_edges 1 RX2 (wX cI cZ q R C dr sz sa cu fi st lo hi wa sw) 0 0 0 [(0, .ref (q 0))] []
  refine j_aload_n dX2_edges_0 rfl 0 rfl ?_
  refine gf_X2_14 0 rfl (rfl) dX2_edges_1 ?_
  refine gf_X2_35 1 rfl (rfl) dX2_edges_4 ?_
  exact j_iret (tys' := []) rfl hR dX2_edges_7 (⟨rfl, rfl⟩)

set_option maxHeartbeats 4000000 in
set_option maxRecDepth 100000 in
theorem c_count (l : Launch) (hfl : l.flags = flags0) (D : va_G) (cI cJ cZ : ClassId) (q : Nat → Nat) (R C : Nat) (hG : GS R C) (dr sz : Nat) (sa : Bool) (cu fi st : Nat → Nat) (lo hi : Nat → Option Nat) (wa sw : Nat → Nat) (hx : XOK R C cu) (hf : Frs R C cu sa sz fi st lo hi wa) : Ct l yX2_count cX2_count 1 (Option.some FieldType.int) ({ frames := 6, cells := 0, slots := 0, locals := 141 } : Room) D (tys3 cI cJ cZ) (tys3 cI cJ cZ) (wX cI cZ q R C dr sz sa cu fi st lo hi wa sw) [.ref (q 0)] (fun r u => r = some (.int (nI (WS R C cu 0 (nE R C) 0 1672))) ∧ ∃ (sz2 : Nat) (fi2 st2 : Nat → Nat) (lo2 hi2 : Nat → Option Nat) (wa2 : Nat → Nat), Gr R C cu sz2 fi2 st2 lo2 hi2 ∧ Wy R C cu 0 0 wa2 ∧ u = wX cI cZ q R C dr sz2 false cu fi2 st2 lo2 hi2 wa2 sw) 0 0 := by
  refine Ct.of hfl (by decide) (Nat.le_of_ble_eq_true rfl) ?_
  intro k hR _
  have hR4 := hG.2.1
  have hC3 := hG.2.2.2
  have hR1 := hG.1
  have hC1 := hG.2.2.1
  have hE := hG.E
  have hRC := hG.RC
  have hE4 := hG.E4
  show V k l D (tys3 cI cJ cZ) ({ frames := 6, cells := 0, slots := 0, locals := 141 } : Room) cX2_count 1 RX2 (wX cI cZ q R C dr sz sa cu fi st lo hi wa sw) 0 0 0 [(0, .ref (q 0))] []
  refine j_aload_n dX2_count_0 rfl 0 rfl ?_
  refine j_vW (av := []) (c_fresh l hfl D cI cJ cZ q R C hG dr sz sa cu fi st lo hi wa sw hx hf) 0 rfl rfl mw1_114 mw1_116 msel0 mw1_1 mw1_117 rfl hd_X2_fresh rfl ⟨rfl, rfl⟩ ⟨Nat.le_of_ble_eq_true rfl, Nat.le_of_ble_eq_true rfl⟩ ⟨Nat.zero_le _, Nat.zero_le _⟩ (Nat.le_of_ble_eq_true rfl) rfl dX2_count_1 ?_
  rintro _ _ ⟨rfl, sz3, fi3, st3, lo3, hi3, wa3, hg3, hW3, rfl⟩
  refine j_st (st' := [.ref (q 2)]) rfl ?_
  have w00 : wa3 0 = WS R C cu 0 (nE R C) 0 1672 := hW3 0 0 1672 (Nat.le_refl _) (Nat.zero_le _) (lv0 R C cu)
  refine gf_X2_73 2 rfl (rfl) dX2_count_4 ?_
  refine j_iconst (v := nI (0)) dX2_count_7 (by decide) ?_
  refine jn_iald (v := nI (wa3 0)) 11 0 rfl rfl (by omega) (by omega) (rfl) dX2_count_8 ?_
  exact j_iret (tys' := []) rfl hR dX2_count_9 (⟨by rw [w00], sz3, fi3, st3, lo3, hi3, wa3, hg3, hW3, rfl⟩)

set_option maxHeartbeats 4000000 in
set_option maxRecDepth 100000 in
theorem c_nodes (l : Launch) (hfl : l.flags = flags0) (D : va_G) (cI cJ cZ : ClassId) (q : Nat → Nat) (R C : Nat) (hG : GS R C) (dr sz : Nat) (sa : Bool) (cu fi st : Nat → Nat) (lo hi : Nat → Option Nat) (wa sw : Nat → Nat) (hx : XOK R C cu) (hf : Frs R C cu sa sz fi st lo hi wa) : Ct l yX2_nodes cX2_nodes 1 (Option.some FieldType.int) ({ frames := 6, cells := 0, slots := 0, locals := 141 } : Room) D (tys3 cI cJ cZ) (tys3 cI cJ cZ) (wX cI cZ q R C dr sz sa cu fi st lo hi wa sw) [.ref (q 0)] (fun r u => r = some (.int (nI (off R C cu (nE R C + 1)))) ∧ ∃ (sz2 : Nat) (fi2 st2 : Nat → Nat) (lo2 hi2 : Nat → Option Nat) (wa2 : Nat → Nat), Gr R C cu sz2 fi2 st2 lo2 hi2 ∧ Wy R C cu 0 0 wa2 ∧ u = wX cI cZ q R C dr sz2 false cu fi2 st2 lo2 hi2 wa2 sw) 0 0 := by
  refine Ct.of hfl (by decide) (Nat.le_of_ble_eq_true rfl) ?_
  intro k hR _
  have hR4 := hG.2.1
  have hC3 := hG.2.2.2
  have hR1 := hG.1
  have hC1 := hG.2.2.1
  have hE := hG.E
  have hRC := hG.RC
  have hE4 := hG.E4
  show V k l D (tys3 cI cJ cZ) ({ frames := 6, cells := 0, slots := 0, locals := 141 } : Room) cX2_nodes 1 RX2 (wX cI cZ q R C dr sz sa cu fi st lo hi wa sw) 0 0 0 [(0, .ref (q 0))] []
  refine j_aload_n dX2_nodes_0 rfl 0 rfl ?_
  refine j_vW (av := []) (c_fresh l hfl D cI cJ cZ q R C hG dr sz sa cu fi st lo hi wa sw hx hf) 0 rfl rfl mw1_114 mw1_116 msel0 mw1_1 mw1_117 rfl hd_X2_fresh rfl ⟨rfl, rfl⟩ ⟨Nat.le_of_ble_eq_true rfl, Nat.le_of_ble_eq_true rfl⟩ ⟨Nat.zero_le _, Nat.zero_le _⟩ (Nat.le_of_ble_eq_true rfl) rfl dX2_nodes_1 ?_
  rintro _ _ ⟨rfl, sz3, fi3, st3, lo3, hi3, wa3, hg3, hW3, rfl⟩
  refine j_st (st' := [.ref (q 2)]) rfl ?_
  refine gf_X2_83 2 rfl (rfl) dX2_nodes_4 ?_
  exact j_iret (tys' := []) rfl hR dX2_nodes_7 (⟨by rw [← hg3.1], sz3, fi3, st3, lo3, hi3, wa3, hg3, hW3, rfl⟩)

set_option maxHeartbeats 4000000 in
set_option maxRecDepth 100000 in
theorem c_above (l : Launch) (hfl : l.flags = flags0) (D : va_G) (cI cJ cZ : ClassId) (q : Nat → Nat) (R C : Nat) (hG : GS R C) (dr sz : Nat) (sa : Bool) (cu fi st : Nat → Nat) (lo hi : Nat → Option Nat) (wa sw : Nat → Nat) (hx : XOK R C cu) (hf : Frs R C cu sa sz fi st lo hi wa) (hdr : dr < 2 ^ 31) : Ct l yX2_above cX2_above 1 (Option.some FieldType.int) ({ frames := 6, cells := 0, slots := 0, locals := 141 } : Room) D (tys3 cI cJ cZ) (tys3 cI cJ cZ) (wX cI cZ q R C dr sz sa cu fi st lo hi wa sw) [.ref (q 0)] (fun r u => r = some (.int (nI (WS R C cu dr (nE R C) 0 1672))) ∧ ∃ (sz2 : Nat) (fi2 st2 : Nat → Nat) (lo2 hi2 : Nat → Option Nat) (wa2 sw2 : Nat → Nat), Gr R C cu sz2 fi2 st2 lo2 hi2 ∧ Wy R C cu 0 0 wa2 ∧ u = wX cI cZ q R C dr sz2 false cu fi2 st2 lo2 hi2 wa2 sw2) 0 0 := by
  refine Ct.of hfl (by decide) (Nat.le_of_ble_eq_true rfl) ?_
  intro k hR _
  have hR4 := hG.2.1
  have hC3 := hG.2.2.2
  have hR1 := hG.1
  have hC1 := hG.2.2.1
  have hE := hG.E
  have hRC := hG.RC
  have hE4 := hG.E4
  show V k l D (tys3 cI cJ cZ) ({ frames := 6, cells := 0, slots := 0, locals := 141 } : Room) cX2_above 1 RX2 (wX cI cZ q R C dr sz sa cu fi st lo hi wa sw) 0 0 0 [(0, .ref (q 0))] []
  refine j_aload_n dX2_above_0 rfl 0 rfl ?_
  refine j_vW (av := []) (c_fresh l hfl D cI cJ cZ q R C hG dr sz sa cu fi st lo hi wa sw hx hf) 0 rfl rfl mw1_114 mw1_116 msel0 mw1_1 mw1_117 rfl hd_X2_fresh rfl ⟨rfl, rfl⟩ ⟨Nat.le_of_ble_eq_true rfl, Nat.le_of_ble_eq_true rfl⟩ ⟨Nat.zero_le _, Nat.zero_le _⟩ (Nat.le_of_ble_eq_true rfl) rfl dX2_above_1 ?_
  rintro _ _ ⟨rfl, sz3, fi3, st3, lo3, hi3, wa3, hg3, hW3, rfl⟩
  refine j_st (st' := [.ref (q 2)]) rfl ?_
  refine j_aload_n dX2_above_4 rfl 0 rfl ?_
  refine gf_X2_27 0 rfl (rfl) dX2_above_5 ?_
  refine j_vW (av := [.int (nI (dr))]) (c_solutionsWith l hfl D cI cJ cZ q R C hG dr sz3 false cu fi3 st3 lo3 hi3 wa3 sw hx hg3 (dr) (by omega)) 2 rfl rfl mw1_190 mw1_191 mw1_192 mw1_3 mw1_193 rfl hd_X0_solutionsWith rfl ⟨rfl, rfl⟩ ⟨Nat.le_of_ble_eq_true rfl, Nat.le_of_ble_eq_true rfl⟩ ⟨Nat.zero_le _, Nat.zero_le _⟩ (Nat.le_of_ble_eq_true rfl) rfl dX2_above_8 ?_
  rintro _ _ ⟨rfl, fw, rfl⟩
  refine j_st (st' := [.int (nI (WS R C cu dr (nE R C) 0 1672))]) rfl ?_
  exact j_iret (tys' := []) rfl hR dX2_above_11 (⟨rfl, sz3, fi3, st3, lo3, hi3, wa3, fw, hg3, hW3, rfl⟩)

set_option maxHeartbeats 4000000 in
set_option maxRecDepth 100000 in
theorem c_alive (l : Launch) (hfl : l.flags = flags0) (D : va_G) (cI cJ cZ : ClassId) (q : Nat → Nat) (R C : Nat) (hG : GS R C) (dr sz : Nat) (sa : Bool) (cu fi st : Nat → Nat) (lo hi : Nat → Option Nat) (wa sw : Nat → Nat) (hx : XOK R C cu) (hf : Frs R C cu sa sz fi st lo hi wa) (hdr : dr < 2 ^ 31) : Ct l yX2_alive cX2_alive 1 (Option.some FieldType.int) ({ frames := 6, cells := 0, slots := 0, locals := 141 } : Room) D (tys3 cI cJ cZ) (tys3 cI cJ cZ) (wX cI cZ q R C dr sz sa cu fi st lo hi wa sw) [.ref (q 0)] (fun r u => r = some (.int (nI (alA R C cu dr (nE R C) 0 1672))) ∧ ∃ (sz2 : Nat) (fi2 st2 : Nat → Nat) (lo2 hi2 : Nat → Option Nat) (wa2 : Nat → Nat), Gr R C cu sz2 fi2 st2 lo2 hi2 ∧ Wy R C cu 0 0 wa2 ∧ u = wX cI cZ q R C dr sz2 false cu fi2 st2 lo2 hi2 wa2 sw) 0 0 := by
  refine Ct.of hfl (by decide) (Nat.le_of_ble_eq_true rfl) ?_
  intro k hR _
  have hR4 := hG.2.1
  have hC3 := hG.2.2.2
  have hR1 := hG.1
  have hC1 := hG.2.2.1
  have hE := hG.E
  have hRC := hG.RC
  have hE4 := hG.E4
  show V k l D (tys3 cI cJ cZ) ({ frames := 6, cells := 0, slots := 0, locals := 141 } : Room) cX2_alive 1 RX2 (wX cI cZ q R C dr sz sa cu fi st lo hi wa sw) 0 0 0 [(0, .ref (q 0))] []
  refine j_aload_n dX2_alive_0 rfl 0 rfl ?_
  refine j_vW (av := []) (c_fresh l hfl D cI cJ cZ q R C hG dr sz sa cu fi st lo hi wa sw hx hf) 0 rfl rfl mw1_114 mw1_116 msel0 mw1_1 mw1_117 rfl hd_X2_fresh rfl ⟨rfl, rfl⟩ ⟨Nat.le_of_ble_eq_true rfl, Nat.le_of_ble_eq_true rfl⟩ ⟨Nat.zero_le _, Nat.zero_le _⟩ (Nat.le_of_ble_eq_true rfl) rfl dX2_alive_1 ?_
  rintro _ _ ⟨rfl, sz3, fi3, st3, lo3, hi3, wa3, hg3, hW3, rfl⟩
  refine j_st (st' := [.ref (q 2)]) rfl ?_
  refine j_aload_n dX2_alive_4 rfl 0 rfl ?_
  refine gf_X2_27 0 rfl (rfl) dX2_alive_5 ?_
  refine j_vW (av := [.int (nI (dr))]) (c_aliveEdges l hfl D cI cJ cZ q R C hG dr sz3 false cu fi3 st3 lo3 hi3 wa3 sw hx hg3 (dr) (by omega)) 2 rfl rfl mw1_198 mw1_199 mw1_200 mw1_3 mw1_201 rfl hd_X0_aliveEdges rfl ⟨rfl, rfl⟩ ⟨Nat.le_of_ble_eq_true rfl, Nat.le_of_ble_eq_true rfl⟩ ⟨Nat.zero_le _, Nat.zero_le _⟩ (Nat.le_of_ble_eq_true rfl) rfl dX2_alive_8 ?_
  rintro _ _ ⟨rfl, rfl⟩
  refine j_st (st' := [.int (nI (alA R C cu dr (nE R C) 0 1672))]) rfl ?_
  exact j_iret (tys' := []) rfl hR dX2_alive_11 (⟨rfl, sz3, fi3, st3, lo3, hi3, wa3, hg3, hW3, rfl⟩)

set_option maxHeartbeats 4000000 in
set_option maxRecDepth 100000 in
theorem c_isNoEdge (l : Launch) (hfl : l.flags = flags0) (D : va_G) (cI cJ cZ : ClassId) (q : Nat → Nat) (R C : Nat) (hG : GS R C) (dr sz : Nat) (sa : Bool) (cu fi st : Nat → Nat) (lo hi : Nat → Option Nat) (wa sw : Nat → Nat) (x : Int32) : Ct l yX2_isNoEdge cX2_isNoEdge 2 (Option.some FieldType.boolean) ({ frames := 0, cells := 0, slots := 0, locals := 0 } : Room) D (tys3 cI cJ cZ) (tys3 cI cJ cZ) (wX cI cZ q R C dr sz sa cu fi st lo hi wa sw) [.ref (q 0), .int (x)] (fun r u => r = some (.int (bI ((noE R C x)))) ∧ u = wX cI cZ q R C dr sz sa cu fi st lo hi wa sw) 0 0 := by
  refine Ct.of hfl (by decide) (Nat.le_of_ble_eq_true rfl) ?_
  intro k hR _
  show V k l D (tys3 cI cJ cZ) ({ frames := 0, cells := 0, slots := 0, locals := 0 } : Room) cX2_isNoEdge 2 RX2 (wX cI cZ q R C dr sz sa cu fi st lo hi wa sw) 0 0 0 [(0, .ref (q 0)), (1, .int (x))] []
  refine j_iload_n dX2_isNoEdge_0 rfl 1 rfl ?_
  refine j_if_lt (tgt := 15) dX2_isNoEdge_1 (by decide) (fun c1 => ?_) (fun c1 => ?_)
  · refine j_iconst (v := nI (1)) dX2_isNoEdge_15 (by decide) ?_
    refine j_goto (tgt := 20) dX2_isNoEdge_16 (by decide) ?_
    refine j_st (st' := [.int (bI (true))]) (by rfl) ?_
    exact j_zretB (tys' := []) rfl hR dX2_isNoEdge_20 (⟨by rw [show noE R C x = true from by simp [noE, *]], rfl⟩)
  · refine j_iload_n dX2_isNoEdge_4 rfl 1 rfl ?_
    refine j_aload_n dX2_isNoEdge_5 rfl 0 rfl ?_
    refine gf_X2_14 0 rfl (rfl) dX2_isNoEdge_6 ?_
    refine gf_X2_35 1 rfl (rfl) dX2_isNoEdge_9 ?_
    refine j_icmp_lt (tgt := 19) dX2_isNoEdge_12 (by decide) (fun c12 => ?_) (fun c12 => ?_)
    · refine j_iconst (v := nI (0)) dX2_isNoEdge_19 (by decide) ?_
      refine j_st (st' := [.int (bI (false))]) (by rfl) ?_
      exact j_zretB (tys' := []) rfl hR dX2_isNoEdge_20 (⟨by rw [show noE R C x = false from by simp [noE, *]], rfl⟩)
    · have e12 := i_nlt c12
      refine j_iconst (v := nI (1)) dX2_isNoEdge_15 (by decide) ?_
      refine j_goto (tgt := 20) dX2_isNoEdge_16 (by decide) ?_
      refine j_st (st' := [.int (bI (true))]) (by rfl) ?_
      exact j_zretB (tys' := []) rfl hR dX2_isNoEdge_20 (⟨by rw [show noE R C x = true from by simp [noE, *]], rfl⟩)

set_option maxHeartbeats 4000000 in
set_option maxRecDepth 100000 in
theorem c_isNoCell (l : Launch) (hfl : l.flags = flags0) (D : va_G) (cI cJ cZ : ClassId) (q : Nat → Nat) (R C : Nat) (hG : GS R C) (dr sz : Nat) (sa : Bool) (cu fi st : Nat → Nat) (lo hi : Nat → Option Nat) (wa sw : Nat → Nat) (x y : Int32) : Ct l yX2_isNoCell cX2_isNoCell 3 (Option.some FieldType.boolean) ({ frames := 0, cells := 0, slots := 0, locals := 0 } : Room) D (tys3 cI cJ cZ) (tys3 cI cJ cZ) (wX cI cZ q R C dr sz sa cu fi st lo hi wa sw) [.ref (q 0), .int (x), .int (y)] (fun r u => r = some (.int (bI ((noC R C x y)))) ∧ u = wX cI cZ q R C dr sz sa cu fi st lo hi wa sw) 0 0 := by
  refine Ct.of hfl (by decide) (Nat.le_of_ble_eq_true rfl) ?_
  intro k hR _
  show V k l D (tys3 cI cJ cZ) ({ frames := 0, cells := 0, slots := 0, locals := 0 } : Room) cX2_isNoCell 3 RX2 (wX cI cZ q R C dr sz sa cu fi st lo hi wa sw) 0 0 0 [(0, .ref (q 0)), (1, .int (x)), (2, .int (y))] []
  refine j_iload_n dX2_isNoCell_0 rfl 1 rfl ?_
  refine j_if_lt (tgt := 30) dX2_isNoCell_1 (by decide) (fun c1 => ?_) (fun c1 => ?_)
  · refine j_iconst (v := nI (1)) dX2_isNoCell_30 (by decide) ?_
    refine j_goto (tgt := 35) dX2_isNoCell_31 (by decide) ?_
    refine j_st (st' := [.int (bI (true))]) (by rfl) ?_
    exact j_zretB (tys' := []) rfl hR dX2_isNoCell_35 (⟨by rw [show noC R C x y = true from by simp [noC, *]], rfl⟩)
  · refine j_iload_n dX2_isNoCell_4 rfl 1 rfl ?_
    refine j_aload_n dX2_isNoCell_5 rfl 0 rfl ?_
    refine gf_X2_14 0 rfl (rfl) dX2_isNoCell_6 ?_
    refine gf_X2_119 1 rfl (rfl) dX2_isNoCell_9 ?_
    refine j_icmp_ge (tgt := 30) dX2_isNoCell_12 (by decide) (fun c12 => ?_) (fun c12 => ?_)
    · refine j_iconst (v := nI (1)) dX2_isNoCell_30 (by decide) ?_
      refine j_goto (tgt := 35) dX2_isNoCell_31 (by decide) ?_
      refine j_st (st' := [.int (bI (true))]) (by rfl) ?_
      exact j_zretB (tys' := []) rfl hR dX2_isNoCell_35 (⟨by rw [show noC R C x y = true from by simp [noC, *]], rfl⟩)
    · refine j_iload_n dX2_isNoCell_15 rfl 2 rfl ?_
      refine j_if_lt (tgt := 30) dX2_isNoCell_16 (by decide) (fun c16 => ?_) (fun c16 => ?_)
      · refine j_iconst (v := nI (1)) dX2_isNoCell_30 (by decide) ?_
        refine j_goto (tgt := 35) dX2_isNoCell_31 (by decide) ?_
        refine j_st (st' := [.int (bI (true))]) (by rfl) ?_
        exact j_zretB (tys' := []) rfl hR dX2_isNoCell_35 (⟨by rw [show noC R C x y = true from by simp [noC, *]], rfl⟩)
      · refine j_iload_n dX2_isNoCell_19 rfl 2 rfl ?_
        refine j_aload_n dX2_isNoCell_20 rfl 0 rfl ?_
        refine gf_X2_14 0 rfl (rfl) dX2_isNoCell_21 ?_
        refine gf_X2_49 1 rfl (rfl) dX2_isNoCell_24 ?_
        refine j_icmp_lt (tgt := 34) dX2_isNoCell_27 (by decide) (fun c27 => ?_) (fun c27 => ?_)
        · refine j_iconst (v := nI (0)) dX2_isNoCell_34 (by decide) ?_
          refine j_st (st' := [.int (bI (false))]) (by rfl) ?_
          exact j_zretB (tys' := []) rfl hR dX2_isNoCell_35 (⟨by rw [show noC R C x y = false from by simp [noC, *]], rfl⟩)
        · have e27 := i_nlt c27
          refine j_iconst (v := nI (1)) dX2_isNoCell_30 (by decide) ?_
          refine j_goto (tgt := 35) dX2_isNoCell_31 (by decide) ?_
          refine j_st (st' := [.int (bI (true))]) (by rfl) ?_
          exact j_zretB (tys' := []) rfl hR dX2_isNoCell_35 (⟨by rw [show noC R C x y = true from by simp [noC, *]], rfl⟩)

set_option maxHeartbeats 4000000 in
set_option maxRecDepth 100000 in
theorem c_setClue (l : Launch) (hfl : l.flags = flags0) (D : va_G) (cI cJ cZ : ClassId) (q : Nat → Nat) (R C : Nat) (hG : GS R C) (dr sz : Nat) (sa : Bool) (cu fi st : Nat → Nat) (lo hi : Nat → Option Nat) (wa sw : Nat → Nat) (hcu : CU R C cu) (ce v : Nat) (hce : ce < R * C) (hv : v = 99 ∨ v ≤ 4) : Ct l yX2_setClue cX2_setClue 3 none ({ frames := 0, cells := 0, slots := 0, locals := 0 } : Room) D (tys3 cI cJ cZ) (tys3 cI cJ cZ) (wX cI cZ q R C dr sz sa cu fi st lo hi wa sw) [.ref (q 0), .int (nI (ce)), .int (eI (v))] (fun r u => r = none ∧ ∃ sa2 : Bool, (sa2 = true ∨ (sa2 = sa ∧ va_up cu ce v = cu)) ∧ u = wX cI cZ q R C dr sz sa2 (va_up cu ce v) fi st lo hi wa sw) 0 0 := by
  refine Ct.of hfl (by decide) (Nat.le_of_ble_eq_true rfl) ?_
  intro k hR _
  have hR4 := hG.2.1
  have hC3 := hG.2.2.2
  have hR1 := hG.1
  have hC1 := hG.2.2.1
  have hE := hG.E
  have hRC := hG.RC
  have hE4 := hG.E4
  show V k l D (tys3 cI cJ cZ) ({ frames := 0, cells := 0, slots := 0, locals := 0 } : Room) cX2_setClue 3 RX2 (wX cI cZ q R C dr sz sa cu fi st lo hi wa sw) 0 0 0 [(0, .ref (q 0)), (1, .int (nI (ce))), (2, .int (eI (v)))] []
  refine j_aload_n dX2_setClue_0 rfl 0 rfl ?_
  refine gf_X2_14 0 rfl (rfl) dX2_setClue_1 ?_
  refine gf_X2_116 1 rfl (rfl) dX2_setClue_4 ?_
  refine j_iload_n dX2_setClue_7 rfl 1 rfl ?_
  refine jn_iald (v := eI (cu ce)) 6 0 rfl rfl (hce) (by omega) (rfl) dX2_setClue_8 ?_
  refine j_iload_n dX2_setClue_9 rfl 2 rfl ?_
  refine j_icmp_eq (tgt := 28) dX2_setClue_10 (by decide) (fun c10 => ?_) (fun c10 => ?_)
  · have e10 : cu ce = v := eI_inj (hcu ce hce) hv c10
    exact j_vret (tys' := []) rfl hR dX2_setClue_28 (⟨rfl, sa, Or.inr ⟨rfl, va_up_id e10⟩, by rw [va_up_id e10]⟩)
  · refine j_aload_n dX2_setClue_13 rfl 0 rfl ?_
    refine gf_X2_14 0 rfl (rfl) dX2_setClue_14 ?_
    refine gf_X2_116 1 rfl (rfl) dX2_setClue_17 ?_
    refine j_iload_n dX2_setClue_20 rfl 1 rfl ?_
    refine j_iload_n dX2_setClue_21 rfl 2 rfl ?_
    refine jn_iastE (wX cI cZ q R C dr sz sa (va_up cu ce v) fi st lo hi wa sw) 6 0 rfl rfl (hce) (by omega) rfl dX2_setClue_22 ?_
    refine j_aload_n dX2_setClue_23 rfl 0 rfl ?_
    refine j_iconst (v := nI (1)) dX2_setClue_24 (by decide) ?_
    refine j_st (st' := [.int (bI (true)), .ref (q 0)]) (by rfl) ?_
    refine pf_X2_31 (wX cI cZ q R C dr sz true (va_up cu ce v) fi st lo hi wa sw) 0 rfl (Nat.le_of_ble_eq_true rfl) (nar_bI _) (fit_bI _) rfl dX2_setClue_25 ?_
    exact j_vret (tys' := []) rfl hR dX2_setClue_28 (⟨rfl, true, Or.inl rfl, rfl⟩)

set_option maxHeartbeats 4000000 in
set_option maxRecDepth 100000 in
theorem c_isLoop (l : Launch) (hfl : l.flags = flags0) (D : va_G) (cI cJ cZ : ClassId) (q : Nat → Nat) (R C : Nat) (hG : GS R C) (dr sz : Nat) (sa : Bool) (cu fi st : Nat → Nat) (lo hi : Nat → Option Nat) (wa sw : Nat → Nat) (hdr : dr < 2 ^ 31) : Ct l yX2_isLoop cX2_isLoop 3 (Option.some FieldType.boolean) ({ frames := 3, cells := 0, slots := 0, locals := 74 } : Room) D (tys3 cI cJ cZ) (tys3 cI cJ cZ) (wX cI cZ q R C dr sz sa cu fi st lo hi wa sw) [.ref (q 0)] (fun r u => r = some (.int (bI ((ilA R C dr (nE R C) 0 1672)))) ∧ u = wX cI cZ q R C dr sz sa cu fi st lo hi wa sw) 0 0 := by
  refine Ct.of hfl (by decide) (Nat.le_of_ble_eq_true rfl) ?_
  intro k hR _
  have hR4 := hG.2.1
  have hC3 := hG.2.2.2
  have hR1 := hG.1
  have hC1 := hG.2.2.1
  have hE := hG.E
  have hRC := hG.RC
  have hE4 := hG.E4
  show V k l D (tys3 cI cJ cZ) ({ frames := 3, cells := 0, slots := 0, locals := 74 } : Room) cX2_isLoop 3 RX2 (wX cI cZ q R C dr sz sa cu fi st lo hi wa sw) 0 0 0 [(0, .ref (q 0))] []
  refine j_sipush (v := nI (1672)) dX2_isLoop_0 (by decide) ?_
  refine j_istore_n [(1, .int (nI (1672))), (0, .ref (q 0))] dX2_isLoop_3 rfl (by decide) rfl ?_
  refine j_iconst (v := nI (0)) dX2_isLoop_4 (by decide) ?_
  refine j_istore_n [(2, .int (nI (0))), (1, .int (nI (1672))), (0, .ref (q 0))] dX2_isLoop_5 rfl (by decide) rfl ?_
  refine j_lv (lv' := [(2, .int (nI (0))), (1, .int (oI (some 1672))), (0, .ref (q 0))]) (by rfl) ?_
  refine j_sub [2, 1, 0] [(0, .ref (q 0)), (1, .int (oI (some 1672))), (2, .int (nI (0)))] rfl ?_
  have loop6 : ∀ (n : Nat) (e : Nat) (no : Option Nat), (nE R C < e + n) → (e ≤ nE R C) → ((no = none ∧ ilA R C dr (nE R C) 0 1672 = false) ∨ (∃ s, no = some s ∧ s < 8 ^ 8 ∧ ilA R C dr (nE R C - e) e s = ilA R C dr (nE R C) 0 1672)) → V k l D (tys3 cI cJ cZ) ({ frames := 3, cells := 0, slots := 0, locals := 74 } : Room) cX2_isLoop 3 RX2 (wX cI cZ q R C dr sz sa cu fi st lo hi wa sw) 0 0 6 [(0, .ref (q 0)), (1, .int (oI (no))), (2, .int (nI (e)))] [] := by
    intro n
    induction n with
    | zero => intro e no hm he hs; exfalso; omega
    | succ n ih6 =>
      intro e no hm he hs
      refine j_iload_n dX2_isLoop_6 rfl 2 rfl ?_
      refine j_aload_n dX2_isLoop_7 rfl 0 rfl ?_
      refine gf_X2_14 0 rfl (rfl) dX2_isLoop_8 ?_
      refine gf_X2_35 1 rfl (rfl) dX2_isLoop_11 ?_
      refine jn_icmp_ge (tgt := 46) (a := e) (b := nE R C) (by omega) (by omega) dX2_isLoop_14 (by decide) (fun c14 => ?_) (fun c14 => ?_)
      · have hnob : ∀ s2, no = some s2 → s2 < 2 ^ 31 := fun s2 h => by
          rcases hs with ⟨h2, -⟩ | ⟨s3, h2, h3, -⟩
          · rw [h2] at h; cases h
          · rw [h2] at h; cases h; omega
        refine j_iload_n dX2_isLoop_46 rfl 1 rfl ?_
        refine j_iconst (v := (-1)) dX2_isLoop_47 (by decide) ?_
        refine j_icmp_eq (tgt := 55) dX2_isLoop_48 (by decide) (fun c48 => ?_) (fun c48 => ?_)
        · have hres : ilA R C dr (nE R C) 0 1672 = false := by
            have hno : no = none := (oI_m1 hnob).mp c48
            rcases hs with ⟨-, h⟩ | ⟨s, h, -, -⟩
            · exact h
            · rw [hno] at h; cases h
          refine j_iconst (v := nI (0)) dX2_isLoop_55 (by decide) ?_
          refine j_st (st' := [.int (bI (false))]) (by rfl) ?_
          exact j_zretB (tys' := []) rfl hR dX2_isLoop_56 (⟨by rw [hres], rfl⟩)
        · have hres : ilA R C dr (nE R C) 0 1672 = true := by
            rcases hs with ⟨h, -⟩ | ⟨s, h, -, hr⟩
            · exact absurd (by rw [h]; rfl) c48
            · rw [← hr, show nE R C - e = 0 by first | omega | exact absurd c19 c48]; rfl
          refine j_iconst (v := nI (1)) dX2_isLoop_51 (by decide) ?_
          refine j_goto (tgt := 56) dX2_isLoop_52 (by decide) ?_
          refine j_st (st' := [.int (bI (true))]) (by rfl) ?_
          exact j_zretB (tys' := []) rfl hR dX2_isLoop_56 (⟨by rw [hres], rfl⟩)
      · refine j_iload_n dX2_isLoop_17 rfl 1 rfl ?_
        refine j_iconst (v := (-1)) dX2_isLoop_18 (by decide) ?_
        refine j_icmp_eq (tgt := 46) dX2_isLoop_19 (by decide) (fun c19 => ?_) (fun c19 => ?_)
        · have hnob : ∀ s2, no = some s2 → s2 < 2 ^ 31 := fun s2 h => by
            rcases hs with ⟨h2, -⟩ | ⟨s3, h2, h3, -⟩
            · rw [h2] at h; cases h
            · rw [h2] at h; cases h; omega
          refine j_iload_n dX2_isLoop_46 rfl 1 rfl ?_
          refine j_iconst (v := (-1)) dX2_isLoop_47 (by decide) ?_
          refine j_icmp_eq (tgt := 55) dX2_isLoop_48 (by decide) (fun c48 => ?_) (fun c48 => ?_)
          · have hres : ilA R C dr (nE R C) 0 1672 = false := by
              have hno : no = none := (oI_m1 hnob).mp c48
              rcases hs with ⟨-, h⟩ | ⟨s, h, -, -⟩
              · exact h
              · rw [hno] at h; cases h
            refine j_iconst (v := nI (0)) dX2_isLoop_55 (by decide) ?_
            refine j_st (st' := [.int (bI (false))]) (by rfl) ?_
            exact j_zretB (tys' := []) rfl hR dX2_isLoop_56 (⟨by rw [hres], rfl⟩)
          · have hres : ilA R C dr (nE R C) 0 1672 = true := by
              rcases hs with ⟨h, -⟩ | ⟨s, h, -, hr⟩
              · exact absurd (by rw [h]; rfl) c48
              · rw [← hr, show nE R C - e = 0 by first | omega | exact absurd c19 c48]; rfl
            refine j_iconst (v := nI (1)) dX2_isLoop_51 (by decide) ?_
            refine j_goto (tgt := 56) dX2_isLoop_52 (by decide) ?_
            refine j_st (st' := [.int (bI (true))]) (by rfl) ?_
            exact j_zretB (tys' := []) rfl hR dX2_isLoop_56 (⟨by rw [hres], rfl⟩)
        · have hno : no ≠ none := fun h => c19 (by rw [h]; rfl)
          rcases hs with ⟨h, -⟩ | ⟨s, hno2, hs8, hr⟩
          · exact absurd h hno
          subst hno2
          refine j_lv (lv' := [(0, .ref (q 0)), (1, .int (nI (s))), (2, .int (nI (e)))]) (by rfl) ?_
          obtain ⟨n1, hn1⟩ : ∃ n1, nE R C - e = n1 + 1 := ⟨nE R C - e - 1, by omega⟩
          have hn2 : nE R C - (e + 1) = n1 := by omega
          rw [hn1] at hr
          simp only [ilA] at hr
          refine j_aload_n dX2_isLoop_22 rfl 0 rfl ?_
          refine gf_X2_14 0 rfl (rfl) dX2_isLoop_23 ?_
          refine j_iload_n dX2_isLoop_26 rfl 1 rfl ?_
          refine j_iload_n dX2_isLoop_27 rfl 2 rfl ?_
          refine j_aload_n dX2_isLoop_28 rfl 0 rfl ?_
          refine gf_X2_27 0 rfl (rfl) dX2_isLoop_29 ?_
          refine j_iload_n dX2_isLoop_32 rfl 2 rfl ?_
          refine j_s0 (av := [.int (nI (dr)), .int (nI (e))]) (r0 := .int (bI ((Nat.testBit dr e)))) (c_hasBit l hfl D (tys3 cI cJ cZ) (dr) (e) (by omega) (by omega)) mw1_184 mw1_161 mw1_1 mw1_162 hd_X2_hasBit rfl ⟨rfl, rfl⟩ ⟨Nat.le_of_ble_eq_true rfl, Nat.le_of_ble_eq_true rfl⟩ ⟨Nat.zero_le _, Nat.zero_le _⟩ (Nat.le_of_ble_eq_true rfl) rfl dX2_isLoop_33 ?_
          refine j_vW (av := [.int (nI (s)), .int (nI (e)), .int (bI ((Nat.testBit dr e)))]) (c_pointsAfter l hfl D cI cJ cZ q R C hG dr sz sa cu fi st lo hi wa sw (s) (e) (hs8) (by omega) ((Nat.testBit dr e))) 1 rfl rfl mw1_185 mw1_127 mw1_128 mw1_2 mw1_129 rfl hd_X1_pointsAfter rfl ⟨rfl, rfl⟩ ⟨Nat.le_of_ble_eq_true rfl, Nat.le_of_ble_eq_true rfl⟩ ⟨Nat.zero_le _, Nat.zero_le _⟩ (Nat.le_of_ble_eq_true rfl) rfl dX2_isLoop_36 ?_
          rintro _ _ ⟨rfl, rfl⟩
          refine j_st (st' := [.int (oI (pointsF R C s e ((Nat.testBit dr e))))]) rfl ?_
          refine j_istore_n [(1, .int (oI (pointsF R C s e ((Nat.testBit dr e))))), (0, .ref (q 0)), (2, .int (nI (e)))] dX2_isLoop_39 rfl (by decide) rfl ?_
          have hs1 : (pointsF R C s e ((Nat.testBit dr e)) = none ∧ ilA R C dr (nE R C) 0 1672 = false) ∨ (∃ s2, pointsF R C s e ((Nat.testBit dr e)) = some s2 ∧ s2 < 8 ^ 8 ∧ ilA R C dr (nE R C - (e + 1)) (e + 1) s2 = ilA R C dr (nE R C) 0 1672) := by
            cases hst : pointsF R C s e ((Nat.testBit dr e)) with
            | none => rw [hst] at hr; exact Or.inl ⟨rfl, hr.symm⟩
            | some t => rw [hst] at hr; exact Or.inr ⟨t, rfl, pointsF_lt hG hs8 (by omega) hst, by rw [← hr, hn2]⟩
          refine j_iinc (n0 := 2) (v := nI (e + 1)) [(2, .int (nI (e + 1))), (1, .int (oI (pointsF R C s e ((Nat.testBit dr e))))), (0, .ref (q 0))] dX2_isLoop_40 rfl (by exact nI_add (e) 1) (by decide) rfl ?_
          refine j_goto (tgt := 6) dX2_isLoop_43 (by decide) ?_
          refine j_sub [2, 1, 0] [(0, .ref (q 0)), (1, .int (oI (pointsF R C s e ((Nat.testBit dr e))))), (2, .int (nI (e + 1)))] rfl ?_
          exact ih6 (e + 1) (pointsF R C s e ((Nat.testBit dr e))) (by omega) (by omega) hs1
  exact loop6 (nE R C + 2) 0 (some 1672) (by omega) (by omega) (Or.inr ⟨1672, rfl, by decide, rfl⟩)

