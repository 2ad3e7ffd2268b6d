/-! LoopDiagram: the methods that may throw -/
theorem noE_f {R C e : Nat} (hG : GS R C) (he : e < nE R C) : noE R C (nI e) = false := by
  have hE := hG.E
  have h1 : ¬ nI e < 0 := nI_pos (by omega)
  have h2 : ¬ nI (nE R C) ≤ nI e := fun h => absurd ((nI_leI (by omega) (by omega)).mp h) (by omega)
  simp [noE, h1, h2]
theorem noE_in {R C : Nat} {x : Int32} : noE R C x = !inB (nE R C) x := by simp [noE, inB]
theorem noC_in {R C : Nat} {x y : Int32} : noC R C x y = !(inB R x && inB C y) := by
  simp only [noC, inB, Bool.not_and, Bool.not_not, Bool.or_assoc]
theorem noC_f {R C r c : Nat} (hG : GS R C) (hr : r < R) (hc : c < C) : noC R C (nI r) (nI c) = false := by
  have h1 := hG.2.1
  have h2 := hG.2.2.2
  rw [noC_in, inB_t (by omega) hr, inB_t (by omega) hc]; rfl
theorem sh1 {e : Nat} (he : e < 31) : nI 1 <<< (nI e &&& 31) = nI (2 ^ e) := by
  rw [nb_shl (by have := Nat.pow_lt_pow_right (a := 2) (by decide) (show e < 32 by omega); omega) (by omega), Nat.one_mul]
theorem p31 {e : Nat} (he : e < 31) : 2 ^ e < 2 ^ 31 := Nat.pow_lt_pow_right (by decide) he
/-- what stands in a LoopDiagram between calls -/
def XI0 (R C : Nat) (cu : Nat → Nat) (sa : Bool) (sz : Nat) (fi st : Nat → Nat) (lo hi : Nat → Option Nat) (wa : Nat → Nat) (dr : Nat) : Prop := Frs R C cu sa sz fi st lo hi wa ∧ dr < 2 ^ 31
def XW (cI cZ : ClassId) (q : Nat → Nat) (R C dr : Nat) (cu : Nat → Nat) (u : va_W) : Prop :=
  ∃ (sz : Nat) (sa : Bool) (fi st : Nat → Nat) (lo hi : Nat → Option Nat) (wa sw : Nat → Nat), XI0 R C cu sa sz fi st lo hi wa dr ∧ u = wX cI cZ q R C dr sz sa cu fi st lo hi wa sw
theorem XW_of {cI cZ : ClassId} {q : Nat → Nat} {R C dr sz : Nat} {sa : Bool} {cu fi st : Nat → Nat} {lo hi : Nat → Option Nat} {wa sw : Nat → Nat} (h : XI0 R C cu sa sz fi st lo hi wa dr) : XW cI cZ q R C dr cu (wX cI cZ q R C dr sz sa cu fi st lo hi wa sw) := ⟨sz, sa, fi, st, lo, hi, wa, sw, h, rfl⟩
theorem solI_lt {R C : Nat} (hG : GS R C) (cu : Nat → Nat) : ∀ (n e s left acc : Nat), e + n = nE R C → acc < 2 ^ 31 → solA R C cu n e s left acc < 2 ^ 31
  | 0, _, _, _, _, _, h => h
  | n + 1, e, s, left, acc, he, h => by
    have hE := hG.E
    have h2 : acc ||| 2 ^ e < 2 ^ 31 := Nat.or_lt_two_pow h (p31 (by omega))
    simp only [solA]
    split
    · cases stepF R C cu s e false with
      | none => show 0 < _; decide
      | some t => exact solI_lt hG cu n (e + 1) t _ _ (by omega) h
    · cases stepF R C cu s e true with
      | none => show 0 < _; decide
      | some t => exact solI_lt hG cu n (e + 1) t _ _ (by omega) h2
/-- the clues that stay, and how many -/
def spX (R C : Nat) (cu : Nat → Nat) : Nat → (Nat → Nat) × Nat
  | 0 => (cu, 0)
  | i + 1 => if (spX R C cu i).1 i = 99 then spX R C cu i else if WS R C (va_up (spX R C cu i).1 i 99) 0 (nE R C) 0 1672 = 1 then (va_up (spX R C cu i).1 i 99, (spX R C cu i).2) else ((spX R C cu i).1, (spX R C cu i).2 + 1)
theorem spX_CU {R C : Nat} {cu : Nat → Nat} (h : CU R C cu) : ∀ i, CU R C (spX R C cu i).1
  | 0 => h
  | i + 1 => by
    simp only [spX]
    split
    · exact spX_CU h i
    · split
      · exact CU_up (spX_CU h i) (Or.inl rfl)
      · exact spX_CU h i
theorem spX_le {R C : Nat} {cu : Nat → Nat} : ∀ i, (spX R C cu i).2 ≤ i
  | 0 => Nat.le_refl _
  | i + 1 => by
    have := spX_le (R := R) (C := C) (cu := cu) i
    simp only [spX]
    split
    · omega
    · split
      · show (spX R C cu i).2 ≤ _; omega
      · show (spX R C cu i).2 + 1 ≤ _; omega
theorem Frs_sc {R C : Nat} {cu : Nat → Nat} {sa sa2 : Bool} {sz : Nat} {fi st : Nat → Nat} {lo hi : Nat → Option Nat} {wa : Nat → Nat} {i v : Nat} (h : Frs R C cu sa sz fi st lo hi wa) (h2 : sa2 = true ∨ (sa2 = sa ∧ va_up cu i v = cu)) : Frs R C (va_up cu i v) sa2 sz fi st lo hi wa := fun h3 => by
  rcases h2 with h4 | ⟨h4, h5⟩
  · rw [h4] at h3; cases h3
  · rw [h5]; exact h (by rw [← h4]; exact h3)
set_option maxHeartbeats 4000000 in
set_option maxRecDepth 100000 in
theorem c_point (l : Launch) (hfl : l.flags = flags0) (D : va_G) (cI cJ cZ : ClassId) (q : Nat → Nat) (R C : Nat) (hG : GS R C) (dr sz : Nat) (sa : Bool) (cu fi st : Nat → Nat) (lo hi : Nat → Option Nat) (wa sw : Nat → Nat) (hx : XOK R C cu) (hI : XI0 R C cu sa sz fi st lo hi wa dr) (e : Nat) (he : e < nE R C) (t : Bool) : Ct l yX2_point cX2_point 4 (Option.some FieldType.int) ({ frames := 1, cells := 0, slots := 0, locals := 21 } : Room) D (tys3 cI cJ cZ) (tys3 cI cJ cZ) (wX cI cZ q R C dr sz sa cu fi st lo hi wa sw) [.ref (q 0), .int (nI (e)), .int (bI (t))] (fun r u => r = some (.int (nI (if t then mHigh R C e else mLow R C e))) ∧ XW cI cZ q R C dr cu u) 0 0 := by
  refine Ct.of hfl (by decide) (Nat.le_of_ble_eq_true rfl) ?_
  intro k hR _
  have hR4 := hG.2.1
  have hC3 := hG.2.2.2
  have hR1 := hG.1
  have hC1 := hG.2.2.1
  have hE := hG.E
  have hRC := hG.RC
  have hE4 := hG.E4
  obtain ⟨hf, hdr⟩ := hI
  have hE31 := hG.E
  have hno := noE_f hG he
  show V k l D (tys3 cI cJ cZ) ({ frames := 1, cells := 0, slots := 0, locals := 21 } : Room) cX2_point 4 RX2 (wX cI cZ q R C dr sz sa cu fi st lo hi wa sw) 0 0 0 [(0, .ref (q 0)), (1, .int (nI (e))), (2, .int (bI (t)))] []
  refine j_aload_n dX2_point_0 rfl 0 rfl ?_
  refine j_iload_n dX2_point_1 rfl 1 rfl ?_
  refine j_vW (av := [.int (nI (e))]) (c_isNoEdge l hfl D cI cJ cZ q R C hG dr sz sa cu fi st lo hi wa sw (nI (e))) 0 rfl rfl mw1_213 mw1_215 msel4 mw1_1 mw1_216 rfl hd_X2_isNoEdge rfl ⟨rfl, rfl⟩ ⟨Nat.le_of_ble_eq_true rfl, Nat.le_of_ble_eq_true rfl⟩ ⟨Nat.zero_le _, Nat.zero_le _⟩ (Nat.le_of_ble_eq_true rfl) rfl dX2_point_2 ?_
  rintro _ _ ⟨rfl, rfl⟩
  refine j_st (st' := [.int (bI ((noE R C (nI (e)))))]) rfl ?_
  refine jb_if_eq (tgt := 16) (b := (noE R C (nI (e)))) dX2_point_5 (by decide) (fun c5 => ?_) (fun c5 => ?_)
  · refine j_aload_n dX2_point_16 rfl 0 rfl ?_
    refine gf_X2_14 0 rfl (rfl) dX2_point_17 ?_
    refine gf_X2_45 1 rfl (rfl) dX2_point_20 ?_
    refine j_iload_n dX2_point_23 rfl 1 rfl ?_
    refine jn_iald (v := nI (tRow R C e)) 3 0 rfl rfl (by omega) (by omega) (rfl) dX2_point_24 ?_
    refine j_aload_n dX2_point_25 rfl 0 rfl ?_
    refine gf_X2_14 0 rfl (rfl) dX2_point_26 ?_
    refine gf_X2_49 1 rfl (rfl) dX2_point_29 ?_
    refine j_iconst (v := nI (1)) dX2_point_32 (by decide) ?_
    refine jn_iadd (v := C + 1) dX2_point_33 rfl ?_
    refine jn_imul (v := (tRow R C e) * (C + 1)) dX2_point_34 rfl ?_
    refine j_aload_n dX2_point_35 rfl 0 rfl ?_
    refine gf_X2_14 0 rfl (rfl) dX2_point_36 ?_
    refine gf_X2_52 1 rfl (rfl) dX2_point_39 ?_
    refine j_iload_n dX2_point_42 rfl 1 rfl ?_
    refine jn_iald (v := nI (tCol R C e)) 4 0 rfl rfl (by omega) (by omega) (rfl) dX2_point_43 ?_
    refine jn_iadd (v := ((tRow R C e) * (C + 1)) + (tCol R C e)) dX2_point_44 rfl ?_
    refine j_istore_n [(3, .int (nI (((tRow R C e) * (C + 1)) + (tCol R C e)))), (0, .ref (q 0)), (1, .int (nI (e))), (2, .int (bI (t)))] dX2_point_45 rfl (by decide) rfl ?_
    refine j_iload_n dX2_point_46 rfl 3 rfl ?_
    refine jb_if_ne (tgt := 52) (b := t) dX2_point_47 (by decide) (fun c47 => ?_) (fun c47 => ?_)
    · refine j_aload_n dX2_point_52 rfl 1 rfl ?_
      refine gf_X2_14 0 rfl (rfl) dX2_point_53 ?_
      refine gf_X2_55 1 rfl (rfl) dX2_point_56 ?_
      refine j_iload_n dX2_point_59 rfl 2 rfl ?_
      refine jn_zald (v := bI ((tDown R C e))) 5 2 rfl rfl (by omega) (by omega) (rfl) dX2_point_60 ?_
      refine jb_if_eq (tgt := 78) (b := (tDown R C e)) dX2_point_61 (by decide) (fun c61 => ?_) (fun c61 => ?_)
      · refine j_iload_n dX2_point_78 rfl 0 rfl ?_
        refine j_iconst (v := nI (1)) dX2_point_79 (by decide) ?_
        refine jn_iadd (v := (((tRow R C e) * (C + 1)) + (tCol R C e)) + 1) dX2_point_80 rfl ?_
        exact j_iret (tys' := []) rfl hR dX2_point_81 (⟨by rw [show (if t then mHigh R C e else mLow R C e) = (((tRow R C e) * (C + 1)) + (tCol R C e)) + 1 from by simp [mHigh, mLow, he, *, Nat.add_assoc]], XW_of ⟨hf, hdr⟩⟩)
      · refine j_iload_n dX2_point_64 rfl 0 rfl ?_
        refine j_aload_n dX2_point_65 rfl 1 rfl ?_
        refine gf_X2_14 0 rfl (rfl) dX2_point_66 ?_
        refine gf_X2_49 1 rfl (rfl) dX2_point_69 ?_
        refine jn_iadd (v := (((tRow R C e) * (C + 1)) + (tCol R C e)) + C) dX2_point_72 rfl ?_
        refine j_iconst (v := nI (1)) dX2_point_73 (by decide) ?_
        refine jn_iadd (v := ((((tRow R C e) * (C + 1)) + (tCol R C e)) + C) + 1) dX2_point_74 rfl ?_
        refine j_goto (tgt := 81) dX2_point_75 (by decide) ?_
        exact j_iret (tys' := []) rfl hR dX2_point_81 (⟨by rw [show (if t then mHigh R C e else mLow R C e) = ((((tRow R C e) * (C + 1)) + (tCol R C e)) + C) + 1 from by simp [mHigh, mLow, he, *, Nat.add_assoc]], XW_of ⟨hf, hdr⟩⟩)
    · refine j_iload_n dX2_point_50 rfl 0 rfl ?_
      exact j_iret (tys' := []) rfl hR dX2_point_51 (⟨by rw [show (if t then mHigh R C e else mLow R C e) = ((tRow R C e) * (C + 1)) + (tCol R C e) from by simp [mHigh, mLow, he, *, Nat.add_assoc]], XW_of ⟨hf, hdr⟩⟩)
  · rw [hno] at c5; cases c5

set_option maxHeartbeats 4000000 in
set_option maxRecDepth 100000 in
theorem c_pointX (l : Launch) (hfl : l.flags = flags0) (D : va_G) (cI cJ cZ : ClassId) (q : Nat → Nat) (R C : Nat) (hG : GS R C) (dr sz : Nat) (sa : Bool) (cu fi st : Nat → Nat) (lo hi : Nat → Option Nat) (wa sw : Nat → Nat) (hx : XOK R C cu) (hI : XI0 R C cu sa sz fi st lo hi wa dr) (x : Int32) (hxx : inB (nE R C) x = false) (t : Bool) : CtT l yX2_point cX2_point 4 (Option.some FieldType.int) ({ frames := 6, cells := 1, slots := 6, locals := 81 } : Room) D (tys3 cI cJ cZ) (wX cI cZ q R C dr sz sa cu fi st lo hi wa sw) [.ref (q 0), .int (x), .int (bI (t))] XI (fun u => XW cI cZ q R C dr cu u) 1 6 := by
  refine CtT.of hfl (by decide) (Nat.le_of_ble_eq_true rfl) ?_
  intro k hT
  have hR4 := hG.2.1
  have hC3 := hG.2.2.2
  have hR1 := hG.1
  have hC1 := hG.2.2.1
  have hE := hG.E
  have hRC := hG.RC
  have hE4 := hG.E4
  obtain ⟨hf, hdr⟩ := hI
  have hE31 := hG.E
  have hno : noE R C x = true := by rw [noE_in, hxx]; rfl
  show V k l D (tys3 cI cJ cZ) ({ frames := 6, cells := 1, slots := 6, locals := 81 } : Room) cX2_point 4 RX2 (wX cI cZ q R C dr sz sa cu fi st lo hi wa sw) 0 0 0 [(0, .ref (q 0)), (1, .int (x)), (2, .int (bI (t)))] []
  refine j_aload_n dX2_point_0 rfl 0 rfl ?_
  refine j_iload_n dX2_point_1 rfl 1 rfl ?_
  refine j_vW (av := [.int (x)]) (c_isNoEdge l hfl D cI cJ cZ q R C hG dr sz sa cu fi st lo hi wa sw (x)) 0 rfl rfl mw1_213 mw1_215 msel4 mw1_1 mw1_216 rfl hd_X2_isNoEdge rfl ⟨rfl, rfl⟩ ⟨Nat.le_of_ble_eq_true rfl, Nat.le_of_ble_eq_true rfl⟩ ⟨Nat.zero_le _, Nat.zero_le _⟩ (Nat.le_of_ble_eq_true rfl) rfl dX2_point_2 ?_
  rintro _ _ ⟨rfl, rfl⟩
  refine j_st (st' := [.int (bI ((noE R C (x))))]) rfl ?_
  refine jb_if_eq (tgt := 16) (b := (noE R C (x))) dX2_point_5 (by decide) (fun c5 => ?_) (fun c5 => ?_)
  · rw [hno] at c5; cases c5
  · exact j_throw0 (E0 := XI) (names := nmX) (ik := 42) (ic := 44) hT (by decide) fit_nm mw1_217 mw1_8 (at0_XI mw2_19) go_XI dX2_point_8 dX2_point_11 dX2_point_12 dX2_point_15 (by decide) (by decide) (by decide) (by decide) (XW_of ⟨hf, hdr⟩) (Nat.le_refl _) (Nat.le_refl _)

set_option maxHeartbeats 4000000 in
set_option maxRecDepth 100000 in
theorem c_clue (l : Launch) (hfl : l.flags = flags0) (D : va_G) (cI cJ cZ : ClassId) (q : Nat → Nat) (R C : Nat) (hG : GS R C) (dr sz : Nat) (sa : Bool) (cu fi st : Nat → Nat) (lo hi : Nat → Option Nat) (wa sw : Nat → Nat) (hx : XOK R C cu) (hI : XI0 R C cu sa sz fi st lo hi wa dr) (yr xc v : Nat) (hr : yr < R) (hc : xc < C) (hv : v = 99 ∨ v ≤ 4) : Ct l yX2_clue cX2_clue 4 none ({ frames := 1, cells := 0, slots := 0, locals := 22 } : Room) D (tys3 cI cJ cZ) (tys3 cI cJ cZ) (wX cI cZ q R C dr sz sa cu fi st lo hi wa sw) [.ref (q 0), .int (nI (yr)), .int (nI (xc)), .int (eI (v))] (fun r u => r = none ∧ XW cI cZ q R C dr (va_up cu (yr * C + xc) v) u) 0 0 := by
  refine Ct.of hfl (by decide) (Nat.le_of_ble_eq_true rfl) ?_
  intro k hR _
  have hR4 := hG.2.1
  have hC3 := hG.2.2.2
  have hR1 := hG.1
  have hC1 := hG.2.2.1
  have hE := hG.E
  have hRC := hG.RC
  have hE4 := hG.E4
  obtain ⟨hf, hdr⟩ := hI
  have hE31 := hG.E
  have hno := noC_f hG hr hc
  have hrc : yr * C + xc < R * C := rc_lt hr hc
  show V k l D (tys3 cI cJ cZ) ({ frames := 1, cells := 0, slots := 0, locals := 22 } : Room) cX2_clue 4 RX2 (wX cI cZ q R C dr sz sa cu fi st lo hi wa sw) 0 0 0 [(0, .ref (q 0)), (1, .int (nI (yr))), (2, .int (nI (xc))), (3, .int (eI (v)))] []
  refine j_aload_n dX2_clue_0 rfl 0 rfl ?_
  refine j_iload_n dX2_clue_1 rfl 1 rfl ?_
  refine j_iload_n dX2_clue_2 rfl 2 rfl ?_
  refine j_vW (av := [.int (nI (yr)), .int (nI (xc))]) (c_isNoCell l hfl D cI cJ cZ q R C hG dr sz sa cu fi st lo hi wa sw (nI (yr)) (nI (xc))) 0 rfl rfl mw2_49 mw2_51 msel6 mw1_1 mw2_52 rfl hd_X2_isNoCell rfl ⟨rfl, rfl⟩ ⟨Nat.le_of_ble_eq_true rfl, Nat.le_of_ble_eq_true rfl⟩ ⟨Nat.zero_le _, Nat.zero_le _⟩ (Nat.le_of_ble_eq_true rfl) rfl dX2_clue_3 ?_
  rintro _ _ ⟨rfl, rfl⟩
  refine j_st (st' := [.int (bI ((noC R C (nI (yr)) (nI (xc)))))]) rfl ?_
  refine jb_if_eq (tgt := 17) (b := (noC R C (nI (yr)) (nI (xc)))) dX2_clue_6 (by decide) (fun c6 => ?_) (fun c6 => ?_)
  · refine j_iload_n dX2_clue_17 rfl 3 rfl ?_
    refine j_iconst (v := (-1)) dX2_clue_18 (by decide) ?_
    refine j_icmp_lt (tgt := 27) dX2_clue_19 (by decide) (fun c19 => ?_) (fun c19 => ?_)
    · exact absurd c19 (eI_g hv)
    · refine j_iload_n dX2_clue_22 rfl 3 rfl ?_
      refine j_iconst (v := nI (4)) dX2_clue_23 (by decide) ?_
      refine j_icmp_le (tgt := 35) dX2_clue_24 (by decide) (fun c24 => ?_) (fun c24 => ?_)
      · refine j_aload_n dX2_clue_35 rfl 0 rfl ?_
        refine j_iload_n dX2_clue_36 rfl 1 rfl ?_
        refine j_aload_n dX2_clue_37 rfl 0 rfl ?_
        refine gf_X2_14 0 rfl (rfl) dX2_clue_38 ?_
        refine gf_X2_49 1 rfl (rfl) dX2_clue_41 ?_
        refine jn_imul (v := yr * C) dX2_clue_44 rfl ?_
        refine j_iload_n dX2_clue_45 rfl 2 rfl ?_
        refine jn_iadd (v := (yr * C) + xc) dX2_clue_46 rfl ?_
        refine j_iload_n dX2_clue_47 rfl 3 rfl ?_
        refine j_vW (av := [.int (nI ((yr * C) + xc)), .int (eI (v))]) (c_setClue l hfl D cI cJ cZ q R C hG dr sz sa cu fi st lo hi wa sw hx.1 ((yr * C) + xc) (v) (hrc) (hv)) 0 rfl rfl mw2_68 mw2_70 msel7 mw1_1 mw2_71 rfl hd_X2_setClue rfl ⟨rfl, rfl⟩ ⟨Nat.le_of_ble_eq_true rfl, Nat.le_of_ble_eq_true rfl⟩ ⟨Nat.zero_le _, Nat.zero_le _⟩ (Nat.le_of_ble_eq_true rfl) rfl dX2_clue_48 ?_
        rintro _ _ ⟨rfl, sa4, hsa4, rfl⟩
        refine j_st (st' := []) rfl ?_
        exact j_vret (tys' := []) rfl hR dX2_clue_51 (⟨rfl, XW_of ⟨Frs_sc hf hsa4, hdr⟩⟩)
      · exact absurd (eI_l hv) c24
  · rw [hno] at c6; cases c6

set_option maxHeartbeats 4000000 in
set_option maxRecDepth 100000 in
theorem c_clueV (l : Launch) (hfl : l.flags = flags0) (D : va_G) (cI cJ cZ : ClassId) (q : Nat → Nat) (R C : Nat) (hG : GS R C) (dr sz : Nat) (sa : Bool) (cu fi st : Nat → Nat) (lo hi : Nat → Option Nat) (wa sw : Nat → Nat) (hx : XOK R C cu) (hI : XI0 R C cu sa sz fi st lo hi wa dr) (yr xc : Nat) (hr : yr < R) (hc : xc < C) (x : Int32) (hxx : x < -1 ∨ ¬ x ≤ nI 4) : CtT l yX2_clue cX2_clue 4 none ({ frames := 6, cells := 1, slots := 6, locals := 81 } : Room) D (tys3 cI cJ cZ) (wX cI cZ q R C dr sz sa cu fi st lo hi wa sw) [.ref (q 0), .int (nI (yr)), .int (nI (xc)), .int (x)] XA (fun u => XW cI cZ q R C dr cu u) 1 6 := by
  refine CtT.of hfl (by decide) (Nat.le_of_ble_eq_true rfl) ?_
  intro k hT
  have hR4 := hG.2.1
  have hC3 := hG.2.2.2
  have hR1 := hG.1
  have hC1 := hG.2.2.1
  have hE := hG.E
  have hRC := hG.RC
  have hE4 := hG.E4
  obtain ⟨hf, hdr⟩ := hI
  have hE31 := hG.E
  have hno := noC_f hG hr hc
  have hrc : yr * C + xc < R * C := rc_lt hr hc
  show V k l D (tys3 cI cJ cZ) ({ frames := 6, cells := 1, slots := 6, locals := 81 } : Room) cX2_clue 4 RX2 (wX cI cZ q R C dr sz sa cu fi st lo hi wa sw) 0 0 0 [(0, .ref (q 0)), (1, .int (nI (yr))), (2, .int (nI (xc))), (3, .int (x))] []
  refine j_aload_n dX2_clue_0 rfl 0 rfl ?_
  refine j_iload_n dX2_clue_1 rfl 1 rfl ?_
  refine j_iload_n dX2_clue_2 rfl 2 rfl ?_
  refine j_vW (av := [.int (nI (yr)), .int (nI (xc))]) (c_isNoCell l hfl D cI cJ cZ q R C hG dr sz sa cu fi st lo hi wa sw (nI (yr)) (nI (xc))) 0 rfl rfl mw2_49 mw2_51 msel6 mw1_1 mw2_52 rfl hd_X2_isNoCell rfl ⟨rfl, rfl⟩ ⟨Nat.le_of_ble_eq_true rfl, Nat.le_of_ble_eq_true rfl⟩ ⟨Nat.zero_le _, Nat.zero_le _⟩ (Nat.le_of_ble_eq_true rfl) rfl dX2_clue_3 ?_
  rintro _ _ ⟨rfl, rfl⟩
  refine j_st (st' := [.int (bI ((noC R C (nI (yr)) (nI (xc)))))]) rfl ?_
  refine jb_if_eq (tgt := 17) (b := (noC R C (nI (yr)) (nI (xc)))) dX2_clue_6 (by decide) (fun c6 => ?_) (fun c6 => ?_)
  · refine j_iload_n dX2_clue_17 rfl 3 rfl ?_
    refine j_iconst (v := (-1)) dX2_clue_18 (by decide) ?_
    refine j_icmp_lt (tgt := 27) dX2_clue_19 (by decide) (fun c19 => ?_) (fun c19 => ?_)
    · exact j_throw0 (E0 := XA) (names := nmX) (ik := 63) (ic := 65) hT (by decide) fit_nm mw2_53 mw1_9 (at0_XA mw2_62) go_XA dX2_clue_27 dX2_clue_30 dX2_clue_31 dX2_clue_34 (by decide) (by decide) (by decide) (by decide) (XW_of ⟨hf, hdr⟩) (Nat.le_refl _) (Nat.le_refl _)
    · refine j_iload_n dX2_clue_22 rfl 3 rfl ?_
      refine j_iconst (v := nI (4)) dX2_clue_23 (by decide) ?_
      refine j_icmp_le (tgt := 35) dX2_clue_24 (by decide) (fun c24 => ?_) (fun c24 => ?_)
      · exact absurd hxx (by intro h; rcases h with h | h; exact c19 h; exact h c24)
      · exact j_throw0 (E0 := XA) (names := nmX) (ik := 63) (ic := 65) hT (by decide) fit_nm mw2_53 mw1_9 (at0_XA mw2_62) go_XA dX2_clue_27 dX2_clue_30 dX2_clue_31 dX2_clue_34 (by decide) (by decide) (by decide) (by decide) (XW_of ⟨hf, hdr⟩) (Nat.le_refl _) (Nat.le_refl _)
  · rw [hno] at c6; cases c6

set_option maxHeartbeats 4000000 in
set_option maxRecDepth 100000 in
theorem c_clueX (l : Launch) (hfl : l.flags = flags0) (D : va_G) (cI cJ cZ : ClassId) (q : Nat → Nat) (R C : Nat) (hG : GS R C) (dr sz : Nat) (sa : Bool) (cu fi st : Nat → Nat) (lo hi : Nat → Option Nat) (wa sw : Nat → Nat) (hx : XOK R C cu) (hI : XI0 R C cu sa sz fi st lo hi wa dr) (x y z : Int32) (hxy : (inB R x && inB C y) = false) : CtT l yX2_clue cX2_clue 4 none ({ frames := 6, cells := 1, slots := 6, locals := 81 } : Room) D (tys3 cI cJ cZ) (wX cI cZ q R C dr sz sa cu fi st lo hi wa sw) [.ref (q 0), .int (x), .int (y), .int (z)] XI (fun u => XW cI cZ q R C dr cu u) 1 6 := by
  refine CtT.of hfl (by decide) (Nat.le_of_ble_eq_true rfl) ?_
  intro k hT
  have hR4 := hG.2.1
  have hC3 := hG.2.2.2
  have hR1 := hG.1
  have hC1 := hG.2.2.1
  have hE := hG.E
  have hRC := hG.RC
  have hE4 := hG.E4
  obtain ⟨hf, hdr⟩ := hI
  have hE31 := hG.E
  have hno : noC R C x y = true := by rw [noC_in, hxy]; rfl
  show V k l D (tys3 cI cJ cZ) ({ frames := 6, cells := 1, slots := 6, locals := 81 } : Room) cX2_clue 4 RX2 (wX cI cZ q R C dr sz sa cu fi st lo hi wa sw) 0 0 0 [(0, .ref (q 0)), (1, .int (x)), (2, .int (y)), (3, .int (z))] []
  refine j_aload_n dX2_clue_0 rfl 0 rfl ?_
  refine j_iload_n dX2_clue_1 rfl 1 rfl ?_
  refine j_iload_n dX2_clue_2 rfl 2 rfl ?_
  refine j_vW (av := [.int (x), .int (y)]) (c_isNoCell l hfl D cI cJ cZ q R C hG dr sz sa cu fi st lo hi wa sw (x) (y)) 0 rfl rfl mw2_49 mw2_51 msel6 mw1_1 mw2_52 rfl hd_X2_isNoCell rfl ⟨rfl, rfl⟩ ⟨Nat.le_of_ble_eq_true rfl, Nat.le_of_ble_eq_true rfl⟩ ⟨Nat.zero_le _, Nat.zero_le _⟩ (Nat.le_of_ble_eq_true rfl) rfl dX2_clue_3 ?_
  rintro _ _ ⟨rfl, rfl⟩
  refine j_st (st' := [.int (bI ((noC R C (x) (y))))]) rfl ?_
  refine jb_if_eq (tgt := 17) (b := (noC R C (x) (y))) dX2_clue_6 (by decide) (fun c6 => ?_) (fun c6 => ?_)
  · rw [hno] at c6; cases c6
  · exact j_throw0 (E0 := XI) (names := nmX) (ik := 42) (ic := 44) hT (by decide) fit_nm mw1_217 mw1_8 (at0_XI mw2_19) go_XI dX2_clue_9 dX2_clue_12 dX2_clue_13 dX2_clue_16 (by decide) (by decide) (by decide) (by decide) (XW_of ⟨hf, hdr⟩) (Nat.le_refl _) (Nat.le_refl _)

set_option maxHeartbeats 4000000 in
set_option maxRecDepth 100000 in
theorem c_clueOf (l : Launch) (hfl : l.flags = flags0) (D : va_G) (cI cJ cZ : ClassId) (q : Nat → Nat) (R C : Nat) (hG : GS R C) (dr sz : Nat) (sa : Bool) (cu fi st : Nat → Nat) (lo hi : Nat → Option Nat) (wa sw : Nat → Nat) (hx : XOK R C cu) (hI : XI0 R C cu sa sz fi st lo hi wa dr) (yr xc : Nat) (hr : yr < R) (hc : xc < C) : Ct l yX2_clueOf cX2_clueOf 3 (Option.some FieldType.int) ({ frames := 1, cells := 0, slots := 0, locals := 22 } : Room) D (tys3 cI cJ cZ) (tys3 cI cJ cZ) (wX cI cZ q R C dr sz sa cu fi st lo hi wa sw) [.ref (q 0), .int (nI (yr)), .int (nI (xc))] (fun r u => r = some (.int (eI (cu (yr * C + xc)))) ∧ XW cI cZ q R C dr cu u) 0 0 := by
  refine Ct.of hfl (by decide) (Nat.le_of_ble_eq_true rfl) ?_
  intro k hR _
  have hR4 := hG.2.1
  have hC3 := hG.2.2.2
  have hR1 := hG.1
  have hC1 := hG.2.2.1
  have hE := hG.E
  have hRC := hG.RC
  have hE4 := hG.E4
  obtain ⟨hf, hdr⟩ := hI
  have hE31 := hG.E
  have hno := noC_f hG hr hc
  have hrc : yr * C + xc < R * C := rc_lt hr hc
  show V k l D (tys3 cI cJ cZ) ({ frames := 1, cells := 0, slots := 0, locals := 22 } : Room) cX2_clueOf 3 RX2 (wX cI cZ q R C dr sz sa cu fi st lo hi wa sw) 0 0 0 [(0, .ref (q 0)), (1, .int (nI (yr))), (2, .int (nI (xc)))] []
  refine j_aload_n dX2_clueOf_0 rfl 0 rfl ?_
  refine j_iload_n dX2_clueOf_1 rfl 1 rfl ?_
  refine j_iload_n dX2_clueOf_2 rfl 2 rfl ?_
  refine j_vW (av := [.int (nI (yr)), .int (nI (xc))]) (c_isNoCell l hfl D cI cJ cZ q R C hG dr sz sa cu fi st lo hi wa sw (nI (yr)) (nI (xc))) 0 rfl rfl mw2_49 mw2_51 msel6 mw1_1 mw2_52 rfl hd_X2_isNoCell rfl ⟨rfl, rfl⟩ ⟨Nat.le_of_ble_eq_true rfl, Nat.le_of_ble_eq_true rfl⟩ ⟨Nat.zero_le _, Nat.zero_le _⟩ (Nat.le_of_ble_eq_true rfl) rfl dX2_clueOf_3 ?_
  rintro _ _ ⟨rfl, rfl⟩
  refine j_st (st' := [.int (bI ((noC R C (nI (yr)) (nI (xc)))))]) rfl ?_
  refine jb_if_eq (tgt := 17) (b := (noC R C (nI (yr)) (nI (xc)))) dX2_clueOf_6 (by decide) (fun c6 => ?_) (fun c6 => ?_)
  · refine j_aload_n dX2_clueOf_17 rfl 0 rfl ?_
    refine gf_X2_14 0 rfl (rfl) dX2_clueOf_18 ?_
    refine gf_X2_116 1 rfl (rfl) dX2_clueOf_21 ?_
    refine j_iload_n dX2_clueOf_24 rfl 1 rfl ?_
    refine j_aload_n dX2_clueOf_25 rfl 0 rfl ?_
    refine gf_X2_14 0 rfl (rfl) dX2_clueOf_26 ?_
    refine gf_X2_49 1 rfl (rfl) dX2_clueOf_29 ?_
    refine jn_imul (v := yr * C) dX2_clueOf_32 rfl ?_
    refine j_iload_n dX2_clueOf_33 rfl 2 rfl ?_
    refine jn_iadd (v := (yr * C) + xc) dX2_clueOf_34 rfl ?_
    refine jn_iald (v := eI (cu ((yr * C) + xc))) 6 0 rfl rfl (by omega) (by omega) (rfl) dX2_clueOf_35 ?_
    exact j_iret (tys' := []) rfl hR dX2_clueOf_36 (⟨rfl, XW_of ⟨hf, hdr⟩⟩)
  · rw [hno] at c6; cases c6

set_option maxHeartbeats 4000000 in
set_option maxRecDepth 100000 in
theorem c_clueOfX (l : Launch) (hfl : l.flags = flags0) (D : va_G) (cI cJ cZ : ClassId) (q : Nat → Nat) (R C : Nat) (hG : GS R C) (dr sz : Nat) (sa : Bool) (cu fi st : Nat → Nat) (lo hi : Nat → Option Nat) (wa sw : Nat → Nat) (hx : XOK R C cu) (hI : XI0 R C cu sa sz fi st lo hi wa dr) (x y : Int32) (hxy : (inB R x && inB C y) = false) : CtT l yX2_clueOf cX2_clueOf 3 (Option.some FieldType.int) ({ frames := 6, cells := 1, slots := 6, locals := 81 } : Room) D (tys3 cI cJ cZ) (wX cI cZ q R C dr sz sa cu fi st lo hi wa sw) [.ref (q 0), .int (x), .int (y)] XI (fun u => XW cI cZ q R C dr cu u) 1 6 := by
  refine CtT.of hfl (by decide) (Nat.le_of_ble_eq_true rfl) ?_
  intro k hT
  have hR4 := hG.2.1
  have hC3 := hG.2.2.2
  have hR1 := hG.1
  have hC1 := hG.2.2.1
  have hE := hG.E
  have hRC := hG.RC
  have hE4 := hG.E4
  obtain ⟨hf, hdr⟩ := hI
  have hE31 := hG.E
  have hno : noC R C x y = true := by rw [noC_in, hxy]; rfl
  show V k l D (tys3 cI cJ cZ) ({ frames := 6, cells := 1, slots := 6, locals := 81 } : Room) cX2_clueOf 3 RX2 (wX cI cZ q R C dr sz sa cu fi st lo hi wa sw) 0 0 0 [(0, .ref (q 0)), (1, .int (x)), (2, .int (y))] []
  refine j_aload_n dX2_clueOf_0 rfl 0 rfl ?_
  refine j_iload_n dX2_clueOf_1 rfl 1 rfl ?_
  refine j_iload_n dX2_clueOf_2 rfl 2 rfl ?_
  refine j_vW (av := [.int (x), .int (y)]) (c_isNoCell l hfl D cI cJ cZ q R C hG dr sz sa cu fi st lo hi wa sw (x) (y)) 0 rfl rfl mw2_49 mw2_51 msel6 mw1_1 mw2_52 rfl hd_X2_isNoCell rfl ⟨rfl, rfl⟩ ⟨Nat.le_of_ble_eq_true rfl, Nat.le_of_ble_eq_true rfl⟩ ⟨Nat.zero_le _, Nat.zero_le _⟩ (Nat.le_of_ble_eq_true rfl) rfl dX2_clueOf_3 ?_
  rintro _ _ ⟨rfl, rfl⟩
  refine j_st (st' := [.int (bI ((noC R C (x) (y))))]) rfl ?_
  refine jb_if_eq (tgt := 17) (b := (noC R C (x) (y))) dX2_clueOf_6 (by decide) (fun c6 => ?_) (fun c6 => ?_)
  · rw [hno] at c6; cases c6
  · exact j_throw0 (E0 := XI) (names := nmX) (ik := 42) (ic := 44) hT (by decide) fit_nm mw1_217 mw1_8 (at0_XI mw2_19) go_XI dX2_clueOf_9 dX2_clueOf_12 dX2_clueOf_13 dX2_clueOf_16 (by decide) (by decide) (by decide) (by decide) (XW_of ⟨hf, hdr⟩) (Nat.le_refl _) (Nat.le_refl _)

set_option maxHeartbeats 4000000 in
set_option maxRecDepth 100000 in
theorem c_width (l : Launch) (hfl : l.flags = flags0) (D : va_G) (cI cJ cZ : ClassId) (q : Nat → Nat) (R C : Nat) (hG : GS R C) (dr sz : Nat) (sa : Bool) (cu fi st : Nat → Nat) (lo hi : Nat → Option Nat) (wa sw : Nat → Nat) (hx : XOK R C cu) (hI : XI0 R C cu sa sz fi st lo hi wa dr) (kq : Nat) (hk : kq ≤ nE R C) (t : Bool) : Ct l yX2_width cX2_width 4 (Option.some FieldType.int) ({ frames := 6, cells := 0, slots := 0, locals := 141 } : Room) D (tys3 cI cJ cZ) (tys3 cI cJ cZ) (wX cI cZ q R C dr sz sa cu fi st lo hi wa sw) [.ref (q 0), .int (nI (kq)), .int (bI (t))] (fun r u => r = some (.int (nI (if t then usA R C cu kq (LvS R C cu kq).length else (LvS R C cu kq).length))) ∧ XW cI cZ q R C dr cu u) 0 0 := by
  refine Ct.of hfl (by decide) (Nat.le_of_ble_eq_true rfl) ?_
  intro k hR _
  have hR4 := hG.2.1
  have hC3 := hG.2.2.2
  have hR1 := hG.1
  have hC1 := hG.2.2.1
  have hE := hG.E
  have hRC := hG.RC
  have hE4 := hG.E4
  obtain ⟨hf, hdr⟩ := hI
  have hE31 := hG.E
  show V k l D (tys3 cI cJ cZ) ({ frames := 6, cells := 0, slots := 0, locals := 141 } : Room) cX2_width 4 RX2 (wX cI cZ q R C dr sz sa cu fi st lo hi wa sw) 0 0 0 [(0, .ref (q 0)), (1, .int (nI (kq))), (2, .int (bI (t)))] []
  refine j_iload_n dX2_width_0 rfl 1 rfl ?_
  refine jn_if_lt (tgt := 15) (a := kq) (by omega) dX2_width_1 (by decide) (fun c1 => ?_) (fun c1 => ?_)
  · exact absurd c1 (by simp)
  · refine j_iload_n dX2_width_4 rfl 1 rfl ?_
    refine j_aload_n dX2_width_5 rfl 0 rfl ?_
    refine gf_X2_14 0 rfl (rfl) dX2_width_6 ?_
    refine gf_X2_35 1 rfl (rfl) dX2_width_9 ?_
    refine jn_icmp_le (tgt := 23) (a := kq) (b := nE R C) (by omega) (by omega) dX2_width_12 (by decide) (fun c12 => ?_) (fun c12 => ?_)
    · refine j_aload_n dX2_width_23 rfl 0 rfl ?_
      refine j_vW (av := []) (c_fresh l hfl D cI cJ cZ q R C hG dr sz sa cu fi st lo hi wa sw hx hf) 0 rfl rfl mw1_114 mw1_116 msel0 mw1_1 mw1_117 rfl hd_X2_fresh rfl ⟨rfl, rfl⟩ ⟨Nat.le_of_ble_eq_true rfl, Nat.le_of_ble_eq_true rfl⟩ ⟨Nat.zero_le _, Nat.zero_le _⟩ (Nat.le_of_ble_eq_true rfl) rfl dX2_width_24 ?_
      rintro _ _ ⟨rfl, sz3, fi3, st3, lo3, hi3, wa3, hg3, hW3, rfl⟩
      refine j_st (st' := [.ref (q 2)]) rfl ?_
      refine j_astore_n [(3, .ref (q 2)), (0, .ref (q 0)), (1, .int (nI (kq))), (2, .int (bI (t)))] dX2_width_27 rfl (by decide) rfl ?_
      refine j_iload_n dX2_width_28 rfl 3 rfl ?_
      refine jb_if_eq (tgt := 40) (b := t) dX2_width_29 (by decide) (fun c29 => ?_) (fun c29 => ?_)
      · refine j_aload_n dX2_width_40 rfl 0 rfl ?_
        refine gf_X2_80 2 rfl (rfl) dX2_width_41 ?_
        refine j_iload_n dX2_width_44 rfl 2 rfl ?_
        refine j_iconst (v := nI (1)) dX2_width_45 (by decide) ?_
        refine jn_iadd (v := kq + 1) dX2_width_46 rfl ?_
        refine jn_iald (v := nI (fi3 (kq + 1))) 7 0 rfl rfl (by omega) (by omega) (rfl) dX2_width_47 ?_
        refine j_aload_n dX2_width_48 rfl 0 rfl ?_
        refine gf_X2_80 2 rfl (rfl) dX2_width_49 ?_
        refine j_iload_n dX2_width_52 rfl 2 rfl ?_
        refine jn_iald (v := nI (fi3 kq)) 7 0 rfl rfl (by omega) (by omega) (rfl) dX2_width_53 ?_
        refine jn_isub dX2_width_54 (by rw [hg3.2.1 (kq + 1) (by omega), hg3.2.1 kq (by omega)]; exact off_mono (by omega)) rfl ?_
        exact j_iret (tys' := []) rfl hR dX2_width_55 (⟨by rw [c29]; rw [hg3.2.1 (kq + 1) (by omega), hg3.2.1 kq (by omega), show off R C cu (kq + 1) = off R C cu kq + (LvS R C cu kq).length from rfl, Nat.add_sub_cancel_left]; rfl, XW_of ⟨fun _ => ⟨hg3, hW3⟩, hdr⟩⟩)
      · refine j_aload_n dX2_width_32 rfl 0 rfl ?_
        refine j_iload_n dX2_width_33 rfl 2 rfl ?_
        refine j_vW (av := [.int (nI (kq))]) (c_usefulAt l hfl D cI cJ cZ q R C hG dr sz3 false cu fi3 st3 lo3 hi3 wa3 sw hx hg3 hW3 (kq) (hk)) 2 rfl rfl mw2_79 mw2_80 mw2_81 mw1_3 mw2_82 rfl hd_X0_usefulAt rfl ⟨rfl, rfl⟩ ⟨Nat.le_of_ble_eq_true rfl, Nat.le_of_ble_eq_true rfl⟩ ⟨Nat.zero_le _, Nat.zero_le _⟩ (Nat.le_of_ble_eq_true rfl) rfl dX2_width_34 ?_
        rintro _ _ ⟨rfl, rfl⟩
        refine j_st (st' := [.int (nI (usA R C cu kq (LvS R C cu kq).length))]) rfl ?_
        refine j_goto (tgt := 55) dX2_width_37 (by decide) ?_
        exact j_iret (tys' := []) rfl hR dX2_width_55 (⟨by rw [c29]; rfl, XW_of ⟨fun _ => ⟨hg3, hW3⟩, hdr⟩⟩)
    · exfalso; omega

set_option maxHeartbeats 4000000 in
set_option maxRecDepth 100000 in
theorem c_widthX (l : Launch) (hfl : l.flags = flags0) (D : va_G) (cI cJ cZ : ClassId) (q : Nat → Nat) (R C : Nat) (hG : GS R C) (dr sz : Nat) (sa : Bool) (cu fi st : Nat → Nat) (lo hi : Nat → Option Nat) (wa sw : Nat → Nat) (hx : XOK R C cu) (hI : XI0 R C cu sa sz fi st lo hi wa dr) (x : Int32) (hxx : inB (nE R C + 1) x = false) (t : Bool) : CtT l yX2_width cX2_width 4 (Option.some FieldType.int) ({ frames := 6, cells := 1, slots := 6, locals := 141 } : Room) D (tys3 cI cJ cZ) (wX cI cZ q R C dr sz sa cu fi st lo hi wa sw) [.ref (q 0), .int (x), .int (bI (t))] XI (fun u => XW cI cZ q R C dr cu u) 1 6 := by
  refine CtT.of hfl (by decide) (Nat.le_of_ble_eq_true rfl) ?_
  intro k hT
  have hR4 := hG.2.1
  have hC3 := hG.2.2.2
  have hR1 := hG.1
  have hC1 := hG.2.2.1
  have hE := hG.E
  have hRC := hG.RC
  have hE4 := hG.E4
  obtain ⟨hf, hdr⟩ := hI
  have hE31 := hG.E
  show V k l D (tys3 cI cJ cZ) ({ frames := 6, cells := 1, slots := 6, locals := 141 } : Room) cX2_width 4 RX2 (wX cI cZ q R C dr sz sa cu fi st lo hi wa sw) 0 0 0 [(0, .ref (q 0)), (1, .int (x)), (2, .int (bI (t)))] []
  refine j_iload_n dX2_width_0 rfl 1 rfl ?_
  refine j_if_lt (tgt := 15) dX2_width_1 (by decide) (fun c1 => ?_) (fun c1 => ?_)
  · exact j_throw0 (E0 := XI) (names := nmX) (ik := 42) (ic := 44) hT (by decide) fit_nm mw1_217 mw1_8 (at0_XI mw2_19) go_XI dX2_width_15 dX2_width_18 dX2_width_19 dX2_width_22 (by decide) (by decide) (by decide) (by decide) (XW_of ⟨hf, hdr⟩) (Nat.le_refl _) (Nat.le_refl _)
  · refine j_iload_n dX2_width_4 rfl 1 rfl ?_
    refine j_aload_n dX2_width_5 rfl 0 rfl ?_
    refine gf_X2_14 0 rfl (rfl) dX2_width_6 ?_
    refine gf_X2_35 1 rfl (rfl) dX2_width_9 ?_
    refine j_icmp_le (tgt := 23) dX2_width_12 (by decide) (fun c12 => ?_) (fun c12 => ?_)
    · exact absurd c12 (wid_x hE31 hxx c1)
    · exact j_throw0 (E0 := XI) (names := nmX) (ik := 42) (ic := 44) hT (by decide) fit_nm mw1_217 mw1_8 (at0_XI mw2_19) go_XI dX2_width_15 dX2_width_18 dX2_width_19 dX2_width_22 (by decide) (by decide) (by decide) (by decide) (XW_of ⟨hf, hdr⟩) (Nat.le_refl _) (Nat.le_refl _)

theorem solI_31 {R C : Nat} (hG : GS R C) (cu : Nat → Nat) (x : Int32) : solI R C cu x < 2 ^ 31 := by
  unfold solI
  split
  · exact (by decide : (0 : Nat) < 2 ^ 31)
  · split
    · exact solI_lt hG cu (nE R C) 0 _ _ 0 (Nat.zero_add _) (by decide)
    · exact (by decide : (0 : Nat) < 2 ^ 31)
set_option maxHeartbeats 4000000 in
set_option maxRecDepth 100000 in
theorem c_has (l : Launch) (hfl : l.flags = flags0) (D : va_G) (cI cJ cZ : ClassId) (q : Nat → Nat) (R C : Nat) (hG : GS R C) (dr sz : Nat) (sa : Bool) (cu fi st : Nat → Nat) (lo hi : Nat → Option Nat) (wa sw : Nat → Nat) (hx : XOK R C cu) (hI : XI0 R C cu sa sz fi st lo hi wa dr) (x : Int32) (hs0 : solI R C cu x ≠ 0) (e : Nat) (he : e < nE R C) : Ct l yX2_has cX2_has 4 (Option.some FieldType.boolean) ({ frames := 6, cells := 0, slots := 0, locals := 141 } : Room) D (tys3 cI cJ cZ) (tys3 cI cJ cZ) (wX cI cZ q R C dr sz sa cu fi st lo hi wa sw) [.ref (q 0), .int (x), .int (nI (e))] (fun r u => r = some (.int (bI ((Nat.testBit (solI R C cu x) e)))) ∧ XW cI cZ q R C dr cu u) 0 0 := by
  refine Ct.of hfl (by decide) (Nat.le_of_ble_eq_true rfl) ?_
  intro k hR _
  have hR4 := hG.2.1
  have hC3 := hG.2.2.2
  have hR1 := hG.1
  have hC1 := hG.2.2.1
  have hE := hG.E
  have hRC := hG.RC
  have hE4 := hG.E4
  obtain ⟨hf, hdr⟩ := hI
  have hE31 := hG.E
  have hno := noE_f hG he
  have hs31 : solI R C cu x < 2 ^ 31 := solI_31 hG cu x
  show V k l D (tys3 cI cJ cZ) ({ frames := 6, cells := 0, slots := 0, locals := 141 } : Room) cX2_has 4 RX2 (wX cI cZ q R C dr sz sa cu fi st lo hi wa sw) 0 0 0 [(0, .ref (q 0)), (1, .int (x)), (2, .int (nI (e)))] []
  refine j_aload_n dX2_has_0 rfl 0 rfl ?_
  refine j_vW (av := []) (c_fresh l hfl D cI cJ cZ q R C hG dr sz sa cu fi st lo hi wa sw hx hf) 0 rfl rfl mw1_114 mw1_116 msel0 mw1_1 mw1_117 rfl hd_X2_fresh rfl ⟨rfl, rfl⟩ ⟨Nat.le_of_ble_eq_true rfl, Nat.le_of_ble_eq_true rfl⟩ ⟨Nat.zero_le _, Nat.zero_le _⟩ (Nat.le_of_ble_eq_true rfl) rfl dX2_has_1 ?_
  rintro _ _ ⟨rfl, sz3, fi3, st3, lo3, hi3, wa3, hg3, hW3, rfl⟩
  refine j_st (st' := [.ref (q 2)]) rfl ?_
  refine j_iload_n dX2_has_4 rfl 1 rfl ?_
  refine j_vW (av := [.int (x)]) (c_solution l hfl D cI cJ cZ q R C hG dr sz3 false cu fi3 st3 lo3 hi3 wa3 sw hx hg3 hW3 (x)) 2 rfl rfl mw2_91 mw2_92 mw2_93 mw1_3 mw2_94 rfl hd_X0_solution rfl ⟨rfl, rfl⟩ ⟨Nat.le_of_ble_eq_true rfl, Nat.le_of_ble_eq_true rfl⟩ ⟨Nat.zero_le _, Nat.zero_le _⟩ (Nat.le_of_ble_eq_true rfl) rfl dX2_has_5 ?_
  rintro _ _ ⟨rfl, rfl⟩
  refine j_st (st' := [.int (nI (solI R C cu (x)))]) rfl ?_
  refine j_istore_n [(3, .int (nI (solI R C cu (x)))), (0, .ref (q 0)), (1, .int (x)), (2, .int (nI (e)))] dX2_has_8 rfl (by decide) rfl ?_
  refine j_iload_n dX2_has_9 rfl 0 rfl ?_
  refine jn_if_ne (tgt := 21) (a := solI R C cu (x)) (hs31) dX2_has_10 (by decide) (fun c10 => ?_) (fun c10 => ?_)
  · refine j_aload_n dX2_has_21 rfl 1 rfl ?_
    refine j_iload_n dX2_has_22 rfl 3 rfl ?_
    refine j_vW (av := [.int (nI (e))]) (c_isNoEdge l hfl D cI cJ cZ q R C hG dr sz3 false cu fi3 st3 lo3 hi3 wa3 sw (nI (e))) 0 rfl rfl mw1_213 mw1_215 msel4 mw1_1 mw1_216 rfl hd_X2_isNoEdge rfl ⟨rfl, rfl⟩ ⟨Nat.le_of_ble_eq_true rfl, Nat.le_of_ble_eq_true rfl⟩ ⟨Nat.zero_le _, Nat.zero_le _⟩ (Nat.le_of_ble_eq_true rfl) rfl dX2_has_23 ?_
    rintro _ _ ⟨rfl, rfl⟩
    refine j_st (st' := [.int (bI ((noE R C (nI (e)))))]) rfl ?_
    refine jb_if_eq (tgt := 37) (b := (noE R C (nI (e)))) dX2_has_26 (by decide) (fun c26 => ?_) (fun c26 => ?_)
    · refine j_iload_n dX2_has_37 rfl 0 rfl ?_
      refine j_iload_n dX2_has_38 rfl 3 rfl ?_
      refine j_s0 (av := [.int (nI (solI R C cu (x))), .int (nI (e))]) (r0 := .int (bI ((Nat.testBit (solI R C cu (x)) e)))) (c_hasBit l hfl D (tys3 cI cJ cZ) (solI R C cu (x)) (e) (hs31) (by omega)) mw1_184 mw1_161 mw1_1 mw1_162 hd_X2_hasBit rfl ⟨rfl, rfl⟩ ⟨Nat.le_of_ble_eq_true rfl, Nat.le_of_ble_eq_true rfl⟩ ⟨Nat.zero_le _, Nat.zero_le _⟩ (Nat.le_of_ble_eq_true rfl) rfl dX2_has_39 ?_
      exact j_zretB (tys' := []) rfl hR dX2_has_42 (⟨rfl, XW_of ⟨fun _ => ⟨hg3, hW3⟩, hdr⟩⟩)
    · rw [hno] at c26; cases c26
  · exact absurd c10 hs0

set_option maxHeartbeats 4000000 in
set_option maxRecDepth 100000 in
theorem c_hasX (l : Launch) (hfl : l.flags = flags0) (D : va_G) (cI cJ cZ : ClassId) (q : Nat → Nat) (R C : Nat) (hG : GS R C) (dr sz : Nat) (sa : Bool) (cu fi st : Nat → Nat) (lo hi : Nat → Option Nat) (wa sw : Nat → Nat) (hx : XOK R C cu) (hI : XI0 R C cu sa sz fi st lo hi wa dr) (x : Int32) (hs0 : solI R C cu x = 0) (z : Int32) : CtT l yX2_has cX2_has 4 (Option.some FieldType.boolean) ({ frames := 6, cells := 1, slots := 6, locals := 141 } : Room) D (tys3 cI cJ cZ) (wX cI cZ q R C dr sz sa cu fi st lo hi wa sw) [.ref (q 0), .int (x), .int (z)] XN (fun u => XW cI cZ q R C dr cu u) 1 6 := by
  refine CtT.of hfl (by decide) (Nat.le_of_ble_eq_true rfl) ?_
  intro k hT
  have hR4 := hG.2.1
  have hC3 := hG.2.2.2
  have hR1 := hG.1
  have hC1 := hG.2.2.1
  have hE := hG.E
  have hRC := hG.RC
  have hE4 := hG.E4
  obtain ⟨hf, hdr⟩ := hI
  have hE31 := hG.E
  have hs31 : solI R C cu x < 2 ^ 31 := solI_31 hG cu x
  show V k l D (tys3 cI cJ cZ) ({ frames := 6, cells := 1, slots := 6, locals := 141 } : Room) cX2_has 4 RX2 (wX cI cZ q R C dr sz sa cu fi st lo hi wa sw) 0 0 0 [(0, .ref (q 0)), (1, .int (x)), (2, .int (z))] []
  refine j_aload_n dX2_has_0 rfl 0 rfl ?_
  refine j_vW (av := []) (c_fresh l hfl D cI cJ cZ q R C hG dr sz sa cu fi st lo hi wa sw hx hf) 0 rfl rfl mw1_114 mw1_116 msel0 mw1_1 mw1_117 rfl hd_X2_fresh rfl ⟨rfl, rfl⟩ ⟨Nat.le_of_ble_eq_true rfl, Nat.le_of_ble_eq_true rfl⟩ ⟨Nat.zero_le _, Nat.zero_le _⟩ (Nat.le_of_ble_eq_true rfl) rfl dX2_has_1 ?_
  rintro _ _ ⟨rfl, sz3, fi3, st3, lo3, hi3, wa3, hg3, hW3, rfl⟩
  refine j_st (st' := [.ref (q 2)]) rfl ?_
  refine j_iload_n dX2_has_4 rfl 1 rfl ?_
  refine j_vW (av := [.int (x)]) (c_solution l hfl D cI cJ cZ q R C hG dr sz3 false cu fi3 st3 lo3 hi3 wa3 sw hx hg3 hW3 (x)) 2 rfl rfl mw2_91 mw2_92 mw2_93 mw1_3 mw2_94 rfl hd_X0_solution rfl ⟨rfl, rfl⟩ ⟨Nat.le_of_ble_eq_true rfl, Nat.le_of_ble_eq_true rfl⟩ ⟨Nat.zero_le _, Nat.zero_le _⟩ (Nat.le_of_ble_eq_true rfl) rfl dX2_has_5 ?_
  rintro _ _ ⟨rfl, rfl⟩
  refine j_st (st' := [.int (nI (solI R C cu (x)))]) rfl ?_
  refine j_istore_n [(3, .int (nI (solI R C cu (x)))), (0, .ref (q 0)), (1, .int (x)), (2, .int (z))] dX2_has_8 rfl (by decide) rfl ?_
  refine j_iload_n dX2_has_9 rfl 0 rfl ?_
  refine jn_if_ne (tgt := 21) (a := solI R C cu (x)) (hs31) dX2_has_10 (by decide) (fun c10 => ?_) (fun c10 => ?_)
  · exact absurd hs0 c10
  · exact j_throw0 (E0 := XN) (names := nmX) (ik := 89) (ic := 91) hT (by decide) fit_nm mw2_95 mw1_10 (at0_XN mw2_104) go_XN dX2_has_13 dX2_has_16 dX2_has_17 dX2_has_20 (by decide) (by decide) (by decide) (by decide) (XW_of ⟨fun _ => ⟨hg3, hW3⟩, hdr⟩) (Nat.le_refl _) (Nat.le_refl _)

set_option maxHeartbeats 4000000 in
set_option maxRecDepth 100000 in
theorem c_hasE (l : Launch) (hfl : l.flags = flags0) (D : va_G) (cI cJ cZ : ClassId) (q : Nat → Nat) (R C : Nat) (hG : GS R C) (dr sz : Nat) (sa : Bool) (cu fi st : Nat → Nat) (lo hi : Nat → Option Nat) (wa sw : Nat → Nat) (hx : XOK R C cu) (hI : XI0 R C cu sa sz fi st lo hi wa dr) (x : Int32) (hs0 : solI R C cu x ≠ 0) (z : Int32) (hxx : inB (nE R C) z = false) : CtT l yX2_has cX2_has 4 (Option.some FieldType.boolean) ({ frames := 6, cells := 1, slots := 6, locals := 141 } : Room) D (tys3 cI cJ cZ) (wX cI cZ q R C dr sz sa cu fi st lo hi wa sw) [.ref (q 0), .int (x), .int (z)] XI (fun u => XW cI cZ q R C dr cu u) 1 6 := by
  refine CtT.of hfl (by decide) (Nat.le_of_ble_eq_true rfl) ?_
  intro k hT
  have hR4 := hG.2.1
  have hC3 := hG.2.2.2
  have hR1 := hG.1
  have hC1 := hG.2.2.1
  have hE := hG.E
  have hRC := hG.RC
  have hE4 := hG.E4
  obtain ⟨hf, hdr⟩ := hI
  have hE31 := hG.E
  have hs31 : solI R C cu x < 2 ^ 31 := solI_31 hG cu x
  have hno : noE R C z = true := by rw [noE_in, hxx]; rfl
  show V k l D (tys3 cI cJ cZ) ({ frames := 6, cells := 1, slots := 6, locals := 141 } : Room) cX2_has 4 RX2 (wX cI cZ q R C dr sz sa cu fi st lo hi wa sw) 0 0 0 [(0, .ref (q 0)), (1, .int (x)), (2, .int (z))] []
  refine j_aload_n dX2_has_0 rfl 0 rfl ?_
  refine j_vW (av := []) (c_fresh l hfl D cI cJ cZ q R C hG dr sz sa cu fi st lo hi wa sw hx hf) 0 rfl rfl mw1_114 mw1_116 msel0 mw1_1 mw1_117 rfl hd_X2_fresh rfl ⟨rfl, rfl⟩ ⟨Nat.le_of_ble_eq_true rfl, Nat.le_of_ble_eq_true rfl⟩ ⟨Nat.zero_le _, Nat.zero_le _⟩ (Nat.le_of_ble_eq_true rfl) rfl dX2_has_1 ?_
  rintro _ _ ⟨rfl, sz3, fi3, st3, lo3, hi3, wa3, hg3, hW3, rfl⟩
  refine j_st (st' := [.ref (q 2)]) rfl ?_
  refine j_iload_n dX2_has_4 rfl 1 rfl ?_
  refine j_vW (av := [.int (x)]) (c_solution l hfl D cI cJ cZ q R C hG dr sz3 false cu fi3 st3 lo3 hi3 wa3 sw hx hg3 hW3 (x)) 2 rfl rfl mw2_91 mw2_92 mw2_93 mw1_3 mw2_94 rfl hd_X0_solution rfl ⟨rfl, rfl⟩ ⟨Nat.le_of_ble_eq_true rfl, Nat.le_of_ble_eq_true rfl⟩ ⟨Nat.zero_le _, Nat.zero_le _⟩ (Nat.le_of_ble_eq_true rfl) rfl dX2_has_5 ?_
  rintro _ _ ⟨rfl, rfl⟩
  refine j_st (st' := [.int (nI (solI R C cu (x)))]) rfl ?_
  refine j_istore_n [(3, .int (nI (solI R C cu (x)))), (0, .ref (q 0)), (1, .int (x)), (2, .int (z))] dX2_has_8 rfl (by decide) rfl ?_
  refine j_iload_n dX2_has_9 rfl 0 rfl ?_
  refine jn_if_ne (tgt := 21) (a := solI R C cu (x)) (hs31) dX2_has_10 (by decide) (fun c10 => ?_) (fun c10 => ?_)
  · refine j_aload_n dX2_has_21 rfl 1 rfl ?_
    refine j_iload_n dX2_has_22 rfl 3 rfl ?_
    refine j_vW (av := [.int (z)]) (c_isNoEdge l hfl D cI cJ cZ q R C hG dr sz3 false cu fi3 st3 lo3 hi3 wa3 sw (z)) 0 rfl rfl mw1_213 mw1_215 msel4 mw1_1 mw1_216 rfl hd_X2_isNoEdge rfl ⟨rfl, rfl⟩ ⟨Nat.le_of_ble_eq_true rfl, Nat.le_of_ble_eq_true rfl⟩ ⟨Nat.zero_le _, Nat.zero_le _⟩ (Nat.le_of_ble_eq_true rfl) rfl dX2_has_23 ?_
    rintro _ _ ⟨rfl, rfl⟩
    refine j_st (st' := [.int (bI ((noE R C (z))))]) rfl ?_
    refine jb_if_eq (tgt := 37) (b := (noE R C (z))) dX2_has_26 (by decide) (fun c26 => ?_) (fun c26 => ?_)
    · rw [hno] at c26; cases c26
    · exact j_throw0 (E0 := XI) (names := nmX) (ik := 42) (ic := 44) hT (by decide) fit_nm mw1_217 mw1_8 (at0_XI mw2_19) go_XI dX2_has_29 dX2_has_32 dX2_has_33 dX2_has_36 (by decide) (by decide) (by decide) (by decide) (XW_of ⟨fun _ => ⟨hg3, hW3⟩, hdr⟩) (Nat.le_refl _) (Nat.le_refl _)
  · exact absurd c10 hs0

set_option maxHeartbeats 4000000 in
set_option maxRecDepth 100000 in
theorem c_copy (l : Launch) (hfl : l.flags = flags0) (D : va_G) (cI cJ cZ : ClassId) (q : Nat → Nat) (R C : Nat) (hG : GS R C) (dr sz : Nat) (sa : Bool) (cu fi st : Nat → Nat) (lo hi : Nat → Option Nat) (wa sw : Nat → Nat) (hx : XOK R C cu) (hI : XI0 R C cu sa sz fi st lo hi wa dr) (x : Int32) (hs0 : solI R C cu x ≠ 0) : Ct l yX2_copy cX2_copy 3 none ({ frames := 6, cells := 0, slots := 0, locals := 141 } : Room) D (tys3 cI cJ cZ) (tys3 cI cJ cZ) (wX cI cZ q R C dr sz sa cu fi st lo hi wa sw) [.ref (q 0), .int (x)] (fun r u => r = none ∧ XW cI cZ q R C (solI R C cu x) cu u) 0 0 := by
  refine Ct.of hfl (by decide) (Nat.le_of_ble_eq_true rfl) ?_
  intro k hR _
  have hR4 := hG.2.1
  have hC3 := hG.2.2.2
  have hR1 := hG.1
  have hC1 := hG.2.2.1
  have hE := hG.E
  have hRC := hG.RC
  have hE4 := hG.E4
  obtain ⟨hf, hdr⟩ := hI
  have hE31 := hG.E
  have hs31 : solI R C cu x < 2 ^ 31 := solI_31 hG cu x
  show V k l D (tys3 cI cJ cZ) ({ frames := 6, cells := 0, slots := 0, locals := 141 } : Room) cX2_copy 3 RX2 (wX cI cZ q R C dr sz sa cu fi st lo hi wa sw) 0 0 0 [(0, .ref (q 0)), (1, .int (x))] []
  refine j_aload_n dX2_copy_0 rfl 0 rfl ?_
  refine j_vW (av := []) (c_fresh l hfl D cI cJ cZ q R C hG dr sz sa cu fi st lo hi wa sw hx hf) 0 rfl rfl mw1_114 mw1_116 msel0 mw1_1 mw1_117 rfl hd_X2_fresh rfl ⟨rfl, rfl⟩ ⟨Nat.le_of_ble_eq_true rfl, Nat.le_of_ble_eq_true rfl⟩ ⟨Nat.zero_le _, Nat.zero_le _⟩ (Nat.le_of_ble_eq_true rfl) rfl dX2_copy_1 ?_
  rintro _ _ ⟨rfl, sz3, fi3, st3, lo3, hi3, wa3, hg3, hW3, rfl⟩
  refine j_st (st' := [.ref (q 2)]) rfl ?_
  refine j_iload_n dX2_copy_4 rfl 1 rfl ?_
  refine j_vW (av := [.int (x)]) (c_solution l hfl D cI cJ cZ q R C hG dr sz3 false cu fi3 st3 lo3 hi3 wa3 sw hx hg3 hW3 (x)) 2 rfl rfl mw2_91 mw2_92 mw2_93 mw1_3 mw2_94 rfl hd_X0_solution rfl ⟨rfl, rfl⟩ ⟨Nat.le_of_ble_eq_true rfl, Nat.le_of_ble_eq_true rfl⟩ ⟨Nat.zero_le _, Nat.zero_le _⟩ (Nat.le_of_ble_eq_true rfl) rfl dX2_copy_5 ?_
  rintro _ _ ⟨rfl, rfl⟩
  refine j_st (st' := [.int (nI (solI R C cu (x)))]) rfl ?_
  refine j_istore_n [(2, .int (nI (solI R C cu (x)))), (0, .ref (q 0)), (1, .int (x))] dX2_copy_8 rfl (by decide) rfl ?_
  refine j_iload_n dX2_copy_9 rfl 0 rfl ?_
  refine jn_if_ne (tgt := 21) (a := solI R C cu (x)) (hs31) dX2_copy_10 (by decide) (fun c10 => ?_) (fun c10 => ?_)
  · refine j_aload_n dX2_copy_21 rfl 1 rfl ?_
    refine j_iload_n dX2_copy_22 rfl 0 rfl ?_
    refine pf_X2_27 (wX cI cZ q R C (solI R C cu (x)) sz3 false cu fi3 st3 lo3 hi3 wa3 sw) 0 rfl (Nat.le_of_ble_eq_true rfl) rfl dX2_copy_23 ?_
    exact j_vret (tys' := []) rfl hR dX2_copy_26 (⟨rfl, XW_of ⟨fun _ => ⟨hg3, hW3⟩, hs31⟩⟩)
  · exact absurd c10 hs0

set_option maxHeartbeats 4000000 in
set_option maxRecDepth 100000 in
theorem c_copyX (l : Launch) (hfl : l.flags = flags0) (D : va_G) (cI cJ cZ : ClassId) (q : Nat → Nat) (R C : Nat) (hG : GS R C) (dr sz : Nat) (sa : Bool) (cu fi st : Nat → Nat) (lo hi : Nat → Option Nat) (wa sw : Nat → Nat) (hx : XOK R C cu) (hI : XI0 R C cu sa sz fi st lo hi wa dr) (x : Int32) (hs0 : solI R C cu x = 0) : CtT l yX2_copy cX2_copy 3 none ({ frames := 6, cells := 1, slots := 6, locals := 141 } : Room) D (tys3 cI cJ cZ) (wX cI cZ q R C dr sz sa cu fi st lo hi wa sw) [.ref (q 0), .int (x)] XN (fun u => XW cI cZ q R C dr cu u) 1 6 := by
  refine CtT.of hfl (by decide) (Nat.le_of_ble_eq_true rfl) ?_
  intro k hT
  have hR4 := hG.2.1
  have hC3 := hG.2.2.2
  have hR1 := hG.1
  have hC1 := hG.2.2.1
  have hE := hG.E
  have hRC := hG.RC
  have hE4 := hG.E4
  obtain ⟨hf, hdr⟩ := hI
  have hE31 := hG.E
  have hs31 : solI R C cu x < 2 ^ 31 := solI_31 hG cu x
  show V k l D (tys3 cI cJ cZ) ({ frames := 6, cells := 1, slots := 6, locals := 141 } : Room) cX2_copy 3 RX2 (wX cI cZ q R C dr sz sa cu fi st lo hi wa sw) 0 0 0 [(0, .ref (q 0)), (1, .int (x))] []
  refine j_aload_n dX2_copy_0 rfl 0 rfl ?_
  refine j_vW (av := []) (c_fresh l hfl D cI cJ cZ q R C hG dr sz sa cu fi st lo hi wa sw hx hf) 0 rfl rfl mw1_114 mw1_116 msel0 mw1_1 mw1_117 rfl hd_X2_fresh rfl ⟨rfl, rfl⟩ ⟨Nat.le_of_ble_eq_true rfl, Nat.le_of_ble_eq_true rfl⟩ ⟨Nat.zero_le _, Nat.zero_le _⟩ (Nat.le_of_ble_eq_true rfl) rfl dX2_copy_1 ?_
  rintro _ _ ⟨rfl, sz3, fi3, st3, lo3, hi3, wa3, hg3, hW3, rfl⟩
  refine j_st (st' := [.ref (q 2)]) rfl ?_
  refine j_iload_n dX2_copy_4 rfl 1 rfl ?_
  refine j_vW (av := [.int (x)]) (c_solution l hfl D cI cJ cZ q R C hG dr sz3 false cu fi3 st3 lo3 hi3 wa3 sw hx hg3 hW3 (x)) 2 rfl rfl mw2_91 mw2_92 mw2_93 mw1_3 mw2_94 rfl hd_X0_solution rfl ⟨rfl, rfl⟩ ⟨Nat.le_of_ble_eq_true rfl, Nat.le_of_ble_eq_true rfl⟩ ⟨Nat.zero_le _, Nat.zero_le _⟩ (Nat.le_of_ble_eq_true rfl) rfl dX2_copy_5 ?_
  rintro _ _ ⟨rfl, rfl⟩
  refine j_st (st' := [.int (nI (solI R C cu (x)))]) rfl ?_
  refine j_istore_n [(2, .int (nI (solI R C cu (x)))), (0, .ref (q 0)), (1, .int (x))] dX2_copy_8 rfl (by decide) rfl ?_
  refine j_iload_n dX2_copy_9 rfl 0 rfl ?_
  refine jn_if_ne (tgt := 21) (a := solI R C cu (x)) (hs31) dX2_copy_10 (by decide) (fun c10 => ?_) (fun c10 => ?_)
  · exact absurd hs0 c10
  · exact j_throw0 (E0 := XN) (names := nmX) (ik := 89) (ic := 91) hT (by decide) fit_nm mw2_95 mw1_10 (at0_XN mw2_104) go_XN dX2_copy_13 dX2_copy_16 dX2_copy_17 dX2_copy_20 (by decide) (by decide) (by decide) (by decide) (XW_of ⟨fun _ => ⟨hg3, hW3⟩, hdr⟩) (Nat.le_refl _) (Nat.le_refl _)

set_option maxHeartbeats 4000000 in
set_option maxRecDepth 100000 in
theorem c_lengthX (l : Launch) (hfl : l.flags = flags0) (D : va_G) (cI cJ cZ : ClassId) (q : Nat → Nat) (R C : Nat) (hG : GS R C) (dr sz : Nat) (sa : Bool) (cu fi st : Nat → Nat) (lo hi : Nat → Option Nat) (wa sw : Nat → Nat) (hx : XOK R C cu) (hI : XI0 R C cu sa sz fi st lo hi wa dr) (x : Int32) (hs0 : solI R C cu x = 0) : CtT l yX2_length cX2_length 3 (Option.some FieldType.int) ({ frames := 6, cells := 1, slots := 6, locals := 141 } : Room) D (tys3 cI cJ cZ) (wX cI cZ q R C dr sz sa cu fi st lo hi wa sw) [.ref (q 0), .int (x)] XN (fun u => XW cI cZ q R C dr cu u) 1 6 := by
  refine CtT.of hfl (by decide) (Nat.le_of_ble_eq_true rfl) ?_
  intro k hT
  have hR4 := hG.2.1
  have hC3 := hG.2.2.2
  have hR1 := hG.1
  have hC1 := hG.2.2.1
  have hE := hG.E
  have hRC := hG.RC
  have hE4 := hG.E4
  obtain ⟨hf, hdr⟩ := hI
  have hE31 := hG.E
  have hs31 : solI R C cu x < 2 ^ 31 := solI_31 hG cu x
  show V k l D (tys3 cI cJ cZ) ({ frames := 6, cells := 1, slots := 6, locals := 141 } : Room) cX2_length 3 RX2 (wX cI cZ q R C dr sz sa cu fi st lo hi wa sw) 0 0 0 [(0, .ref (q 0)), (1, .int (x))] []
  refine j_aload_n dX2_length_0 rfl 0 rfl ?_
  refine j_vW (av := []) (c_fresh l hfl D cI cJ cZ q R C hG dr sz sa cu fi st lo hi wa sw hx hf) 0 rfl rfl mw1_114 mw1_116 msel0 mw1_1 mw1_117 rfl hd_X2_fresh rfl ⟨rfl, rfl⟩ ⟨Nat.le_of_ble_eq_true rfl, Nat.le_of_ble_eq_true rfl⟩ ⟨Nat.zero_le _, Nat.zero_le _⟩ (Nat.le_of_ble_eq_true rfl) rfl dX2_length_1 ?_
  rintro _ _ ⟨rfl, sz3, fi3, st3, lo3, hi3, wa3, hg3, hW3, rfl⟩
  refine j_st (st' := [.ref (q 2)]) rfl ?_
  refine j_iload_n dX2_length_4 rfl 1 rfl ?_
  refine j_vW (av := [.int (x)]) (c_solution l hfl D cI cJ cZ q R C hG dr sz3 false cu fi3 st3 lo3 hi3 wa3 sw hx hg3 hW3 (x)) 2 rfl rfl mw2_91 mw2_92 mw2_93 mw1_3 mw2_94 rfl hd_X0_solution rfl ⟨rfl, rfl⟩ ⟨Nat.le_of_ble_eq_true rfl, Nat.le_of_ble_eq_true rfl⟩ ⟨Nat.zero_le _, Nat.zero_le _⟩ (Nat.le_of_ble_eq_true rfl) rfl dX2_length_5 ?_
  rintro _ _ ⟨rfl, rfl⟩
  refine j_st (st' := [.int (nI (solI R C cu (x)))]) rfl ?_
  refine j_istore_n [(2, .int (nI (solI R C cu (x)))), (0, .ref (q 0)), (1, .int (x))] dX2_length_8 rfl (by decide) rfl ?_
  refine j_iload_n dX2_length_9 rfl 0 rfl ?_
  refine jn_if_ne (tgt := 21) (a := solI R C cu (x)) (hs31) dX2_length_10 (by decide) (fun c10 => ?_) (fun c10 => ?_)
  · exact absurd hs0 c10
  · exact j_throw0 (E0 := XN) (names := nmX) (ik := 89) (ic := 91) hT (by decide) fit_nm mw2_95 mw1_10 (at0_XN mw2_104) go_XN dX2_length_13 dX2_length_16 dX2_length_17 dX2_length_20 (by decide) (by decide) (by decide) (by decide) (XW_of ⟨fun _ => ⟨hg3, hW3⟩, hdr⟩) (Nat.le_refl _) (Nat.le_refl _)

set_option maxHeartbeats 4000000 in
set_option maxRecDepth 100000 in
theorem c_often (l : Launch) (hfl : l.flags = flags0) (D : va_G) (cI cJ cZ : ClassId) (q : Nat → Nat) (R C : Nat) (hG : GS R C) (dr sz : Nat) (sa : Bool) (cu fi st : Nat → Nat) (lo hi : Nat → Option Nat) (wa sw : Nat → Nat) (hx : XOK R C cu) (hI : XI0 R C cu sa sz fi st lo hi wa dr) (e : Nat) (he : e < nE R C) : Ct l yX2_often cX2_often 2 (Option.some FieldType.int) ({ frames := 6, cells := 0, slots := 0, locals := 141 } : Room) D (tys3 cI cJ cZ) (tys3 cI cJ cZ) (wX cI cZ q R C dr sz sa cu fi st lo hi wa sw) [.ref (q 0), .int (nI (e))] (fun r u => r = some (.int (nI (WS R C cu (2 ^ e) (nE R C) 0 1672))) ∧ XW cI cZ q R C dr cu u) 0 0 := by
  refine Ct.of hfl (by decide) (Nat.le_of_ble_eq_true rfl) ?_
  intro k hR _
  have hR4 := hG.2.1
  have hC3 := hG.2.2.2
  have hR1 := hG.1
  have hC1 := hG.2.2.1
  have hE := hG.E
  have hRC := hG.RC
  have hE4 := hG.E4
  obtain ⟨hf, hdr⟩ := hI
  have hE31 := hG.E
  have hno := noE_f hG he
  show V k l D (tys3 cI cJ cZ) ({ frames := 6, cells := 0, slots := 0, locals := 141 } : Room) cX2_often 2 RX2 (wX cI cZ q R C dr sz sa cu fi st lo hi wa sw) 0 0 0 [(0, .ref (q 0)), (1, .int (nI (e)))] []
  refine j_aload_n dX2_often_0 rfl 0 rfl ?_
  refine j_iload_n dX2_often_1 rfl 1 rfl ?_
  refine j_vW (av := [.int (nI (e))]) (c_isNoEdge l hfl D cI cJ cZ q R C hG dr sz sa cu fi st lo hi wa sw (nI (e))) 0 rfl rfl mw1_213 mw1_215 msel4 mw1_1 mw1_216 rfl hd_X2_isNoEdge rfl ⟨rfl, rfl⟩ ⟨Nat.le_of_ble_eq_true rfl, Nat.le_of_ble_eq_true rfl⟩ ⟨Nat.zero_le _, Nat.zero_le _⟩ (Nat.le_of_ble_eq_true rfl) rfl dX2_often_2 ?_
  rintro _ _ ⟨rfl, rfl⟩
  refine j_st (st' := [.int (bI ((noE R C (nI (e)))))]) rfl ?_
  refine jb_if_eq (tgt := 16) (b := (noE R C (nI (e)))) dX2_often_5 (by decide) (fun c5 => ?_) (fun c5 => ?_)
  · refine j_aload_n dX2_often_16 rfl 0 rfl ?_
    refine j_vW (av := []) (c_fresh l hfl D cI cJ cZ q R C hG dr sz sa cu fi st lo hi wa sw hx hf) 0 rfl rfl mw1_114 mw1_116 msel0 mw1_1 mw1_117 rfl hd_X2_fresh rfl ⟨rfl, rfl⟩ ⟨Nat.le_of_ble_eq_true rfl, Nat.le_of_ble_eq_true rfl⟩ ⟨Nat.zero_le _, Nat.zero_le _⟩ (Nat.le_of_ble_eq_true rfl) rfl dX2_often_17 ?_
    rintro _ _ ⟨rfl, sz3, fi3, st3, lo3, hi3, wa3, hg3, hW3, rfl⟩
    refine j_st (st' := [.ref (q 2)]) rfl ?_
    refine j_iconst (v := nI (1)) dX2_often_20 (by decide) ?_
    refine j_iload_n dX2_often_21 rfl 1 rfl ?_
    refine j_ishl dX2_often_22 rfl ?_
    refine j_topi (y := nI (2 ^ e)) (sh1 (by omega)) ?_
    refine j_vW (av := [.int (nI (2 ^ e))]) (c_solutionsWith l hfl D cI cJ cZ q R C hG dr sz3 false cu fi3 st3 lo3 hi3 wa3 sw hx hg3 (2 ^ e) (p31 (by omega))) 2 rfl rfl mw1_190 mw1_191 mw1_192 mw1_3 mw1_193 rfl hd_X0_solutionsWith rfl ⟨rfl, rfl⟩ ⟨Nat.le_of_ble_eq_true rfl, Nat.le_of_ble_eq_true rfl⟩ ⟨Nat.zero_le _, Nat.zero_le _⟩ (Nat.le_of_ble_eq_true rfl) rfl dX2_often_23 ?_
    rintro _ _ ⟨rfl, fw, rfl⟩
    refine j_st (st' := [.int (nI (WS R C cu (2 ^ e) (nE R C) 0 1672))]) rfl ?_
    exact j_iret (tys' := []) rfl hR dX2_often_26 (⟨rfl, XW_of ⟨fun _ => ⟨hg3, hW3⟩, hdr⟩⟩)
  · rw [hno] at c5; cases c5

set_option maxHeartbeats 4000000 in
set_option maxRecDepth 100000 in
theorem c_oftenX (l : Launch) (hfl : l.flags = flags0) (D : va_G) (cI cJ cZ : ClassId) (q : Nat → Nat) (R C : Nat) (hG : GS R C) (dr sz : Nat) (sa : Bool) (cu fi st : Nat → Nat) (lo hi : Nat → Option Nat) (wa sw : Nat → Nat) (hx : XOK R C cu) (hI : XI0 R C cu sa sz fi st lo hi wa dr) (x : Int32) (hxx : inB (nE R C) x = false) : CtT l yX2_often cX2_often 2 (Option.some FieldType.int) ({ frames := 6, cells := 1, slots := 6, locals := 141 } : Room) D (tys3 cI cJ cZ) (wX cI cZ q R C dr sz sa cu fi st lo hi wa sw) [.ref (q 0), .int (x)] XI (fun u => XW cI cZ q R C dr cu u) 1 6 := by
  refine CtT.of hfl (by decide) (Nat.le_of_ble_eq_true rfl) ?_
  intro k hT
  have hR4 := hG.2.1
  have hC3 := hG.2.2.2
  have hR1 := hG.1
  have hC1 := hG.2.2.1
  have hE := hG.E
  have hRC := hG.RC
  have hE4 := hG.E4
  obtain ⟨hf, hdr⟩ := hI
  have hE31 := hG.E
  have hno : noE R C x = true := by rw [noE_in, hxx]; rfl
  show V k l D (tys3 cI cJ cZ) ({ frames := 6, cells := 1, slots := 6, locals := 141 } : Room) cX2_often 2 RX2 (wX cI cZ q R C dr sz sa cu fi st lo hi wa sw) 0 0 0 [(0, .ref (q 0)), (1, .int (x))] []
  refine j_aload_n dX2_often_0 rfl 0 rfl ?_
  refine j_iload_n dX2_often_1 rfl 1 rfl ?_
  refine j_vW (av := [.int (x)]) (c_isNoEdge l hfl D cI cJ cZ q R C hG dr sz sa cu fi st lo hi wa sw (x)) 0 rfl rfl mw1_213 mw1_215 msel4 mw1_1 mw1_216 rfl hd_X2_isNoEdge rfl ⟨rfl, rfl⟩ ⟨Nat.le_of_ble_eq_true rfl, Nat.le_of_ble_eq_true rfl⟩ ⟨Nat.zero_le _, Nat.zero_le _⟩ (Nat.le_of_ble_eq_true rfl) rfl dX2_often_2 ?_
  rintro _ _ ⟨rfl, rfl⟩
  refine j_st (st' := [.int (bI ((noE R C (x))))]) rfl ?_
  refine jb_if_eq (tgt := 16) (b := (noE R C (x))) dX2_often_5 (by decide) (fun c5 => ?_) (fun c5 => ?_)
  · rw [hno] at c5; cases c5
  · exact j_throw0 (E0 := XI) (names := nmX) (ik := 42) (ic := 44) hT (by decide) fit_nm mw1_217 mw1_8 (at0_XI mw2_19) go_XI dX2_often_8 dX2_often_11 dX2_often_12 dX2_often_15 (by decide) (by decide) (by decide) (by decide) (XW_of ⟨hf, hdr⟩) (Nat.le_refl _) (Nat.le_refl _)

set_option maxHeartbeats 4000000 in
set_option maxRecDepth 100000 in
theorem c_draw (l : Launch) (hfl : l.flags = flags0) (D : va_G) (cI cJ cZ : ClassId) (q : Nat → Nat) (R C : Nat) (hG : GS R C) (dr sz : Nat) (sa : Bool) (cu fi st : Nat → Nat) (lo hi : Nat → Option Nat) (wa sw : Nat → Nat) (hx : XOK R C cu) (hI : XI0 R C cu sa sz fi st lo hi wa dr) (e : Nat) (he : e < nE R C) : Ct l yX2_draw cX2_draw 2 (Option.some FieldType.boolean) ({ frames := 1, cells := 0, slots := 0, locals := 21 } : Room) D (tys3 cI cJ cZ) (tys3 cI cJ cZ) (wX cI cZ q R C dr sz sa cu fi st lo hi wa sw) [.ref (q 0), .int (nI (e))] (fun r u => r = some (.int (bI ((Nat.testBit (dr ^^^ 2 ^ e) e)))) ∧ XW cI cZ q R C (dr ^^^ 2 ^ e) cu u) 0 0 := by
  refine Ct.of hfl (by decide) (Nat.le_of_ble_eq_true rfl) ?_
  intro k hR _
  have hR4 := hG.2.1
  have hC3 := hG.2.2.2
  have hR1 := hG.1
  have hC1 := hG.2.2.1
  have hE := hG.E
  have hRC := hG.RC
  have hE4 := hG.E4
  obtain ⟨hf, hdr⟩ := hI
  have hE31 := hG.E
  have hno := noE_f hG he
  have hx31 : dr ^^^ 2 ^ e < 2 ^ 31 := Nat.xor_lt_two_pow hdr (p31 (by omega))
  show V k l D (tys3 cI cJ cZ) ({ frames := 1, cells := 0, slots := 0, locals := 21 } : Room) cX2_draw 2 RX2 (wX cI cZ q R C dr sz sa cu fi st lo hi wa sw) 0 0 0 [(0, .ref (q 0)), (1, .int (nI (e)))] []
  refine j_aload_n dX2_draw_0 rfl 0 rfl ?_
  refine j_iload_n dX2_draw_1 rfl 1 rfl ?_
  refine j_vW (av := [.int (nI (e))]) (c_isNoEdge l hfl D cI cJ cZ q R C hG dr sz sa cu fi st lo hi wa sw (nI (e))) 0 rfl rfl mw1_213 mw1_215 msel4 mw1_1 mw1_216 rfl hd_X2_isNoEdge rfl ⟨rfl, rfl⟩ ⟨Nat.le_of_ble_eq_true rfl, Nat.le_of_ble_eq_true rfl⟩ ⟨Nat.zero_le _, Nat.zero_le _⟩ (Nat.le_of_ble_eq_true rfl) rfl dX2_draw_2 ?_
  rintro _ _ ⟨rfl, rfl⟩
  refine j_st (st' := [.int (bI ((noE R C (nI (e)))))]) rfl ?_
  refine jb_if_eq (tgt := 16) (b := (noE R C (nI (e)))) dX2_draw_5 (by decide) (fun c5 => ?_) (fun c5 => ?_)
  · refine j_aload_n dX2_draw_16 rfl 0 rfl ?_
    refine j_dup dX2_draw_17 rfl ?_
    refine gf_X2_27 0 rfl (rfl) dX2_draw_18 ?_
    refine j_iconst (v := nI (1)) dX2_draw_21 (by decide) ?_
    refine j_iload_n dX2_draw_22 rfl 1 rfl ?_
    refine j_ishl dX2_draw_23 rfl ?_
    refine j_topi (y := nI (2 ^ e)) (sh1 (by omega)) ?_
    refine j_ixor dX2_draw_24 rfl ?_
    refine j_topi (y := nI (dr ^^^ 2 ^ e)) (nb_xor _ _) ?_
    refine pf_X2_27 (wX cI cZ q R C (dr ^^^ 2 ^ e) sz sa cu fi st lo hi wa sw) 0 rfl (Nat.le_of_ble_eq_true rfl) rfl dX2_draw_25 ?_
    refine j_aload_n dX2_draw_28 rfl 0 rfl ?_
    refine gf_X2_27 0 rfl (rfl) dX2_draw_29 ?_
    refine j_iload_n dX2_draw_32 rfl 1 rfl ?_
    refine j_s0 (av := [.int (nI (dr ^^^ 2 ^ e)), .int (nI (e))]) (r0 := .int (bI ((Nat.testBit (dr ^^^ 2 ^ e) e)))) (c_hasBit l hfl D (tys3 cI cJ cZ) (dr ^^^ 2 ^ e) (e) (hx31) (by omega)) mw1_184 mw1_161 mw1_1 mw1_162 hd_X2_hasBit rfl ⟨rfl, rfl⟩ ⟨Nat.le_of_ble_eq_true rfl, Nat.le_of_ble_eq_true rfl⟩ ⟨Nat.zero_le _, Nat.zero_le _⟩ (Nat.le_of_ble_eq_true rfl) rfl dX2_draw_33 ?_
    exact j_zretB (tys' := []) rfl hR dX2_draw_36 (⟨rfl, XW_of ⟨hf, hx31⟩⟩)
  · rw [hno] at c5; cases c5

set_option maxHeartbeats 4000000 in
set_option maxRecDepth 100000 in
theorem c_drawX (l : Launch) (hfl : l.flags = flags0) (D : va_G) (cI cJ cZ : ClassId) (q : Nat → Nat) (R C : Nat) (hG : GS R C) (dr sz : Nat) (sa : Bool) (cu fi st : Nat → Nat) (lo hi : Nat → Option Nat) (wa sw : Nat → Nat) (hx : XOK R C cu) (hI : XI0 R C cu sa sz fi st lo hi wa dr) (x : Int32) (hxx : inB (nE R C) x = false) : CtT l yX2_draw cX2_draw 2 (Option.some FieldType.boolean) ({ frames := 6, cells := 1, slots := 6, locals := 81 } : Room) D (tys3 cI cJ cZ) (wX cI cZ q R C dr sz sa cu fi st lo hi wa sw) [.ref (q 0), .int (x)] XI (fun u => XW cI cZ q R C dr cu u) 1 6 := by
  refine CtT.of hfl (by decide) (Nat.le_of_ble_eq_true rfl) ?_
  intro k hT
  have hR4 := hG.2.1
  have hC3 := hG.2.2.2
  have hR1 := hG.1
  have hC1 := hG.2.2.1
  have hE := hG.E
  have hRC := hG.RC
  have hE4 := hG.E4
  obtain ⟨hf, hdr⟩ := hI
  have hE31 := hG.E
  have hno : noE R C x = true := by rw [noE_in, hxx]; rfl
  show V k l D (tys3 cI cJ cZ) ({ frames := 6, cells := 1, slots := 6, locals := 81 } : Room) cX2_draw 2 RX2 (wX cI cZ q R C dr sz sa cu fi st lo hi wa sw) 0 0 0 [(0, .ref (q 0)), (1, .int (x))] []
  refine j_aload_n dX2_draw_0 rfl 0 rfl ?_
  refine j_iload_n dX2_draw_1 rfl 1 rfl ?_
  refine j_vW (av := [.int (x)]) (c_isNoEdge l hfl D cI cJ cZ q R C hG dr sz sa cu fi st lo hi wa sw (x)) 0 rfl rfl mw1_213 mw1_215 msel4 mw1_1 mw1_216 rfl hd_X2_isNoEdge rfl ⟨rfl, rfl⟩ ⟨Nat.le_of_ble_eq_true rfl, Nat.le_of_ble_eq_true rfl⟩ ⟨Nat.zero_le _, Nat.zero_le _⟩ (Nat.le_of_ble_eq_true rfl) rfl dX2_draw_2 ?_
  rintro _ _ ⟨rfl, rfl⟩
  refine j_st (st' := [.int (bI ((noE R C (x))))]) rfl ?_
  refine jb_if_eq (tgt := 16) (b := (noE R C (x))) dX2_draw_5 (by decide) (fun c5 => ?_) (fun c5 => ?_)
  · rw [hno] at c5; cases c5
  · exact j_throw0 (E0 := XI) (names := nmX) (ik := 42) (ic := 44) hT (by decide) fit_nm mw1_217 mw1_8 (at0_XI mw2_19) go_XI dX2_draw_8 dX2_draw_11 dX2_draw_12 dX2_draw_15 (by decide) (by decide) (by decide) (by decide) (XW_of ⟨hf, hdr⟩) (Nat.le_refl _) (Nat.le_refl _)

set_option maxHeartbeats 4000000 in
set_option maxRecDepth 100000 in
theorem c_rank (l : Launch) (hfl : l.flags = flags0) (D : va_G) (cI cJ cZ : ClassId) (q : Nat → Nat) (R C : Nat) (hG : GS R C) (dr sz : Nat) (sa : Bool) (cu fi st : Nat → Nat) (lo hi : Nat → Option Nat) (wa sw : Nat → Nat) (hx : XOK R C cu) (hI : XI0 R C cu sa sz fi st lo hi wa dr) (kq : Nat) (hk : rkA R C cu dr (nE R C) 0 1672 0 = some kq) (hk31 : kq < 2 ^ 31) : Ct l yX2_rank cX2_rank 2 (Option.some FieldType.int) ({ frames := 6, cells := 0, slots := 0, locals := 141 } : Room) D (tys3 cI cJ cZ) (tys3 cI cJ cZ) (wX cI cZ q R C dr sz sa cu fi st lo hi wa sw) [.ref (q 0)] (fun r u => r = some (.int (nI (kq))) ∧ XW cI cZ q R C dr cu u) 0 0 := by
  refine Ct.of hfl (by decide) (Nat.le_of_ble_eq_true rfl) ?_
  intro k hR _
  have hR4 := hG.2.1
  have hC3 := hG.2.2.2
  have hR1 := hG.1
  have hC1 := hG.2.2.1
  have hE := hG.E
  have hRC := hG.RC
  have hE4 := hG.E4
  obtain ⟨hf, hdr⟩ := hI
  have hE31 := hG.E
  show V k l D (tys3 cI cJ cZ) ({ frames := 6, cells := 0, slots := 0, locals := 141 } : Room) cX2_rank 2 RX2 (wX cI cZ q R C dr sz sa cu fi st lo hi wa sw) 0 0 0 [(0, .ref (q 0))] []
  refine j_aload_n dX2_rank_0 rfl 0 rfl ?_
  refine j_vW (av := []) (c_fresh l hfl D cI cJ cZ q R C hG dr sz sa cu fi st lo hi wa sw hx hf) 0 rfl rfl mw1_114 mw1_116 msel0 mw1_1 mw1_117 rfl hd_X2_fresh rfl ⟨rfl, rfl⟩ ⟨Nat.le_of_ble_eq_true rfl, Nat.le_of_ble_eq_true rfl⟩ ⟨Nat.zero_le _, Nat.zero_le _⟩ (Nat.le_of_ble_eq_true rfl) rfl dX2_rank_1 ?_
  rintro _ _ ⟨rfl, sz3, fi3, st3, lo3, hi3, wa3, hg3, hW3, rfl⟩
  refine j_st (st' := [.ref (q 2)]) rfl ?_
  refine j_aload_n dX2_rank_4 rfl 0 rfl ?_
  refine gf_X2_27 0 rfl (rfl) dX2_rank_5 ?_
  refine j_vW (av := [.int (nI (dr))]) (c_rankOf l hfl D cI cJ cZ q R C hG dr sz3 false cu fi3 st3 lo3 hi3 wa3 sw hx hg3 hW3 (dr) (hdr)) 2 rfl rfl mw2_145 mw2_146 mw2_147 mw1_3 mw2_148 rfl hd_X0_rankOf rfl ⟨rfl, rfl⟩ ⟨Nat.le_of_ble_eq_true rfl, Nat.le_of_ble_eq_true rfl⟩ ⟨Nat.zero_le _, Nat.zero_le _⟩ (Nat.le_of_ble_eq_true rfl) rfl dX2_rank_8 ?_
  rintro _ _ ⟨rfl, rfl⟩
  refine j_st (st' := [.int (oI (rkA R C cu dr (nE R C) 0 1672 0))]) rfl ?_
  refine j_topi (y := nI (kq)) (by rw [hk]; rfl) ?_
  refine j_istore_n [(1, .int (nI (kq))), (0, .ref (q 0))] dX2_rank_11 rfl (by decide) rfl ?_
  refine j_iload_n dX2_rank_12 rfl 0 rfl ?_
  refine j_iconst (v := (-1)) dX2_rank_13 (by decide) ?_
  refine j_icmp_ne (tgt := 25) dX2_rank_14 (by decide) (fun c14 => ?_) (fun c14 => ?_)
  · refine j_iload_n dX2_rank_25 rfl 0 rfl ?_
    exact j_iret (tys' := []) rfl hR dX2_rank_26 (⟨rfl, XW_of ⟨fun _ => ⟨hg3, hW3⟩, hdr⟩⟩)
  · exact absurd c14 (nI_m1 hk31)

set_option maxHeartbeats 4000000 in
set_option maxRecDepth 100000 in
theorem c_rankX (l : Launch) (hfl : l.flags = flags0) (D : va_G) (cI cJ cZ : ClassId) (q : Nat → Nat) (R C : Nat) (hG : GS R C) (dr sz : Nat) (sa : Bool) (cu fi st : Nat → Nat) (lo hi : Nat → Option Nat) (wa sw : Nat → Nat) (hx : XOK R C cu) (hI : XI0 R C cu sa sz fi st lo hi wa dr) (hk : rkA R C cu dr (nE R C) 0 1672 0 = none) : CtT l yX2_rank cX2_rank 2 (Option.some FieldType.int) ({ frames := 6, cells := 1, slots := 6, locals := 141 } : Room) D (tys3 cI cJ cZ) (wX cI cZ q R C dr sz sa cu fi st lo hi wa sw) [.ref (q 0)] XN (fun u => XW cI cZ q R C dr cu u) 1 6 := by
  refine CtT.of hfl (by decide) (Nat.le_of_ble_eq_true rfl) ?_
  intro k hT
  have hR4 := hG.2.1
  have hC3 := hG.2.2.2
  have hR1 := hG.1
  have hC1 := hG.2.2.1
  have hE := hG.E
  have hRC := hG.RC
  have hE4 := hG.E4
  obtain ⟨hf, hdr⟩ := hI
  have hE31 := hG.E
  show V k l D (tys3 cI cJ cZ) ({ frames := 6, cells := 1, slots := 6, locals := 141 } : Room) cX2_rank 2 RX2 (wX cI cZ q R C dr sz sa cu fi st lo hi wa sw) 0 0 0 [(0, .ref (q 0))] []
  refine j_aload_n dX2_rank_0 rfl 0 rfl ?_
  refine j_vW (av := []) (c_fresh l hfl D cI cJ cZ q R C hG dr sz sa cu fi st lo hi wa sw hx hf) 0 rfl rfl mw1_114 mw1_116 msel0 mw1_1 mw1_117 rfl hd_X2_fresh rfl ⟨rfl, rfl⟩ ⟨Nat.le_of_ble_eq_true rfl, Nat.le_of_ble_eq_true rfl⟩ ⟨Nat.zero_le _, Nat.zero_le _⟩ (Nat.le_of_ble_eq_true rfl) rfl dX2_rank_1 ?_
  rintro _ _ ⟨rfl, sz3, fi3, st3, lo3, hi3, wa3, hg3, hW3, rfl⟩
  refine j_st (st' := [.ref (q 2)]) rfl ?_
  refine j_aload_n dX2_rank_4 rfl 0 rfl ?_
  refine gf_X2_27 0 rfl (rfl) dX2_rank_5 ?_
  refine j_vW (av := [.int (nI (dr))]) (c_rankOf l hfl D cI cJ cZ q R C hG dr sz3 false cu fi3 st3 lo3 hi3 wa3 sw hx hg3 hW3 (dr) (hdr)) 2 rfl rfl mw2_145 mw2_146 mw2_147 mw1_3 mw2_148 rfl hd_X0_rankOf rfl ⟨rfl, rfl⟩ ⟨Nat.le_of_ble_eq_true rfl, Nat.le_of_ble_eq_true rfl⟩ ⟨Nat.zero_le _, Nat.zero_le _⟩ (Nat.le_of_ble_eq_true rfl) rfl dX2_rank_8 ?_
  rintro _ _ ⟨rfl, rfl⟩
  refine j_st (st' := [.int (oI (rkA R C cu dr (nE R C) 0 1672 0))]) rfl ?_
  refine j_topi (y := (-1)) (by rw [hk]; rfl) ?_
  refine j_istore_n [(1, .int ((-1))), (0, .ref (q 0))] dX2_rank_11 rfl (by decide) rfl ?_
  refine j_iload_n dX2_rank_12 rfl 0 rfl ?_
  refine j_iconst (v := (-1)) dX2_rank_13 (by decide) ?_
  refine j_icmp_ne (tgt := 25) dX2_rank_14 (by decide) (fun c14 => ?_) (fun c14 => ?_)
  · exact absurd rfl c14
  · exact j_throw0 (E0 := XN) (names := nmX) (ik := 89) (ic := 91) hT (by decide) fit_nm mw2_95 mw1_10 (at0_XN mw2_104) go_XN dX2_rank_17 dX2_rank_20 dX2_rank_21 dX2_rank_24 (by decide) (by decide) (by decide) (by decide) (XW_of ⟨fun _ => ⟨hg3, hW3⟩, hdr⟩) (Nat.le_refl _) (Nat.le_refl _)

