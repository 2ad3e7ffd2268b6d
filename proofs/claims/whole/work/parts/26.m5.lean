/-! the model: its public methods -/
def inB (n : Nat) (x : Int32) : Bool := !decide (x < 0) && !decide (nI n ≤ x)
theorem inB_t {n j : Nat} (hn : n < 2 ^ 31) (hj : j < n) : inB n (nI j) = true := by
  have h1 : ¬ nI j < 0 := nI_pos (by omega)
  have h2 : ¬ nI n ≤ nI j := fun h => absurd ((nI_leI hn (by omega)).mp h) (by omega)
  simp [inB, h1, h2]
theorem inB_e {n : Nat} {x : Int32} (hn : n < 2 ^ 31) (h : inB n x = true) : ∃ j, j < n ∧ x = nI j := by
  simp [inB] at h
  rcases pk_ix x hn with h1 | h1 | h1
  · exact absurd h1 (by rw [Int32.lt_iff_toInt_lt]; have := (Int32.le_iff_toInt_le.mp h.1); omega)
  · exact absurd h1 (by rw [Int32.le_iff_toInt_le]; have := (Int32.lt_iff_toInt_lt.mp h.2); omega)
  · exact h1
/-- what stands in a model between calls -/
def MI (R C : Nat) (L : List Nat) (cu : Nat → Nat) (kn me : Bool) (ns nl : Nat) (lp so wi us de : Nat → Nat) (se : Nat → Bool) (dr : Nat) : Prop :=
  Hl L nl lp ∧ (kn = true → Hl (sol R C cu L) ns so) ∧ (kn = true → me = true → ME R C cu L wi us) ∧ MJ R C de se ∧ dr < 2 ^ 31
def MW (cI cJ cZ : ClassId) (q : Nat → Nat) (R C : Nat) (L : List Nat) (th dr : Nat) (cu : Nat → Nat) (u : va_W) : Prop :=
  ∃ (kn me : Bool) (ns he nx nl : Nat) (lp so wi us ho nh : Nat → Nat) (ke : Nat → Int64) (ta de : Nat → Nat) (se : Nat → Bool), MI R C L cu kn me ns nl lp so wi us de se dr ∧ u = wM cI cJ cZ q R C th kn me ns he nx dr nl lp cu so wi us ho nh ke ta de se
theorem MW_of {cI cJ cZ : ClassId} {q : Nat → Nat} {R C : Nat} {L : List Nat} {th dr : Nat} {cu : Nat → Nat} {kn me : Bool} {ns he nx nl : Nat} {lp so wi us ho nh : Nat → Nat} {ke : Nat → Int64} {ta de : Nat → Nat} {se : Nat → Bool} (h : MI R C L cu kn me ns nl lp so wi us de se dr) : MW cI cJ cZ q R C L th dr cu (wM cI cJ cZ q R C th kn me ns he nx dr nl lp cu so wi us ho nh ke ta de se) :=
  ⟨kn, me, ns, he, nx, nl, lp, so, wi, us, ho, nh, ke, ta, de, se, h, rfl⟩
def ndA (R C : Nat) (cu : Nat → Nat) : Nat → Nat
  | 0 => 0
  | i + 1 => ndA R C cu i + (Lm R C cu i).length
def mAl (R C D : Nat) (cu : Nat → Nat) : Nat → Nat
  | 0 => 0
  | k + 1 => if alv R C (D / 2 ^ (31 - (k + 1)) * 2 ^ (31 - (k + 1))) (k + 1) cu then k + 1 else mAl R C D cu k
def wall (SO : List Nat) (S : Nat) : Nat := SO.countP (fun y => decide (y &&& S = S))
/-- the clues that stay, and how many -/
def spS (R C : Nat) (L : List Nat) (cu : Nat → Nat) : Nat → (Nat → Nat) × Nat
  | 0 => (cu, 0)
  | i + 1 => if (spS R C L cu i).1 i ≠ 99 ∧ (sol R C (va_up (spS R C L cu i).1 i 99) L).length ≠ 1 then ((spS R C L cu i).1, (spS R C L cu i).2 + 1) else (va_up (spS R C L cu i).1 i 99, (spS R C L cu i).2)
theorem va_up_back {f : Nat → Nat} {i v : Nat} : va_up (va_up f i v) i (f i) = f := by
  funext j
  simp only [va_up]
  split
  · rename_i e; rw [e]
  · rfl
theorem CU_up {R C i v : Nat} {cu : Nat → Nat} (h : CU R C cu) (hv : v = 99 ∨ v ≤ 4) : CU R C (va_up cu i v) := fun j hj => by
  by_cases e : j = i
  · rw [e, va_up_self]; exact hv
  · rw [va_up_ne _ _ e]; exact h j hj
theorem spS_CU {R C : Nat} {L : List Nat} {cu : Nat → Nat} (h : CU R C cu) : ∀ i, CU R C (spS R C L cu i).1
  | 0 => h
  | i + 1 => by
    simp only [spS]
    split
    · exact spS_CU h i
    · exact CU_up (spS_CU h i) (Or.inl rfl)
theorem spS_le {R C : Nat} {L : List Nat} {cu : Nat → Nat} : ∀ i, (spS R C L cu i).2 ≤ i
  | 0 => Nat.le_refl _
  | i + 1 => by
    have := spS_le (R := R) (C := C) (L := L) (cu := cu) i
    simp only [spS]
    split
    · show _ + 1 ≤ _; omega
    · show (spS R C L cu i).2 ≤ _; omega
set_option maxHeartbeats 4000000 in
set_option maxRecDepth 100000 in
theorem cm_thrown (l : Launch) (hfl : l.flags = flags0) (D : va_G) (cI cJ cZ : ClassId) (q : Nat → Nat) (R C : Nat) (hG : GS R C) (th : Nat) (kn me : Bool) (ns he nx dr nl : Nat) (lp cu so wi us ho nh : Nat → Nat) (ke : Nat → Int64) (ta de : Nat → Nat) (se : Nat → Bool)  : Ct l yX3_thrown cX3_thrown 1 (Option.some FieldType.int) ({ frames := 0, cells := 0, slots := 0, locals := 0 } : Room) D (tys3 cI cJ cZ) (tys3 cI cJ cZ) (wM cI cJ cZ q R C th kn me ns he nx dr nl lp cu so wi us ho nh ke ta de se) [.ref (q 0)] (fun r u => r = some (.int (nI (th))) ∧ u = wM cI cJ cZ q R C th kn me ns he nx dr nl lp cu so wi us ho nh ke ta de se) 0 0 := by
  refine Ct.of hfl (by decide) (Nat.le_of_ble_eq_true rfl) ?_
  intro k hR _
  have hR4 := hG.2.1
  have hC3 := hG.2.2.2
  have hR1 := hG.1
  have hC1 := hG.2.2.1
  have hE := hG.E
  have hRC := hG.RC
  have hE4 := hG.E4
  have hP := hG.P
  show V k l D (tys3 cI cJ cZ) ({ frames := 0, cells := 0, slots := 0, locals := 0 } : Room) cX3_thrown 1 RX3 (wM cI cJ cZ q R C th kn me ns he nx dr nl lp cu so wi us ho nh ke ta de se) 0 0 0 [(0, .ref (q 0))] []
  refine j_aload_n dX3_thrown_0 rfl 0 rfl ?_
  refine gf_X3_103 0 rfl (rfl) dX3_thrown_1 ?_
  exact j_iret (tys' := []) rfl hR dX3_thrown_4 (⟨rfl, rfl⟩)

set_option maxHeartbeats 4000000 in
set_option maxRecDepth 100000 in
theorem cm_isEdge (l : Launch) (hfl : l.flags = flags0) (D : va_G) (cI cJ cZ : ClassId) (q : Nat → Nat) (R C : Nat) (hG : GS R C) (th : Nat) (kn me : Bool) (ns he nx dr nl : Nat) (lp cu so wi us ho nh : Nat → Nat) (ke : Nat → Int64) (ta de : Nat → Nat) (se : Nat → Bool) (x : Int32) : Ct l yX3_isEdge cX3_isEdge 2 (Option.some FieldType.boolean) ({ frames := 0, cells := 0, slots := 0, locals := 0 } : Room) D (tys3 cI cJ cZ) (tys3 cI cJ cZ) (wM cI cJ cZ q R C th kn me ns he nx dr nl lp cu so wi us ho nh ke ta de se) [.ref (q 0), .int (x)] (fun r u => r = some (.int (bI ((inB (nE R C) x)))) ∧ u = wM cI cJ cZ q R C th kn me ns he nx dr nl lp cu so wi us ho nh ke ta de se) 0 0 := by
  refine Ct.of hfl (by decide) (Nat.le_of_ble_eq_true rfl) ?_
  intro k hR _
  have hR4 := hG.2.1
  have hC3 := hG.2.2.2
  have hR1 := hG.1
  have hC1 := hG.2.2.1
  have hE := hG.E
  have hRC := hG.RC
  have hE4 := hG.E4
  have hP := hG.P
  show V k l D (tys3 cI cJ cZ) ({ frames := 0, cells := 0, slots := 0, locals := 0 } : Room) cX3_isEdge 2 RX3 (wM cI cJ cZ q R C th kn me ns he nx dr nl lp cu so wi us ho nh ke ta de se) 0 0 0 [(0, .ref (q 0)), (1, .int (x))] []
  refine j_iload_n dX3_isEdge_0 rfl 1 rfl ?_
  refine j_if_lt (tgt := 16) dX3_isEdge_1 (by decide) (fun c1 => ?_) (fun c1 => ?_)
  · refine j_iconst (v := nI (0)) dX3_isEdge_16 (by decide) ?_
    refine j_st (st' := [.int (bI (false))]) (by rfl) ?_
    exact j_zretB (tys' := []) rfl hR dX3_isEdge_17 (⟨by rw [show inB (nE R C) x = false from by simp [inB, *]], rfl⟩)
  · refine j_iload_n dX3_isEdge_4 rfl 1 rfl ?_
    refine j_aload_n dX3_isEdge_5 rfl 0 rfl ?_
    refine gf_X3_93 0 rfl (rfl) dX3_isEdge_6 ?_
    refine j_icmp_ge (tgt := 16) dX3_isEdge_9 (by decide) (fun c9 => ?_) (fun c9 => ?_)
    · refine j_iconst (v := nI (0)) dX3_isEdge_16 (by decide) ?_
      refine j_st (st' := [.int (bI (false))]) (by rfl) ?_
      exact j_zretB (tys' := []) rfl hR dX3_isEdge_17 (⟨by rw [show inB (nE R C) x = false from by simp [inB, *]], rfl⟩)
    · refine j_iconst (v := nI (1)) dX3_isEdge_12 (by decide) ?_
      refine j_goto (tgt := 17) dX3_isEdge_13 (by decide) ?_
      refine j_st (st' := [.int (bI (true))]) (by rfl) ?_
      exact j_zretB (tys' := []) rfl hR dX3_isEdge_17 (⟨by rw [show inB (nE R C) x = true from by simp [inB, *]], rfl⟩)

set_option maxHeartbeats 4000000 in
set_option maxRecDepth 100000 in
theorem cm_cell (l : Launch) (hfl : l.flags = flags0) (D : va_G) (cI cJ cZ : ClassId) (q : Nat → Nat) (R C : Nat) (hG : GS R C) (th : Nat) (kn me : Bool) (ns he nx dr nl : Nat) (lp cu so wi us ho nh : Nat → Nat) (ke : Nat → Int64) (ta de : Nat → Nat) (se : Nat → Bool) (yr xc : Nat) (hr : yr < R) (hc : xc < C) : Ct l yX3_cell cX3_cell 3 (Option.some FieldType.int) ({ frames := 0, cells := 0, slots := 0, locals := 0 } : Room) D (tys3 cI cJ cZ) (tys3 cI cJ cZ) (wM cI cJ cZ q R C th kn me ns he nx dr nl lp cu so wi us ho nh ke ta de se) [.ref (q 0), .int (nI (yr)), .int (nI (xc))] (fun r u => r = some (.int (nI (yr * C + xc))) ∧ u = wM cI cJ cZ q R C th kn me ns he nx dr nl lp cu so wi us ho nh ke ta de se) 0 0 := by
  refine Ct.of hfl (by decide) (Nat.le_of_ble_eq_true rfl) ?_
  intro k hR _
  have hR4 := hG.2.1
  have hC3 := hG.2.2.2
  have hR1 := hG.1
  have hC1 := hG.2.2.1
  have hE := hG.E
  have hRC := hG.RC
  have hE4 := hG.E4
  have hP := hG.P
  show V k l D (tys3 cI cJ cZ) ({ frames := 0, cells := 0, slots := 0, locals := 0 } : Room) cX3_cell 3 RX3 (wM cI cJ cZ q R C th kn me ns he nx dr nl lp cu so wi us ho nh ke ta de se) 0 0 0 [(0, .ref (q 0)), (1, .int (nI (yr))), (2, .int (nI (xc)))] []
  refine j_iload_n dX3_cell_0 rfl 1 rfl ?_
  refine jn_if_lt (tgt := 24) (a := yr) (by omega) dX3_cell_1 (by decide) (fun c1 => ?_) (fun c1 => ?_)
  · exact absurd c1 (by simp)
  · refine j_iload_n dX3_cell_4 rfl 1 rfl ?_
    refine j_aload_n dX3_cell_5 rfl 0 rfl ?_
    refine gf_X3_72 0 rfl (rfl) dX3_cell_6 ?_
    refine jn_icmp_ge (tgt := 24) (a := yr) (b := R) (by omega) (by omega) dX3_cell_9 (by decide) (fun c9 => ?_) (fun c9 => ?_)
    · exfalso; omega
    · refine j_iload_n dX3_cell_12 rfl 2 rfl ?_
      refine jn_if_lt (tgt := 24) (a := xc) (by omega) dX3_cell_13 (by decide) (fun c13 => ?_) (fun c13 => ?_)
      · exact absurd c13 (by simp)
      · refine j_iload_n dX3_cell_16 rfl 2 rfl ?_
        refine j_aload_n dX3_cell_17 rfl 0 rfl ?_
        refine gf_X3_76 0 rfl (rfl) dX3_cell_18 ?_
        refine jn_icmp_lt (tgt := 28) (a := xc) (b := C) (by omega) (by omega) dX3_cell_21 (by decide) (fun c21 => ?_) (fun c21 => ?_)
        · refine j_iload_n dX3_cell_28 rfl 1 rfl ?_
          refine j_aload_n dX3_cell_29 rfl 0 rfl ?_
          refine gf_X3_76 0 rfl (rfl) dX3_cell_30 ?_
          refine jn_imul (v := yr * C) dX3_cell_33 rfl ?_
          refine j_iload_n dX3_cell_34 rfl 2 rfl ?_
          refine jn_iadd (v := (yr * C) + xc) dX3_cell_35 rfl ?_
          exact j_iret (tys' := []) rfl hR dX3_cell_36 (⟨rfl, rfl⟩)
        · exfalso; omega

set_option maxHeartbeats 4000000 in
set_option maxRecDepth 100000 in
theorem cm_cellX (l : Launch) (hfl : l.flags = flags0) (D : va_G) (cI cJ cZ : ClassId) (q : Nat → Nat) (R C : Nat) (hG : GS R C) (th : Nat) (kn me : Bool) (ns he nx dr nl : Nat) (lp cu so wi us ho nh : Nat → Nat) (ke : Nat → Int64) (ta de : Nat → Nat) (se : Nat → Bool) (x y : Int32) (hxy : (inB R x && inB C y) = false) : Ct l yX3_cell cX3_cell 3 (Option.some FieldType.int) ({ frames := 0, cells := 0, slots := 0, locals := 0 } : Room) D (tys3 cI cJ cZ) (tys3 cI cJ cZ) (wM cI cJ cZ q R C th kn me ns he nx dr nl lp cu so wi us ho nh ke ta de se) [.ref (q 0), .int (x), .int (y)] (fun r u => r = some (.int (-1)) ∧ u = wM cI cJ cZ q R C th kn me ns he nx dr nl lp cu so wi us ho nh ke ta de se) 0 0 := by
  refine Ct.of hfl (by decide) (Nat.le_of_ble_eq_true rfl) ?_
  intro k hR _
  have hR4 := hG.2.1
  have hC3 := hG.2.2.2
  have hR1 := hG.1
  have hC1 := hG.2.2.1
  have hE := hG.E
  have hRC := hG.RC
  have hE4 := hG.E4
  have hP := hG.P
  show V k l D (tys3 cI cJ cZ) ({ frames := 0, cells := 0, slots := 0, locals := 0 } : Room) cX3_cell 3 RX3 (wM cI cJ cZ q R C th kn me ns he nx dr nl lp cu so wi us ho nh ke ta de se) 0 0 0 [(0, .ref (q 0)), (1, .int (x)), (2, .int (y))] []
  refine j_iload_n dX3_cell_0 rfl 1 rfl ?_
  refine j_if_lt (tgt := 24) dX3_cell_1 (by decide) (fun c1 => ?_) (fun c1 => ?_)
  · refine j_iconst (v := (-1)) dX3_cell_24 (by decide) ?_
    refine j_goto (tgt := 36) dX3_cell_25 (by decide) ?_
    exact j_iret (tys' := []) rfl hR dX3_cell_36 (⟨rfl, rfl⟩)
  · refine j_iload_n dX3_cell_4 rfl 1 rfl ?_
    refine j_aload_n dX3_cell_5 rfl 0 rfl ?_
    refine gf_X3_72 0 rfl (rfl) dX3_cell_6 ?_
    refine j_icmp_ge (tgt := 24) dX3_cell_9 (by decide) (fun c9 => ?_) (fun c9 => ?_)
    · refine j_iconst (v := (-1)) dX3_cell_24 (by decide) ?_
      refine j_goto (tgt := 36) dX3_cell_25 (by decide) ?_
      exact j_iret (tys' := []) rfl hR dX3_cell_36 (⟨rfl, rfl⟩)
    · refine j_iload_n dX3_cell_12 rfl 2 rfl ?_
      refine j_if_lt (tgt := 24) dX3_cell_13 (by decide) (fun c13 => ?_) (fun c13 => ?_)
      · refine j_iconst (v := (-1)) dX3_cell_24 (by decide) ?_
        refine j_goto (tgt := 36) dX3_cell_25 (by decide) ?_
        exact j_iret (tys' := []) rfl hR dX3_cell_36 (⟨rfl, rfl⟩)
      · refine j_iload_n dX3_cell_16 rfl 2 rfl ?_
        refine j_aload_n dX3_cell_17 rfl 0 rfl ?_
        refine gf_X3_76 0 rfl (rfl) dX3_cell_18 ?_
        refine j_icmp_lt (tgt := 28) dX3_cell_21 (by decide) (fun c21 => ?_) (fun c21 => ?_)
        · exfalso; have h1 : inB R x = true := (by simp [inB, c1, c9]); have h2 : inB C y = true := (by have : ¬ nI C ≤ y := (fun h => by rw [Int32.lt_iff_toInt_lt] at c21; rw [Int32.le_iff_toInt_le] at h; omega); simp [inB, c13, this]); rw [h1, h2] at hxy; cases hxy
        · refine j_iconst (v := (-1)) dX3_cell_24 (by decide) ?_
          refine j_goto (tgt := 36) dX3_cell_25 (by decide) ?_
          exact j_iret (tys' := []) rfl hR dX3_cell_36 (⟨rfl, rfl⟩)

set_option maxHeartbeats 4000000 in
set_option maxRecDepth 100000 in
theorem cm_edges (l : Launch) (hfl : l.flags = flags0) (D : va_G) (cI cJ cZ : ClassId) (q : Nat → Nat) (R C : Nat) (hG : GS R C) (th : Nat) (kn me : Bool) (ns he nx dr nl : Nat) (lp cu so wi us ho nh : Nat → Nat) (ke : Nat → Int64) (ta de : Nat → Nat) (se : Nat → Bool) (L : List Nat) (hLO : LO R C L) (hM : MO R C cu) (hI : MI R C L cu kn me ns nl lp so wi us de se dr) : Ct l yX3_edges cX3_edges 1 (Option.some FieldType.int) ({ frames := 0, cells := 0, slots := 0, locals := 0 } : Room) D (tys3 cI cJ cZ) (tys3 cI cJ cZ) (wM cI cJ cZ q R C th kn me ns he nx dr nl lp cu so wi us ho nh ke ta de se) [.ref (q 0)] (fun r u => r = some (.int (nI (nE R C))) ∧ MW cI cJ cZ q R C L 0 dr cu u) 0 0 := by
  refine Ct.of hfl (by decide) (Nat.le_of_ble_eq_true rfl) ?_
  intro k hR _
  have hR4 := hG.2.1
  have hC3 := hG.2.2.2
  have hR1 := hG.1
  have hC1 := hG.2.2.1
  have hE := hG.E
  have hRC := hG.RC
  have hE4 := hG.E4
  have hP := hG.P
  obtain ⟨hL, hK, hMe, hJ, hdr⟩ := hI
  show V k l D (tys3 cI cJ cZ) ({ frames := 0, cells := 0, slots := 0, locals := 0 } : Room) cX3_edges 1 RX3 (wM cI cJ cZ q R C th kn me ns he nx dr nl lp cu so wi us ho nh ke ta de se) 0 0 0 [(0, .ref (q 0))] []
  refine j_aload_n dX3_edges_0 rfl 0 rfl ?_
  refine j_iconst (v := nI (0)) dX3_edges_1 (by decide) ?_
  refine pf_X3_103 (wM cI cJ cZ q R C 0 kn me ns he nx dr nl lp cu so wi us ho nh ke ta de se) 0 rfl (Nat.le_of_ble_eq_true rfl) rfl dX3_edges_2 ?_
  refine j_aload_n dX3_edges_5 rfl 0 rfl ?_
  refine gf_X3_93 0 rfl (rfl) dX3_edges_6 ?_
  exact j_iret (tys' := []) rfl hR dX3_edges_9 (⟨rfl, MW_of ⟨hL, hK, hMe, hJ, hdr⟩⟩)

set_option maxHeartbeats 4000000 in
set_option maxRecDepth 100000 in
theorem cm_point (l : Launch) (hfl : l.flags = flags0) (D : va_G) (cI cJ cZ : ClassId) (q : Nat → Nat) (R C : Nat) (hG : GS R C) (th : Nat) (kn me : Bool) (ns he nx dr nl : Nat) (lp cu so wi us ho nh : Nat → Nat) (ke : Nat → Int64) (ta de : Nat → Nat) (se : Nat → Bool) (L : List Nat) (hLO : LO R C L) (hM : MO R C cu) (hI : MI R C L cu kn me ns nl lp so wi us de se dr) (e : Nat) (hee : e < nE R C) (t : Bool) : Ct l yX3_point cX3_point 3 (Option.some FieldType.int) ({ frames := 1, cells := 0, slots := 0, locals := 21 } : Room) D (tys3 cI cJ cZ) (tys3 cI cJ cZ) (wM cI cJ cZ q R C th kn me ns he nx dr nl lp cu so wi us ho nh ke ta de se) [.ref (q 0), .int (nI (e)), .int (bI (t))] (fun r u => r = some (.int (nI (if t then mHigh R C e else mLow R C e))) ∧ MW cI cJ cZ q R C L 0 dr cu u) 0 0 := by
  refine Ct.of hfl (by decide) (Nat.le_of_ble_eq_true rfl) ?_
  intro k hR _
  have hR4 := hG.2.1
  have hC3 := hG.2.2.2
  have hR1 := hG.1
  have hC1 := hG.2.2.1
  have hE := hG.E
  have hRC := hG.RC
  have hE4 := hG.E4
  have hP := hG.P
  obtain ⟨hL, hK, hMe, hJ, hdr⟩ := hI
  have hin : inB (nE R C) (nI e) = true := inB_t (by omega) hee
  show V k l D (tys3 cI cJ cZ) ({ frames := 1, cells := 0, slots := 0, locals := 21 } : Room) cX3_point 3 RX3 (wM cI cJ cZ q R C th kn me ns he nx dr nl lp cu so wi us ho nh ke ta de se) 0 0 0 [(0, .ref (q 0)), (1, .int (nI (e))), (2, .int (bI (t)))] []
  refine j_aload_n dX3_point_0 rfl 0 rfl ?_
  refine j_aload_n dX3_point_1 rfl 0 rfl ?_
  refine j_iload_n dX3_point_2 rfl 1 rfl ?_
  refine j_vW (av := [.int (nI (e))]) (cm_isEdge l hfl D cI cJ cZ q R C hG th kn me ns he nx dr nl lp cu so wi us ho nh ke ta de se (nI (e))) 0 rfl rfl mw3_117 mw3_119 msel22 mw1_4 mw3_120 rfl hd_X3_isEdge rfl ⟨rfl, rfl⟩ ⟨Nat.le_of_ble_eq_true rfl, Nat.le_of_ble_eq_true rfl⟩ ⟨Nat.zero_le _, Nat.zero_le _⟩ (Nat.le_of_ble_eq_true rfl) rfl dX3_point_3 ?_
  rintro _ _ ⟨rfl, rfl⟩
  refine j_st (st' := [.int (bI ((inB (nE R C) (nI (e))))), .ref (q 0)]) rfl ?_
  refine jb_if_eq (tgt := 13) (b := (inB (nE R C) (nI (e)))) dX3_point_6 (by decide) (fun c6 => ?_) (fun c6 => ?_)
  · exact absurd hin (by rw [c6]; decide)
  · refine j_iconst (v := nI (0)) dX3_point_9 (by decide) ?_
    refine j_goto (tgt := 14) dX3_point_10 (by decide) ?_
    refine pf_X3_103 (wM cI cJ cZ q R C 0 kn me ns he nx dr nl lp cu so wi us ho nh ke ta de se) 0 rfl (Nat.le_of_ble_eq_true rfl) rfl dX3_point_14 ?_
    refine j_aload_n dX3_point_17 rfl 0 rfl ?_
    refine gf_X3_103 0 rfl (rfl) dX3_point_18 ?_
    refine jn_if_le (tgt := 28) (a := 0) (by omega) dX3_point_21 (by decide) (fun c21 => ?_) (fun c21 => ?_)
    · refine j_iload_n dX3_point_28 rfl 2 rfl ?_
      refine jb_if_eq (tgt := 41) (b := t) dX3_point_29 (by decide) (fun c29 => ?_) (fun c29 => ?_)
      · refine j_aload_n dX3_point_41 rfl 0 rfl ?_
        refine gf_X3_7 0 rfl (rfl) dX3_point_42 ?_
        refine j_iload_n dX3_point_45 rfl 1 rfl ?_
        refine jn_iald (v := nI (mLow R C e)) 1 0 rfl rfl (by omega) (by omega) (rfl) dX3_point_46 ?_
        exact j_iret (tys' := []) rfl hR dX3_point_47 (⟨by rw [c29]; rfl, MW_of ⟨hL, hK, hMe, hJ, hdr⟩⟩)
      · refine j_aload_n dX3_point_32 rfl 0 rfl ?_
        refine gf_X3_13 0 rfl (rfl) dX3_point_33 ?_
        refine j_iload_n dX3_point_36 rfl 1 rfl ?_
        refine jn_iald (v := nI (mHigh R C e)) 2 0 rfl rfl (by omega) (by omega) (rfl) dX3_point_37 ?_
        refine j_goto (tgt := 47) dX3_point_38 (by decide) ?_
        exact j_iret (tys' := []) rfl hR dX3_point_47 (⟨by rw [c29]; rfl, MW_of ⟨hL, hK, hMe, hJ, hdr⟩⟩)
    · exact absurd c21 (by first | decide | omega)

set_option maxHeartbeats 4000000 in
set_option maxRecDepth 100000 in
theorem cm_pointX (l : Launch) (hfl : l.flags = flags0) (D : va_G) (cI cJ cZ : ClassId) (q : Nat → Nat) (R C : Nat) (hG : GS R C) (th : Nat) (kn me : Bool) (ns he nx dr nl : Nat) (lp cu so wi us ho nh : Nat → Nat) (ke : Nat → Int64) (ta de : Nat → Nat) (se : Nat → Bool) (L : List Nat) (hLO : LO R C L) (hM : MO R C cu) (hI : MI R C L cu kn me ns nl lp so wi us de se dr) (x : Int32) (hx : inB (nE R C) x = false) (t : Bool) : Ct l yX3_point cX3_point 3 (Option.some FieldType.int) ({ frames := 1, cells := 0, slots := 0, locals := 21 } : Room) D (tys3 cI cJ cZ) (tys3 cI cJ cZ) (wM cI cJ cZ q R C th kn me ns he nx dr nl lp cu so wi us ho nh ke ta de se) [.ref (q 0), .int (x), .int (bI (t))] (fun r u => r = some (.int (nI (0))) ∧ MW cI cJ cZ q R C L 1 dr cu u) 0 0 := by
  refine Ct.of hfl (by decide) (Nat.le_of_ble_eq_true rfl) ?_
  intro k hR _
  have hR4 := hG.2.1
  have hC3 := hG.2.2.2
  have hR1 := hG.1
  have hC1 := hG.2.2.1
  have hE := hG.E
  have hRC := hG.RC
  have hE4 := hG.E4
  have hP := hG.P
  obtain ⟨hL, hK, hMe, hJ, hdr⟩ := hI
  show V k l D (tys3 cI cJ cZ) ({ frames := 1, cells := 0, slots := 0, locals := 21 } : Room) cX3_point 3 RX3 (wM cI cJ cZ q R C th kn me ns he nx dr nl lp cu so wi us ho nh ke ta de se) 0 0 0 [(0, .ref (q 0)), (1, .int (x)), (2, .int (bI (t)))] []
  refine j_aload_n dX3_point_0 rfl 0 rfl ?_
  refine j_aload_n dX3_point_1 rfl 0 rfl ?_
  refine j_iload_n dX3_point_2 rfl 1 rfl ?_
  refine j_vW (av := [.int (x)]) (cm_isEdge l hfl D cI cJ cZ q R C hG th kn me ns he nx dr nl lp cu so wi us ho nh ke ta de se (x)) 0 rfl rfl mw3_117 mw3_119 msel22 mw1_4 mw3_120 rfl hd_X3_isEdge rfl ⟨rfl, rfl⟩ ⟨Nat.le_of_ble_eq_true rfl, Nat.le_of_ble_eq_true rfl⟩ ⟨Nat.zero_le _, Nat.zero_le _⟩ (Nat.le_of_ble_eq_true rfl) rfl dX3_point_3 ?_
  rintro _ _ ⟨rfl, rfl⟩
  refine j_st (st' := [.int (bI ((inB (nE R C) (x)))), .ref (q 0)]) rfl ?_
  refine jb_if_eq (tgt := 13) (b := (inB (nE R C) (x))) dX3_point_6 (by decide) (fun c6 => ?_) (fun c6 => ?_)
  · refine j_iconst (v := nI (1)) dX3_point_13 (by decide) ?_
    refine pf_X3_103 (wM cI cJ cZ q R C 1 kn me ns he nx dr nl lp cu so wi us ho nh ke ta de se) 0 rfl (Nat.le_of_ble_eq_true rfl) rfl dX3_point_14 ?_
    refine j_aload_n dX3_point_17 rfl 0 rfl ?_
    refine gf_X3_103 0 rfl (rfl) dX3_point_18 ?_
    refine jn_if_le (tgt := 28) (a := 1) (by omega) dX3_point_21 (by decide) (fun c21 => ?_) (fun c21 => ?_)
    · exact absurd c21 (by first | decide | omega)
    · refine j_iconst (v := nI (0)) dX3_point_24 (by decide) ?_
      refine j_goto (tgt := 47) dX3_point_25 (by decide) ?_
      exact j_iret (tys' := []) rfl hR dX3_point_47 (⟨rfl, MW_of ⟨hL, hK, hMe, hJ, hdr⟩⟩)
  · rw [hx] at c6; cases c6

theorem rc_lt {R C r c : Nat} (hr : r < R) (hc : c < C) : r * C + c < R * C := by
  have h1 : (r + 1) * C ≤ R * C := Nat.mul_le_mul_right C hr
  rw [Nat.add_mul, Nat.one_mul] at h1
  omega
theorem eI_g {v : Nat} (hv : v = 99 ∨ v ≤ 4) : ¬ eI v < -1 := by
  rcases hv with rfl | hv
  · decide
  · have : v = 0 ∨ v = 1 ∨ v = 2 ∨ v = 3 ∨ v = 4 := by omega
    rcases this with rfl | rfl | rfl | rfl | rfl <;> decide
theorem eI_l {v : Nat} (hv : v = 99 ∨ v ≤ 4) : eI v ≤ nI 4 := by
  rcases hv with rfl | hv
  · decide
  · have : v = 0 ∨ v = 1 ∨ v = 2 ∨ v = 3 ∨ v = 4 := by omega
    rcases this with rfl | rfl | rfl | rfl | rfl <;> decide
set_option maxHeartbeats 4000000 in
set_option maxRecDepth 100000 in
theorem cm_clue (l : Launch) (hfl : l.flags = flags0) (D : va_G) (cI cJ cZ : ClassId) (q : Nat → Nat) (R C : Nat) (hG : GS R C) (th : Nat) (kn me : Bool) (ns he nx dr nl : Nat) (lp cu so wi us ho nh : Nat → Nat) (ke : Nat → Int64) (ta de : Nat → Nat) (se : Nat → Bool) (L : List Nat) (hLO : LO R C L) (hM : MO R C cu) (hI : MI R C L cu kn me ns nl lp so wi us de se dr) (yr xc v : Nat) (hr : yr < R) (hc : xc < C) (hv : v = 99 ∨ v ≤ 4) : Ct l yX3_clue cX3_clue 5 none ({ frames := 1, cells := 0, slots := 0, locals := 22 } : Room) D (tys3 cI cJ cZ) (tys3 cI cJ cZ) (wM cI cJ cZ q R C th kn me ns he nx dr nl lp cu so wi us ho nh ke ta de se) [.ref (q 0), .int (nI (yr)), .int (nI (xc)), .int (eI (v))] (fun r u => r = none ∧ MW cI cJ cZ q R C L 0 dr (va_up cu (yr * C + xc) v) u) 0 0 := by
  refine Ct.of hfl (by decide) (Nat.le_of_ble_eq_true rfl) ?_
  intro k hR _
  have hR4 := hG.2.1
  have hC3 := hG.2.2.2
  have hR1 := hG.1
  have hC1 := hG.2.2.1
  have hE := hG.E
  have hRC := hG.RC
  have hE4 := hG.E4
  have hP := hG.P
  obtain ⟨hL, hK, hMe, hJ, hdr⟩ := hI
  have hrc : yr * C + xc < R * C := rc_lt hr hc
  have hv1 : ¬ eI v < -1 := eI_g hv
  have hv2 : eI v ≤ nI 4 := eI_l hv
  show V k l D (tys3 cI cJ cZ) ({ frames := 1, cells := 0, slots := 0, locals := 22 } : Room) cX3_clue 5 RX3 (wM cI cJ cZ q R C th kn me ns he nx dr nl lp cu so wi us ho nh ke ta de se) 0 0 0 [(0, .ref (q 0)), (1, .int (nI (yr))), (2, .int (nI (xc))), (3, .int (eI (v)))] []
  refine j_aload_n dX3_clue_0 rfl 0 rfl ?_
  refine j_iload_n dX3_clue_1 rfl 1 rfl ?_
  refine j_iload_n dX3_clue_2 rfl 2 rfl ?_
  refine j_vW (av := [.int (nI (yr)), .int (nI (xc))]) (cm_cell l hfl D cI cJ cZ q R C hG th kn me ns he nx dr nl lp cu so wi us ho nh ke ta de se (yr) (xc) hr hc) 0 rfl rfl mw2_185 mw2_187 msel8 mw1_4 mw2_188 rfl hd_X3_cell rfl ⟨rfl, rfl⟩ ⟨Nat.le_of_ble_eq_true rfl, Nat.le_of_ble_eq_true rfl⟩ ⟨Nat.zero_le _, Nat.zero_le _⟩ (Nat.le_of_ble_eq_true rfl) rfl dX3_clue_3 ?_
  rintro _ _ ⟨rfl, rfl⟩
  refine j_st (st' := [.int (nI (yr * C + xc))]) rfl ?_
  refine j_istore [(4, .int (nI (yr * C + xc))), (0, .ref (q 0)), (1, .int (nI (yr))), (2, .int (nI (xc))), (3, .int (eI (v)))] dX3_clue_6 (by decide) rfl ?_
  refine j_aload_n dX3_clue_8 rfl 1 rfl ?_
  refine j_iload dX3_clue_9 0 rfl ?_
  refine jn_if_ge (tgt := 18) (a := yr * C + xc) (by omega) dX3_clue_11 (by decide) (fun c11 => ?_) (fun c11 => ?_)
  · refine j_iload_n dX3_clue_18 rfl 4 rfl ?_
    refine j_iconst (v := (-1)) dX3_clue_19 (by decide) ?_
    refine j_icmp_lt (tgt := 28) dX3_clue_20 (by decide) (fun c20 => ?_) (fun c20 => ?_)
    · exact absurd c20 hv1
    · refine j_iload_n dX3_clue_23 rfl 4 rfl ?_
      refine j_iconst (v := nI (4)) dX3_clue_24 (by decide) ?_
      refine j_icmp_le (tgt := 32) dX3_clue_25 (by decide) (fun c25 => ?_) (fun c25 => ?_)
      · refine j_iconst (v := nI (0)) dX3_clue_32 (by decide) ?_
        refine pf_X3_103 (wM cI cJ cZ q R C 0 kn me ns he nx dr nl lp cu so wi us ho nh ke ta de se) 0 rfl (Nat.le_of_ble_eq_true rfl) rfl dX3_clue_33 ?_
        refine j_aload_n dX3_clue_36 rfl 1 rfl ?_
        refine gf_X3_103 0 rfl (rfl) dX3_clue_37 ?_
        refine jn_if_ne (tgt := 56) (a := 0) (by omega) dX3_clue_40 (by decide) (fun c40 => ?_) (fun c40 => ?_)
        · exact absurd c40 (by first | decide | omega)
        · refine j_aload_n dX3_clue_43 rfl 1 rfl ?_
          refine gf_X3_40 0 rfl (rfl) dX3_clue_44 ?_
          refine j_iload dX3_clue_47 0 rfl ?_
          refine j_iload_n dX3_clue_49 rfl 4 rfl ?_
          refine jn_iastE (wM cI cJ cZ q R C 0 kn me ns he nx dr nl lp (va_up cu (yr * C + xc) v) so wi us ho nh ke ta de se) 11 0 rfl rfl (by omega) (by omega) rfl dX3_clue_50 ?_
          refine j_aload_n dX3_clue_51 rfl 1 rfl ?_
          refine j_iconst (v := nI (0)) dX3_clue_52 (by decide) ?_
          refine j_st (st' := [.int (bI (false)), .ref (q 0)]) (by rfl) ?_
          refine pf_X3_152 (wM cI cJ cZ q R C 0 false me ns he nx dr nl lp (va_up cu (yr * C + xc) v) so wi us ho nh ke ta de se) 0 rfl (Nat.le_of_ble_eq_true rfl) (nar_bI _) (fit_bI _) rfl dX3_clue_53 ?_
          exact j_vret (tys' := []) rfl hR dX3_clue_56 (⟨rfl, MW_of ⟨hL, (fun h => nomatch h), (fun h => nomatch h), hJ, hdr⟩⟩)
      · exact absurd hv2 c25
  · exact absurd c11 (by simp)

set_option maxHeartbeats 4000000 in
set_option maxRecDepth 100000 in
theorem cm_clueV (l : Launch) (hfl : l.flags = flags0) (D : va_G) (cI cJ cZ : ClassId) (q : Nat → Nat) (R C : Nat) (hG : GS R C) (th : Nat) (kn me : Bool) (ns he nx dr nl : Nat) (lp cu so wi us ho nh : Nat → Nat) (ke : Nat → Int64) (ta de : Nat → Nat) (se : Nat → Bool) (L : List Nat) (hLO : LO R C L) (hM : MO R C cu) (hI : MI R C L cu kn me ns nl lp so wi us de se dr) (yr xc : Nat) (hr : yr < R) (hc : xc < C) (x : Int32) (hx : x < -1 ∨ ¬ x ≤ nI 4) : Ct l yX3_clue cX3_clue 5 none ({ frames := 1, cells := 0, slots := 0, locals := 22 } : Room) D (tys3 cI cJ cZ) (tys3 cI cJ cZ) (wM cI cJ cZ q R C th kn me ns he nx dr nl lp cu so wi us ho nh ke ta de se) [.ref (q 0), .int (nI (yr)), .int (nI (xc)), .int (x)] (fun r u => r = none ∧ MW cI cJ cZ q R C L 2 dr cu u) 0 0 := by
  refine Ct.of hfl (by decide) (Nat.le_of_ble_eq_true rfl) ?_
  intro k hR _
  have hR4 := hG.2.1
  have hC3 := hG.2.2.2
  have hR1 := hG.1
  have hC1 := hG.2.2.1
  have hE := hG.E
  have hRC := hG.RC
  have hE4 := hG.E4
  have hP := hG.P
  obtain ⟨hL, hK, hMe, hJ, hdr⟩ := hI
  have hrc : yr * C + xc < R * C := rc_lt hr hc
  show V k l D (tys3 cI cJ cZ) ({ frames := 1, cells := 0, slots := 0, locals := 22 } : Room) cX3_clue 5 RX3 (wM cI cJ cZ q R C th kn me ns he nx dr nl lp cu so wi us ho nh ke ta de se) 0 0 0 [(0, .ref (q 0)), (1, .int (nI (yr))), (2, .int (nI (xc))), (3, .int (x))] []
  refine j_aload_n dX3_clue_0 rfl 0 rfl ?_
  refine j_iload_n dX3_clue_1 rfl 1 rfl ?_
  refine j_iload_n dX3_clue_2 rfl 2 rfl ?_
  refine j_vW (av := [.int (nI (yr)), .int (nI (xc))]) (cm_cell l hfl D cI cJ cZ q R C hG th kn me ns he nx dr nl lp cu so wi us ho nh ke ta de se (yr) (xc) hr hc) 0 rfl rfl mw2_185 mw2_187 msel8 mw1_4 mw2_188 rfl hd_X3_cell rfl ⟨rfl, rfl⟩ ⟨Nat.le_of_ble_eq_true rfl, Nat.le_of_ble_eq_true rfl⟩ ⟨Nat.zero_le _, Nat.zero_le _⟩ (Nat.le_of_ble_eq_true rfl) rfl dX3_clue_3 ?_
  rintro _ _ ⟨rfl, rfl⟩
  refine j_st (st' := [.int (nI (yr * C + xc))]) rfl ?_
  refine j_istore [(4, .int (nI (yr * C + xc))), (0, .ref (q 0)), (1, .int (nI (yr))), (2, .int (nI (xc))), (3, .int (x))] dX3_clue_6 (by decide) rfl ?_
  refine j_aload_n dX3_clue_8 rfl 1 rfl ?_
  refine j_iload dX3_clue_9 0 rfl ?_
  refine jn_if_ge (tgt := 18) (a := yr * C + xc) (by omega) dX3_clue_11 (by decide) (fun c11 => ?_) (fun c11 => ?_)
  · refine j_iload_n dX3_clue_18 rfl 4 rfl ?_
    refine j_iconst (v := (-1)) dX3_clue_19 (by decide) ?_
    refine j_icmp_lt (tgt := 28) dX3_clue_20 (by decide) (fun c20 => ?_) (fun c20 => ?_)
    · refine j_iconst (v := nI (2)) dX3_clue_28 (by decide) ?_
      refine j_goto (tgt := 33) dX3_clue_29 (by decide) ?_
      refine pf_X3_103 (wM cI cJ cZ q R C 2 kn me ns he nx dr nl lp cu so wi us ho nh ke ta de se) 0 rfl (Nat.le_of_ble_eq_true rfl) rfl dX3_clue_33 ?_
      refine j_aload_n dX3_clue_36 rfl 1 rfl ?_
      refine gf_X3_103 0 rfl (rfl) dX3_clue_37 ?_
      refine jn_if_ne (tgt := 56) (a := 2) (by omega) dX3_clue_40 (by decide) (fun c40 => ?_) (fun c40 => ?_)
      · exact j_vret (tys' := []) rfl hR dX3_clue_56 (⟨rfl, MW_of ⟨hL, hK, hMe, hJ, hdr⟩⟩)
      · exact absurd c40 (by first | decide | omega)
    · refine j_iload_n dX3_clue_23 rfl 4 rfl ?_
      refine j_iconst (v := nI (4)) dX3_clue_24 (by decide) ?_
      refine j_icmp_le (tgt := 32) dX3_clue_25 (by decide) (fun c25 => ?_) (fun c25 => ?_)
      · exact absurd hx (by intro h; rcases h with h | h; exact c20 h; exact h c25)
      · refine j_iconst (v := nI (2)) dX3_clue_28 (by decide) ?_
        refine j_goto (tgt := 33) dX3_clue_29 (by decide) ?_
        refine pf_X3_103 (wM cI cJ cZ q R C 2 kn me ns he nx dr nl lp cu so wi us ho nh ke ta de se) 0 rfl (Nat.le_of_ble_eq_true rfl) rfl dX3_clue_33 ?_
        refine j_aload_n dX3_clue_36 rfl 1 rfl ?_
        refine gf_X3_103 0 rfl (rfl) dX3_clue_37 ?_
        refine jn_if_ne (tgt := 56) (a := 2) (by omega) dX3_clue_40 (by decide) (fun c40 => ?_) (fun c40 => ?_)
        · exact j_vret (tys' := []) rfl hR dX3_clue_56 (⟨rfl, MW_of ⟨hL, hK, hMe, hJ, hdr⟩⟩)
        · exact absurd c40 (by first | decide | omega)
  · exact absurd c11 (by simp)

set_option maxHeartbeats 4000000 in
set_option maxRecDepth 100000 in
theorem cm_clueX (l : Launch) (hfl : l.flags = flags0) (D : va_G) (cI cJ cZ : ClassId) (q : Nat → Nat) (R C : Nat) (hG : GS R C) (th : Nat) (kn me : Bool) (ns he nx dr nl : Nat) (lp cu so wi us ho nh : Nat → Nat) (ke : Nat → Int64) (ta de : Nat → Nat) (se : Nat → Bool) (L : List Nat) (hLO : LO R C L) (hM : MO R C cu) (hI : MI R C L cu kn me ns nl lp so wi us de se dr) (x y z : Int32) (hxy : (inB R x && inB C y) = false) : Ct l yX3_clue cX3_clue 5 none ({ frames := 1, cells := 0, slots := 0, locals := 22 } : Room) D (tys3 cI cJ cZ) (tys3 cI cJ cZ) (wM cI cJ cZ q R C th kn me ns he nx dr nl lp cu so wi us ho nh ke ta de se) [.ref (q 0), .int (x), .int (y), .int (z)] (fun r u => r = none ∧ MW cI cJ cZ q R C L 1 dr cu u) 0 0 := by
  refine Ct.of hfl (by decide) (Nat.le_of_ble_eq_true rfl) ?_
  intro k hR _
  have hR4 := hG.2.1
  have hC3 := hG.2.2.2
  have hR1 := hG.1
  have hC1 := hG.2.2.1
  have hE := hG.E
  have hRC := hG.RC
  have hE4 := hG.E4
  have hP := hG.P
  obtain ⟨hL, hK, hMe, hJ, hdr⟩ := hI
  show V k l D (tys3 cI cJ cZ) ({ frames := 1, cells := 0, slots := 0, locals := 22 } : Room) cX3_clue 5 RX3 (wM cI cJ cZ q R C th kn me ns he nx dr nl lp cu so wi us ho nh ke ta de se) 0 0 0 [(0, .ref (q 0)), (1, .int (x)), (2, .int (y)), (3, .int (z))] []
  refine j_aload_n dX3_clue_0 rfl 0 rfl ?_
  refine j_iload_n dX3_clue_1 rfl 1 rfl ?_
  refine j_iload_n dX3_clue_2 rfl 2 rfl ?_
  refine j_vW (av := [.int (x), .int (y)]) (cm_cellX l hfl D cI cJ cZ q R C hG th kn me ns he nx dr nl lp cu so wi us ho nh ke ta de se (x) (y) hxy) 0 rfl rfl mw2_185 mw2_187 msel8 mw1_4 mw2_188 rfl hd_X3_cell rfl ⟨rfl, rfl⟩ ⟨Nat.le_of_ble_eq_true rfl, Nat.le_of_ble_eq_true rfl⟩ ⟨Nat.zero_le _, Nat.zero_le _⟩ (Nat.le_of_ble_eq_true rfl) rfl dX3_clue_3 ?_
  rintro _ _ ⟨rfl, rfl⟩
  refine j_st (st' := [.int ((-1))]) rfl ?_
  refine j_istore [(4, .int ((-1))), (0, .ref (q 0)), (1, .int (x)), (2, .int (y)), (3, .int (z))] dX3_clue_6 (by decide) rfl ?_
  refine j_aload_n dX3_clue_8 rfl 1 rfl ?_
  refine j_iload dX3_clue_9 0 rfl ?_
  refine j_if_ge (tgt := 18) dX3_clue_11 (by decide) (fun c11 => ?_) (fun c11 => ?_)
  · exact absurd c11 (by decide)
  · refine j_iconst (v := nI (1)) dX3_clue_14 (by decide) ?_
    refine j_goto (tgt := 33) dX3_clue_15 (by decide) ?_
    refine pf_X3_103 (wM cI cJ cZ q R C 1 kn me ns he nx dr nl lp cu so wi us ho nh ke ta de se) 0 rfl (Nat.le_of_ble_eq_true rfl) rfl dX3_clue_33 ?_
    refine j_aload_n dX3_clue_36 rfl 1 rfl ?_
    refine gf_X3_103 0 rfl (rfl) dX3_clue_37 ?_
    refine jn_if_ne (tgt := 56) (a := 1) (by omega) dX3_clue_40 (by decide) (fun c40 => ?_) (fun c40 => ?_)
    · exact j_vret (tys' := []) rfl hR dX3_clue_56 (⟨rfl, MW_of ⟨hL, hK, hMe, hJ, hdr⟩⟩)
    · exact absurd c40 (by first | decide | omega)

set_option maxHeartbeats 4000000 in
set_option maxRecDepth 100000 in
theorem cm_clueOf (l : Launch) (hfl : l.flags = flags0) (D : va_G) (cI cJ cZ : ClassId) (q : Nat → Nat) (R C : Nat) (hG : GS R C) (th : Nat) (kn me : Bool) (ns he nx dr nl : Nat) (lp cu so wi us ho nh : Nat → Nat) (ke : Nat → Int64) (ta de : Nat → Nat) (se : Nat → Bool) (L : List Nat) (hLO : LO R C L) (hM : MO R C cu) (hI : MI R C L cu kn me ns nl lp so wi us de se dr) (yr xc : Nat) (hr : yr < R) (hc : xc < C) : Ct l yX3_clueOf cX3_clueOf 4 (Option.some FieldType.int) ({ frames := 1, cells := 0, slots := 0, locals := 22 } : Room) D (tys3 cI cJ cZ) (tys3 cI cJ cZ) (wM cI cJ cZ q R C th kn me ns he nx dr nl lp cu so wi us ho nh ke ta de se) [.ref (q 0), .int (nI (yr)), .int (nI (xc))] (fun r u => r = some (.int (eI (cu (yr * C + xc)))) ∧ MW cI cJ cZ q R C L 0 dr cu u) 0 0 := by
  refine Ct.of hfl (by decide) (Nat.le_of_ble_eq_true rfl) ?_
  intro k hR _
  have hR4 := hG.2.1
  have hC3 := hG.2.2.2
  have hR1 := hG.1
  have hC1 := hG.2.2.1
  have hE := hG.E
  have hRC := hG.RC
  have hE4 := hG.E4
  have hP := hG.P
  obtain ⟨hL, hK, hMe, hJ, hdr⟩ := hI
  have hrc : yr * C + xc < R * C := rc_lt hr hc
  show V k l D (tys3 cI cJ cZ) ({ frames := 1, cells := 0, slots := 0, locals := 22 } : Room) cX3_clueOf 4 RX3 (wM cI cJ cZ q R C th kn me ns he nx dr nl lp cu so wi us ho nh ke ta de se) 0 0 0 [(0, .ref (q 0)), (1, .int (nI (yr))), (2, .int (nI (xc)))] []
  refine j_aload_n dX3_clueOf_0 rfl 0 rfl ?_
  refine j_iload_n dX3_clueOf_1 rfl 1 rfl ?_
  refine j_iload_n dX3_clueOf_2 rfl 2 rfl ?_
  refine j_vW (av := [.int (nI (yr)), .int (nI (xc))]) (cm_cell l hfl D cI cJ cZ q R C hG th kn me ns he nx dr nl lp cu so wi us ho nh ke ta de se (yr) (xc) hr hc) 0 rfl rfl mw2_185 mw2_187 msel8 mw1_4 mw2_188 rfl hd_X3_cell rfl ⟨rfl, rfl⟩ ⟨Nat.le_of_ble_eq_true rfl, Nat.le_of_ble_eq_true rfl⟩ ⟨Nat.zero_le _, Nat.zero_le _⟩ (Nat.le_of_ble_eq_true rfl) rfl dX3_clueOf_3 ?_
  rintro _ _ ⟨rfl, rfl⟩
  refine j_st (st' := [.int (nI (yr * C + xc))]) rfl ?_
  refine j_istore_n [(3, .int (nI (yr * C + xc))), (0, .ref (q 0)), (1, .int (nI (yr))), (2, .int (nI (xc)))] dX3_clueOf_6 rfl (by decide) rfl ?_
  refine j_aload_n dX3_clueOf_7 rfl 1 rfl ?_
  refine j_iload_n dX3_clueOf_8 rfl 0 rfl ?_
  refine jn_if_ge (tgt := 16) (a := yr * C + xc) (by omega) dX3_clueOf_9 (by decide) (fun c9 => ?_) (fun c9 => ?_)
  · refine j_iconst (v := nI (0)) dX3_clueOf_16 (by decide) ?_
    refine pf_X3_103 (wM cI cJ cZ q R C 0 kn me ns he nx dr nl lp cu so wi us ho nh ke ta de se) 0 rfl (Nat.le_of_ble_eq_true rfl) rfl dX3_clueOf_17 ?_
    refine j_iload_n dX3_clueOf_20 rfl 0 rfl ?_
    refine jn_if_ge (tgt := 28) (a := yr * C + xc) (by omega) dX3_clueOf_21 (by decide) (fun c21 => ?_) (fun c21 => ?_)
    · refine j_aload_n dX3_clueOf_28 rfl 1 rfl ?_
      refine gf_X3_40 0 rfl (rfl) dX3_clueOf_29 ?_
      refine j_iload_n dX3_clueOf_32 rfl 0 rfl ?_
      refine jn_iald (v := eI (cu (yr * C + xc))) 11 0 rfl rfl (by omega) (by omega) (rfl) dX3_clueOf_33 ?_
      exact j_iret (tys' := []) rfl hR dX3_clueOf_34 (⟨rfl, MW_of ⟨hL, hK, hMe, hJ, hdr⟩⟩)
    · exact absurd c21 (by simp)
  · exact absurd c9 (by simp)

set_option maxHeartbeats 4000000 in
set_option maxRecDepth 100000 in
theorem cm_clueOfX (l : Launch) (hfl : l.flags = flags0) (D : va_G) (cI cJ cZ : ClassId) (q : Nat → Nat) (R C : Nat) (hG : GS R C) (th : Nat) (kn me : Bool) (ns he nx dr nl : Nat) (lp cu so wi us ho nh : Nat → Nat) (ke : Nat → Int64) (ta de : Nat → Nat) (se : Nat → Bool) (L : List Nat) (hLO : LO R C L) (hM : MO R C cu) (hI : MI R C L cu kn me ns nl lp so wi us de se dr) (x y : Int32) (hxy : (inB R x && inB C y) = false) : Ct l yX3_clueOf cX3_clueOf 4 (Option.some FieldType.int) ({ frames := 1, cells := 0, slots := 0, locals := 22 } : Room) D (tys3 cI cJ cZ) (tys3 cI cJ cZ) (wM cI cJ cZ q R C th kn me ns he nx dr nl lp cu so wi us ho nh ke ta de se) [.ref (q 0), .int (x), .int (y)] (fun r u => r = some (.int (nI (0))) ∧ MW cI cJ cZ q R C L 1 dr cu u) 0 0 := by
  refine Ct.of hfl (by decide) (Nat.le_of_ble_eq_true rfl) ?_
  intro k hR _
  have hR4 := hG.2.1
  have hC3 := hG.2.2.2
  have hR1 := hG.1
  have hC1 := hG.2.2.1
  have hE := hG.E
  have hRC := hG.RC
  have hE4 := hG.E4
  have hP := hG.P
  obtain ⟨hL, hK, hMe, hJ, hdr⟩ := hI
  show V k l D (tys3 cI cJ cZ) ({ frames := 1, cells := 0, slots := 0, locals := 22 } : Room) cX3_clueOf 4 RX3 (wM cI cJ cZ q R C th kn me ns he nx dr nl lp cu so wi us ho nh ke ta de se) 0 0 0 [(0, .ref (q 0)), (1, .int (x)), (2, .int (y))] []
  refine j_aload_n dX3_clueOf_0 rfl 0 rfl ?_
  refine j_iload_n dX3_clueOf_1 rfl 1 rfl ?_
  refine j_iload_n dX3_clueOf_2 rfl 2 rfl ?_
  refine j_vW (av := [.int (x), .int (y)]) (cm_cellX l hfl D cI cJ cZ q R C hG th kn me ns he nx dr nl lp cu so wi us ho nh ke ta de se (x) (y) hxy) 0 rfl rfl mw2_185 mw2_187 msel8 mw1_4 mw2_188 rfl hd_X3_cell rfl ⟨rfl, rfl⟩ ⟨Nat.le_of_ble_eq_true rfl, Nat.le_of_ble_eq_true rfl⟩ ⟨Nat.zero_le _, Nat.zero_le _⟩ (Nat.le_of_ble_eq_true rfl) rfl dX3_clueOf_3 ?_
  rintro _ _ ⟨rfl, rfl⟩
  refine j_st (st' := [.int ((-1))]) rfl ?_
  refine j_istore_n [(3, .int ((-1))), (0, .ref (q 0)), (1, .int (x)), (2, .int (y))] dX3_clueOf_6 rfl (by decide) rfl ?_
  refine j_aload_n dX3_clueOf_7 rfl 1 rfl ?_
  refine j_iload_n dX3_clueOf_8 rfl 0 rfl ?_
  refine j_if_ge (tgt := 16) dX3_clueOf_9 (by decide) (fun c9 => ?_) (fun c9 => ?_)
  · exact absurd c9 (by decide)
  · refine j_iconst (v := nI (1)) dX3_clueOf_12 (by decide) ?_
    refine j_goto (tgt := 17) dX3_clueOf_13 (by decide) ?_
    refine pf_X3_103 (wM cI cJ cZ q R C 1 kn me ns he nx dr nl lp cu so wi us ho nh ke ta de se) 0 rfl (Nat.le_of_ble_eq_true rfl) rfl dX3_clueOf_17 ?_
    refine j_iload_n dX3_clueOf_20 rfl 0 rfl ?_
    refine j_if_ge (tgt := 28) dX3_clueOf_21 (by decide) (fun c21 => ?_) (fun c21 => ?_)
    · exact absurd c21 (by decide)
    · refine j_iconst (v := nI (0)) dX3_clueOf_24 (by decide) ?_
      refine j_goto (tgt := 34) dX3_clueOf_25 (by decide) ?_
      exact j_iret (tys' := []) rfl hR dX3_clueOf_34 (⟨rfl, MW_of ⟨hL, hK, hMe, hJ, hdr⟩⟩)

set_option maxHeartbeats 4000000 in
set_option maxRecDepth 100000 in
theorem cm_count (l : Launch) (hfl : l.flags = flags0) (D : va_G) (cI cJ cZ : ClassId) (q : Nat → Nat) (R C : Nat) (hG : GS R C) (th : Nat) (kn me : Bool) (ns he nx dr nl : Nat) (lp cu so wi us ho nh : Nat → Nat) (ke : Nat → Int64) (ta de : Nat → Nat) (se : Nat → Bool) (L : List Nat) (hLO : LO R C L) (hM : MO R C cu) (hI : MI R C L cu kn me ns nl lp so wi us de se dr) : Ct l yX3_count cX3_count 1 (Option.some FieldType.int) ({ frames := 4, cells := 0, slots := 0, locals := 88 } : Room) D (tys3 cI cJ cZ) (tys3 cI cJ cZ) (wM cI cJ cZ q R C th kn me ns he nx dr nl lp cu so wi us ho nh ke ta de se) [.ref (q 0)] (fun r u => r = some (.int (nI ((sol R C cu L).length))) ∧ MW cI cJ cZ q R C L 0 dr cu u) 0 0 := by
  refine Ct.of hfl (by decide) (Nat.le_of_ble_eq_true rfl) ?_
  intro k hR _
  have hR4 := hG.2.1
  have hC3 := hG.2.2.2
  have hR1 := hG.1
  have hC1 := hG.2.2.1
  have hE := hG.E
  have hRC := hG.RC
  have hE4 := hG.E4
  have hP := hG.P
  obtain ⟨hL, hK, hMe, hJ, hdr⟩ := hI
  show V k l D (tys3 cI cJ cZ) ({ frames := 4, cells := 0, slots := 0, locals := 88 } : Room) cX3_count 1 RX3 (wM cI cJ cZ q R C th kn me ns he nx dr nl lp cu so wi us ho nh ke ta de se) 0 0 0 [(0, .ref (q 0))] []
  refine j_aload_n dX3_count_0 rfl 0 rfl ?_
  refine j_iconst (v := nI (0)) dX3_count_1 (by decide) ?_
  refine pf_X3_103 (wM cI cJ cZ q R C 0 kn me ns he nx dr nl lp cu so wi us ho nh ke ta de se) 0 rfl (Nat.le_of_ble_eq_true rfl) rfl dX3_count_2 ?_
  refine j_aload_n dX3_count_5 rfl 0 rfl ?_
  refine j_vW (av := []) (c_find l hfl D cI cJ cZ q R C hG 0 kn me ns he nx dr nl lp cu so wi us ho nh ke ta de se hM.1 L hL hLO.1 hLO.2.1 hK) 0 rfl rfl mw3_133 mw3_135 msel23 mw1_4 mw3_136 rfl hd_X3_find rfl ⟨rfl, rfl⟩ ⟨Nat.le_of_ble_eq_true rfl, Nat.le_of_ble_eq_true rfl⟩ ⟨Nat.zero_le _, Nat.zero_le _⟩ (Nat.le_of_ble_eq_true rfl) rfl dX3_count_6 ?_
  rintro _ _ ⟨rfl, ns5, so5, hH5, rfl⟩
  refine j_st (st' := []) rfl ?_
  refine j_aload_n dX3_count_9 rfl 0 rfl ?_
  refine gf_X3_159 0 rfl (rfl) dX3_count_10 ?_
  exact j_iret (tys' := []) rfl hR dX3_count_13 (⟨by rw [hH5.1], MW_of ⟨hL, fun _ => hH5, fun _ h => hMe (by revert h; cases kn <;> simp) (by revert h; cases kn <;> simp), hJ, hdr⟩⟩)

set_option maxHeartbeats 4000000 in
set_option maxRecDepth 100000 in
theorem cm_width (l : Launch) (hfl : l.flags = flags0) (D : va_G) (cI cJ cZ : ClassId) (q : Nat → Nat) (R C : Nat) (hG : GS R C) (th : Nat) (kn me : Bool) (ns he nx dr nl : Nat) (lp cu so wi us ho nh : Nat → Nat) (ke : Nat → Int64) (ta de : Nat → Nat) (se : Nat → Bool) (L : List Nat) (hLO : LO R C L) (hM : MO R C cu) (hI : MI R C L cu kn me ns nl lp so wi us de se dr) (kq : Nat) (hk : kq ≤ nE R C) (t : Bool) : Ct l yX3_width cX3_width 3 (Option.some FieldType.int) ({ frames := 8, cells := 0, slots := 0, locals := 186 } : Room) D (tys3 cI cJ cZ) (tys3 cI cJ cZ) (wM cI cJ cZ q R C th kn me ns he nx dr nl lp cu so wi us ho nh ke ta de se) [.ref (q 0), .int (nI (kq)), .int (bI (t))] (fun r u => r = some (.int (nI (if t then usM R C cu (sol R C cu L) kq else (Lm R C cu kq).length))) ∧ MW cI cJ cZ q R C L 0 dr cu u) 0 0 := by
  refine Ct.of hfl (by decide) (Nat.le_of_ble_eq_true rfl) ?_
  intro k hR _
  have hR4 := hG.2.1
  have hC3 := hG.2.2.2
  have hR1 := hG.1
  have hC1 := hG.2.2.1
  have hE := hG.E
  have hRC := hG.RC
  have hE4 := hG.E4
  have hP := hG.P
  obtain ⟨hL, hK, hMe, hJ, hdr⟩ := hI
  show V k l D (tys3 cI cJ cZ) ({ frames := 8, cells := 0, slots := 0, locals := 186 } : Room) cX3_width 3 RX3 (wM cI cJ cZ q R C th kn me ns he nx dr nl lp cu so wi us ho nh ke ta de se) 0 0 0 [(0, .ref (q 0)), (1, .int (nI (kq))), (2, .int (bI (t)))] []
  refine j_aload_n dX3_width_0 rfl 0 rfl ?_
  refine j_iload_n dX3_width_1 rfl 1 rfl ?_
  refine jn_if_lt (tgt := 13) (a := kq) (by omega) dX3_width_2 (by decide) (fun c2 => ?_) (fun c2 => ?_)
  · exact absurd c2 (by simp)
  · refine j_iload_n dX3_width_5 rfl 1 rfl ?_
    refine j_aload_n dX3_width_6 rfl 0 rfl ?_
    refine gf_X3_93 0 rfl (rfl) dX3_width_7 ?_
    refine jn_icmp_le (tgt := 17) (a := kq) (b := nE R C) (by omega) (by omega) dX3_width_10 (by decide) (fun c10 => ?_) (fun c10 => ?_)
    · refine j_iconst (v := nI (0)) dX3_width_17 (by decide) ?_
      refine pf_X3_103 (wM cI cJ cZ q R C 0 kn me ns he nx dr nl lp cu so wi us ho nh ke ta de se) 0 rfl (Nat.le_of_ble_eq_true rfl) rfl dX3_width_18 ?_
      refine j_aload_n dX3_width_21 rfl 0 rfl ?_
      refine gf_X3_103 0 rfl (rfl) dX3_width_22 ?_
      refine jn_if_le (tgt := 30) (a := 0) (by omega) dX3_width_25 (by decide) (fun c25 => ?_) (fun c25 => ?_)
      · refine j_aload_n dX3_width_30 rfl 0 rfl ?_
        refine j_vW (av := []) (c_measureLevels l hfl D cI cJ cZ q R C hG 0 kn me ns he nx dr nl lp cu so wi us ho nh ke ta de se hJ hM L hL hLO hK hMe) 0 rfl rfl mw3_149 mw3_151 msel26 mw1_4 mw3_152 rfl hd_X3_measureLevels rfl ⟨rfl, rfl⟩ ⟨Nat.le_of_ble_eq_true rfl, Nat.le_of_ble_eq_true rfl⟩ ⟨Nat.zero_le _, Nat.zero_le _⟩ (Nat.le_of_ble_eq_true rfl) rfl dX3_width_31 ?_
        rintro _ _ ⟨rfl, ns9, so9, wi9, us9, he9, nx9, ho9, nh9, ke9, ta9, de9, se9, hH9, hE9, hJ9, rfl⟩
        refine j_st (st' := []) rfl ?_
        refine j_iload_n dX3_width_34 rfl 2 rfl ?_
        refine jb_if_eq (tgt := 47) (b := t) dX3_width_35 (by decide) (fun c35 => ?_) (fun c35 => ?_)
        · refine j_aload_n dX3_width_47 rfl 0 rfl ?_
          refine gf_X3_46 0 rfl (rfl) dX3_width_48 ?_
          refine j_iload_n dX3_width_51 rfl 1 rfl ?_
          refine jn_iald (v := nI (wi9 kq)) 13 0 rfl rfl (by omega) (by omega) (rfl) dX3_width_52 ?_
          exact j_iret (tys' := []) rfl hR dX3_width_53 (⟨by rw [c35, ← (hE9 kq hk).1]; rfl, MW_of ⟨hL, fun _ => hH9, fun _ _ => hE9, hJ9, hdr⟩⟩)
        · refine j_aload_n dX3_width_38 rfl 0 rfl ?_
          refine gf_X3_49 0 rfl (rfl) dX3_width_39 ?_
          refine j_iload_n dX3_width_42 rfl 1 rfl ?_
          refine jn_iald (v := nI (us9 kq)) 14 0 rfl rfl (by omega) (by omega) (rfl) dX3_width_43 ?_
          refine j_goto (tgt := 53) dX3_width_44 (by decide) ?_
          exact j_iret (tys' := []) rfl hR dX3_width_53 (⟨by rw [c35, ← (hE9 kq hk).2]; rfl, MW_of ⟨hL, fun _ => hH9, fun _ _ => hE9, hJ9, hdr⟩⟩)
      · exact absurd c25 (by first | decide | omega)
    · exfalso; omega


theorem wid_x {n : Nat} {x : Int32} (hn : n < 32) (hx : inB (n + 1) x = false) (h : ¬ x < 0) : ¬ x ≤ nI n := fun h2 => by
  rcases pk_ix x (n := n + 1) (by omega) with h1 | h1 | ⟨j, h1, rfl⟩
  · exact h h1
  · have h3 := (nI_leI (a := n + 1) (b := n) (by omega) (by omega)).mp (by rw [Int32.le_iff_toInt_le] at h1 h2 ⊢; omega)
    omega
  · rw [inB_t (by omega) h1] at hx; cases hx
set_option maxHeartbeats 4000000 in
set_option maxRecDepth 100000 in
theorem cm_widthX (l : Launch) (hfl : l.flags = flags0) (D : va_G) (cI cJ cZ : ClassId) (q : Nat → Nat) (R C : Nat) (hG : GS R C) (th : Nat) (kn me : Bool) (ns he nx dr nl : Nat) (lp cu so wi us ho nh : Nat → Nat) (ke : Nat → Int64) (ta de : Nat → Nat) (se : Nat → Bool) (L : List Nat) (hLO : LO R C L) (hM : MO R C cu) (hI : MI R C L cu kn me ns nl lp so wi us de se dr) (x : Int32) (hx : inB (nE R C + 1) x = false) (t : Bool) : Ct l yX3_width cX3_width 3 (Option.some FieldType.int) ({ frames := 8, cells := 0, slots := 0, locals := 186 } : Room) D (tys3 cI cJ cZ) (tys3 cI cJ cZ) (wM cI cJ cZ q R C th kn me ns he nx dr nl lp cu so wi us ho nh ke ta de se) [.ref (q 0), .int (x), .int (bI (t))] (fun r u => r = some (.int (nI (0))) ∧ MW cI cJ cZ q R C L 1 dr cu u) 0 0 := by
  refine Ct.of hfl (by decide) (Nat.le_of_ble_eq_true rfl) ?_
  intro k hR _
  have hR4 := hG.2.1
  have hC3 := hG.2.2.2
  have hR1 := hG.1
  have hC1 := hG.2.2.1
  have hE := hG.E
  have hRC := hG.RC
  have hE4 := hG.E4
  have hP := hG.P
  obtain ⟨hL, hK, hMe, hJ, hdr⟩ := hI
  show V k l D (tys3 cI cJ cZ) ({ frames := 8, cells := 0, slots := 0, locals := 186 } : Room) cX3_width 3 RX3 (wM cI cJ cZ q R C th kn me ns he nx dr nl lp cu so wi us ho nh ke ta de se) 0 0 0 [(0, .ref (q 0)), (1, .int (x)), (2, .int (bI (t)))] []
  refine j_aload_n dX3_width_0 rfl 0 rfl ?_
  refine j_iload_n dX3_width_1 rfl 1 rfl ?_
  refine j_if_lt (tgt := 13) dX3_width_2 (by decide) (fun c2 => ?_) (fun c2 => ?_)
  · refine j_iconst (v := nI (1)) dX3_width_13 (by decide) ?_
    refine j_goto (tgt := 18) dX3_width_14 (by decide) ?_
    refine pf_X3_103 (wM cI cJ cZ q R C 1 kn me ns he nx dr nl lp cu so wi us ho nh ke ta de se) 0 rfl (Nat.le_of_ble_eq_true rfl) rfl dX3_width_18 ?_
    refine j_aload_n dX3_width_21 rfl 0 rfl ?_
    refine gf_X3_103 0 rfl (rfl) dX3_width_22 ?_
    refine jn_if_le (tgt := 30) (a := 1) (by omega) dX3_width_25 (by decide) (fun c25 => ?_) (fun c25 => ?_)
    · exact absurd c25 (by first | decide | omega)
    · refine j_iconst (v := nI (0)) dX3_width_28 (by decide) ?_
      exact j_iret (tys' := []) rfl hR dX3_width_29 (⟨rfl, MW_of ⟨hL, hK, hMe, hJ, hdr⟩⟩)
  · refine j_iload_n dX3_width_5 rfl 1 rfl ?_
    refine j_aload_n dX3_width_6 rfl 0 rfl ?_
    refine gf_X3_93 0 rfl (rfl) dX3_width_7 ?_
    refine j_icmp_le (tgt := 17) dX3_width_10 (by decide) (fun c10 => ?_) (fun c10 => ?_)
    · exact absurd c10 (wid_x hE hx c2)
    · refine j_iconst (v := nI (1)) dX3_width_13 (by decide) ?_
      refine j_goto (tgt := 18) dX3_width_14 (by decide) ?_
      refine pf_X3_103 (wM cI cJ cZ q R C 1 kn me ns he nx dr nl lp cu so wi us ho nh ke ta de se) 0 rfl (Nat.le_of_ble_eq_true rfl) rfl dX3_width_18 ?_
      refine j_aload_n dX3_width_21 rfl 0 rfl ?_
      refine gf_X3_103 0 rfl (rfl) dX3_width_22 ?_
      refine jn_if_le (tgt := 30) (a := 1) (by omega) dX3_width_25 (by decide) (fun c25 => ?_) (fun c25 => ?_)
      · exact absurd c25 (by first | decide | omega)
      · refine j_iconst (v := nI (0)) dX3_width_28 (by decide) ?_
        exact j_iret (tys' := []) rfl hR dX3_width_29 (⟨rfl, MW_of ⟨hL, hK, hMe, hJ, hdr⟩⟩)

set_option maxHeartbeats 4000000 in
set_option maxRecDepth 100000 in
theorem cm_nodes (l : Launch) (hfl : l.flags = flags0) (D : va_G) (cI cJ cZ : ClassId) (q : Nat → Nat) (R C : Nat) (hG : GS R C) (th : Nat) (kn me : Bool) (ns he nx dr nl : Nat) (lp cu so wi us ho nh : Nat → Nat) (ke : Nat → Int64) (ta de : Nat → Nat) (se : Nat → Bool) (L : List Nat) (hLO : LO R C L) (hM : MO R C cu) (hI : MI R C L cu kn me ns nl lp so wi us de se dr) : Ct l yX3_nodes cX3_nodes 3 (Option.some FieldType.int) ({ frames := 8, cells := 0, slots := 0, locals := 186 } : Room) D (tys3 cI cJ cZ) (tys3 cI cJ cZ) (wM cI cJ cZ q R C th kn me ns he nx dr nl lp cu so wi us ho nh ke ta de se) [.ref (q 0)] (fun r u => r = some (.int (nI (ndA R C cu (nE R C + 1)))) ∧ MW cI cJ cZ q R C L 0 dr cu u) 0 0 := by
  refine Ct.of hfl (by decide) (Nat.le_of_ble_eq_true rfl) ?_
  intro k hR _
  have hR4 := hG.2.1
  have hC3 := hG.2.2.2
  have hR1 := hG.1
  have hC1 := hG.2.2.1
  have hE := hG.E
  have hRC := hG.RC
  have hE4 := hG.E4
  have hP := hG.P
  obtain ⟨hL, hK, hMe, hJ, hdr⟩ := hI
  show V k l D (tys3 cI cJ cZ) ({ frames := 8, cells := 0, slots := 0, locals := 186 } : Room) cX3_nodes 3 RX3 (wM cI cJ cZ q R C th kn me ns he nx dr nl lp cu so wi us ho nh ke ta de se) 0 0 0 [(0, .ref (q 0))] []
  refine j_aload_n dX3_nodes_0 rfl 0 rfl ?_
  refine j_iconst (v := nI (0)) dX3_nodes_1 (by decide) ?_
  refine pf_X3_103 (wM cI cJ cZ q R C 0 kn me ns he nx dr nl lp cu so wi us ho nh ke ta de se) 0 rfl (Nat.le_of_ble_eq_true rfl) rfl dX3_nodes_2 ?_
  refine j_aload_n dX3_nodes_5 rfl 0 rfl ?_
  refine j_vW (av := []) (c_measureLevels l hfl D cI cJ cZ q R C hG 0 kn me ns he nx dr nl lp cu so wi us ho nh ke ta de se hJ hM L hL hLO hK hMe) 0 rfl rfl mw3_149 mw3_151 msel26 mw1_4 mw3_152 rfl hd_X3_measureLevels rfl ⟨rfl, rfl⟩ ⟨Nat.le_of_ble_eq_true rfl, Nat.le_of_ble_eq_true rfl⟩ ⟨Nat.zero_le _, Nat.zero_le _⟩ (Nat.le_of_ble_eq_true rfl) rfl dX3_nodes_6 ?_
  rintro _ _ ⟨rfl, ns9, so9, wi9, us9, he9, nx9, ho9, nh9, ke9, ta9, de9, se9, hH9, hE9, hJ9, rfl⟩
  refine j_st (st' := []) rfl ?_
  refine j_iconst (v := nI (0)) dX3_nodes_9 (by decide) ?_
  refine j_istore_n [(1, .int (nI (0))), (0, .ref (q 0))] dX3_nodes_10 rfl (by decide) rfl ?_
  refine j_iconst (v := nI (0)) dX3_nodes_11 (by decide) ?_
  refine j_istore_n [(2, .int (nI (0))), (1, .int (nI (0))), (0, .ref (q 0))] dX3_nodes_12 rfl (by decide) rfl ?_
  refine j_lv (lv' := [(2, .int (nI (0))), (1, .int (nI (ndA R C cu 0))), (0, .ref (q 0))]) (by rfl) ?_
  refine j_sub [2, 1, 0] [(0, .ref (q 0)), (1, .int (nI (ndA R C cu 0))), (2, .int (nI (0)))] rfl ?_
  have loop13 : ∀ (n : Nat) (i : Nat), (nE R C + 1 < i + n) → (i ≤ nE R C + 1) → V k l D (tys3 cI cJ cZ) ({ frames := 8, cells := 0, slots := 0, locals := 186 } : Room) cX3_nodes 3 RX3 (wM cI cJ cZ q R C 0 true true ns9 he9 nx9 dr nl lp cu so9 wi9 us9 ho9 nh9 ke9 ta9 de9 se9) 0 0 13 [(0, .ref (q 0)), (1, .int (nI (ndA R C cu i))), (2, .int (nI (i)))] [] := by
    intro n
    induction n with
    | zero => intro i hm hi; exfalso; omega
    | succ n ih13 =>
      intro i hm hi
      refine j_iload_n dX3_nodes_13 rfl 2 rfl ?_
      refine j_aload_n dX3_nodes_14 rfl 0 rfl ?_
      refine gf_X3_93 0 rfl (rfl) dX3_nodes_15 ?_
      refine jn_icmp_gt (tgt := 36) (a := i) (b := nE R C) (by omega) (by omega) dX3_nodes_18 (by decide) (fun c18 => ?_) (fun c18 => ?_)
      · refine j_iload_n dX3_nodes_36 rfl 1 rfl ?_
        exact j_iret (tys' := []) rfl hR dX3_nodes_37 (⟨by rw [show i = nE R C + 1 by omega], MW_of ⟨hL, fun _ => hH9, fun _ _ => hE9, hJ9, hdr⟩⟩)
      · refine j_iload_n dX3_nodes_21 rfl 1 rfl ?_
        refine j_aload_n dX3_nodes_22 rfl 0 rfl ?_
        refine gf_X3_46 0 rfl (rfl) dX3_nodes_23 ?_
        refine j_iload_n dX3_nodes_26 rfl 2 rfl ?_
        refine jn_iald (v := nI (wi9 i)) 13 0 rfl rfl (by omega) (by omega) (rfl) dX3_nodes_27 ?_
        refine jn_iadd (v := (ndA R C cu i) + (wi9 i)) dX3_nodes_28 rfl ?_
        refine j_topi (y := nI (ndA R C cu (i + 1))) (by rw [(hE9 i (by omega)).1]; rfl) ?_
        refine j_istore_n [(1, .int (nI (ndA R C cu (i + 1)))), (0, .ref (q 0)), (2, .int (nI (i)))] dX3_nodes_29 rfl (by decide) rfl ?_
        refine j_iinc (n0 := 2) (v := nI (i + 1)) [(2, .int (nI (i + 1))), (1, .int (nI (ndA R C cu (i + 1)))), (0, .ref (q 0))] dX3_nodes_30 rfl (by exact nI_add (i) 1) (by decide) rfl ?_
        refine j_goto (tgt := 13) dX3_nodes_33 (by decide) ?_
        refine j_sub [2, 1, 0] [(0, .ref (q 0)), (1, .int (nI (ndA R C cu (i + 1)))), (2, .int (nI (i + 1)))] rfl ?_
        exact ih13 (i + 1) (by omega) (by omega)
  exact loop13 (nE R C + 3) 0 (by omega) (by omega)

set_option maxHeartbeats 4000000 in
set_option maxRecDepth 100000 in
theorem cm_isSolution (l : Launch) (hfl : l.flags = flags0) (D : va_G) (cI cJ cZ : ClassId) (q : Nat → Nat) (R C : Nat) (hG : GS R C) (th : Nat) (kn me : Bool) (ns he nx dr nl : Nat) (lp cu so wi us ho nh : Nat → Nat) (ke : Nat → Int64) (ta de : Nat → Nat) (se : Nat → Bool) (L : List Nat) (hL : Hl L nl lp) (hLO : LO R C L) (hM : MO R C cu) (hK : kn = true → Hl (sol R C cu L) ns so) (x : Int32) : Ct l yX3_isSolution cX3_isSolution 2 (Option.some FieldType.boolean) ({ frames := 4, cells := 0, slots := 0, locals := 88 } : Room) D (tys3 cI cJ cZ) (tys3 cI cJ cZ) (wM cI cJ cZ q R C th kn me ns he nx dr nl lp cu so wi us ho nh ke ta de se) [.ref (q 0), .int (x)] (fun r u => r = some (.int (bI (inB (sol R C cu L).length x))) ∧ ∃ (ns2 : Nat) (so2 : Nat → Nat), Hl (sol R C cu L) ns2 so2 ∧ u = wM cI cJ cZ q R C th true (kn && me) ns2 he nx dr nl lp cu so2 wi us ho nh ke ta de se) 0 0 := by
  refine Ct.of hfl (by decide) (Nat.le_of_ble_eq_true rfl) ?_
  intro k hR _
  have hR4 := hG.2.1
  have hC3 := hG.2.2.2
  have hR1 := hG.1
  have hC1 := hG.2.2.1
  have hE := hG.E
  have hRC := hG.RC
  have hE4 := hG.E4
  have hP := hG.P
  show V k l D (tys3 cI cJ cZ) ({ frames := 4, cells := 0, slots := 0, locals := 88 } : Room) cX3_isSolution 2 RX3 (wM cI cJ cZ q R C th kn me ns he nx dr nl lp cu so wi us ho nh ke ta de se) 0 0 0 [(0, .ref (q 0)), (1, .int (x))] []
  refine j_aload_n dX3_isSolution_0 rfl 0 rfl ?_
  refine j_vW (av := []) (c_find l hfl D cI cJ cZ q R C hG th kn me ns he nx dr nl lp cu so wi us ho nh ke ta de se hM.1 L hL hLO.1 hLO.2.1 hK) 0 rfl rfl mw3_133 mw3_135 msel23 mw1_4 mw3_136 rfl hd_X3_find rfl ⟨rfl, rfl⟩ ⟨Nat.le_of_ble_eq_true rfl, Nat.le_of_ble_eq_true rfl⟩ ⟨Nat.zero_le _, Nat.zero_le _⟩ (Nat.le_of_ble_eq_true rfl) rfl dX3_isSolution_1 ?_
  rintro _ _ ⟨rfl, ns5, so5, hH5, rfl⟩
  refine j_st (st' := []) rfl ?_
  refine j_iload_n dX3_isSolution_4 rfl 1 rfl ?_
  refine j_if_lt (tgt := 20) dX3_isSolution_5 (by decide) (fun c5 => ?_) (fun c5 => ?_)
  · refine j_iconst (v := nI (0)) dX3_isSolution_20 (by decide) ?_
    refine j_st (st' := [.int (bI (false))]) (by rfl) ?_
    exact j_zretB (tys' := []) rfl hR dX3_isSolution_21 (⟨by rw [show inB (sol R C cu L).length x = false from by rw [← hH5.1]; simp [inB, *]], ns5, so5, hH5, rfl⟩)
  · refine j_iload_n dX3_isSolution_8 rfl 1 rfl ?_
    refine j_aload_n dX3_isSolution_9 rfl 0 rfl ?_
    refine gf_X3_159 0 rfl (rfl) dX3_isSolution_10 ?_
    refine j_icmp_ge (tgt := 20) dX3_isSolution_13 (by decide) (fun c13 => ?_) (fun c13 => ?_)
    · refine j_iconst (v := nI (0)) dX3_isSolution_20 (by decide) ?_
      refine j_st (st' := [.int (bI (false))]) (by rfl) ?_
      exact j_zretB (tys' := []) rfl hR dX3_isSolution_21 (⟨by rw [show inB (sol R C cu L).length x = false from by rw [← hH5.1]; simp [inB, *]], ns5, so5, hH5, rfl⟩)
    · refine j_iconst (v := nI (1)) dX3_isSolution_16 (by decide) ?_
      refine j_goto (tgt := 21) dX3_isSolution_17 (by decide) ?_
      refine j_st (st' := [.int (bI (true))]) (by rfl) ?_
      exact j_zretB (tys' := []) rfl hR dX3_isSolution_21 (⟨by rw [show inB (sol R C cu L).length x = true from by rw [← hH5.1]; simp [inB, *]], ns5, so5, hH5, rfl⟩)

set_option maxHeartbeats 4000000 in
set_option maxRecDepth 100000 in
theorem cm_has (l : Launch) (hfl : l.flags = flags0) (D : va_G) (cI cJ cZ : ClassId) (q : Nat → Nat) (R C : Nat) (hG : GS R C) (th : Nat) (kn me : Bool) (ns he nx dr nl : Nat) (lp cu so wi us ho nh : Nat → Nat) (ke : Nat → Int64) (ta de : Nat → Nat) (se : Nat → Bool) (L : List Nat) (hLO : LO R C L) (hM : MO R C cu) (hI : MI R C L cu kn me ns nl lp so wi us de se dr) (j y : Nat) (hy : (sol R C cu L)[j]? = some y) (e : Nat) (hee : e < nE R C) : Ct l yX3_has cX3_has 3 (Option.some FieldType.boolean) ({ frames := 5, cells := 0, slots := 0, locals := 109 } : Room) D (tys3 cI cJ cZ) (tys3 cI cJ cZ) (wM cI cJ cZ q R C th kn me ns he nx dr nl lp cu so wi us ho nh ke ta de se) [.ref (q 0), .int (nI (j)), .int (nI (e))] (fun r u => r = some (.int (bI ((isI y e)))) ∧ MW cI cJ cZ q R C L 0 dr cu u) 0 0 := by
  refine Ct.of hfl (by decide) (Nat.le_of_ble_eq_true rfl) ?_
  intro k hR _
  have hR4 := hG.2.1
  have hC3 := hG.2.2.2
  have hR1 := hG.1
  have hC1 := hG.2.2.1
  have hE := hG.E
  have hRC := hG.RC
  have hE4 := hG.E4
  have hP := hG.P
  obtain ⟨hL, hK, hMe, hJ, hdr⟩ := hI
  have hjl := (List.getElem?_eq_some_iff.mp hy).1
  have hsl := sol_len (R := R) (C := C) (cu := cu) (L := L)
  have hl13 := hLO.2.1
  have hin : inB (sol R C cu L).length (nI j) = true := inB_t (by omega) hjl
  have hy31 : y < 2 ^ 31 := hLO.1 y (sol_sub (List.mem_of_getElem? hy))
  have hine : inB (nE R C) (nI e) = true := inB_t (by omega) hee
  show V k l D (tys3 cI cJ cZ) ({ frames := 5, cells := 0, slots := 0, locals := 109 } : Room) cX3_has 3 RX3 (wM cI cJ cZ q R C th kn me ns he nx dr nl lp cu so wi us ho nh ke ta de se) 0 0 0 [(0, .ref (q 0)), (1, .int (nI (j))), (2, .int (nI (e)))] []
  refine j_aload_n dX3_has_0 rfl 0 rfl ?_
  refine j_aload_n dX3_has_1 rfl 0 rfl ?_
  refine j_iload_n dX3_has_2 rfl 1 rfl ?_
  refine j_vW (av := [.int (nI (j))]) (cm_isSolution l hfl D cI cJ cZ q R C hG th kn me ns he nx dr nl lp cu so wi us ho nh ke ta de se L hL hLO hM hK (nI (j))) 0 rfl rfl mw3_186 mw3_188 msel33 mw1_4 mw3_189 rfl hd_X3_isSolution rfl ⟨rfl, rfl⟩ ⟨Nat.le_of_ble_eq_true rfl, Nat.le_of_ble_eq_true rfl⟩ ⟨Nat.zero_le _, Nat.zero_le _⟩ (Nat.le_of_ble_eq_true rfl) rfl dX3_has_3 ?_
  rintro _ _ ⟨rfl, ns5, so5, hH5, rfl⟩
  refine j_st (st' := [.int (bI ((inB (sol R C cu L).length (nI (j))))), .ref (q 0)]) rfl ?_
  have hsy : so5 j = y := hH5.2 j y hy
  refine jb_if_ne (tgt := 13) (b := (inB (sol R C cu L).length (nI (j)))) dX3_has_6 (by decide) (fun c6 => ?_) (fun c6 => ?_)
  · refine j_aload_n dX3_has_13 rfl 0 rfl ?_
    refine j_iload_n dX3_has_14 rfl 2 rfl ?_
    refine j_vW (av := [.int (nI (e))]) (cm_isEdge l hfl D cI cJ cZ q R C hG th true (kn && me) ns5 he nx dr nl lp cu so5 wi us ho nh ke ta de se (nI (e))) 0 rfl rfl mw3_117 mw3_119 msel22 mw1_4 mw3_120 rfl hd_X3_isEdge rfl ⟨rfl, rfl⟩ ⟨Nat.le_of_ble_eq_true rfl, Nat.le_of_ble_eq_true rfl⟩ ⟨Nat.zero_le _, Nat.zero_le _⟩ (Nat.le_of_ble_eq_true rfl) rfl dX3_has_15 ?_
    rintro _ _ ⟨rfl, rfl⟩
    refine j_st (st' := [.int (bI ((inB (nE R C) (nI (e))))), .ref (q 0)]) rfl ?_
    refine jb_if_ne (tgt := 25) (b := (inB (nE R C) (nI (e)))) dX3_has_18 (by decide) (fun c18 => ?_) (fun c18 => ?_)
    · refine j_iconst (v := nI (0)) dX3_has_25 (by decide) ?_
      refine pf_X3_103 (wM cI cJ cZ q R C 0 true (kn && me) ns5 he nx dr nl lp cu so5 wi us ho nh ke ta de se) 0 rfl (Nat.le_of_ble_eq_true rfl) rfl dX3_has_26 ?_
      refine j_aload_n dX3_has_29 rfl 0 rfl ?_
      refine gf_X3_103 0 rfl (rfl) dX3_has_30 ?_
      refine jn_if_ne (tgt := 53) (a := 0) (by omega) dX3_has_33 (by decide) (fun c33 => ?_) (fun c33 => ?_)
      · exact absurd c33 (by first | decide | omega)
      · refine j_aload_n dX3_has_36 rfl 0 rfl ?_
        refine gf_X3_43 0 rfl (rfl) dX3_has_37 ?_
        refine j_iload_n dX3_has_40 rfl 1 rfl ?_
        refine jn_iald (v := nI (y)) 12 0 rfl rfl (by omega) (by omega) (by show nI (so5 j) = nI y; rw [hsy]) dX3_has_41 ?_
        refine j_iload_n dX3_has_42 rfl 2 rfl ?_
        refine j_s0 (av := [.int (nI (y)), .int (nI (e))]) (r0 := .int (bI ((isI y e)))) (c_isIn l hfl D (tys3 cI cJ cZ) (y) (e) (hy31) (by omega)) mw2_220 mw2_221 mw1_4 mw2_222 hd_X3_isIn rfl ⟨rfl, rfl⟩ ⟨Nat.le_of_ble_eq_true rfl, Nat.le_of_ble_eq_true rfl⟩ ⟨Nat.zero_le _, Nat.zero_le _⟩ (Nat.le_of_ble_eq_true rfl) rfl dX3_has_43 ?_
        refine jb_if_eq (tgt := 53) (b := (isI y e)) dX3_has_46 (by decide) (fun c46 => ?_) (fun c46 => ?_)
        · refine j_iconst (v := nI (0)) dX3_has_53 (by decide) ?_
          refine j_st (st' := [.int (bI (false))]) (by rfl) ?_
          exact j_zretB (tys' := []) rfl hR dX3_has_54 (⟨by rw [show isI y e = false from c46], MW_of ⟨hL, fun _ => hH5, fun _ h => hMe (by revert h; cases kn <;> simp) (by revert h; cases kn <;> simp), hJ, hdr⟩⟩)
        · refine j_iconst (v := nI (1)) dX3_has_49 (by decide) ?_
          refine j_goto (tgt := 54) dX3_has_50 (by decide) ?_
          refine j_st (st' := [.int (bI (true))]) (by rfl) ?_
          exact j_zretB (tys' := []) rfl hR dX3_has_54 (⟨by rw [show isI y e = true from c46], MW_of ⟨hL, fun _ => hH5, fun _ h => hMe (by revert h; cases kn <;> simp) (by revert h; cases kn <;> simp), hJ, hdr⟩⟩)
    · exact absurd hine (by rw [c18]; decide)
  · exact absurd hin (by rw [c6]; decide)

set_option maxHeartbeats 4000000 in
set_option maxRecDepth 100000 in
theorem cm_hasX (l : Launch) (hfl : l.flags = flags0) (D : va_G) (cI cJ cZ : ClassId) (q : Nat → Nat) (R C : Nat) (hG : GS R C) (th : Nat) (kn me : Bool) (ns he nx dr nl : Nat) (lp cu so wi us ho nh : Nat → Nat) (ke : Nat → Int64) (ta de : Nat → Nat) (se : Nat → Bool) (L : List Nat) (hLO : LO R C L) (hM : MO R C cu) (hI : MI R C L cu kn me ns nl lp so wi us de se dr) (x : Int32) (hx : inB (sol R C cu L).length x = false) (z : Int32) : Ct l yX3_has cX3_has 3 (Option.some FieldType.boolean) ({ frames := 5, cells := 0, slots := 0, locals := 109 } : Room) D (tys3 cI cJ cZ) (tys3 cI cJ cZ) (wM cI cJ cZ q R C th kn me ns he nx dr nl lp cu so wi us ho nh ke ta de se) [.ref (q 0), .int (x), .int (z)] (fun r u => r = some (.int (bI false)) ∧ MW cI cJ cZ q R C L 1 dr cu u) 0 0 := by
  refine Ct.of hfl (by decide) (Nat.le_of_ble_eq_true rfl) ?_
  intro k hR _
  have hR4 := hG.2.1
  have hC3 := hG.2.2.2
  have hR1 := hG.1
  have hC1 := hG.2.2.1
  have hE := hG.E
  have hRC := hG.RC
  have hE4 := hG.E4
  have hP := hG.P
  obtain ⟨hL, hK, hMe, hJ, hdr⟩ := hI
  show V k l D (tys3 cI cJ cZ) ({ frames := 5, cells := 0, slots := 0, locals := 109 } : Room) cX3_has 3 RX3 (wM cI cJ cZ q R C th kn me ns he nx dr nl lp cu so wi us ho nh ke ta de se) 0 0 0 [(0, .ref (q 0)), (1, .int (x)), (2, .int (z))] []
  refine j_aload_n dX3_has_0 rfl 0 rfl ?_
  refine j_aload_n dX3_has_1 rfl 0 rfl ?_
  refine j_iload_n dX3_has_2 rfl 1 rfl ?_
  refine j_vW (av := [.int (x)]) (cm_isSolution l hfl D cI cJ cZ q R C hG th kn me ns he nx dr nl lp cu so wi us ho nh ke ta de se L hL hLO hM hK (x)) 0 rfl rfl mw3_186 mw3_188 msel33 mw1_4 mw3_189 rfl hd_X3_isSolution rfl ⟨rfl, rfl⟩ ⟨Nat.le_of_ble_eq_true rfl, Nat.le_of_ble_eq_true rfl⟩ ⟨Nat.zero_le _, Nat.zero_le _⟩ (Nat.le_of_ble_eq_true rfl) rfl dX3_has_3 ?_
  rintro _ _ ⟨rfl, ns5, so5, hH5, rfl⟩
  refine j_st (st' := [.int (bI ((inB (sol R C cu L).length (x)))), .ref (q 0)]) rfl ?_
  refine jb_if_ne (tgt := 13) (b := (inB (sol R C cu L).length (x))) dX3_has_6 (by decide) (fun c6 => ?_) (fun c6 => ?_)
  · rw [hx] at c6; cases c6
  · refine j_iconst (v := nI (1)) dX3_has_9 (by decide) ?_
    refine j_goto (tgt := 26) dX3_has_10 (by decide) ?_
    refine pf_X3_103 (wM cI cJ cZ q R C 1 true (kn && me) ns5 he nx dr nl lp cu so5 wi us ho nh ke ta de se) 0 rfl (Nat.le_of_ble_eq_true rfl) rfl dX3_has_26 ?_
    refine j_aload_n dX3_has_29 rfl 0 rfl ?_
    refine gf_X3_103 0 rfl (rfl) dX3_has_30 ?_
    refine jn_if_ne (tgt := 53) (a := 1) (by omega) dX3_has_33 (by decide) (fun c33 => ?_) (fun c33 => ?_)
    · refine j_iconst (v := nI (0)) dX3_has_53 (by decide) ?_
      refine j_st (st' := [.int (bI (false))]) (by rfl) ?_
      exact j_zretB (tys' := []) rfl hR dX3_has_54 (⟨rfl, MW_of ⟨hL, fun _ => hH5, fun _ h => hMe (by revert h; cases kn <;> simp) (by revert h; cases kn <;> simp), hJ, hdr⟩⟩)
    · exact absurd c33 (by first | decide | omega)

set_option maxHeartbeats 4000000 in
set_option maxRecDepth 100000 in
theorem cm_hasE (l : Launch) (hfl : l.flags = flags0) (D : va_G) (cI cJ cZ : ClassId) (q : Nat → Nat) (R C : Nat) (hG : GS R C) (th : Nat) (kn me : Bool) (ns he nx dr nl : Nat) (lp cu so wi us ho nh : Nat → Nat) (ke : Nat → Int64) (ta de : Nat → Nat) (se : Nat → Bool) (L : List Nat) (hLO : LO R C L) (hM : MO R C cu) (hI : MI R C L cu kn me ns nl lp so wi us de se dr) (j y : Nat) (hy : (sol R C cu L)[j]? = some y) (x : Int32) (hx : inB (nE R C) x = false) : Ct l yX3_has cX3_has 3 (Option.some FieldType.boolean) ({ frames := 5, cells := 0, slots := 0, locals := 109 } : Room) D (tys3 cI cJ cZ) (tys3 cI cJ cZ) (wM cI cJ cZ q R C th kn me ns he nx dr nl lp cu so wi us ho nh ke ta de se) [.ref (q 0), .int (nI (j)), .int (x)] (fun r u => r = some (.int (bI false)) ∧ MW cI cJ cZ q R C L 2 dr cu u) 0 0 := by
  refine Ct.of hfl (by decide) (Nat.le_of_ble_eq_true rfl) ?_
  intro k hR _
  have hR4 := hG.2.1
  have hC3 := hG.2.2.2
  have hR1 := hG.1
  have hC1 := hG.2.2.1
  have hE := hG.E
  have hRC := hG.RC
  have hE4 := hG.E4
  have hP := hG.P
  obtain ⟨hL, hK, hMe, hJ, hdr⟩ := hI
  have hjl := (List.getElem?_eq_some_iff.mp hy).1
  have hsl := sol_len (R := R) (C := C) (cu := cu) (L := L)
  have hl13 := hLO.2.1
  have hin : inB (sol R C cu L).length (nI j) = true := inB_t (by omega) hjl
  have hy31 : y < 2 ^ 31 := hLO.1 y (sol_sub (List.mem_of_getElem? hy))
  show V k l D (tys3 cI cJ cZ) ({ frames := 5, cells := 0, slots := 0, locals := 109 } : Room) cX3_has 3 RX3 (wM cI cJ cZ q R C th kn me ns he nx dr nl lp cu so wi us ho nh ke ta de se) 0 0 0 [(0, .ref (q 0)), (1, .int (nI (j))), (2, .int (x))] []
  refine j_aload_n dX3_has_0 rfl 0 rfl ?_
  refine j_aload_n dX3_has_1 rfl 0 rfl ?_
  refine j_iload_n dX3_has_2 rfl 1 rfl ?_
  refine j_vW (av := [.int (nI (j))]) (cm_isSolution l hfl D cI cJ cZ q R C hG th kn me ns he nx dr nl lp cu so wi us ho nh ke ta de se L hL hLO hM hK (nI (j))) 0 rfl rfl mw3_186 mw3_188 msel33 mw1_4 mw3_189 rfl hd_X3_isSolution rfl ⟨rfl, rfl⟩ ⟨Nat.le_of_ble_eq_true rfl, Nat.le_of_ble_eq_true rfl⟩ ⟨Nat.zero_le _, Nat.zero_le _⟩ (Nat.le_of_ble_eq_true rfl) rfl dX3_has_3 ?_
  rintro _ _ ⟨rfl, ns5, so5, hH5, rfl⟩
  refine j_st (st' := [.int (bI ((inB (sol R C cu L).length (nI (j))))), .ref (q 0)]) rfl ?_
  refine jb_if_ne (tgt := 13) (b := (inB (sol R C cu L).length (nI (j)))) dX3_has_6 (by decide) (fun c6 => ?_) (fun c6 => ?_)
  · refine j_aload_n dX3_has_13 rfl 0 rfl ?_
    refine j_iload_n dX3_has_14 rfl 2 rfl ?_
    refine j_vW (av := [.int (x)]) (cm_isEdge l hfl D cI cJ cZ q R C hG th true (kn && me) ns5 he nx dr nl lp cu so5 wi us ho nh ke ta de se (x)) 0 rfl rfl mw3_117 mw3_119 msel22 mw1_4 mw3_120 rfl hd_X3_isEdge rfl ⟨rfl, rfl⟩ ⟨Nat.le_of_ble_eq_true rfl, Nat.le_of_ble_eq_true rfl⟩ ⟨Nat.zero_le _, Nat.zero_le _⟩ (Nat.le_of_ble_eq_true rfl) rfl dX3_has_15 ?_
    rintro _ _ ⟨rfl, rfl⟩
    refine j_st (st' := [.int (bI ((inB (nE R C) (x)))), .ref (q 0)]) rfl ?_
    refine jb_if_ne (tgt := 25) (b := (inB (nE R C) (x))) dX3_has_18 (by decide) (fun c18 => ?_) (fun c18 => ?_)
    · rw [hx] at c18; cases c18
    · refine j_iconst (v := nI (2)) dX3_has_21 (by decide) ?_
      refine j_goto (tgt := 26) dX3_has_22 (by decide) ?_
      refine pf_X3_103 (wM cI cJ cZ q R C 2 true (kn && me) ns5 he nx dr nl lp cu so5 wi us ho nh ke ta de se) 0 rfl (Nat.le_of_ble_eq_true rfl) rfl dX3_has_26 ?_
      refine j_aload_n dX3_has_29 rfl 0 rfl ?_
      refine gf_X3_103 0 rfl (rfl) dX3_has_30 ?_
      refine jn_if_ne (tgt := 53) (a := 2) (by omega) dX3_has_33 (by decide) (fun c33 => ?_) (fun c33 => ?_)
      · refine j_iconst (v := nI (0)) dX3_has_53 (by decide) ?_
        refine j_st (st' := [.int (bI (false))]) (by rfl) ?_
        exact j_zretB (tys' := []) rfl hR dX3_has_54 (⟨rfl, MW_of ⟨hL, fun _ => hH5, fun _ h => hMe (by revert h; cases kn <;> simp) (by revert h; cases kn <;> simp), hJ, hdr⟩⟩)
      · exact absurd c33 (by first | decide | omega)
  · exact absurd hin (by rw [c6]; decide)

set_option maxHeartbeats 4000000 in
set_option maxRecDepth 100000 in
theorem cm_length (l : Launch) (hfl : l.flags = flags0) (D : va_G) (cI cJ cZ : ClassId) (q : Nat → Nat) (R C : Nat) (hG : GS R C) (th : Nat) (kn me : Bool) (ns he nx dr nl : Nat) (lp cu so wi us ho nh : Nat → Nat) (ke : Nat → Int64) (ta de : Nat → Nat) (se : Nat → Bool) (L : List Nat) (hLO : LO R C L) (hM : MO R C cu) (hI : MI R C L cu kn me ns nl lp so wi us de se dr) (j y : Nat) (hy : (sol R C cu L)[j]? = some y) : Ct l yX3_length cX3_length 2 (Option.some FieldType.int) ({ frames := 5, cells := 0, slots := 0, locals := 109 } : Room) D (tys3 cI cJ cZ) (tys3 cI cJ cZ) (wM cI cJ cZ q R C th kn me ns he nx dr nl lp cu so wi us ho nh ke ta de se) [.ref (q 0), .int (nI (j))] (fun r u => r = some (.int (nI (szA y (nE R C)))) ∧ MW cI cJ cZ q R C L 0 dr cu u) 0 0 := by
  refine Ct.of hfl (by decide) (Nat.le_of_ble_eq_true rfl) ?_
  intro k hR _
  have hR4 := hG.2.1
  have hC3 := hG.2.2.2
  have hR1 := hG.1
  have hC1 := hG.2.2.1
  have hE := hG.E
  have hRC := hG.RC
  have hE4 := hG.E4
  have hP := hG.P
  obtain ⟨hL, hK, hMe, hJ, hdr⟩ := hI
  have hjl := (List.getElem?_eq_some_iff.mp hy).1
  have hsl := sol_len (R := R) (C := C) (cu := cu) (L := L)
  have hl13 := hLO.2.1
  have hin : inB (sol R C cu L).length (nI j) = true := inB_t (by omega) hjl
  have hy31 : y < 2 ^ 31 := hLO.1 y (sol_sub (List.mem_of_getElem? hy))
  show V k l D (tys3 cI cJ cZ) ({ frames := 5, cells := 0, slots := 0, locals := 109 } : Room) cX3_length 2 RX3 (wM cI cJ cZ q R C th kn me ns he nx dr nl lp cu so wi us ho nh ke ta de se) 0 0 0 [(0, .ref (q 0)), (1, .int (nI (j)))] []
  refine j_aload_n dX3_length_0 rfl 0 rfl ?_
  refine j_aload_n dX3_length_1 rfl 0 rfl ?_
  refine j_iload_n dX3_length_2 rfl 1 rfl ?_
  refine j_vW (av := [.int (nI (j))]) (cm_isSolution l hfl D cI cJ cZ q R C hG th kn me ns he nx dr nl lp cu so wi us ho nh ke ta de se L hL hLO hM hK (nI (j))) 0 rfl rfl mw3_186 mw3_188 msel33 mw1_4 mw3_189 rfl hd_X3_isSolution rfl ⟨rfl, rfl⟩ ⟨Nat.le_of_ble_eq_true rfl, Nat.le_of_ble_eq_true rfl⟩ ⟨Nat.zero_le _, Nat.zero_le _⟩ (Nat.le_of_ble_eq_true rfl) rfl dX3_length_3 ?_
  rintro _ _ ⟨rfl, ns5, so5, hH5, rfl⟩
  refine j_st (st' := [.int (bI ((inB (sol R C cu L).length (nI (j))))), .ref (q 0)]) rfl ?_
  have hsy : so5 j = y := hH5.2 j y hy
  refine jb_if_eq (tgt := 13) (b := (inB (sol R C cu L).length (nI (j)))) dX3_length_6 (by decide) (fun c6 => ?_) (fun c6 => ?_)
  · exact absurd hin (by rw [c6]; decide)
  · refine j_iconst (v := nI (0)) dX3_length_9 (by decide) ?_
    refine j_goto (tgt := 14) dX3_length_10 (by decide) ?_
    refine pf_X3_103 (wM cI cJ cZ q R C 0 true (kn && me) ns5 he nx dr nl lp cu so5 wi us ho nh ke ta de se) 0 rfl (Nat.le_of_ble_eq_true rfl) rfl dX3_length_14 ?_
    refine j_aload_n dX3_length_17 rfl 0 rfl ?_
    refine gf_X3_103 0 rfl (rfl) dX3_length_18 ?_
    refine jn_if_ne (tgt := 37) (a := 0) (by omega) dX3_length_21 (by decide) (fun c21 => ?_) (fun c21 => ?_)
    · exact absurd c21 (by first | decide | omega)
    · refine j_aload_n dX3_length_24 rfl 0 rfl ?_
      refine j_aload_n dX3_length_25 rfl 0 rfl ?_
      refine gf_X3_43 0 rfl (rfl) dX3_length_26 ?_
      refine j_iload_n dX3_length_29 rfl 1 rfl ?_
      refine jn_iald (v := nI (y)) 12 0 rfl rfl (by omega) (by omega) (by show nI (so5 j) = nI y; rw [hsy]) dX3_length_30 ?_
      refine j_vW (av := [.int (nI (y))]) (c_size l hfl D cI cJ cZ q R C hG 0 true (kn && me) ns5 he nx dr nl lp cu so5 wi us ho nh ke ta de se (y) (hy31)) 0 rfl rfl mw3_194 mw3_196 msel34 mw1_4 mw3_197 rfl hd_X3_size rfl ⟨rfl, rfl⟩ ⟨Nat.le_of_ble_eq_true rfl, Nat.le_of_ble_eq_true rfl⟩ ⟨Nat.zero_le _, Nat.zero_le _⟩ (Nat.le_of_ble_eq_true rfl) rfl dX3_length_31 ?_
      rintro _ _ ⟨rfl, rfl⟩
      refine j_st (st' := [.int (nI (szA y (nE R C)))]) rfl ?_
      refine j_goto (tgt := 38) dX3_length_34 (by decide) ?_
      exact j_iret (tys' := []) rfl hR dX3_length_38 (⟨rfl, MW_of ⟨hL, fun _ => hH5, fun _ h => hMe (by revert h; cases kn <;> simp) (by revert h; cases kn <;> simp), hJ, hdr⟩⟩)

set_option maxHeartbeats 4000000 in
set_option maxRecDepth 100000 in
theorem cm_lengthX (l : Launch) (hfl : l.flags = flags0) (D : va_G) (cI cJ cZ : ClassId) (q : Nat → Nat) (R C : Nat) (hG : GS R C) (th : Nat) (kn me : Bool) (ns he nx dr nl : Nat) (lp cu so wi us ho nh : Nat → Nat) (ke : Nat → Int64) (ta de : Nat → Nat) (se : Nat → Bool) (L : List Nat) (hLO : LO R C L) (hM : MO R C cu) (hI : MI R C L cu kn me ns nl lp so wi us de se dr) (x : Int32) (hx : inB (sol R C cu L).length x = false) : Ct l yX3_length cX3_length 2 (Option.some FieldType.int) ({ frames := 5, cells := 0, slots := 0, locals := 109 } : Room) D (tys3 cI cJ cZ) (tys3 cI cJ cZ) (wM cI cJ cZ q R C th kn me ns he nx dr nl lp cu so wi us ho nh ke ta de se) [.ref (q 0), .int (x)] (fun r u => r = some (.int (nI (0))) ∧ MW cI cJ cZ q R C L 1 dr cu u) 0 0 := by
  refine Ct.of hfl (by decide) (Nat.le_of_ble_eq_true rfl) ?_
  intro k hR _
  have hR4 := hG.2.1
  have hC3 := hG.2.2.2
  have hR1 := hG.1
  have hC1 := hG.2.2.1
  have hE := hG.E
  have hRC := hG.RC
  have hE4 := hG.E4
  have hP := hG.P
  obtain ⟨hL, hK, hMe, hJ, hdr⟩ := hI
  show V k l D (tys3 cI cJ cZ) ({ frames := 5, cells := 0, slots := 0, locals := 109 } : Room) cX3_length 2 RX3 (wM cI cJ cZ q R C th kn me ns he nx dr nl lp cu so wi us ho nh ke ta de se) 0 0 0 [(0, .ref (q 0)), (1, .int (x))] []
  refine j_aload_n dX3_length_0 rfl 0 rfl ?_
  refine j_aload_n dX3_length_1 rfl 0 rfl ?_
  refine j_iload_n dX3_length_2 rfl 1 rfl ?_
  refine j_vW (av := [.int (x)]) (cm_isSolution l hfl D cI cJ cZ q R C hG th kn me ns he nx dr nl lp cu so wi us ho nh ke ta de se L hL hLO hM hK (x)) 0 rfl rfl mw3_186 mw3_188 msel33 mw1_4 mw3_189 rfl hd_X3_isSolution rfl ⟨rfl, rfl⟩ ⟨Nat.le_of_ble_eq_true rfl, Nat.le_of_ble_eq_true rfl⟩ ⟨Nat.zero_le _, Nat.zero_le _⟩ (Nat.le_of_ble_eq_true rfl) rfl dX3_length_3 ?_
  rintro _ _ ⟨rfl, ns5, so5, hH5, rfl⟩
  refine j_st (st' := [.int (bI ((inB (sol R C cu L).length (x)))), .ref (q 0)]) rfl ?_
  refine jb_if_eq (tgt := 13) (b := (inB (sol R C cu L).length (x))) dX3_length_6 (by decide) (fun c6 => ?_) (fun c6 => ?_)
  · refine j_iconst (v := nI (1)) dX3_length_13 (by decide) ?_
    refine pf_X3_103 (wM cI cJ cZ q R C 1 true (kn && me) ns5 he nx dr nl lp cu so5 wi us ho nh ke ta de se) 0 rfl (Nat.le_of_ble_eq_true rfl) rfl dX3_length_14 ?_
    refine j_aload_n dX3_length_17 rfl 0 rfl ?_
    refine gf_X3_103 0 rfl (rfl) dX3_length_18 ?_
    refine jn_if_ne (tgt := 37) (a := 1) (by omega) dX3_length_21 (by decide) (fun c21 => ?_) (fun c21 => ?_)
    · refine j_iconst (v := nI (0)) dX3_length_37 (by decide) ?_
      exact j_iret (tys' := []) rfl hR dX3_length_38 (⟨rfl, MW_of ⟨hL, fun _ => hH5, fun _ h => hMe (by revert h; cases kn <;> simp) (by revert h; cases kn <;> simp), hJ, hdr⟩⟩)
    · exact absurd c21 (by first | decide | omega)
  · rw [hx] at c6; cases c6

set_option maxHeartbeats 4000000 in
set_option maxRecDepth 100000 in
theorem cm_withAll (l : Launch) (hfl : l.flags = flags0) (D : va_G) (cI cJ cZ : ClassId) (q : Nat → Nat) (R C : Nat) (hG : GS R C) (th : Nat) (kn me : Bool) (ns he nx dr nl : Nat) (lp cu so wi us ho nh : Nat → Nat) (ke : Nat → Int64) (ta de : Nat → Nat) (se : Nat → Bool) (L : List Nat) (hL : Hl L nl lp) (hLO : LO R C L) (hM : MO R C cu) (hK : kn = true → Hl (sol R C cu L) ns so) (S : Nat) (hS : S < 2 ^ 31) : Ct l yX3_withAll cX3_withAll 4 (Option.some FieldType.int) ({ frames := 4, cells := 0, slots := 0, locals := 88 } : Room) D (tys3 cI cJ cZ) (tys3 cI cJ cZ) (wM cI cJ cZ q R C th kn me ns he nx dr nl lp cu so wi us ho nh ke ta de se) [.ref (q 0), .int (nI (S))] (fun r u => r = some (.int (nI (wall (sol R C cu L) S))) ∧ ∃ (ns2 : Nat) (so2 : Nat → Nat), Hl (sol R C cu L) ns2 so2 ∧ u = wM cI cJ cZ q R C th true (kn && me) ns2 he nx dr nl lp cu so2 wi us ho nh ke ta de se) 0 0 := by
  refine Ct.of hfl (by decide) (Nat.le_of_ble_eq_true rfl) ?_
  intro k hR _
  have hR4 := hG.2.1
  have hC3 := hG.2.2.2
  have hR1 := hG.1
  have hC1 := hG.2.2.1
  have hE := hG.E
  have hRC := hG.RC
  have hE4 := hG.E4
  have hP := hG.P
  show V k l D (tys3 cI cJ cZ) ({ frames := 4, cells := 0, slots := 0, locals := 88 } : Room) cX3_withAll 4 RX3 (wM cI cJ cZ q R C th kn me ns he nx dr nl lp cu so wi us ho nh ke ta de se) 0 0 0 [(0, .ref (q 0)), (1, .int (nI (S)))] []
  refine j_aload_n dX3_withAll_0 rfl 0 rfl ?_
  refine j_vW (av := []) (c_find l hfl D cI cJ cZ q R C hG th kn me ns he nx dr nl lp cu so wi us ho nh ke ta de se hM.1 L hL hLO.1 hLO.2.1 hK) 0 rfl rfl mw3_133 mw3_135 msel23 mw1_4 mw3_136 rfl hd_X3_find rfl ⟨rfl, rfl⟩ ⟨Nat.le_of_ble_eq_true rfl, Nat.le_of_ble_eq_true rfl⟩ ⟨Nat.zero_le _, Nat.zero_le _⟩ (Nat.le_of_ble_eq_true rfl) rfl dX3_withAll_1 ?_
  rintro _ _ ⟨rfl, ns5, so5, hH5, rfl⟩
  refine j_st (st' := []) rfl ?_
  refine j_iconst (v := nI (0)) dX3_withAll_4 (by decide) ?_
  refine j_istore_n [(2, .int (nI (0))), (0, .ref (q 0)), (1, .int (nI (S)))] dX3_withAll_5 rfl (by decide) rfl ?_
  refine j_iconst (v := nI (0)) dX3_withAll_6 (by decide) ?_
  refine j_istore_n [(3, .int (nI (0))), (2, .int (nI (0))), (0, .ref (q 0)), (1, .int (nI (S)))] dX3_withAll_7 rfl (by decide) rfl ?_
  refine j_lv (lv' := [(3, .int (nI (0))), (2, .int (nI (((sol R C cu L).take 0).countP (fun y => decide (y &&& S = S))))), (0, .ref (q 0)), (1, .int (nI (S)))]) (by rfl) ?_
  have hn5 := hH5.1
  have hsl := sol_len (R := R) (C := C) (cu := cu) (L := L)
  have hl13 := hLO.2.1
  refine j_sub [2, 3, 1, 0] [(0, .ref (q 0)), (1, .int (nI (S))), (2, .int (nI (((sol R C cu L).take 0).countP (fun y => decide (y &&& S = S))))), (3, .int (nI (0)))] rfl ?_
  have loop8 : ∀ (n : Nat) (i : Nat), (ns5 < i + n) → (i ≤ ns5) → V k l D (tys3 cI cJ cZ) ({ frames := 4, cells := 0, slots := 0, locals := 88 } : Room) cX3_withAll 4 RX3 (wM cI cJ cZ q R C th true (kn && me) ns5 he nx dr nl lp cu so5 wi us ho nh ke ta de se) 0 0 8 [(0, .ref (q 0)), (1, .int (nI (S))), (2, .int (nI (((sol R C cu L).take i).countP (fun y => decide (y &&& S = S))))), (3, .int (nI (i)))] [] := by
    intro n
    induction n with
    | zero => intro i hm hi; exfalso; omega
    | succ n ih8 =>
      intro i hm hi
      refine j_iload_n dX3_withAll_8 rfl 3 rfl ?_
      refine j_aload_n dX3_withAll_9 rfl 0 rfl ?_
      refine gf_X3_159 0 rfl (rfl) dX3_withAll_10 ?_
      refine jn_icmp_ge (tgt := 42) (a := i) (b := ns5) (by omega) (by omega) dX3_withAll_13 (by decide) (fun c13 => ?_) (fun c13 => ?_)
      · refine j_iload_n dX3_withAll_42 rfl 2 rfl ?_
        exact j_iret (tys' := []) rfl hR dX3_withAll_43 (⟨by rw [List.take_of_length_le (by omega)]; rfl, ns5, so5, hH5, rfl⟩)
      · obtain ⟨y, hy⟩ : ∃ y, (sol R C cu L)[i]? = some y := ⟨_, List.getElem?_eq_getElem (by omega)⟩
        have hsy : so5 i = y := hH5.2 i y hy
        have hy31 : y < 2 ^ 31 := hLO.1 y (sol_sub (List.mem_of_getElem? hy))
        have hyS : y &&& S < 2 ^ 31 := Nat.lt_of_le_of_lt Nat.and_le_left hy31
        refine j_aload_n dX3_withAll_16 rfl 0 rfl ?_
        refine gf_X3_43 0 rfl (rfl) dX3_withAll_17 ?_
        refine j_iload_n dX3_withAll_20 rfl 3 rfl ?_
        refine jn_iald (v := nI (y)) 12 0 rfl rfl (by omega) (by omega) (by show nI (so5 i) = nI y; rw [hsy]) dX3_withAll_21 ?_
        refine j_iload_n dX3_withAll_22 rfl 1 rfl ?_
        refine j_iand dX3_withAll_23 rfl ?_
        refine j_topi (y := nI (y &&& S)) (nb_and _ _) ?_
        refine j_iload_n dX3_withAll_24 rfl 1 rfl ?_
        refine jn_icmp_ne (tgt := 34) (a := y &&& S) (b := S) (by omega) (by omega) dX3_withAll_25 (by decide) (fun c25 => ?_) (fun c25 => ?_)
        · refine j_iload_n dX3_withAll_34 rfl 2 rfl ?_
          refine j_topi (y := nI (((sol R C cu L).take (i + 1)).countP (fun y => decide (y &&& S = S)))) (by rw [cP_take hy]; simp [c25]) ?_
          refine j_istore_n [(2, .int (nI (((sol R C cu L).take (i + 1)).countP (fun y => decide (y &&& S = S))))), (0, .ref (q 0)), (1, .int (nI (S))), (3, .int (nI (i)))] dX3_withAll_35 rfl (by decide) rfl ?_
          refine j_iinc (n0 := 3) (v := nI (i + 1)) [(3, .int (nI (i + 1))), (2, .int (nI (((sol R C cu L).take (i + 1)).countP (fun y => decide (y &&& S = S))))), (0, .ref (q 0)), (1, .int (nI (S)))] dX3_withAll_36 rfl (by exact nI_add (i) 1) (by decide) rfl ?_
          refine j_goto (tgt := 8) dX3_withAll_39 (by decide) ?_
          refine j_sub [2, 3, 1, 0] [(0, .ref (q 0)), (1, .int (nI (S))), (2, .int (nI (((sol R C cu L).take (i + 1)).countP (fun y => decide (y &&& S = S))))), (3, .int (nI (i + 1)))] rfl ?_
          exact ih8 (i + 1) (by omega) (by omega)
        · refine j_iload_n dX3_withAll_28 rfl 2 rfl ?_
          refine j_iconst (v := nI (1)) dX3_withAll_29 (by decide) ?_
          refine jn_iadd (v := (((sol R C cu L).take i).countP (fun y => decide (y &&& S = S))) + 1) dX3_withAll_30 rfl ?_
          refine j_goto (tgt := 35) dX3_withAll_31 (by decide) ?_
          refine j_topi (y := nI (((sol R C cu L).take (i + 1)).countP (fun y => decide (y &&& S = S)))) (by rw [cP_take hy]; simp [c25]) ?_
          refine j_istore_n [(2, .int (nI (((sol R C cu L).take (i + 1)).countP (fun y => decide (y &&& S = S))))), (0, .ref (q 0)), (1, .int (nI (S))), (3, .int (nI (i)))] dX3_withAll_35 rfl (by decide) rfl ?_
          refine j_iinc (n0 := 3) (v := nI (i + 1)) [(3, .int (nI (i + 1))), (2, .int (nI (((sol R C cu L).take (i + 1)).countP (fun y => decide (y &&& S = S))))), (0, .ref (q 0)), (1, .int (nI (S)))] dX3_withAll_36 rfl (by exact nI_add (i) 1) (by decide) rfl ?_
          refine j_goto (tgt := 8) dX3_withAll_39 (by decide) ?_
          refine j_sub [2, 3, 1, 0] [(0, .ref (q 0)), (1, .int (nI (S))), (2, .int (nI (((sol R C cu L).take (i + 1)).countP (fun y => decide (y &&& S = S))))), (3, .int (nI (i + 1)))] rfl ?_
          exact ih8 (i + 1) (by omega) (by omega)
  exact loop8 (ns5 + 2) 0 (by omega) (by omega)

set_option maxHeartbeats 4000000 in
set_option maxRecDepth 100000 in
theorem cm_often (l : Launch) (hfl : l.flags = flags0) (D : va_G) (cI cJ cZ : ClassId) (q : Nat → Nat) (R C : Nat) (hG : GS R C) (th : Nat) (kn me : Bool) (ns he nx dr nl : Nat) (lp cu so wi us ho nh : Nat → Nat) (ke : Nat → Int64) (ta de : Nat → Nat) (se : Nat → Bool) (L : List Nat) (hLO : LO R C L) (hM : MO R C cu) (hI : MI R C L cu kn me ns nl lp so wi us de se dr) (e : Nat) (hee : e < nE R C) : Ct l yX3_often cX3_often 2 (Option.some FieldType.int) ({ frames := 5, cells := 0, slots := 0, locals := 111 } : Room) D (tys3 cI cJ cZ) (tys3 cI cJ cZ) (wM cI cJ cZ q R C th kn me ns he nx dr nl lp cu so wi us ho nh ke ta de se) [.ref (q 0), .int (nI (e))] (fun r u => r = some (.int (nI (wall (sol R C cu L) (2 ^ (30 - e))))) ∧ MW cI cJ cZ q R C L 0 dr cu u) 0 0 := by
  refine Ct.of hfl (by decide) (Nat.le_of_ble_eq_true rfl) ?_
  intro k hR _
  have hR4 := hG.2.1
  have hC3 := hG.2.2.2
  have hR1 := hG.1
  have hC1 := hG.2.2.1
  have hE := hG.E
  have hRC := hG.RC
  have hE4 := hG.E4
  have hP := hG.P
  obtain ⟨hL, hK, hMe, hJ, hdr⟩ := hI
  have hin : inB (nE R C) (nI e) = true := inB_t (by omega) hee
  show V k l D (tys3 cI cJ cZ) ({ frames := 5, cells := 0, slots := 0, locals := 111 } : Room) cX3_often 2 RX3 (wM cI cJ cZ q R C th kn me ns he nx dr nl lp cu so wi us ho nh ke ta de se) 0 0 0 [(0, .ref (q 0)), (1, .int (nI (e)))] []
  refine j_aload_n dX3_often_0 rfl 0 rfl ?_
  refine j_aload_n dX3_often_1 rfl 0 rfl ?_
  refine j_iload_n dX3_often_2 rfl 1 rfl ?_
  refine j_vW (av := [.int (nI (e))]) (cm_isEdge l hfl D cI cJ cZ q R C hG th kn me ns he nx dr nl lp cu so wi us ho nh ke ta de se (nI (e))) 0 rfl rfl mw3_117 mw3_119 msel22 mw1_4 mw3_120 rfl hd_X3_isEdge rfl ⟨rfl, rfl⟩ ⟨Nat.le_of_ble_eq_true rfl, Nat.le_of_ble_eq_true rfl⟩ ⟨Nat.zero_le _, Nat.zero_le _⟩ (Nat.le_of_ble_eq_true rfl) rfl dX3_often_3 ?_
  rintro _ _ ⟨rfl, rfl⟩
  refine j_st (st' := [.int (bI ((inB (nE R C) (nI (e))))), .ref (q 0)]) rfl ?_
  refine jb_if_eq (tgt := 13) (b := (inB (nE R C) (nI (e)))) dX3_often_6 (by decide) (fun c6 => ?_) (fun c6 => ?_)
  · exact absurd hin (by rw [c6]; decide)
  · refine j_iconst (v := nI (0)) dX3_often_9 (by decide) ?_
    refine j_goto (tgt := 14) dX3_often_10 (by decide) ?_
    refine pf_X3_103 (wM cI cJ cZ q R C 0 kn me ns he nx dr nl lp cu so wi us ho nh ke ta de se) 0 rfl (Nat.le_of_ble_eq_true rfl) rfl dX3_often_14 ?_
    refine j_aload_n dX3_often_17 rfl 0 rfl ?_
    refine gf_X3_103 0 rfl (rfl) dX3_often_18 ?_
    refine jn_if_ne (tgt := 35) (a := 0) (by omega) dX3_often_21 (by decide) (fun c21 => ?_) (fun c21 => ?_)
    · exact absurd c21 (by first | decide | omega)
    · refine j_aload_n dX3_often_24 rfl 0 rfl ?_
      refine j_iload_n dX3_often_25 rfl 1 rfl ?_
      refine j_s0 (av := [.int (nI (e))]) (r0 := .int (nI (2 ^ (30 - e)))) (c_bit l hfl D (tys3 cI cJ cZ) (e) (by omega)) mw2_209 mw2_210 mw1_4 mw2_211 hd_X3_bit rfl ⟨rfl, rfl⟩ ⟨Nat.le_of_ble_eq_true rfl, Nat.le_of_ble_eq_true rfl⟩ ⟨Nat.zero_le _, Nat.zero_le _⟩ (Nat.le_of_ble_eq_true rfl) rfl dX3_often_26 ?_
      refine j_vW (av := [.int (nI (2 ^ (30 - e)))]) (cm_withAll l hfl D cI cJ cZ q R C hG 0 kn me ns he nx dr nl lp cu so wi us ho nh ke ta de se L hL hLO hM hK (2 ^ (30 - e)) (p30 e)) 0 rfl rfl mw3_202 mw3_204 msel35 mw1_4 mw3_205 rfl hd_X3_withAll rfl ⟨rfl, rfl⟩ ⟨Nat.le_of_ble_eq_true rfl, Nat.le_of_ble_eq_true rfl⟩ ⟨Nat.zero_le _, Nat.zero_le _⟩ (Nat.le_of_ble_eq_true rfl) rfl dX3_often_29 ?_
      rintro _ _ ⟨rfl, ns5, so5, hH5, rfl⟩
      refine j_st (st' := [.int (nI (wall (sol R C cu L) (2 ^ (30 - e))))]) rfl ?_
      refine j_goto (tgt := 36) dX3_often_32 (by decide) ?_
      exact j_iret (tys' := []) rfl hR dX3_often_36 (⟨rfl, MW_of ⟨hL, fun _ => hH5, fun _ h => hMe (by revert h; cases kn <;> simp) (by revert h; cases kn <;> simp), hJ, hdr⟩⟩)

set_option maxHeartbeats 4000000 in
set_option maxRecDepth 100000 in
theorem cm_oftenX (l : Launch) (hfl : l.flags = flags0) (D : va_G) (cI cJ cZ : ClassId) (q : Nat → Nat) (R C : Nat) (hG : GS R C) (th : Nat) (kn me : Bool) (ns he nx dr nl : Nat) (lp cu so wi us ho nh : Nat → Nat) (ke : Nat → Int64) (ta de : Nat → Nat) (se : Nat → Bool) (L : List Nat) (hLO : LO R C L) (hM : MO R C cu) (hI : MI R C L cu kn me ns nl lp so wi us de se dr) (x : Int32) (hx : inB (nE R C) x = false) : Ct l yX3_often cX3_often 2 (Option.some FieldType.int) ({ frames := 5, cells := 0, slots := 0, locals := 111 } : Room) D (tys3 cI cJ cZ) (tys3 cI cJ cZ) (wM cI cJ cZ q R C th kn me ns he nx dr nl lp cu so wi us ho nh ke ta de se) [.ref (q 0), .int (x)] (fun r u => r = some (.int (nI (0))) ∧ MW cI cJ cZ q R C L 1 dr cu u) 0 0 := by
  refine Ct.of hfl (by decide) (Nat.le_of_ble_eq_true rfl) ?_
  intro k hR _
  have hR4 := hG.2.1
  have hC3 := hG.2.2.2
  have hR1 := hG.1
  have hC1 := hG.2.2.1
  have hE := hG.E
  have hRC := hG.RC
  have hE4 := hG.E4
  have hP := hG.P
  obtain ⟨hL, hK, hMe, hJ, hdr⟩ := hI
  show V k l D (tys3 cI cJ cZ) ({ frames := 5, cells := 0, slots := 0, locals := 111 } : Room) cX3_often 2 RX3 (wM cI cJ cZ q R C th kn me ns he nx dr nl lp cu so wi us ho nh ke ta de se) 0 0 0 [(0, .ref (q 0)), (1, .int (x))] []
  refine j_aload_n dX3_often_0 rfl 0 rfl ?_
  refine j_aload_n dX3_often_1 rfl 0 rfl ?_
  refine j_iload_n dX3_often_2 rfl 1 rfl ?_
  refine j_vW (av := [.int (x)]) (cm_isEdge l hfl D cI cJ cZ q R C hG th kn me ns he nx dr nl lp cu so wi us ho nh ke ta de se (x)) 0 rfl rfl mw3_117 mw3_119 msel22 mw1_4 mw3_120 rfl hd_X3_isEdge rfl ⟨rfl, rfl⟩ ⟨Nat.le_of_ble_eq_true rfl, Nat.le_of_ble_eq_true rfl⟩ ⟨Nat.zero_le _, Nat.zero_le _⟩ (Nat.le_of_ble_eq_true rfl) rfl dX3_often_3 ?_
  rintro _ _ ⟨rfl, rfl⟩
  refine j_st (st' := [.int (bI ((inB (nE R C) (x)))), .ref (q 0)]) rfl ?_
  refine jb_if_eq (tgt := 13) (b := (inB (nE R C) (x))) dX3_often_6 (by decide) (fun c6 => ?_) (fun c6 => ?_)
  · refine j_iconst (v := nI (1)) dX3_often_13 (by decide) ?_
    refine pf_X3_103 (wM cI cJ cZ q R C 1 kn me ns he nx dr nl lp cu so wi us ho nh ke ta de se) 0 rfl (Nat.le_of_ble_eq_true rfl) rfl dX3_often_14 ?_
    refine j_aload_n dX3_often_17 rfl 0 rfl ?_
    refine gf_X3_103 0 rfl (rfl) dX3_often_18 ?_
    refine jn_if_ne (tgt := 35) (a := 1) (by omega) dX3_often_21 (by decide) (fun c21 => ?_) (fun c21 => ?_)
    · refine j_iconst (v := nI (0)) dX3_often_35 (by decide) ?_
      exact j_iret (tys' := []) rfl hR dX3_often_36 (⟨rfl, MW_of ⟨hL, hK, hMe, hJ, hdr⟩⟩)
    · exact absurd c21 (by first | decide | omega)
  · rw [hx] at c6; cases c6

set_option maxHeartbeats 4000000 in
set_option maxRecDepth 100000 in
theorem cm_above (l : Launch) (hfl : l.flags = flags0) (D : va_G) (cI cJ cZ : ClassId) (q : Nat → Nat) (R C : Nat) (hG : GS R C) (th : Nat) (kn me : Bool) (ns he nx dr nl : Nat) (lp cu so wi us ho nh : Nat → Nat) (ke : Nat → Int64) (ta de : Nat → Nat) (se : Nat → Bool) (L : List Nat) (hLO : LO R C L) (hM : MO R C cu) (hI : MI R C L cu kn me ns nl lp so wi us de se dr) : Ct l yX3_above cX3_above 1 (Option.some FieldType.int) ({ frames := 5, cells := 0, slots := 0, locals := 111 } : Room) D (tys3 cI cJ cZ) (tys3 cI cJ cZ) (wM cI cJ cZ q R C th kn me ns he nx dr nl lp cu so wi us ho nh ke ta de se) [.ref (q 0)] (fun r u => r = some (.int (nI (wall (sol R C cu L) dr))) ∧ MW cI cJ cZ q R C L 0 dr cu u) 0 0 := by
  refine Ct.of hfl (by decide) (Nat.le_of_ble_eq_true rfl) ?_
  intro k hR _
  have hR4 := hG.2.1
  have hC3 := hG.2.2.2
  have hR1 := hG.1
  have hC1 := hG.2.2.1
  have hE := hG.E
  have hRC := hG.RC
  have hE4 := hG.E4
  have hP := hG.P
  obtain ⟨hL, hK, hMe, hJ, hdr⟩ := hI
  show V k l D (tys3 cI cJ cZ) ({ frames := 5, cells := 0, slots := 0, locals := 111 } : Room) cX3_above 1 RX3 (wM cI cJ cZ q R C th kn me ns he nx dr nl lp cu so wi us ho nh ke ta de se) 0 0 0 [(0, .ref (q 0))] []
  refine j_aload_n dX3_above_0 rfl 0 rfl ?_
  refine j_iconst (v := nI (0)) dX3_above_1 (by decide) ?_
  refine pf_X3_103 (wM cI cJ cZ q R C 0 kn me ns he nx dr nl lp cu so wi us ho nh ke ta de se) 0 rfl (Nat.le_of_ble_eq_true rfl) rfl dX3_above_2 ?_
  refine j_aload_n dX3_above_5 rfl 0 rfl ?_
  refine j_aload_n dX3_above_6 rfl 0 rfl ?_
  refine gf_X3_211 0 rfl (rfl) dX3_above_7 ?_
  refine j_vW (av := [.int (nI (dr))]) (cm_withAll l hfl D cI cJ cZ q R C hG 0 kn me ns he nx dr nl lp cu so wi us ho nh ke ta de se L hL hLO hM hK (dr) (hdr)) 0 rfl rfl mw3_202 mw3_204 msel35 mw1_4 mw3_205 rfl hd_X3_withAll rfl ⟨rfl, rfl⟩ ⟨Nat.le_of_ble_eq_true rfl, Nat.le_of_ble_eq_true rfl⟩ ⟨Nat.zero_le _, Nat.zero_le _⟩ (Nat.le_of_ble_eq_true rfl) rfl dX3_above_10 ?_
  rintro _ _ ⟨rfl, ns5, so5, hH5, rfl⟩
  refine j_st (st' := [.int (nI (wall (sol R C cu L) dr))]) rfl ?_
  exact j_iret (tys' := []) rfl hR dX3_above_13 (⟨rfl, MW_of ⟨hL, fun _ => hH5, fun _ h => hMe (by revert h; cases kn <;> simp) (by revert h; cases kn <;> simp), hJ, hdr⟩⟩)

set_option maxHeartbeats 4000000 in
set_option maxRecDepth 100000 in
theorem cm_draw (l : Launch) (hfl : l.flags = flags0) (D : va_G) (cI cJ cZ : ClassId) (q : Nat → Nat) (R C : Nat) (hG : GS R C) (th : Nat) (kn me : Bool) (ns he nx dr nl : Nat) (lp cu so wi us ho nh : Nat → Nat) (ke : Nat → Int64) (ta de : Nat → Nat) (se : Nat → Bool) (L : List Nat) (hLO : LO R C L) (hM : MO R C cu) (hI : MI R C L cu kn me ns nl lp so wi us de se dr) (e : Nat) (hee : e < nE R C) : Ct l yX3_draw cX3_draw 2 (Option.some FieldType.boolean) ({ frames := 1, cells := 0, slots := 0, locals := 21 } : Room) D (tys3 cI cJ cZ) (tys3 cI cJ cZ) (wM cI cJ cZ q R C th kn me ns he nx dr nl lp cu so wi us ho nh ke ta de se) [.ref (q 0), .int (nI (e))] (fun r u => r = some (.int (bI ((isI (dr ^^^ 2 ^ (30 - e)) e)))) ∧ MW cI cJ cZ q R C L 0 (dr ^^^ 2 ^ (30 - e)) cu u) 0 0 := by
  refine Ct.of hfl (by decide) (Nat.le_of_ble_eq_true rfl) ?_
  intro k hR _
  have hR4 := hG.2.1
  have hC3 := hG.2.2.2
  have hR1 := hG.1
  have hC1 := hG.2.2.1
  have hE := hG.E
  have hRC := hG.RC
  have hE4 := hG.E4
  have hP := hG.P
  obtain ⟨hL, hK, hMe, hJ, hdr⟩ := hI
  have hin : inB (nE R C) (nI e) = true := inB_t (by omega) hee
  have hx31 : dr ^^^ 2 ^ (30 - e) < 2 ^ 31 := Nat.xor_lt_two_pow hdr (p30 e)
  show V k l D (tys3 cI cJ cZ) ({ frames := 1, cells := 0, slots := 0, locals := 21 } : Room) cX3_draw 2 RX3 (wM cI cJ cZ q R C th kn me ns he nx dr nl lp cu so wi us ho nh ke ta de se) 0 0 0 [(0, .ref (q 0)), (1, .int (nI (e)))] []
  refine j_aload_n dX3_draw_0 rfl 0 rfl ?_
  refine j_aload_n dX3_draw_1 rfl 0 rfl ?_
  refine j_iload_n dX3_draw_2 rfl 1 rfl ?_
  refine j_vW (av := [.int (nI (e))]) (cm_isEdge l hfl D cI cJ cZ q R C hG th kn me ns he nx dr nl lp cu so wi us ho nh ke ta de se (nI (e))) 0 rfl rfl mw3_117 mw3_119 msel22 mw1_4 mw3_120 rfl hd_X3_isEdge rfl ⟨rfl, rfl⟩ ⟨Nat.le_of_ble_eq_true rfl, Nat.le_of_ble_eq_true rfl⟩ ⟨Nat.zero_le _, Nat.zero_le _⟩ (Nat.le_of_ble_eq_true rfl) rfl dX3_draw_3 ?_
  rintro _ _ ⟨rfl, rfl⟩
  refine j_st (st' := [.int (bI ((inB (nE R C) (nI (e))))), .ref (q 0)]) rfl ?_
  refine jb_if_eq (tgt := 13) (b := (inB (nE R C) (nI (e)))) dX3_draw_6 (by decide) (fun c6 => ?_) (fun c6 => ?_)
  · exact absurd hin (by rw [c6]; decide)
  · refine j_iconst (v := nI (0)) dX3_draw_9 (by decide) ?_
    refine j_goto (tgt := 14) dX3_draw_10 (by decide) ?_
    refine pf_X3_103 (wM cI cJ cZ q R C 0 kn me ns he nx dr nl lp cu so wi us ho nh ke ta de se) 0 rfl (Nat.le_of_ble_eq_true rfl) rfl dX3_draw_14 ?_
    refine j_aload_n dX3_draw_17 rfl 0 rfl ?_
    refine gf_X3_103 0 rfl (rfl) dX3_draw_18 ?_
    refine jn_if_le (tgt := 26) (a := 0) (by omega) dX3_draw_21 (by decide) (fun c21 => ?_) (fun c21 => ?_)
    · refine j_aload_n dX3_draw_26 rfl 0 rfl ?_
      refine j_aload_n dX3_draw_27 rfl 0 rfl ?_
      refine gf_X3_211 0 rfl (rfl) dX3_draw_28 ?_
      refine j_iload_n dX3_draw_31 rfl 1 rfl ?_
      refine j_s0 (av := [.int (nI (e))]) (r0 := .int (nI (2 ^ (30 - e)))) (c_bit l hfl D (tys3 cI cJ cZ) (e) (by omega)) mw2_209 mw2_210 mw1_4 mw2_211 hd_X3_bit rfl ⟨rfl, rfl⟩ ⟨Nat.le_of_ble_eq_true rfl, Nat.le_of_ble_eq_true rfl⟩ ⟨Nat.zero_le _, Nat.zero_le _⟩ (Nat.le_of_ble_eq_true rfl) rfl dX3_draw_32 ?_
      refine j_ixor dX3_draw_35 rfl ?_
      refine j_topi (y := nI (dr ^^^ 2 ^ (30 - e))) (nb_xor _ _) ?_
      refine pf_X3_211 (wM cI cJ cZ q R C 0 kn me ns he nx (dr ^^^ 2 ^ (30 - e)) nl lp cu so wi us ho nh ke ta de se) 0 rfl (Nat.le_of_ble_eq_true rfl) rfl dX3_draw_36 ?_
      refine j_aload_n dX3_draw_39 rfl 0 rfl ?_
      refine gf_X3_211 0 rfl (rfl) dX3_draw_40 ?_
      refine j_iload_n dX3_draw_43 rfl 1 rfl ?_
      refine j_s0 (av := [.int (nI (dr ^^^ 2 ^ (30 - e))), .int (nI (e))]) (r0 := .int (bI ((isI (dr ^^^ 2 ^ (30 - e)) e)))) (c_isIn l hfl D (tys3 cI cJ cZ) (dr ^^^ 2 ^ (30 - e)) (e) (hx31) (by omega)) mw2_220 mw2_221 mw1_4 mw2_222 hd_X3_isIn rfl ⟨rfl, rfl⟩ ⟨Nat.le_of_ble_eq_true rfl, Nat.le_of_ble_eq_true rfl⟩ ⟨Nat.zero_le _, Nat.zero_le _⟩ (Nat.le_of_ble_eq_true rfl) rfl dX3_draw_44 ?_
      exact j_zretB (tys' := []) rfl hR dX3_draw_47 (⟨rfl, MW_of ⟨hL, hK, hMe, hJ, hx31⟩⟩)
    · exact absurd c21 (by first | decide | omega)

set_option maxHeartbeats 4000000 in
set_option maxRecDepth 100000 in
theorem cm_drawX (l : Launch) (hfl : l.flags = flags0) (D : va_G) (cI cJ cZ : ClassId) (q : Nat → Nat) (R C : Nat) (hG : GS R C) (th : Nat) (kn me : Bool) (ns he nx dr nl : Nat) (lp cu so wi us ho nh : Nat → Nat) (ke : Nat → Int64) (ta de : Nat → Nat) (se : Nat → Bool) (L : List Nat) (hLO : LO R C L) (hM : MO R C cu) (hI : MI R C L cu kn me ns nl lp so wi us de se dr) (x : Int32) (hx : inB (nE R C) x = false) : Ct l yX3_draw cX3_draw 2 (Option.some FieldType.boolean) ({ frames := 1, cells := 0, slots := 0, locals := 21 } : Room) D (tys3 cI cJ cZ) (tys3 cI cJ cZ) (wM cI cJ cZ q R C th kn me ns he nx dr nl lp cu so wi us ho nh ke ta de se) [.ref (q 0), .int (x)] (fun r u => r = some (.int (bI false)) ∧ MW cI cJ cZ q R C L 1 dr cu u) 0 0 := by
  refine Ct.of hfl (by decide) (Nat.le_of_ble_eq_true rfl) ?_
  intro k hR _
  have hR4 := hG.2.1
  have hC3 := hG.2.2.2
  have hR1 := hG.1
  have hC1 := hG.2.2.1
  have hE := hG.E
  have hRC := hG.RC
  have hE4 := hG.E4
  have hP := hG.P
  obtain ⟨hL, hK, hMe, hJ, hdr⟩ := hI
  show V k l D (tys3 cI cJ cZ) ({ frames := 1, cells := 0, slots := 0, locals := 21 } : Room) cX3_draw 2 RX3 (wM cI cJ cZ q R C th kn me ns he nx dr nl lp cu so wi us ho nh ke ta de se) 0 0 0 [(0, .ref (q 0)), (1, .int (x))] []
  refine j_aload_n dX3_draw_0 rfl 0 rfl ?_
  refine j_aload_n dX3_draw_1 rfl 0 rfl ?_
  refine j_iload_n dX3_draw_2 rfl 1 rfl ?_
  refine j_vW (av := [.int (x)]) (cm_isEdge l hfl D cI cJ cZ q R C hG th kn me ns he nx dr nl lp cu so wi us ho nh ke ta de se (x)) 0 rfl rfl mw3_117 mw3_119 msel22 mw1_4 mw3_120 rfl hd_X3_isEdge rfl ⟨rfl, rfl⟩ ⟨Nat.le_of_ble_eq_true rfl, Nat.le_of_ble_eq_true rfl⟩ ⟨Nat.zero_le _, Nat.zero_le _⟩ (Nat.le_of_ble_eq_true rfl) rfl dX3_draw_3 ?_
  rintro _ _ ⟨rfl, rfl⟩
  refine j_st (st' := [.int (bI ((inB (nE R C) (x)))), .ref (q 0)]) rfl ?_
  refine jb_if_eq (tgt := 13) (b := (inB (nE R C) (x))) dX3_draw_6 (by decide) (fun c6 => ?_) (fun c6 => ?_)
  · refine j_iconst (v := nI (1)) dX3_draw_13 (by decide) ?_
    refine pf_X3_103 (wM cI cJ cZ q R C 1 kn me ns he nx dr nl lp cu so wi us ho nh ke ta de se) 0 rfl (Nat.le_of_ble_eq_true rfl) rfl dX3_draw_14 ?_
    refine j_aload_n dX3_draw_17 rfl 0 rfl ?_
    refine gf_X3_103 0 rfl (rfl) dX3_draw_18 ?_
    refine jn_if_le (tgt := 26) (a := 1) (by omega) dX3_draw_21 (by decide) (fun c21 => ?_) (fun c21 => ?_)
    · exact absurd c21 (by first | decide | omega)
    · refine j_iconst (v := nI (0)) dX3_draw_24 (by decide) ?_
      refine j_st (st' := [.int (bI (false))]) (by rfl) ?_
      exact j_zretB (tys' := []) rfl hR dX3_draw_25 (⟨rfl, MW_of ⟨hL, hK, hMe, hJ, hdr⟩⟩)
  · rw [hx] at c6; cases c6

set_option maxHeartbeats 4000000 in
set_option maxRecDepth 100000 in
theorem cm_copy (l : Launch) (hfl : l.flags = flags0) (D : va_G) (cI cJ cZ : ClassId) (q : Nat → Nat) (R C : Nat) (hG : GS R C) (th : Nat) (kn me : Bool) (ns he nx dr nl : Nat) (lp cu so wi us ho nh : Nat → Nat) (ke : Nat → Int64) (ta de : Nat → Nat) (se : Nat → Bool) (L : List Nat) (hLO : LO R C L) (hM : MO R C cu) (hI : MI R C L cu kn me ns nl lp so wi us de se dr) (j y : Nat) (hy : (sol R C cu L)[j]? = some y) : Ct l yX3_copy cX3_copy 2 none ({ frames := 5, cells := 0, slots := 0, locals := 109 } : Room) D (tys3 cI cJ cZ) (tys3 cI cJ cZ) (wM cI cJ cZ q R C th kn me ns he nx dr nl lp cu so wi us ho nh ke ta de se) [.ref (q 0), .int (nI (j))] (fun r u => r = none ∧ MW cI cJ cZ q R C L 0 y cu u) 0 0 := by
  refine Ct.of hfl (by decide) (Nat.le_of_ble_eq_true rfl) ?_
  intro k hR _
  have hR4 := hG.2.1
  have hC3 := hG.2.2.2
  have hR1 := hG.1
  have hC1 := hG.2.2.1
  have hE := hG.E
  have hRC := hG.RC
  have hE4 := hG.E4
  have hP := hG.P
  obtain ⟨hL, hK, hMe, hJ, hdr⟩ := hI
  have hjl := (List.getElem?_eq_some_iff.mp hy).1
  have hsl := sol_len (R := R) (C := C) (cu := cu) (L := L)
  have hl13 := hLO.2.1
  have hin : inB (sol R C cu L).length (nI j) = true := inB_t (by omega) hjl
  have hy31 : y < 2 ^ 31 := hLO.1 y (sol_sub (List.mem_of_getElem? hy))
  show V k l D (tys3 cI cJ cZ) ({ frames := 5, cells := 0, slots := 0, locals := 109 } : Room) cX3_copy 2 RX3 (wM cI cJ cZ q R C th kn me ns he nx dr nl lp cu so wi us ho nh ke ta de se) 0 0 0 [(0, .ref (q 0)), (1, .int (nI (j)))] []
  refine j_aload_n dX3_copy_0 rfl 0 rfl ?_
  refine j_aload_n dX3_copy_1 rfl 0 rfl ?_
  refine j_iload_n dX3_copy_2 rfl 1 rfl ?_
  refine j_vW (av := [.int (nI (j))]) (cm_isSolution l hfl D cI cJ cZ q R C hG th kn me ns he nx dr nl lp cu so wi us ho nh ke ta de se L hL hLO hM hK (nI (j))) 0 rfl rfl mw3_186 mw3_188 msel33 mw1_4 mw3_189 rfl hd_X3_isSolution rfl ⟨rfl, rfl⟩ ⟨Nat.le_of_ble_eq_true rfl, Nat.le_of_ble_eq_true rfl⟩ ⟨Nat.zero_le _, Nat.zero_le _⟩ (Nat.le_of_ble_eq_true rfl) rfl dX3_copy_3 ?_
  rintro _ _ ⟨rfl, ns5, so5, hH5, rfl⟩
  refine j_st (st' := [.int (bI ((inB (sol R C cu L).length (nI (j))))), .ref (q 0)]) rfl ?_
  have hsy : so5 j = y := hH5.2 j y hy
  refine jb_if_eq (tgt := 13) (b := (inB (sol R C cu L).length (nI (j)))) dX3_copy_6 (by decide) (fun c6 => ?_) (fun c6 => ?_)
  · exact absurd hin (by rw [c6]; decide)
  · refine j_iconst (v := nI (0)) dX3_copy_9 (by decide) ?_
    refine j_goto (tgt := 14) dX3_copy_10 (by decide) ?_
    refine pf_X3_103 (wM cI cJ cZ q R C 0 true (kn && me) ns5 he nx dr nl lp cu so5 wi us ho nh ke ta de se) 0 rfl (Nat.le_of_ble_eq_true rfl) rfl dX3_copy_14 ?_
    refine j_aload_n dX3_copy_17 rfl 0 rfl ?_
    refine j_aload_n dX3_copy_18 rfl 0 rfl ?_
    refine gf_X3_103 0 rfl (rfl) dX3_copy_19 ?_
    refine jn_if_ne (tgt := 34) (a := 0) (by omega) dX3_copy_22 (by decide) (fun c22 => ?_) (fun c22 => ?_)
    · exact absurd c22 (by first | decide | omega)
    · refine j_aload_n dX3_copy_25 rfl 0 rfl ?_
      refine gf_X3_43 0 rfl (rfl) dX3_copy_26 ?_
      refine j_iload_n dX3_copy_29 rfl 1 rfl ?_
      refine jn_iald (v := nI (y)) 12 0 rfl rfl (by omega) (by omega) (by show nI (so5 j) = nI y; rw [hsy]) dX3_copy_30 ?_
      refine j_goto (tgt := 38) dX3_copy_31 (by decide) ?_
      refine pf_X3_211 (wM cI cJ cZ q R C 0 true (kn && me) ns5 he nx y nl lp cu so5 wi us ho nh ke ta de se) 0 rfl (Nat.le_of_ble_eq_true rfl) rfl dX3_copy_38 ?_
      exact j_vret (tys' := []) rfl hR dX3_copy_41 (⟨rfl, MW_of ⟨hL, fun _ => hH5, fun _ h => hMe (by revert h; cases kn <;> simp) (by revert h; cases kn <;> simp), hJ, hy31⟩⟩)

set_option maxHeartbeats 4000000 in
set_option maxRecDepth 100000 in
theorem cm_copyX (l : Launch) (hfl : l.flags = flags0) (D : va_G) (cI cJ cZ : ClassId) (q : Nat → Nat) (R C : Nat) (hG : GS R C) (th : Nat) (kn me : Bool) (ns he nx dr nl : Nat) (lp cu so wi us ho nh : Nat → Nat) (ke : Nat → Int64) (ta de : Nat → Nat) (se : Nat → Bool) (L : List Nat) (hLO : LO R C L) (hM : MO R C cu) (hI : MI R C L cu kn me ns nl lp so wi us de se dr) (x : Int32) (hx : inB (sol R C cu L).length x = false) : Ct l yX3_copy cX3_copy 2 none ({ frames := 5, cells := 0, slots := 0, locals := 109 } : Room) D (tys3 cI cJ cZ) (tys3 cI cJ cZ) (wM cI cJ cZ q R C th kn me ns he nx dr nl lp cu so wi us ho nh ke ta de se) [.ref (q 0), .int (x)] (fun r u => r = none ∧ MW cI cJ cZ q R C L 1 dr cu u) 0 0 := by
  refine Ct.of hfl (by decide) (Nat.le_of_ble_eq_true rfl) ?_
  intro k hR _
  have hR4 := hG.2.1
  have hC3 := hG.2.2.2
  have hR1 := hG.1
  have hC1 := hG.2.2.1
  have hE := hG.E
  have hRC := hG.RC
  have hE4 := hG.E4
  have hP := hG.P
  obtain ⟨hL, hK, hMe, hJ, hdr⟩ := hI
  show V k l D (tys3 cI cJ cZ) ({ frames := 5, cells := 0, slots := 0, locals := 109 } : Room) cX3_copy 2 RX3 (wM cI cJ cZ q R C th kn me ns he nx dr nl lp cu so wi us ho nh ke ta de se) 0 0 0 [(0, .ref (q 0)), (1, .int (x))] []
  refine j_aload_n dX3_copy_0 rfl 0 rfl ?_
  refine j_aload_n dX3_copy_1 rfl 0 rfl ?_
  refine j_iload_n dX3_copy_2 rfl 1 rfl ?_
  refine j_vW (av := [.int (x)]) (cm_isSolution l hfl D cI cJ cZ q R C hG th kn me ns he nx dr nl lp cu so wi us ho nh ke ta de se L hL hLO hM hK (x)) 0 rfl rfl mw3_186 mw3_188 msel33 mw1_4 mw3_189 rfl hd_X3_isSolution rfl ⟨rfl, rfl⟩ ⟨Nat.le_of_ble_eq_true rfl, Nat.le_of_ble_eq_true rfl⟩ ⟨Nat.zero_le _, Nat.zero_le _⟩ (Nat.le_of_ble_eq_true rfl) rfl dX3_copy_3 ?_
  rintro _ _ ⟨rfl, ns5, so5, hH5, rfl⟩
  refine j_st (st' := [.int (bI ((inB (sol R C cu L).length (x)))), .ref (q 0)]) rfl ?_
  refine jb_if_eq (tgt := 13) (b := (inB (sol R C cu L).length (x))) dX3_copy_6 (by decide) (fun c6 => ?_) (fun c6 => ?_)
  · refine j_iconst (v := nI (1)) dX3_copy_13 (by decide) ?_
    refine pf_X3_103 (wM cI cJ cZ q R C 1 true (kn && me) ns5 he nx dr nl lp cu so5 wi us ho nh ke ta de se) 0 rfl (Nat.le_of_ble_eq_true rfl) rfl dX3_copy_14 ?_
    refine j_aload_n dX3_copy_17 rfl 0 rfl ?_
    refine j_aload_n dX3_copy_18 rfl 0 rfl ?_
    refine gf_X3_103 0 rfl (rfl) dX3_copy_19 ?_
    refine jn_if_ne (tgt := 34) (a := 1) (by omega) dX3_copy_22 (by decide) (fun c22 => ?_) (fun c22 => ?_)
    · refine j_aload_n dX3_copy_34 rfl 0 rfl ?_
      refine gf_X3_211 0 rfl (rfl) dX3_copy_35 ?_
      refine pf_X3_211 (wM cI cJ cZ q R C 1 true (kn && me) ns5 he nx dr nl lp cu so5 wi us ho nh ke ta de se) 0 rfl (Nat.le_of_ble_eq_true rfl) rfl dX3_copy_38 ?_
      exact j_vret (tys' := []) rfl hR dX3_copy_41 (⟨rfl, MW_of ⟨hL, fun _ => hH5, fun _ h => hMe (by revert h; cases kn <;> simp) (by revert h; cases kn <;> simp), hJ, hdr⟩⟩)
    · exact absurd c22 (by first | decide | omega)
  · rw [hx] at c6; cases c6

set_option maxHeartbeats 4000000 in
set_option maxRecDepth 100000 in
theorem cm_drawn (l : Launch) (hfl : l.flags = flags0) (D : va_G) (cI cJ cZ : ClassId) (q : Nat → Nat) (R C : Nat) (hG : GS R C) (th : Nat) (kn me : Bool) (ns he nx dr nl : Nat) (lp cu so wi us ho nh : Nat → Nat) (ke : Nat → Int64) (ta de : Nat → Nat) (se : Nat → Bool) (L : List Nat) (hLO : LO R C L) (hM : MO R C cu) (hI : MI R C L cu kn me ns nl lp so wi us de se dr) : Ct l yX3_drawn cX3_drawn 1 (Option.some FieldType.int) ({ frames := 2, cells := 0, slots := 0, locals := 44 } : Room) D (tys3 cI cJ cZ) (tys3 cI cJ cZ) (wM cI cJ cZ q R C th kn me ns he nx dr nl lp cu so wi us ho nh ke ta de se) [.ref (q 0)] (fun r u => r = some (.int (nI (szA dr (nE R C)))) ∧ MW cI cJ cZ q R C L 0 dr cu u) 0 0 := by
  refine Ct.of hfl (by decide) (Nat.le_of_ble_eq_true rfl) ?_
  intro k hR _
  have hR4 := hG.2.1
  have hC3 := hG.2.2.2
  have hR1 := hG.1
  have hC1 := hG.2.2.1
  have hE := hG.E
  have hRC := hG.RC
  have hE4 := hG.E4
  have hP := hG.P
  obtain ⟨hL, hK, hMe, hJ, hdr⟩ := hI
  show V k l D (tys3 cI cJ cZ) ({ frames := 2, cells := 0, slots := 0, locals := 44 } : Room) cX3_drawn 1 RX3 (wM cI cJ cZ q R C th kn me ns he nx dr nl lp cu so wi us ho nh ke ta de se) 0 0 0 [(0, .ref (q 0))] []
  refine j_aload_n dX3_drawn_0 rfl 0 rfl ?_
  refine j_iconst (v := nI (0)) dX3_drawn_1 (by decide) ?_
  refine pf_X3_103 (wM cI cJ cZ q R C 0 kn me ns he nx dr nl lp cu so wi us ho nh ke ta de se) 0 rfl (Nat.le_of_ble_eq_true rfl) rfl dX3_drawn_2 ?_
  refine j_aload_n dX3_drawn_5 rfl 0 rfl ?_
  refine j_aload_n dX3_drawn_6 rfl 0 rfl ?_
  refine gf_X3_211 0 rfl (rfl) dX3_drawn_7 ?_
  refine j_vW (av := [.int (nI (dr))]) (c_size l hfl D cI cJ cZ q R C hG 0 kn me ns he nx dr nl lp cu so wi us ho nh ke ta de se (dr) (hdr)) 0 rfl rfl mw3_194 mw3_196 msel34 mw1_4 mw3_197 rfl hd_X3_size rfl ⟨rfl, rfl⟩ ⟨Nat.le_of_ble_eq_true rfl, Nat.le_of_ble_eq_true rfl⟩ ⟨Nat.zero_le _, Nat.zero_le _⟩ (Nat.le_of_ble_eq_true rfl) rfl dX3_drawn_10 ?_
  rintro _ _ ⟨rfl, rfl⟩
  refine j_st (st' := [.int (nI (szA dr (nE R C)))]) rfl ?_
  exact j_iret (tys' := []) rfl hR dX3_drawn_13 (⟨rfl, MW_of ⟨hL, hK, hMe, hJ, hdr⟩⟩)

set_option maxHeartbeats 4000000 in
set_option maxRecDepth 100000 in
theorem cm_isLoop (l : Launch) (hfl : l.flags = flags0) (D : va_G) (cI cJ cZ : ClassId) (q : Nat → Nat) (R C : Nat) (hG : GS R C) (th : Nat) (kn me : Bool) (ns he nx dr nl : Nat) (lp cu so wi us ho nh : Nat → Nat) (ke : Nat → Int64) (ta de : Nat → Nat) (se : Nat → Bool) (L : List Nat) (hLO : LO R C L) (hM : MO R C cu) (hI : MI R C L cu kn me ns nl lp so wi us de se dr) : Ct l yX3_isLoop cX3_isLoop 1 (Option.some FieldType.boolean) ({ frames := 5, cells := 0, slots := 0, locals := 113 } : Room) D (tys3 cI cJ cZ) (tys3 cI cJ cZ) (wM cI cJ cZ q R C th kn me ns he nx dr nl lp cu so wi us ho nh ke ta de se) [.ref (q 0)] (fun r u => r = some (.int (bI ((ilS R C dr)))) ∧ MW cI cJ cZ q R C L 0 dr cu u) 0 0 := by
  refine Ct.of hfl (by decide) (Nat.le_of_ble_eq_true rfl) ?_
  intro k hR _
  have hR4 := hG.2.1
  have hC3 := hG.2.2.2
  have hR1 := hG.1
  have hC1 := hG.2.2.1
  have hE := hG.E
  have hRC := hG.RC
  have hE4 := hG.E4
  have hP := hG.P
  obtain ⟨hL, hK, hMe, hJ, hdr⟩ := hI
  show V k l D (tys3 cI cJ cZ) ({ frames := 5, cells := 0, slots := 0, locals := 113 } : Room) cX3_isLoop 1 RX3 (wM cI cJ cZ q R C th kn me ns he nx dr nl lp cu so wi us ho nh ke ta de se) 0 0 0 [(0, .ref (q 0))] []
  refine j_aload_n dX3_isLoop_0 rfl 0 rfl ?_
  refine j_iconst (v := nI (0)) dX3_isLoop_1 (by decide) ?_
  refine pf_X3_103 (wM cI cJ cZ q R C 0 kn me ns he nx dr nl lp cu so wi us ho nh ke ta de se) 0 rfl (Nat.le_of_ble_eq_true rfl) rfl dX3_isLoop_2 ?_
  refine j_aload_n dX3_isLoop_5 rfl 0 rfl ?_
  refine j_aload_n dX3_isLoop_6 rfl 0 rfl ?_
  refine gf_X3_211 0 rfl (rfl) dX3_isLoop_7 ?_
  refine j_vW (av := [.int (nI (dr))]) (c_isLoopSet l hfl D cI cJ cZ q R C hG 0 kn me ns he nx dr nl lp cu so wi us ho nh ke ta de se (hJ) (dr) (hdr)) 0 rfl rfl mw2_212 mw2_214 msel14 mw1_4 mw2_215 rfl hd_X3_isLoopSet rfl ⟨rfl, rfl⟩ ⟨Nat.le_of_ble_eq_true rfl, Nat.le_of_ble_eq_true rfl⟩ ⟨Nat.zero_le _, Nat.zero_le _⟩ (Nat.le_of_ble_eq_true rfl) rfl dX3_isLoop_10 ?_
  rintro _ _ ⟨rfl, rfl⟩
  refine j_st (st' := [.int (bI ((ilS R C dr)))]) rfl ?_
  exact j_zretB (tys' := []) rfl hR dX3_isLoop_13 (⟨rfl, MW_of ⟨hL, hK, hMe, MJ_of hG (ilX_out hG), hdr⟩⟩)

set_option maxHeartbeats 4000000 in
set_option maxRecDepth 100000 in
theorem cm_rank (l : Launch) (hfl : l.flags = flags0) (D : va_G) (cI cJ cZ : ClassId) (q : Nat → Nat) (R C : Nat) (hG : GS R C) (th : Nat) (kn me : Bool) (ns he nx dr nl : Nat) (lp cu so wi us ho nh : Nat → Nat) (ke : Nat → Int64) (ta de : Nat → Nat) (se : Nat → Bool) (L : List Nat) (hLO : LO R C L) (hM : MO R C cu) (hI : MI R C L cu kn me ns nl lp so wi us de se dr) : Ct l yX3_rank cX3_rank 2 (Option.some FieldType.int) ({ frames := 4, cells := 0, slots := 0, locals := 88 } : Room) D (tys3 cI cJ cZ) (tys3 cI cJ cZ) (wM cI cJ cZ q R C th kn me ns he nx dr nl lp cu so wi us ho nh ke ta de se) [.ref (q 0)] (fun r u => (∃ i, r = some (.int (nI i)) ∧ (sol R C cu L)[i]? = some dr ∧ MW cI cJ cZ q R C L 0 dr cu u) ∨ (r = some (.int (nI 0)) ∧ dr ∉ sol R C cu L ∧ MW cI cJ cZ q R C L 1 dr cu u)) 0 0 := by
  refine Ct.of hfl (by decide) (Nat.le_of_ble_eq_true rfl) ?_
  intro k hR _
  have hR4 := hG.2.1
  have hC3 := hG.2.2.2
  have hR1 := hG.1
  have hC1 := hG.2.2.1
  have hE := hG.E
  have hRC := hG.RC
  have hE4 := hG.E4
  have hP := hG.P
  obtain ⟨hL, hK, hMe, hJ, hdr⟩ := hI
  show V k l D (tys3 cI cJ cZ) ({ frames := 4, cells := 0, slots := 0, locals := 88 } : Room) cX3_rank 2 RX3 (wM cI cJ cZ q R C th kn me ns he nx dr nl lp cu so wi us ho nh ke ta de se) 0 0 0 [(0, .ref (q 0))] []
  refine j_aload_n dX3_rank_0 rfl 0 rfl ?_
  refine j_vW (av := []) (c_find l hfl D cI cJ cZ q R C hG th kn me ns he nx dr nl lp cu so wi us ho nh ke ta de se hM.1 L hL hLO.1 hLO.2.1 hK) 0 rfl rfl mw3_133 mw3_135 msel23 mw1_4 mw3_136 rfl hd_X3_find rfl ⟨rfl, rfl⟩ ⟨Nat.le_of_ble_eq_true rfl, Nat.le_of_ble_eq_true rfl⟩ ⟨Nat.zero_le _, Nat.zero_le _⟩ (Nat.le_of_ble_eq_true rfl) rfl dX3_rank_1 ?_
  rintro _ _ ⟨rfl, ns5, so5, hH5, rfl⟩
  refine j_st (st' := []) rfl ?_
  refine j_iconst (v := nI (0)) dX3_rank_4 (by decide) ?_
  refine j_istore_n [(1, .int (nI (0))), (0, .ref (q 0))] dX3_rank_5 rfl (by decide) rfl ?_
  have hn5 := hH5.1
  have hsl := sol_len (R := R) (C := C) (cu := cu) (L := L)
  have hl13 := hLO.2.1
  have hs31 := Hl_lt hH5 (fun x hx => hLO.1 x (sol_sub hx))
  refine j_sub [1, 0] [(0, .ref (q 0)), (1, .int (nI (0)))] rfl ?_
  have loop6 : ∀ (n : Nat) (i : Nat), (ns5 < i + n) → (i ≤ ns5) → (∀ j, j < i → so5 j ≠ dr) → V k l D (tys3 cI cJ cZ) ({ frames := 4, cells := 0, slots := 0, locals := 88 } : Room) cX3_rank 2 RX3 (wM cI cJ cZ q R C th true (kn && me) ns5 he nx dr nl lp cu so5 wi us ho nh ke ta de se) 0 0 6 [(0, .ref (q 0)), (1, .int (nI (i)))] [] := by
    intro n
    induction n with
    | zero => intro i hm hi hno; exfalso; omega
    | succ n ih6 =>
      intro i hm hi hno
      refine j_iload_n dX3_rank_6 rfl 1 rfl ?_
      refine j_aload_n dX3_rank_7 rfl 0 rfl ?_
      refine gf_X3_159 0 rfl (rfl) dX3_rank_8 ?_
      refine jn_icmp_ge (tgt := 33) (a := i) (b := ns5) (by omega) (by omega) dX3_rank_11 (by decide) (fun c11 => ?_) (fun c11 => ?_)
      · refine j_aload_n dX3_rank_33 rfl 0 rfl ?_
        refine j_iload_n dX3_rank_34 rfl 1 rfl ?_
        refine j_aload_n dX3_rank_35 rfl 0 rfl ?_
        refine gf_X3_159 0 rfl (rfl) dX3_rank_36 ?_
        refine jn_icmp_ge (tgt := 46) (a := i) (b := ns5) (by omega) (by omega) dX3_rank_39 (by decide) (fun c39 => ?_) (fun c39 => ?_)
        · refine j_iconst (v := nI (1)) dX3_rank_46 (by decide) ?_
          refine pf_X3_103 (wM cI cJ cZ q R C 1 true (kn && me) ns5 he nx dr nl lp cu so5 wi us ho nh ke ta de se) 0 rfl (Nat.le_of_ble_eq_true rfl) rfl dX3_rank_47 ?_
          refine j_aload_n dX3_rank_50 rfl 0 rfl ?_
          refine gf_X3_103 0 rfl (rfl) dX3_rank_51 ?_
          refine jn_if_ne (tgt := 61) (a := 1) (by omega) dX3_rank_54 (by decide) (fun c54 => ?_) (fun c54 => ?_)
          · refine j_iconst (v := nI (0)) dX3_rank_61 (by decide) ?_
            exact j_iret (tys' := []) rfl hR dX3_rank_62 (Or.inr ⟨rfl, fun hm => by obtain ⟨j, hj⟩ := List.getElem?_of_mem hm; exact hno j (by have := (List.getElem?_eq_some_iff.mp hj).1; omega) (hH5.2 j _ hj), MW_of ⟨hL, fun _ => hH5, fun _ h => hMe (by revert h; cases kn <;> simp) (by revert h; cases kn <;> simp), hJ, hdr⟩⟩)
          · exact absurd c54 (by first | decide | omega)
        · refine j_iconst (v := nI (0)) dX3_rank_42 (by decide) ?_
          refine j_goto (tgt := 47) dX3_rank_43 (by decide) ?_
          refine pf_X3_103 (wM cI cJ cZ q R C 0 true (kn && me) ns5 he nx dr nl lp cu so5 wi us ho nh ke ta de se) 0 rfl (Nat.le_of_ble_eq_true rfl) rfl dX3_rank_47 ?_
          refine j_aload_n dX3_rank_50 rfl 0 rfl ?_
          refine gf_X3_103 0 rfl (rfl) dX3_rank_51 ?_
          refine jn_if_ne (tgt := 61) (a := 0) (by omega) dX3_rank_54 (by decide) (fun c54 => ?_) (fun c54 => ?_)
          · exact absurd c54 (by first | decide | omega)
          · refine j_iload_n dX3_rank_57 rfl 1 rfl ?_
            refine j_goto (tgt := 62) dX3_rank_58 (by decide) ?_
            exact j_iret (tys' := []) rfl hR dX3_rank_62 (Or.inl ⟨i, rfl, by first | (exfalso; omega) | skip; rw [List.getElem?_eq_getElem (show i < (sol R C cu L).length by omega)]; rw [← c24]; exact congrArg some (hH5.2 i _ (List.getElem?_eq_getElem (by omega))).symm, MW_of ⟨hL, fun _ => hH5, fun _ h => hMe (by revert h; cases kn <;> simp) (by revert h; cases kn <;> simp), hJ, hdr⟩⟩)
      · refine j_aload_n dX3_rank_14 rfl 0 rfl ?_
        refine gf_X3_43 0 rfl (rfl) dX3_rank_15 ?_
        refine j_iload_n dX3_rank_18 rfl 1 rfl ?_
        refine jn_iald (v := nI (so5 i)) 12 0 rfl rfl (by omega) (by omega) (rfl) dX3_rank_19 ?_
        refine j_aload_n dX3_rank_20 rfl 0 rfl ?_
        refine gf_X3_211 0 rfl (rfl) dX3_rank_21 ?_
        refine jn_icmp_eq (tgt := 33) (a := so5 i) (b := dr) (hs31 i (by omega)) (hdr) dX3_rank_24 (by decide) (fun c24 => ?_) (fun c24 => ?_)
        · refine j_aload_n dX3_rank_33 rfl 0 rfl ?_
          refine j_iload_n dX3_rank_34 rfl 1 rfl ?_
          refine j_aload_n dX3_rank_35 rfl 0 rfl ?_
          refine gf_X3_159 0 rfl (rfl) dX3_rank_36 ?_
          refine jn_icmp_ge (tgt := 46) (a := i) (b := ns5) (by omega) (by omega) dX3_rank_39 (by decide) (fun c39 => ?_) (fun c39 => ?_)
          · refine j_iconst (v := nI (1)) dX3_rank_46 (by decide) ?_
            refine pf_X3_103 (wM cI cJ cZ q R C 1 true (kn && me) ns5 he nx dr nl lp cu so5 wi us ho nh ke ta de se) 0 rfl (Nat.le_of_ble_eq_true rfl) rfl dX3_rank_47 ?_
            refine j_aload_n dX3_rank_50 rfl 0 rfl ?_
            refine gf_X3_103 0 rfl (rfl) dX3_rank_51 ?_
            refine jn_if_ne (tgt := 61) (a := 1) (by omega) dX3_rank_54 (by decide) (fun c54 => ?_) (fun c54 => ?_)
            · refine j_iconst (v := nI (0)) dX3_rank_61 (by decide) ?_
              exact j_iret (tys' := []) rfl hR dX3_rank_62 (Or.inr ⟨rfl, fun hm => by obtain ⟨j, hj⟩ := List.getElem?_of_mem hm; exact hno j (by have := (List.getElem?_eq_some_iff.mp hj).1; omega) (hH5.2 j _ hj), MW_of ⟨hL, fun _ => hH5, fun _ h => hMe (by revert h; cases kn <;> simp) (by revert h; cases kn <;> simp), hJ, hdr⟩⟩)
            · exact absurd c54 (by first | decide | omega)
          · refine j_iconst (v := nI (0)) dX3_rank_42 (by decide) ?_
            refine j_goto (tgt := 47) dX3_rank_43 (by decide) ?_
            refine pf_X3_103 (wM cI cJ cZ q R C 0 true (kn && me) ns5 he nx dr nl lp cu so5 wi us ho nh ke ta de se) 0 rfl (Nat.le_of_ble_eq_true rfl) rfl dX3_rank_47 ?_
            refine j_aload_n dX3_rank_50 rfl 0 rfl ?_
            refine gf_X3_103 0 rfl (rfl) dX3_rank_51 ?_
            refine jn_if_ne (tgt := 61) (a := 0) (by omega) dX3_rank_54 (by decide) (fun c54 => ?_) (fun c54 => ?_)
            · exact absurd c54 (by first | decide | omega)
            · refine j_iload_n dX3_rank_57 rfl 1 rfl ?_
              refine j_goto (tgt := 62) dX3_rank_58 (by decide) ?_
              exact j_iret (tys' := []) rfl hR dX3_rank_62 (Or.inl ⟨i, rfl, by first | (exfalso; omega) | skip; rw [List.getElem?_eq_getElem (show i < (sol R C cu L).length by omega)]; rw [← c24]; exact congrArg some (hH5.2 i _ (List.getElem?_eq_getElem (by omega))).symm, MW_of ⟨hL, fun _ => hH5, fun _ h => hMe (by revert h; cases kn <;> simp) (by revert h; cases kn <;> simp), hJ, hdr⟩⟩)
        · refine j_iinc (n0 := 1) (v := nI (i + 1)) [(1, .int (nI (i + 1))), (0, .ref (q 0))] dX3_rank_27 rfl (by exact nI_add (i) 1) (by decide) rfl ?_
          refine j_goto (tgt := 6) dX3_rank_30 (by decide) ?_
          refine j_sub [1, 0] [(0, .ref (q 0)), (1, .int (nI (i + 1)))] rfl ?_
          exact ih6 (i + 1) (by omega) (by omega) (fun j h => if h2 : j = i then by rw [h2]; exact c24 else hno j (by omega))
  exact loop6 (ns5 + 2) 0 (by omega) (by omega) (fun j h => absurd h (by omega))

set_option maxHeartbeats 4000000 in
set_option maxRecDepth 100000 in
theorem cm_alive (l : Launch) (hfl : l.flags = flags0) (D : va_G) (cI cJ cZ : ClassId) (q : Nat → Nat) (R C : Nat) (hG : GS R C) (th : Nat) (kn me : Bool) (ns he nx dr nl : Nat) (lp cu so wi us ho nh : Nat → Nat) (ke : Nat → Int64) (ta de : Nat → Nat) (se : Nat → Bool) (L : List Nat) (hLO : LO R C L) (hM : MO R C cu) (hI : MI R C L cu kn me ns nl lp so wi us de se dr) : Ct l yX3_alive cX3_alive 4 (Option.some FieldType.int) ({ frames := 4, cells := 0, slots := 0, locals := 95 } : Room) D (tys3 cI cJ cZ) (tys3 cI cJ cZ) (wM cI cJ cZ q R C th kn me ns he nx dr nl lp cu so wi us ho nh ke ta de se) [.ref (q 0)] (fun r u => r = some (.int (nI (mAl R C dr cu (nE R C)))) ∧ MW cI cJ cZ q R C L 0 dr cu u) 0 0 := by
  refine Ct.of hfl (by decide) (Nat.le_of_ble_eq_true rfl) ?_
  intro k hR _
  have hR4 := hG.2.1
  have hC3 := hG.2.2.2
  have hR1 := hG.1
  have hC1 := hG.2.2.1
  have hE := hG.E
  have hRC := hG.RC
  have hE4 := hG.E4
  have hP := hG.P
  obtain ⟨hL, hK, hMe, hJ, hdr⟩ := hI
  show V k l D (tys3 cI cJ cZ) ({ frames := 4, cells := 0, slots := 0, locals := 95 } : Room) cX3_alive 4 RX3 (wM cI cJ cZ q R C th kn me ns he nx dr nl lp cu so wi us ho nh ke ta de se) 0 0 0 [(0, .ref (q 0))] []
  refine j_aload_n dX3_alive_0 rfl 0 rfl ?_
  refine j_iconst (v := nI (0)) dX3_alive_1 (by decide) ?_
  refine pf_X3_103 (wM cI cJ cZ q R C 0 kn me ns he nx dr nl lp cu so wi us ho nh ke ta de se) 0 rfl (Nat.le_of_ble_eq_true rfl) rfl dX3_alive_2 ?_
  refine j_iconst (v := nI (0)) dX3_alive_5 (by decide) ?_
  refine j_istore_n [(1, .int (nI (0))), (0, .ref (q 0))] dX3_alive_6 rfl (by decide) rfl ?_
  refine j_iconst (v := nI (1)) dX3_alive_7 (by decide) ?_
  refine j_istore_n [(2, .int (nI (1))), (1, .int (nI (0))), (0, .ref (q 0))] dX3_alive_8 rfl (by decide) rfl ?_
  refine j_lv (lv' := [(2, .int (nI (1))), (1, .int (nI (mAl R C dr cu 0))), (0, .ref (q 0))]) (by rfl) ?_
  refine j_lv (lv' := [(2, .int (nI (0 + 1))), (1, .int (nI (mAl R C dr cu 0))), (0, .ref (q 0))]) (by rfl) ?_
  refine j_sub [2, 1, 0] [(0, .ref (q 0)), (1, .int (nI (mAl R C dr cu 0))), (2, .int (nI (0 + 1)))] rfl ?_
  have loop9 : ∀ (n : Nat) (j : Nat) (de1 : Nat → Nat) (se1 : Nat → Bool), (nE R C < j + n) → (j ≤ nE R C) → (MJ R C de1 se1) → V k l D (tys3 cI cJ cZ) ({ frames := 4, cells := 0, slots := 0, locals := 95 } : Room) cX3_alive 4 RX3 (wM cI cJ cZ q R C 0 kn me ns he nx dr nl lp cu so wi us ho nh ke ta de1 se1) 0 0 9 [(0, .ref (q 0)), (1, .int (nI (mAl R C dr cu j))), (2, .int (nI (j + 1)))] [] := by
    intro n
    induction n with
    | zero => intro j de1 se1 hm hj hJ1; exfalso; omega
    | succ n ih9 =>
      intro j de1 se1 hm hj hJ1
      refine j_iload_n dX3_alive_9 rfl 2 rfl ?_
      refine j_aload_n dX3_alive_10 rfl 0 rfl ?_
      refine gf_X3_93 0 rfl (rfl) dX3_alive_11 ?_
      refine jn_icmp_gt (tgt := 53) (a := j + 1) (b := nE R C) (by omega) (by omega) dX3_alive_14 (by decide) (fun c14 => ?_) (fun c14 => ?_)
      · refine j_iload_n dX3_alive_53 rfl 1 rfl ?_
        exact j_iret (tys' := []) rfl hR dX3_alive_54 (⟨by rw [show j = nE R C by omega], MW_of ⟨hL, hK, hMe, hJ1, hdr⟩⟩)
      · have hdd : dr / 2 ^ (31 - (j + 1)) * 2 ^ (31 - (j + 1)) ≤ dr := Nat.div_mul_le_self _ _
        have hdl := Nat.div_le_self dr (2 ^ (31 - (j + 1)))
        refine j_aload_n dX3_alive_17 rfl 0 rfl ?_
        refine gf_X3_211 0 rfl (rfl) dX3_alive_18 ?_
        refine j_bipush (v := nI (31)) dX3_alive_21 (by decide) ?_
        refine j_iload_n dX3_alive_23 rfl 2 rfl ?_
        refine jn_isub dX3_alive_24 (by omega) rfl ?_
        refine j_ishr dX3_alive_25 rfl ?_
        refine j_topi (y := nI (dr / 2 ^ (31 - (j + 1)))) (by rw [nb_shr hdr (by omega)]) ?_
        refine j_bipush (v := nI (31)) dX3_alive_26 (by decide) ?_
        refine j_iload_n dX3_alive_28 rfl 2 rfl ?_
        refine jn_isub dX3_alive_29 (by omega) rfl ?_
        refine j_ishl dX3_alive_30 rfl ?_
        refine j_topi (y := nI (dr / 2 ^ (31 - (j + 1)) * 2 ^ (31 - (j + 1)))) (by rw [nb_shl (by omega) (by omega)]) ?_
        refine j_istore_n [(3, .int (nI (dr / 2 ^ (31 - (j + 1)) * 2 ^ (31 - (j + 1))))), (0, .ref (q 0)), (1, .int (nI (mAl R C dr cu j))), (2, .int (nI (j + 1)))] dX3_alive_31 rfl (by decide) rfl ?_
        refine j_aload_n dX3_alive_32 rfl 1 rfl ?_
        refine j_iload_n dX3_alive_33 rfl 0 rfl ?_
        refine j_iload_n dX3_alive_34 rfl 3 rfl ?_
        refine j_vW (av := [.int (nI (dr / 2 ^ (31 - (j + 1)) * 2 ^ (31 - (j + 1)))), .int (nI (j + 1))]) (c_isAlive l hfl D cI cJ cZ q R C hG 0 kn me ns he nx dr nl lp cu so wi us ho nh ke ta de1 se1 hJ1 hM.1 (dr / 2 ^ (31 - (j + 1)) * 2 ^ (31 - (j + 1))) (j + 1) (by omega) (by omega)) 0 rfl rfl mw3_165 mw3_167 msel30 mw1_4 mw3_168 rfl hd_X3_isAlive rfl ⟨rfl, rfl⟩ ⟨Nat.le_of_ble_eq_true rfl, Nat.le_of_ble_eq_true rfl⟩ ⟨Nat.zero_le _, Nat.zero_le _⟩ (Nat.le_of_ble_eq_true rfl) rfl dX3_alive_35 ?_
        rintro _ _ ⟨rfl, se5, hJ5, rfl⟩
        refine j_st (st' := [.int (bI ((alv R C (dr / 2 ^ (31 - (j + 1)) * 2 ^ (31 - (j + 1))) (j + 1) cu)))]) rfl ?_
        refine jb_if_eq (tgt := 45) (b := (alv R C (dr / 2 ^ (31 - (j + 1)) * 2 ^ (31 - (j + 1))) (j + 1) cu)) dX3_alive_38 (by decide) (fun c38 => ?_) (fun c38 => ?_)
        · refine j_iload_n dX3_alive_45 rfl 2 rfl ?_
          refine j_topi (y := nI (mAl R C dr cu (j + 1))) (by rw [show mAl R C dr cu (j + 1) = mAl R C dr cu j from by simp only [mAl, c38]; rfl]) ?_
          refine j_istore_n [(1, .int (nI (mAl R C dr cu (j + 1)))), (3, .int (nI (dr / 2 ^ (31 - (j + 1)) * 2 ^ (31 - (j + 1))))), (0, .ref (q 0)), (2, .int (nI (j + 1)))] dX3_alive_46 rfl (by decide) rfl ?_
          refine j_iinc (n0 := 3) (v := nI (j + 1 + 1)) [(2, .int (nI (j + 1 + 1))), (1, .int (nI (mAl R C dr cu (j + 1)))), (3, .int (nI (dr / 2 ^ (31 - (j + 1)) * 2 ^ (31 - (j + 1))))), (0, .ref (q 0))] dX3_alive_47 rfl (by exact nI_add (j + 1) 1) (by decide) rfl ?_
          refine j_goto (tgt := 9) dX3_alive_50 (by decide) ?_
          refine j_sub [3, 1, 0] [(0, .ref (q 0)), (1, .int (nI (mAl R C dr cu (j + 1)))), (2, .int (nI (j + 1 + 1)))] rfl ?_
          exact ih9 (j + 1) (deg R C (dr / 2 ^ (31 - (j + 1)) * 2 ^ (31 - (j + 1)))) (se5) (by omega) (by omega) hJ5
        · refine j_iload_n dX3_alive_41 rfl 3 rfl ?_
          refine j_goto (tgt := 46) dX3_alive_42 (by decide) ?_
          refine j_topi (y := nI (mAl R C dr cu (j + 1))) (by rw [show mAl R C dr cu (j + 1) = j + 1 from by simp only [mAl, c38]; rfl]) ?_
          refine j_istore_n [(1, .int (nI (mAl R C dr cu (j + 1)))), (3, .int (nI (dr / 2 ^ (31 - (j + 1)) * 2 ^ (31 - (j + 1))))), (0, .ref (q 0)), (2, .int (nI (j + 1)))] dX3_alive_46 rfl (by decide) rfl ?_
          refine j_iinc (n0 := 3) (v := nI (j + 1 + 1)) [(2, .int (nI (j + 1 + 1))), (1, .int (nI (mAl R C dr cu (j + 1)))), (3, .int (nI (dr / 2 ^ (31 - (j + 1)) * 2 ^ (31 - (j + 1))))), (0, .ref (q 0))] dX3_alive_47 rfl (by exact nI_add (j + 1) 1) (by decide) rfl ?_
          refine j_goto (tgt := 9) dX3_alive_50 (by decide) ?_
          refine j_sub [3, 1, 0] [(0, .ref (q 0)), (1, .int (nI (mAl R C dr cu (j + 1)))), (2, .int (nI (j + 1 + 1)))] rfl ?_
          exact ih9 (j + 1) (deg R C (dr / 2 ^ (31 - (j + 1)) * 2 ^ (31 - (j + 1)))) (se5) (by omega) (by omega) hJ5
  exact loop9 (nE R C + 2) 0 de se (by omega) (by omega) hJ

set_option maxHeartbeats 4000000 in
set_option maxRecDepth 100000 in
theorem cm_fail (l : Launch) (hfl : l.flags = flags0) (D : va_G) (cI cJ cZ : ClassId) (q : Nat → Nat) (R C : Nat) (hG : GS R C) (th : Nat) (kn me : Bool) (ns he nx dr nl : Nat) (lp cu so wi us ho nh : Nat → Nat) (ke : Nat → Int64) (ta de : Nat → Nat) (se : Nat → Bool) (v : Nat) : Ct l yX3_fail cX3_fail 2 (Option.some FieldType.int) ({ frames := 0, cells := 0, slots := 0, locals := 0 } : Room) D (tys3 cI cJ cZ) (tys3 cI cJ cZ) (wM cI cJ cZ q R C th kn me ns he nx dr nl lp cu so wi us ho nh ke ta de se) [.ref (q 0), .int (nI (v))] (fun r u => r = some (.int (nI 0)) ∧ u = wM cI cJ cZ q R C v kn me ns he nx dr nl lp cu so wi us ho nh ke ta de se) 0 0 := by
  refine Ct.of hfl (by decide) (Nat.le_of_ble_eq_true rfl) ?_
  intro k hR _
  have hR4 := hG.2.1
  have hC3 := hG.2.2.2
  have hR1 := hG.1
  have hC1 := hG.2.2.1
  have hE := hG.E
  have hRC := hG.RC
  have hE4 := hG.E4
  have hP := hG.P
  show V k l D (tys3 cI cJ cZ) ({ frames := 0, cells := 0, slots := 0, locals := 0 } : Room) cX3_fail 2 RX3 (wM cI cJ cZ q R C th kn me ns he nx dr nl lp cu so wi us ho nh ke ta de se) 0 0 0 [(0, .ref (q 0)), (1, .int (nI (v)))] []
  refine j_aload_n dX3_fail_0 rfl 0 rfl ?_
  refine j_iload_n dX3_fail_1 rfl 1 rfl ?_
  refine pf_X3_103 (wM cI cJ cZ q R C v kn me ns he nx dr nl lp cu so wi us ho nh ke ta de se) 0 rfl (Nat.le_of_ble_eq_true rfl) rfl dX3_fail_2 ?_
  refine j_iconst (v := nI (0)) dX3_fail_5 (by decide) ?_
  exact j_iret (tys' := []) rfl hR dX3_fail_6 (⟨rfl, rfl⟩)

set_option maxHeartbeats 4000000 in
set_option maxRecDepth 100000 in
theorem cm_spare (l : Launch) (hfl : l.flags = flags0) (D : va_G) (cI cJ cZ : ClassId) (q : Nat → Nat) (R C : Nat) (hG : GS R C) (th : Nat) (kn me : Bool) (ns he nx dr nl : Nat) (lp cu so wi us ho nh : Nat → Nat) (ke : Nat → Int64) (ta de : Nat → Nat) (se : Nat → Bool) (L : List Nat) (hLO : LO R C L) (hM : MO R C cu) (hI : MI R C L cu kn me ns nl lp so wi us de se dr) : Ct l yX3_spare cX3_spare 4 (Option.some FieldType.int) ({ frames := 4, cells := 0, slots := 0, locals := 88 } : Room) D (tys3 cI cJ cZ) (tys3 cI cJ cZ) (wM cI cJ cZ q R C th kn me ns he nx dr nl lp cu so wi us ho nh ke ta de se) [.ref (q 0)] (fun r u => ((sol R C cu L).length = 1 ∧ r = some (.int (nI (spS R C L cu (R * C)).2)) ∧ MW cI cJ cZ q R C L 0 dr ((spS R C L cu (R * C)).1) u) ∨ (r = some (.int (nI 0)) ∧ (sol R C cu L).length ≠ 1 ∧ MW cI cJ cZ q R C L 1 dr cu u)) 0 0 := by
  refine Ct.of hfl (by decide) (Nat.le_of_ble_eq_true rfl) ?_
  intro k hR _
  have hR4 := hG.2.1
  have hC3 := hG.2.2.2
  have hR1 := hG.1
  have hC1 := hG.2.2.1
  have hE := hG.E
  have hRC := hG.RC
  have hE4 := hG.E4
  have hP := hG.P
  obtain ⟨hL, hK, hMe, hJ, hdr⟩ := hI
  show V k l D (tys3 cI cJ cZ) ({ frames := 4, cells := 0, slots := 0, locals := 88 } : Room) cX3_spare 4 RX3 (wM cI cJ cZ q R C th kn me ns he nx dr nl lp cu so wi us ho nh ke ta de se) 0 0 0 [(0, .ref (q 0))] []
  refine j_aload_n dX3_spare_0 rfl 0 rfl ?_
  refine j_iconst (v := nI (0)) dX3_spare_1 (by decide) ?_
  refine pf_X3_103 (wM cI cJ cZ q R C 0 kn me ns he nx dr nl lp cu so wi us ho nh ke ta de se) 0 rfl (Nat.le_of_ble_eq_true rfl) rfl dX3_spare_2 ?_
  refine j_aload_n dX3_spare_5 rfl 0 rfl ?_
  refine j_vW (av := []) (c_find l hfl D cI cJ cZ q R C hG 0 kn me ns he nx dr nl lp cu so wi us ho nh ke ta de se hM.1 L hL hLO.1 hLO.2.1 hK) 0 rfl rfl mw3_133 mw3_135 msel23 mw1_4 mw3_136 rfl hd_X3_find rfl ⟨rfl, rfl⟩ ⟨Nat.le_of_ble_eq_true rfl, Nat.le_of_ble_eq_true rfl⟩ ⟨Nat.zero_le _, Nat.zero_le _⟩ (Nat.le_of_ble_eq_true rfl) rfl dX3_spare_6 ?_
  rintro _ _ ⟨rfl, ns5, so5, hH5, rfl⟩
  refine j_st (st' := []) rfl ?_
  refine j_aload_n dX3_spare_9 rfl 0 rfl ?_
  refine gf_X3_159 0 rfl (rfl) dX3_spare_10 ?_
  refine j_iconst (v := nI (1)) dX3_spare_13 (by decide) ?_
  refine jn_icmp_eq (tgt := 23) (a := ns5) (b := 1) (by rw [hH5.1]; have := sol_len (R := R) (C := C) (cu := cu) (L := L); have := hLO.2.1; omega) (by omega) dX3_spare_14 (by decide) (fun c14 => ?_) (fun c14 => ?_)
  · refine j_iconst (v := nI (0)) dX3_spare_23 (by decide) ?_
    refine j_istore_n [(1, .int (nI (0))), (0, .ref (q 0))] dX3_spare_24 rfl (by decide) rfl ?_
    refine j_iconst (v := nI (0)) dX3_spare_25 (by decide) ?_
    refine j_istore_n [(2, .int (nI (0))), (1, .int (nI (0))), (0, .ref (q 0))] dX3_spare_26 rfl (by decide) rfl ?_
    refine j_lv (lv' := [(2, .int (nI (0))), (1, .int (nI ((spS R C L cu 0).2))), (0, .ref (q 0))]) (by rfl) ?_
    have hn5 := hH5.1
    refine j_sub [2, 1, 0] [(0, .ref (q 0)), (1, .int (nI ((spS R C L cu 0).2))), (2, .int (nI (0)))] rfl ?_
    have loop27 : ∀ (n : Nat) (i : Nat) (kn1 me1 : Bool) (ns1 : Nat) (so1 : Nat → Nat), (R * C < i + n) → (i ≤ R * C) → (kn1 = true → Hl (sol R C (spS R C L cu i).1 L) ns1 so1) → (kn1 = true → me1 = true → ME R C (spS R C L cu i).1 L wi us) → V k l D (tys3 cI cJ cZ) ({ frames := 4, cells := 0, slots := 0, locals := 88 } : Room) cX3_spare 4 RX3 (wM cI cJ cZ q R C 0 kn1 me1 ns1 he nx dr nl lp ((spS R C L cu i).1) so1 wi us ho nh ke ta de se) 0 0 27 [(0, .ref (q 0)), (1, .int (nI ((spS R C L cu i).2))), (2, .int (nI (i)))] [] := by
      intro n
      induction n with
      | zero => intro i kn1 me1 ns1 so1 hm hi hK1 hMe1; exfalso; omega
      | succ n ih27 =>
        intro i kn1 me1 ns1 so1 hm hi hK1 hMe1
        refine j_iload_n dX3_spare_27 rfl 2 rfl ?_
        refine j_aload_n dX3_spare_28 rfl 0 rfl ?_
        refine gf_X3_72 0 rfl (rfl) dX3_spare_29 ?_
        refine j_aload_n dX3_spare_32 rfl 0 rfl ?_
        refine gf_X3_76 0 rfl (rfl) dX3_spare_33 ?_
        refine jn_imul (v := R * C) dX3_spare_36 rfl ?_
        refine jn_icmp_ge (tgt := 96) (a := i) (b := R * C) (by omega) (by omega) dX3_spare_37 (by decide) (fun c37 => ?_) (fun c37 => ?_)
        · refine j_iload_n dX3_spare_96 rfl 1 rfl ?_
          exact j_iret (tys' := []) rfl hR dX3_spare_97 (Or.inl ⟨by rw [← hH5.1]; exact c14, by rw [show i = R * C by omega], by have hie : i = R * C := (by omega); subst hie; exact MW_of ⟨hL, hK1, hMe1, hJ, hdr⟩⟩)
        · have hcui := spS_CU (L := L) hM.1 i
          have hci := hcui i (by omega)
          have hsp2 := spS_le (R := R) (C := C) (L := L) (cu := cu) i
          refine j_aload_n dX3_spare_40 rfl 0 rfl ?_
          refine gf_X3_40 0 rfl (rfl) dX3_spare_41 ?_
          refine j_iload_n dX3_spare_44 rfl 2 rfl ?_
          refine jn_iald (v := eI (((spS R C L cu i).1) i)) 11 0 rfl rfl (by omega) (by omega) (rfl) dX3_spare_45 ?_
          refine j_istore_n [(3, .int (eI (((spS R C L cu i).1) i))), (0, .ref (q 0)), (1, .int (nI ((spS R C L cu i).2))), (2, .int (nI (i)))] dX3_spare_46 rfl (by decide) rfl ?_
          refine j_aload_n dX3_spare_47 rfl 1 rfl ?_
          refine gf_X3_40 0 rfl (rfl) dX3_spare_48 ?_
          refine j_iload_n dX3_spare_51 rfl 3 rfl ?_
          refine j_iconst (v := (-1)) dX3_spare_52 (by decide) ?_
          refine j_st (st' := [.int (eI (99)), .int (nI (i)), .ref (q 16)]) (by rfl) ?_
          refine jn_iastE (wM cI cJ cZ q R C 0 kn1 me1 ns1 he nx dr nl lp (va_up ((spS R C L cu i).1) i 99) so1 wi us ho nh ke ta de se) 11 0 rfl rfl (by omega) (by omega) rfl dX3_spare_53 ?_
          refine j_aload_n dX3_spare_54 rfl 1 rfl ?_
          refine j_iconst (v := nI (0)) dX3_spare_55 (by decide) ?_
          refine j_st (st' := [.int (bI (false)), .ref (q 0)]) (by rfl) ?_
          refine pf_X3_152 (wM cI cJ cZ q R C 0 false me1 ns1 he nx dr nl lp (va_up ((spS R C L cu i).1) i 99) so1 wi us ho nh ke ta de se) 0 rfl (Nat.le_of_ble_eq_true rfl) (nar_bI _) (fit_bI _) rfl dX3_spare_56 ?_
          refine j_aload_n dX3_spare_59 rfl 1 rfl ?_
          refine j_vW (av := []) (c_find l hfl D cI cJ cZ q R C hG 0 false me1 ns1 he nx dr nl lp (va_up ((spS R C L cu i).1) i 99) so1 wi us ho nh ke ta de se (CU_up hcui (Or.inl rfl)) L hL hLO.1 hLO.2.1 (fun h => nomatch h)) 0 rfl rfl mw3_133 mw3_135 msel23 mw1_4 mw3_136 rfl hd_X3_find rfl ⟨rfl, rfl⟩ ⟨Nat.le_of_ble_eq_true rfl, Nat.le_of_ble_eq_true rfl⟩ ⟨Nat.zero_le _, Nat.zero_le _⟩ (Nat.le_of_ble_eq_true rfl) rfl dX3_spare_60 ?_
          rintro _ _ ⟨rfl, ns6, so6, hH6, rfl⟩
          refine j_st (st' := []) rfl ?_
          have hn6 := hH6.1
          have hsl6 := sol_len (R := R) (C := C) (cu := va_up (spS R C L cu i).1 i 99) (L := L)
          have hl13 := hLO.2.1
          refine j_iload_n dX3_spare_63 rfl 0 rfl ?_
          refine je_if_lt (tgt := 90) (x := ((spS R C L cu i).1) i) (by omega) dX3_spare_64 (by decide) (fun c64 => ?_) (fun c64 => ?_)
          · refine j_iinc (n0 := 3) (v := nI (i + 1)) [(2, .int (nI (i + 1))), (3, .int (eI (((spS R C L cu i).1) i))), (0, .ref (q 0)), (1, .int (nI ((spS R C L cu i).2)))] dX3_spare_90 rfl (by exact nI_add (i) 1) (by decide) rfl ?_
            refine j_goto (tgt := 27) dX3_spare_93 (by decide) ?_
            refine j_sub [2, 3, 0] [(0, .ref (q 0)), (1, .int (nI ((spS R C L cu i).2))), (2, .int (nI (i + 1)))] rfl ?_
            have hsp : spS R C L cu (i + 1) = (va_up (spS R C L cu i).1 i 99, (spS R C L cu i).2) := by simp only [spS]; rw [if_neg (fun h => h.1 c64)]
            rw [show (va_up (spS R C L cu i).1 i 99) = (spS R C L cu (i + 1)).1 from by rw [hsp], show (spS R C L cu i).2 = (spS R C L cu (i + 1)).2 from by rw [hsp]]
            exact ih27 (i + 1) true (false && me1) ns6 so6 (by omega) (by omega) (fun _ => by rw [hsp]; exact hH6) (fun _ h => by simp at h)
          · refine j_aload_n dX3_spare_67 rfl 1 rfl ?_
            refine gf_X3_159 0 rfl (rfl) dX3_spare_68 ?_
            refine j_iconst (v := nI (1)) dX3_spare_71 (by decide) ?_
            refine jn_icmp_eq (tgt := 90) (a := ns6) (b := 1) (by omega) (by omega) dX3_spare_72 (by decide) (fun c72 => ?_) (fun c72 => ?_)
            · refine j_iinc (n0 := 3) (v := nI (i + 1)) [(2, .int (nI (i + 1))), (3, .int (eI (((spS R C L cu i).1) i))), (0, .ref (q 0)), (1, .int (nI ((spS R C L cu i).2)))] dX3_spare_90 rfl (by exact nI_add (i) 1) (by decide) rfl ?_
              refine j_goto (tgt := 27) dX3_spare_93 (by decide) ?_
              refine j_sub [2, 3, 0] [(0, .ref (q 0)), (1, .int (nI ((spS R C L cu i).2))), (2, .int (nI (i + 1)))] rfl ?_
              have hsp : spS R C L cu (i + 1) = (va_up (spS R C L cu i).1 i 99, (spS R C L cu i).2) := by simp only [spS]; rw [if_neg (fun h => absurd (show ns6 = 1 from c72) (by rw [hn6]; exact h.2))]
              rw [show (va_up (spS R C L cu i).1 i 99) = (spS R C L cu (i + 1)).1 from by rw [hsp], show (spS R C L cu i).2 = (spS R C L cu (i + 1)).2 from by rw [hsp]]
              exact ih27 (i + 1) true (false && me1) ns6 so6 (by omega) (by omega) (fun _ => by rw [hsp]; exact hH6) (fun _ h => by simp at h)
            · refine j_aload_n dX3_spare_75 rfl 1 rfl ?_
              refine gf_X3_40 0 rfl (rfl) dX3_spare_76 ?_
              refine j_iload_n dX3_spare_79 rfl 3 rfl ?_
              refine j_iload_n dX3_spare_80 rfl 0 rfl ?_
              refine jn_iastE (wM cI cJ cZ q R C 0 true (false && me1) ns6 he nx dr nl lp (va_up (va_up ((spS R C L cu i).1) i 99) i (((spS R C L cu i).1) i)) so6 wi us ho nh ke ta de se) 11 0 rfl rfl (by omega) (by omega) rfl dX3_spare_81 ?_
              refine j_aload_n dX3_spare_82 rfl 1 rfl ?_
              refine j_iconst (v := nI (0)) dX3_spare_83 (by decide) ?_
              refine j_st (st' := [.int (bI (false)), .ref (q 0)]) (by rfl) ?_
              refine pf_X3_152 (wM cI cJ cZ q R C 0 false (false && me1) ns6 he nx dr nl lp (va_up (va_up ((spS R C L cu i).1) i 99) i (((spS R C L cu i).1) i)) so6 wi us ho nh ke ta de se) 0 rfl (Nat.le_of_ble_eq_true rfl) (nar_bI _) (fit_bI _) rfl dX3_spare_84 ?_
              refine j_iinc (n0 := 2) (v := nI ((spS R C L cu i).2 + 1)) [(1, .int (nI ((spS R C L cu i).2 + 1))), (3, .int (eI (((spS R C L cu i).1) i))), (0, .ref (q 0)), (2, .int (nI (i)))] dX3_spare_87 rfl (by exact nI_add ((spS R C L cu i).2) 1) (by decide) rfl ?_
              refine j_iinc (n0 := 3) (v := nI (i + 1)) [(2, .int (nI (i + 1))), (1, .int (nI ((spS R C L cu i).2 + 1))), (3, .int (eI (((spS R C L cu i).1) i))), (0, .ref (q 0))] dX3_spare_90 rfl (by exact nI_add (i) 1) (by decide) rfl ?_
              refine j_goto (tgt := 27) dX3_spare_93 (by decide) ?_
              refine j_sub [3, 1, 0] [(0, .ref (q 0)), (1, .int (nI ((spS R C L cu i).2 + 1))), (2, .int (nI (i + 1)))] rfl ?_
              have hsp : spS R C L cu (i + 1) = ((spS R C L cu i).1, (spS R C L cu i).2 + 1) := by simp only [spS]; rw [if_pos ⟨c64, by rw [← hn6]; exact c72⟩]
              rw [show (va_up (va_up ((spS R C L cu i).1) i 99) i (((spS R C L cu i).1) i)) = (spS R C L cu (i + 1)).1 from by rw [hsp]; exact va_up_back, show (spS R C L cu i).2 + 1 = (spS R C L cu (i + 1)).2 from by rw [hsp]]
              exact ih27 (i + 1) false (false && me1) ns6 so6 (by omega) (by omega) (fun h => nomatch h) (fun h => nomatch h)
    exact loop27 (R * C + 2) 0 true (kn && me) ns5 so5 (by omega) (by omega) (fun _ => hH5) (fun _ h => hMe (by revert h; cases kn <;> simp) (by revert h; cases kn <;> simp))
  · refine j_aload_n dX3_spare_17 rfl 0 rfl ?_
    refine j_iconst (v := nI (1)) dX3_spare_18 (by decide) ?_
    refine j_vW (av := [.int (nI (1))]) (cm_fail l hfl D cI cJ cZ q R C hG 0 true (kn && me) ns5 he nx dr nl lp cu so5 wi us ho nh ke ta de se (1)) 0 rfl rfl mw3_238 mw4_0 msel36 mw1_4 mw4_1 rfl hd_X3_fail rfl ⟨rfl, rfl⟩ ⟨Nat.le_of_ble_eq_true rfl, Nat.le_of_ble_eq_true rfl⟩ ⟨Nat.zero_le _, Nat.zero_le _⟩ (Nat.le_of_ble_eq_true rfl) rfl dX3_spare_19 ?_
    rintro _ _ ⟨rfl, rfl⟩
    refine j_st (st' := [.int (nI (0))]) rfl ?_
    exact j_iret (tys' := []) rfl hR dX3_spare_22 (Or.inr ⟨rfl, by rw [← hH5.1]; exact c14, MW_of ⟨hL, fun _ => hH5, fun _ h => hMe (by revert h; cases kn <;> simp) (by revert h; cases kn <;> simp), hJ, hdr⟩⟩)

