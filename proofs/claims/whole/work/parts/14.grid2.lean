/-- the cells of a LoopDiagram: the object, its grid, its diagram, and the arrays -/
def wX (cI cZ : ClassId) (q : Nat → Nat) (R C : Nat) (dr sz : Nat) (sa : Bool) (cu fi st : Nat → Nat) (lo hi : Nat → Option Nat) (wa sw : Nat → Nat) : va_W := [
  (q 0, .inr (2, [.ref (q 1), .ref (q 2), .int (nI dr), .int (bI sa)])),
  (q 1, .inr (1, [.int (nI R), .int (nI C), .int (nI (nE R C)), .ref (q 3), .ref (q 4), .ref (q 5), .ref (q 6)])),
  (q 2, .inr (0, [.ref (q 1), .ref (q 7), .int (nI sz), .ref (q 8), .ref (q 9), .ref (q 10), .ref (q 11), .ref (q 12)])),
  (q 3, .inl (cI, nE R C, .inl (fun e => nI (tRow R C e)))), (q 4, .inl (cI, nE R C, .inl (fun e => nI (tCol R C e)))), (q 5, .inl (cZ, nE R C, .inl (fun e => bI (tDown R C e)))),
  (q 6, .inl (cI, R * C, .inl (fun i => eI (cu i)))), (q 7, .inl (cI, nE R C + 2, .inl (fun i => nI (fi i)))), (q 8, .inl (cI, 1014, .inl (fun i => nI (st i)))), (q 9, .inl (cI, 1014, .inl (fun i => oI (lo i)))), (q 10, .inl (cI, 1014, .inl (fun i => oI (hi i)))), (q 11, .inl (cI, 1014, .inl (fun i => nI (wa i)))), (q 12, .inl (cI, 1014, .inl (fun i => nI (sw i))))]
def tys3 (cI cJ cZ : ClassId) : List (ClassId × FieldType) := [(cI, .int), (cJ, .long), (cZ, .boolean)]

def GS (R C : Nat) : Prop := 1 ≤ R ∧ R ≤ 4 ∧ 1 ≤ C ∧ C ≤ 3
theorem GS.cases {R C : Nat} (h : GS R C) {P : Nat → Nat → Prop} (h2 : ∀ R, R < 5 → ∀ C, C < 4 → P R C) : P R C := h2 R (by have := h.2.1; omega) C (by have := h.2.2.2; omega)
theorem tb_row : ∀ R, R < 5 → ∀ C, C < 4 → ∀ e, e < nE R C → tRow R C e ≤ R := by decide +kernel
theorem tb_col : ∀ R, R < 5 → ∀ C, C < 4 → ∀ e, e < nE R C → tCol R C e ≤ C ∧ (tDown R C e = false → tCol R C e < C) ∧ (tDown R C e = true → tRow R C e < R) := by decide +kernel
theorem tb_E : ∀ R, R < 5 → ∀ C, C < 4 → nE R C < 32 ∧ R * C ≤ 12 := by decide +kernel
theorem tb_E1 : ∀ R, R < 5 → 1 ≤ R → ∀ C, C < 4 → 1 ≤ C → 4 ≤ nE R C ∧ tDown R C (nE R C - 1) = false ∧ tRow R C (nE R C - 1) = R := by decide +kernel
theorem GS.row {R C e : Nat} (h : GS R C) (he : e < nE R C) : tRow R C e ≤ R := tb_row R (by have := h.2.1; omega) C (by have := h.2.2.2; omega) e he
theorem GS.col {R C e : Nat} (h : GS R C) (he : e < nE R C) : tCol R C e ≤ C := (tb_col R (by have := h.2.1; omega) C (by have := h.2.2.2; omega) e he).1
theorem GS.colF {R C e : Nat} (h : GS R C) (he : e < nE R C) (hd : tDown R C e = false) : tCol R C e < C := (tb_col R (by have := h.2.1; omega) C (by have := h.2.2.2; omega) e he).2.1 hd
theorem GS.rowT {R C e : Nat} (h : GS R C) (he : e < nE R C) (hd : tDown R C e = true) : tRow R C e < R := (tb_col R (by have := h.2.1; omega) C (by have := h.2.2.2; omega) e he).2.2 hd
theorem GS.E {R C : Nat} (h : GS R C) : nE R C < 32 := (tb_E R (by have := h.2.1; omega) C (by have := h.2.2.2; omega)).1
theorem GS.RC {R C : Nat} (h : GS R C) : R * C ≤ 12 := (tb_E R (by have := h.2.1; omega) C (by have := h.2.2.2; omega)).2
theorem GS.E4 {R C : Nat} (h : GS R C) : 4 ≤ nE R C := (tb_E1 R (by have := h.2.1; omega) h.1 C (by have := h.2.2.2; omega) h.2.2.1).1
theorem GS.last {R C : Nat} (h : GS R C) : tRow R C (nE R C - 1) = R := (tb_E1 R (by have := h.2.1; omega) h.1 C (by have := h.2.2.2; omega) h.2.2.1).2.2
/-- the clue of each cell: 99 for none, or 0 to 4 -/
def CU (R C : Nat) (cu : Nat → Nat) : Prop := ∀ i, i < R * C → cu i = 99 ∨ cu i ≤ 4
theorem cell_lt {R C r c : Nat} (hr : r < R) (hc : c < C) : r * C + c < R * C := by
  have := Nat.mul_le_mul_right C (show r + 1 ≤ R from hr)
  rw [Nat.add_mul, Nat.one_mul] at this
  omega
def pd (n : Nat) : Nat := if n = 0 then 99 else n - 1
theorem eI_pd {n : Nat} (hn : n < 100) : nI n - nI 1 = eI (pd n) := by
  unfold pd
  split
  · rename_i h; subst h; decide
  · rename_i h
    rw [eI_ne (by omega), nI_sub (by omega)]
/-- a side of a cell: the state then -/
def sideF (R C : Nat) (cu : Nat → Nat) (x : Option Nat) (r c : Nat) (t last : Bool) : Option Nat :=
  match x with
  | none => none
  | some s =>
    if r < R then if c < C then
      if cu (r * C + c) = 99 then some s
      else if cu (r * C + c) < sl s (4 + c) + (if t then 1 else 0) then none
      else if last then (if sl s (4 + c) + (if t then 1 else 0) < cu (r * C + c) then none else some (pt s (4 + c) 0))
      else some (pt s (4 + c) (sl s (4 + c) + (if t then 1 else 0)))
    else some s else some s
def pointsF (R C s e : Nat) (t : Bool) : Option Nat :=
  if tDown R C e then downF s (tCol R C e) t
  else
    let n := if t then joinedF s (tCol R C e) else some s
    let n2 := if tRow R C e = R then endedF n (tCol R C e) else n
    if e = nE R C - 1 then (match endedF n2 (tCol R C e + 1) with | none => none | some z => if sl z 7 = 1 then some z else none) else n2
def cluesF (R C : Nat) (cu : Nat → Nat) (s e : Nat) (t : Bool) : Option Nat :=
  if tDown R C e then sideF R C cu (sideF R C cu (some s) (tRow R C e) (pd (tCol R C e)) t false) (tRow R C e) (tCol R C e) t false
  else sideF R C cu (sideF R C cu (some s) (pd (tRow R C e)) (tCol R C e) t true) (tRow R C e) (tCol R C e) t false
theorem sideF_lt {R C : Nat} {cu : Nat → Nat} (hC : C ≤ 3) (hcu : CU R C cu) {x : Option Nat} {r c : Nat} {t last : Bool} (hs : ∀ s, x = some s → s < 8 ^ 8) {z : Nat} (h : sideF R C cu x r c t last = some z) : z < 8 ^ 8 := by
  cases x with
  | none => cases h
  | some s =>
    have hs := hs s rfl
    unfold sideF at h
    simp only at h
    by_cases hr : r < R
    · by_cases hc : c < C
      · have h4 := hcu _ (cell_lt hr hc)
        rw [if_pos hr, if_pos hc] at h
        by_cases h9 : cu (r * C + c) = 99
        · rw [if_pos h9] at h; cases h; exact hs
        · rw [if_neg h9] at h
          generalize hn : sl s (4 + c) + (if t then 1 else 0) = n at h
          by_cases hlt : cu (r * C + c) < n
          · rw [if_pos hlt] at h; cases h
          · rw [if_neg hlt] at h
            cases last with
            | true =>
              simp only [if_true] at h
              by_cases h5 : n < cu (r * C + c)
              · rw [if_pos h5] at h; cases h
              · rw [if_neg h5] at h; cases h; exact pt_lt hs (by omega) (by omega)
            | false =>
              simp only [Bool.false_eq_true, if_false] at h
              cases h; exact pt_lt hs (by omega) (by omega)
      · rw [if_pos hr, if_neg hc] at h; cases h; exact hs
    · rw [if_neg hr] at h; cases h; exact hs
theorem pointsF_lt {R C s e : Nat} {t : Bool} (hG : GS R C) (hs : s < 8 ^ 8) (he : e < nE R C) {z : Nat} (h : pointsF R C s e t = some z) : z < 8 ^ 8 := by
  have hc := hG.col he
  have hC := hG.2.2.2
  unfold pointsF at h
  split at h
  · exact downF_lt hs (by omega) h
  · rename_i hd
    have hcl := hG.colF he (by simpa using hd)
    have h1 : ∀ z, (if t then joinedF s (tCol R C e) else some s) = some z → z < 8 ^ 8 := by
      intro z hz
      split at hz
      · exact joinedF_lt hs (by omega) hz
      · cases hz; exact hs
    have h2 : ∀ z, (if tRow R C e = R then endedF (if t then joinedF s (tCol R C e) else some s) (tCol R C e) else (if t then joinedF s (tCol R C e) else some s)) = some z → z < 8 ^ 8 := by
      intro z hz
      split at hz
      · exact endedF_lt h1 (by omega) hz
      · exact h1 z hz
    simp only at h
    split at h
    · split at h
      · cases h
      · rename_i y hy
        split at h
        · cases h; exact endedF_lt h2 (by omega) hy
        · cases h
    · exact h2 z h

set_option maxHeartbeats 4000000 in
set_option maxRecDepth 100000 in
theorem c_side_d (l : Launch) (hfl : l.flags = flags0) (D : va_G) (cI cJ cZ : ClassId) (q : Nat → Nat) (R C : Nat) (hG : GS R C) (dr sz : Nat) (sa : Bool) (cu fi st : Nat → Nat) (lo hi : Nat → Option Nat) (wa sw : Nat → Nat) (x y : Int32) (t last : Bool) : Ct l yX1_sideAfter cX1_sideAfter 8 (Option.some FieldType.int) ({ frames := 1, cells := 0, slots := 0, locals := 22 } : Room) D (tys3 cI cJ cZ) (tys3 cI cJ cZ) (wX cI cZ q R C dr sz sa cu fi st lo hi wa sw) [.ref (q 1), .int ((-1)), .int (x), .int (y), .int (bI (t)), .int (bI (last))] (fun r0 u => r0 = some (.int (-1)) ∧ u = wX cI cZ q R C dr sz sa cu fi st lo hi wa sw) 0 0 := by
  refine Ct.of hfl (by decide) (Nat.le_of_ble_eq_true rfl) ?_
  intro k hR _
  show V k l D (tys3 cI cJ cZ) ({ frames := 1, cells := 0, slots := 0, locals := 22 } : Room) cX1_sideAfter 8 RX1 (wX cI cZ q R C dr sz sa cu fi st lo hi wa sw) 0 0 0 [(0, .ref (q 1)), (1, .int ((-1))), (2, .int (x)), (3, .int (y)), (4, .int (bI (t))), (5, .int (bI (last)))] []
  refine j_iload_n dX1_sideAfter_0 rfl 1 rfl ?_
  refine j_iconst (v := (-1)) dX1_sideAfter_1 (by decide) ?_
  refine j_icmp_eq (tgt := 29) dX1_sideAfter_2 (by decide) (fun c2 => ?_) (fun c2 => ?_)
  · refine j_iload_n dX1_sideAfter_29 rfl 1 rfl ?_
    exact j_iret (tys' := []) rfl hR dX1_sideAfter_30 (⟨rfl, rfl⟩)
  · exact absurd rfl c2

set_option maxHeartbeats 4000000 in
set_option maxRecDepth 100000 in
theorem c_side_r (l : Launch) (hfl : l.flags = flags0) (D : va_G) (cI cJ cZ : ClassId) (q : Nat → Nat) (R C : Nat) (hG : GS R C) (dr sz : Nat) (sa : Bool) (cu fi st : Nat → Nat) (lo hi : Nat → Option Nat) (wa sw : Nat → Nat) (s : Nat) (hs : s < 8 ^ 8) (y : Int32) (t last : Bool) : Ct l yX1_sideAfter cX1_sideAfter 8 (Option.some FieldType.int) ({ frames := 1, cells := 0, slots := 0, locals := 22 } : Room) D (tys3 cI cJ cZ) (tys3 cI cJ cZ) (wX cI cZ q R C dr sz sa cu fi st lo hi wa sw) [.ref (q 1), .int (nI (s)), .int ((-1)), .int (y), .int (bI (t)), .int (bI (last))] (fun r0 u => r0 = some (.int (nI s)) ∧ u = wX cI cZ q R C dr sz sa cu fi st lo hi wa sw) 0 0 := by
  refine Ct.of hfl (by decide) (Nat.le_of_ble_eq_true rfl) ?_
  intro k hR _
  have hR4 := hG.2.1
  have hC3 := hG.2.2.2
  have hR1 := hG.1
  have hC1 := hG.2.2.1
  have hE := hG.E
  have hRC := hG.RC
  show V k l D (tys3 cI cJ cZ) ({ frames := 1, cells := 0, slots := 0, locals := 22 } : Room) cX1_sideAfter 8 RX1 (wX cI cZ q R C dr sz sa cu fi st lo hi wa sw) 0 0 0 [(0, .ref (q 1)), (1, .int (nI (s))), (2, .int ((-1))), (3, .int (y)), (4, .int (bI (t))), (5, .int (bI (last)))] []
  refine j_iload_n dX1_sideAfter_0 rfl 1 rfl ?_
  refine j_iconst (v := (-1)) dX1_sideAfter_1 (by decide) ?_
  refine j_icmp_eq (tgt := 29) dX1_sideAfter_2 (by decide) (fun c2 => ?_) (fun c2 => ?_)
  · exact absurd c2 (nI_m1 (by omega))
  · refine j_iload_n dX1_sideAfter_5 rfl 2 rfl ?_
    refine j_if_lt (tgt := 29) dX1_sideAfter_6 (by decide) (fun c6 => ?_) (fun c6 => ?_)
    · refine j_iload_n dX1_sideAfter_29 rfl 1 rfl ?_
      exact j_iret (tys' := []) rfl hR dX1_sideAfter_30 (⟨rfl, rfl⟩)
    · exact absurd (by decide) c6

set_option maxHeartbeats 4000000 in
set_option maxRecDepth 100000 in
theorem c_side_c (l : Launch) (hfl : l.flags = flags0) (D : va_G) (cI cJ cZ : ClassId) (q : Nat → Nat) (R C : Nat) (hG : GS R C) (dr sz : Nat) (sa : Bool) (cu fi st : Nat → Nat) (lo hi : Nat → Option Nat) (wa sw : Nat → Nat) (s : Nat) (hs : s < 8 ^ 8) (r : Nat) (hr : r < 100) (t last : Bool) : Ct l yX1_sideAfter cX1_sideAfter 8 (Option.some FieldType.int) ({ frames := 1, cells := 0, slots := 0, locals := 22 } : Room) D (tys3 cI cJ cZ) (tys3 cI cJ cZ) (wX cI cZ q R C dr sz sa cu fi st lo hi wa sw) [.ref (q 1), .int (nI (s)), .int (nI (r)), .int ((-1)), .int (bI (t)), .int (bI (last))] (fun r0 u => r0 = some (.int (nI s)) ∧ u = wX cI cZ q R C dr sz sa cu fi st lo hi wa sw) 0 0 := by
  refine Ct.of hfl (by decide) (Nat.le_of_ble_eq_true rfl) ?_
  intro k hR _
  have hR4 := hG.2.1
  have hC3 := hG.2.2.2
  have hR1 := hG.1
  have hC1 := hG.2.2.1
  have hE := hG.E
  have hRC := hG.RC
  show V k l D (tys3 cI cJ cZ) ({ frames := 1, cells := 0, slots := 0, locals := 22 } : Room) cX1_sideAfter 8 RX1 (wX cI cZ q R C dr sz sa cu fi st lo hi wa sw) 0 0 0 [(0, .ref (q 1)), (1, .int (nI (s))), (2, .int (nI (r))), (3, .int ((-1))), (4, .int (bI (t))), (5, .int (bI (last)))] []
  refine j_iload_n dX1_sideAfter_0 rfl 1 rfl ?_
  refine j_iconst (v := (-1)) dX1_sideAfter_1 (by decide) ?_
  refine j_icmp_eq (tgt := 29) dX1_sideAfter_2 (by decide) (fun c2 => ?_) (fun c2 => ?_)
  · exact absurd c2 (nI_m1 (by omega))
  · refine j_iload_n dX1_sideAfter_5 rfl 2 rfl ?_
    refine jn_if_lt (tgt := 29) (a := r) (by omega) dX1_sideAfter_6 (by decide) (fun c6 => ?_) (fun c6 => ?_)
    · exact absurd c6 (by simp)
    · refine j_iload_n dX1_sideAfter_9 rfl 2 rfl ?_
      refine j_aload_n dX1_sideAfter_10 rfl 0 rfl ?_
      refine gf_X1_11 1 rfl (rfl) dX1_sideAfter_11 ?_
      refine jn_icmp_ge (tgt := 29) (a := r) (b := R) (by omega) (by omega) dX1_sideAfter_14 (by decide) (fun c14 => ?_) (fun c14 => ?_)
      · refine j_iload_n dX1_sideAfter_29 rfl 1 rfl ?_
        exact j_iret (tys' := []) rfl hR dX1_sideAfter_30 (⟨rfl, rfl⟩)
      · refine j_iload_n dX1_sideAfter_17 rfl 3 rfl ?_
        refine j_if_lt (tgt := 29) dX1_sideAfter_18 (by decide) (fun c18 => ?_) (fun c18 => ?_)
        · refine j_iload_n dX1_sideAfter_29 rfl 1 rfl ?_
          exact j_iret (tys' := []) rfl hR dX1_sideAfter_30 (⟨rfl, rfl⟩)
        · exact absurd (by decide) c18

set_option maxHeartbeats 4000000 in
set_option maxRecDepth 100000 in
theorem c_side_n (l : Launch) (hfl : l.flags = flags0) (D : va_G) (cI cJ cZ : ClassId) (q : Nat → Nat) (R C : Nat) (hG : GS R C) (dr sz : Nat) (sa : Bool) (cu fi st : Nat → Nat) (lo hi : Nat → Option Nat) (wa sw : Nat → Nat) (hcu : CU R C cu) (s : Nat) (hs : s < 8 ^ 8) (r c : Nat) (hr : r < 99) (hc : c < 99) (t last : Bool) : Ct l yX1_sideAfter cX1_sideAfter 8 (Option.some FieldType.int) ({ frames := 1, cells := 0, slots := 0, locals := 22 } : Room) D (tys3 cI cJ cZ) (tys3 cI cJ cZ) (wX cI cZ q R C dr sz sa cu fi st lo hi wa sw) [.ref (q 1), .int (nI (s)), .int (nI (r)), .int (nI (c)), .int (bI (t)), .int (bI (last))] (fun r0 u => r0 = some (.int (oI (sideF R C cu (some s) (r) (c) t last))) ∧ u = wX cI cZ q R C dr sz sa cu fi st lo hi wa sw) 0 0 := by
  refine Ct.of hfl (by decide) (Nat.le_of_ble_eq_true rfl) ?_
  intro k hR _
  have hR4 := hG.2.1
  have hC3 := hG.2.2.2
  have hR1 := hG.1
  have hC1 := hG.2.2.1
  have hE := hG.E
  have hRC := hG.RC
  show V k l D (tys3 cI cJ cZ) ({ frames := 1, cells := 0, slots := 0, locals := 22 } : Room) cX1_sideAfter 8 RX1 (wX cI cZ q R C dr sz sa cu fi st lo hi wa sw) 0 0 0 [(0, .ref (q 1)), (1, .int (nI (s))), (2, .int (nI (r))), (3, .int (nI (c))), (4, .int (bI (t))), (5, .int (bI (last)))] []
  refine j_iload_n dX1_sideAfter_0 rfl 1 rfl ?_
  refine j_iconst (v := (-1)) dX1_sideAfter_1 (by decide) ?_
  refine j_icmp_eq (tgt := 29) dX1_sideAfter_2 (by decide) (fun c2 => ?_) (fun c2 => ?_)
  · exact absurd c2 (nI_m1 (by omega))
  · refine j_iload_n dX1_sideAfter_5 rfl 2 rfl ?_
    refine jn_if_lt (tgt := 29) (a := r) (by omega) dX1_sideAfter_6 (by decide) (fun c6 => ?_) (fun c6 => ?_)
    · exact absurd c6 (by simp)
    · refine j_iload_n dX1_sideAfter_9 rfl 2 rfl ?_
      refine j_aload_n dX1_sideAfter_10 rfl 0 rfl ?_
      refine gf_X1_11 1 rfl (rfl) dX1_sideAfter_11 ?_
      refine jn_icmp_ge (tgt := 29) (a := r) (b := R) (by omega) (by omega) dX1_sideAfter_14 (by decide) (fun c14 => ?_) (fun c14 => ?_)
      · refine j_iload_n dX1_sideAfter_29 rfl 1 rfl ?_
        exact j_iret (tys' := []) rfl hR dX1_sideAfter_30 (⟨by rw [show sideF R C cu (some s) r c t last = (some s) from by first | (simp [sideF, *]; done) | (simp [sideF, *] <;> omega) | (exfalso; simp_all)]; rfl, rfl⟩)
      · refine j_iload_n dX1_sideAfter_17 rfl 3 rfl ?_
        refine jn_if_lt (tgt := 29) (a := c) (by omega) dX1_sideAfter_18 (by decide) (fun c18 => ?_) (fun c18 => ?_)
        · exact absurd c18 (by simp)
        · refine j_iload_n dX1_sideAfter_21 rfl 3 rfl ?_
          refine j_aload_n dX1_sideAfter_22 rfl 0 rfl ?_
          refine gf_X1_15 1 rfl (rfl) dX1_sideAfter_23 ?_
          refine jn_icmp_lt (tgt := 31) (a := c) (b := C) (by omega) (by omega) dX1_sideAfter_26 (by decide) (fun c26 => ?_) (fun c26 => ?_)
          · refine j_aload_n dX1_sideAfter_31 rfl 0 rfl ?_
            refine gf_X1_32 1 rfl (rfl) dX1_sideAfter_32 ?_
            refine j_iload_n dX1_sideAfter_35 rfl 2 rfl ?_
            refine j_aload_n dX1_sideAfter_36 rfl 0 rfl ?_
            refine gf_X1_15 1 rfl (rfl) dX1_sideAfter_37 ?_
            refine jn_imul (v := r * C) dX1_sideAfter_40 rfl ?_
            refine j_iload_n dX1_sideAfter_41 rfl 3 rfl ?_
            refine jn_iadd (v := (r * C) + c) dX1_sideAfter_42 rfl ?_
            refine jn_iald (v := eI (cu ((r * C) + c))) 6 0 rfl rfl (cell_lt c14 c26) (by omega) (rfl) dX1_sideAfter_43 ?_
            refine j_istore [(6, .int (eI (cu ((r * C) + c)))), (0, .ref (q 1)), (1, .int (nI (s))), (2, .int (nI (r))), (3, .int (nI (c))), (4, .int (bI (t))), (5, .int (bI (last)))] dX1_sideAfter_44 (by decide) rfl ?_
            refine j_iload dX1_sideAfter_46 0 rfl ?_
            refine j_iconst (v := (-1)) dX1_sideAfter_48 (by decide) ?_
            refine j_icmp_ne (tgt := 54) dX1_sideAfter_49 (by decide) (fun c49 => ?_) (fun c49 => ?_)
            · have e49 : cu (r * C + c) ≠ 99 := fun e => c49 (by rw [e]; exact eI_99)
              have h4 : cu (r * C + c) ≤ 4 := (hcu _ (cell_lt c14 c26)).resolve_left e49
              refine j_lv (lv' := [(6, .int (nI (cu (r * C + c)))), (0, .ref (q 1)), (1, .int (nI (s))), (2, .int (nI (r))), (3, .int (nI (c))), (4, .int (bI (t))), (5, .int (bI (last)))]) (by rw [eI_ne e49]) ?_
              refine j_iload_n dX1_sideAfter_54 rfl 2 rfl ?_
              refine j_iconst (v := nI (4)) dX1_sideAfter_55 (by decide) ?_
              refine j_iload_n dX1_sideAfter_56 rfl 4 rfl ?_
              refine jn_iadd (v := 4 + c) dX1_sideAfter_57 rfl ?_
              refine j_s0 (av := [.int (nI (s)), .int (nI (4 + c))]) (r0 := .int (nI (sl s (4 + c)))) (c_slot l hfl D (tys3 cI cJ cZ) (s) (4 + c) (by repeat first | assumption | omega | exact sl_lt _ _ | exact slN | apply pt31 | apply pt_lt) (by repeat first | assumption | omega | exact sl_lt _ _ | exact slN | apply pt31 | apply pt_lt)) mw1_133 mw1_134 mw1_2 mw1_135 hd_X1_slot rfl ⟨rfl, rfl⟩ ⟨Nat.le_of_ble_eq_true rfl, Nat.le_of_ble_eq_true rfl⟩ ⟨Nat.zero_le _, Nat.zero_le _⟩ (Nat.le_of_ble_eq_true rfl) rfl dX1_sideAfter_58 ?_
              refine j_iload dX1_sideAfter_61 5 rfl ?_
              refine jb_if_eq (tgt := 70) (b := t) dX1_sideAfter_63 (by decide) (fun c63 => ?_) (fun c63 => ?_)
              · refine j_iconst (v := nI (0)) dX1_sideAfter_70 (by decide) ?_
                refine jn_iadd (v := (sl s (4 + c)) + 0) dX1_sideAfter_71 rfl ?_
                refine j_istore [(7, .int (nI ((sl s (4 + c)) + 0))), (6, .int (nI (cu (r * C + c)))), (0, .ref (q 1)), (1, .int (nI (s))), (2, .int (nI (r))), (3, .int (nI (c))), (4, .int (bI (t))), (5, .int (bI (last)))] dX1_sideAfter_72 (by decide) rfl ?_
                refine j_iload dX1_sideAfter_74 0 rfl ?_
                refine j_iload dX1_sideAfter_76 1 rfl ?_
                refine jn_icmp_gt (tgt := 93) (a := (sl s (4 + c)) + 0) (b := cu (r * C + c)) (by have := sl_lt s (4 + c); omega) (by omega) dX1_sideAfter_78 (by decide) (fun c78 => ?_) (fun c78 => ?_)
                · refine j_iconst (v := (-1)) dX1_sideAfter_93 (by decide) ?_
                  exact j_iret (tys' := []) rfl hR dX1_sideAfter_94 (⟨by rw [show sideF R C cu (some s) r c t last = none from by first | (simp [sideF, *]; done) | (simp [sideF, *] <;> omega) | (exfalso; simp_all)]; rfl, rfl⟩)
                · refine j_iload dX1_sideAfter_81 7 rfl ?_
                  refine jb_if_eq (tgt := 95) (b := last) dX1_sideAfter_83 (by decide) (fun c83 => ?_) (fun c83 => ?_)
                  · refine j_iload_n dX1_sideAfter_95 rfl 3 rfl ?_
                    refine j_iconst (v := nI (4)) dX1_sideAfter_96 (by decide) ?_
                    refine j_iload_n dX1_sideAfter_97 rfl 5 rfl ?_
                    refine jn_iadd (v := 4 + c) dX1_sideAfter_98 rfl ?_
                    refine j_iload dX1_sideAfter_99 7 rfl ?_
                    refine jb_if_eq (tgt := 108) (b := last) dX1_sideAfter_101 (by decide) (fun c101 => ?_) (fun c101 => ?_)
                    · refine j_iload dX1_sideAfter_108 0 rfl ?_
                      refine j_s0 (av := [.int (nI (s)), .int (nI (4 + c)), .int (nI ((sl s (4 + c)) + 0))]) (r0 := .int (nI (pt s (4 + c) ((sl s (4 + c)) + 0)))) (c_put l hfl D (tys3 cI cJ cZ) (s) (4 + c) ((sl s (4 + c)) + 0) (by repeat first | assumption | omega | exact sl_lt _ _ | exact slN | apply pt31 | apply pt_lt) (by repeat first | assumption | omega | exact sl_lt _ _ | exact slN | apply pt31 | apply pt_lt) (by omega)) mw1_139 mw1_140 mw1_2 mw1_141 hd_X1_put rfl ⟨rfl, rfl⟩ ⟨Nat.le_of_ble_eq_true rfl, Nat.le_of_ble_eq_true rfl⟩ ⟨Nat.zero_le _, Nat.zero_le _⟩ (Nat.le_of_ble_eq_true rfl) rfl dX1_sideAfter_110 ?_
                      exact j_iret (tys' := []) rfl hR dX1_sideAfter_113 (⟨by rw [show sideF R C cu (some s) r c t last = (some (pt s (4 + c) ((sl s (4 + c)) + 0))) from by first | (simp [sideF, *]; done) | (simp [sideF, *] <;> omega) | (exfalso; simp_all)]; rfl, rfl⟩)
                    · refine j_iconst (v := nI (0)) dX1_sideAfter_104 (by decide) ?_
                      refine j_goto (tgt := 110) dX1_sideAfter_105 (by decide) ?_
                      refine j_s0 (av := [.int (nI (s)), .int (nI (4 + c)), .int (nI (0))]) (r0 := .int (nI (pt s (4 + c) 0))) (c_put l hfl D (tys3 cI cJ cZ) (s) (4 + c) (0) (by repeat first | assumption | omega | exact sl_lt _ _ | exact slN | apply pt31 | apply pt_lt) (by repeat first | assumption | omega | exact sl_lt _ _ | exact slN | apply pt31 | apply pt_lt) (by omega)) mw1_139 mw1_140 mw1_2 mw1_141 hd_X1_put rfl ⟨rfl, rfl⟩ ⟨Nat.le_of_ble_eq_true rfl, Nat.le_of_ble_eq_true rfl⟩ ⟨Nat.zero_le _, Nat.zero_le _⟩ (Nat.le_of_ble_eq_true rfl) rfl dX1_sideAfter_110 ?_
                      exact j_iret (tys' := []) rfl hR dX1_sideAfter_113 (⟨by rw [show sideF R C cu (some s) r c t last = (some (pt s (4 + c) 0)) from by first | (simp [sideF, *]; done) | (simp [sideF, *] <;> omega) | (exfalso; simp_all)]; rfl, rfl⟩)
                  · refine j_iload dX1_sideAfter_86 0 rfl ?_
                    refine j_iload dX1_sideAfter_88 1 rfl ?_
                    refine jn_icmp_ge (tgt := 95) (a := (sl s (4 + c)) + 0) (b := cu (r * C + c)) (by have := sl_lt s (4 + c); omega) (by omega) dX1_sideAfter_90 (by decide) (fun c90 => ?_) (fun c90 => ?_)
                    · refine j_iload_n dX1_sideAfter_95 rfl 3 rfl ?_
                      refine j_iconst (v := nI (4)) dX1_sideAfter_96 (by decide) ?_
                      refine j_iload_n dX1_sideAfter_97 rfl 5 rfl ?_
                      refine jn_iadd (v := 4 + c) dX1_sideAfter_98 rfl ?_
                      refine j_iload dX1_sideAfter_99 7 rfl ?_
                      refine jb_if_eq (tgt := 108) (b := last) dX1_sideAfter_101 (by decide) (fun c101 => ?_) (fun c101 => ?_)
                      · refine j_iload dX1_sideAfter_108 0 rfl ?_
                        refine j_s0 (av := [.int (nI (s)), .int (nI (4 + c)), .int (nI ((sl s (4 + c)) + 0))]) (r0 := .int (nI (pt s (4 + c) ((sl s (4 + c)) + 0)))) (c_put l hfl D (tys3 cI cJ cZ) (s) (4 + c) ((sl s (4 + c)) + 0) (by repeat first | assumption | omega | exact sl_lt _ _ | exact slN | apply pt31 | apply pt_lt) (by repeat first | assumption | omega | exact sl_lt _ _ | exact slN | apply pt31 | apply pt_lt) (by omega)) mw1_139 mw1_140 mw1_2 mw1_141 hd_X1_put rfl ⟨rfl, rfl⟩ ⟨Nat.le_of_ble_eq_true rfl, Nat.le_of_ble_eq_true rfl⟩ ⟨Nat.zero_le _, Nat.zero_le _⟩ (Nat.le_of_ble_eq_true rfl) rfl dX1_sideAfter_110 ?_
                        exact j_iret (tys' := []) rfl hR dX1_sideAfter_113 (⟨by rw [show sideF R C cu (some s) r c t last = (some (pt s (4 + c) ((sl s (4 + c)) + 0))) from by first | (simp [sideF, *]; done) | (simp [sideF, *] <;> omega) | (exfalso; simp_all)]; rfl, rfl⟩)
                      · refine j_iconst (v := nI (0)) dX1_sideAfter_104 (by decide) ?_
                        refine j_goto (tgt := 110) dX1_sideAfter_105 (by decide) ?_
                        refine j_s0 (av := [.int (nI (s)), .int (nI (4 + c)), .int (nI (0))]) (r0 := .int (nI (pt s (4 + c) 0))) (c_put l hfl D (tys3 cI cJ cZ) (s) (4 + c) (0) (by repeat first | assumption | omega | exact sl_lt _ _ | exact slN | apply pt31 | apply pt_lt) (by repeat first | assumption | omega | exact sl_lt _ _ | exact slN | apply pt31 | apply pt_lt) (by omega)) mw1_139 mw1_140 mw1_2 mw1_141 hd_X1_put rfl ⟨rfl, rfl⟩ ⟨Nat.le_of_ble_eq_true rfl, Nat.le_of_ble_eq_true rfl⟩ ⟨Nat.zero_le _, Nat.zero_le _⟩ (Nat.le_of_ble_eq_true rfl) rfl dX1_sideAfter_110 ?_
                        exact j_iret (tys' := []) rfl hR dX1_sideAfter_113 (⟨by rw [show sideF R C cu (some s) r c t last = (some (pt s (4 + c) 0)) from by first | (simp [sideF, *]; done) | (simp [sideF, *] <;> omega) | (exfalso; simp_all)]; rfl, rfl⟩)
                    · refine j_iconst (v := (-1)) dX1_sideAfter_93 (by decide) ?_
                      exact j_iret (tys' := []) rfl hR dX1_sideAfter_94 (⟨by rw [show sideF R C cu (some s) r c t last = none from by first | (simp [sideF, *]; done) | (simp [sideF, *] <;> omega) | (exfalso; simp_all)]; rfl, rfl⟩)
              · refine j_iconst (v := nI (1)) dX1_sideAfter_66 (by decide) ?_
                refine j_goto (tgt := 71) dX1_sideAfter_67 (by decide) ?_
                refine jn_iadd (v := (sl s (4 + c)) + 1) dX1_sideAfter_71 rfl ?_
                refine j_istore [(7, .int (nI ((sl s (4 + c)) + 1))), (6, .int (nI (cu (r * C + c)))), (0, .ref (q 1)), (1, .int (nI (s))), (2, .int (nI (r))), (3, .int (nI (c))), (4, .int (bI (t))), (5, .int (bI (last)))] dX1_sideAfter_72 (by decide) rfl ?_
                refine j_iload dX1_sideAfter_74 0 rfl ?_
                refine j_iload dX1_sideAfter_76 1 rfl ?_
                refine jn_icmp_gt (tgt := 93) (a := (sl s (4 + c)) + 1) (b := cu (r * C + c)) (by have := sl_lt s (4 + c); omega) (by omega) dX1_sideAfter_78 (by decide) (fun c78 => ?_) (fun c78 => ?_)
                · refine j_iconst (v := (-1)) dX1_sideAfter_93 (by decide) ?_
                  exact j_iret (tys' := []) rfl hR dX1_sideAfter_94 (⟨by rw [show sideF R C cu (some s) r c t last = none from by first | (simp [sideF, *]; done) | (simp [sideF, *] <;> omega) | (exfalso; simp_all)]; rfl, rfl⟩)
                · refine j_iload dX1_sideAfter_81 7 rfl ?_
                  refine jb_if_eq (tgt := 95) (b := last) dX1_sideAfter_83 (by decide) (fun c83 => ?_) (fun c83 => ?_)
                  · refine j_iload_n dX1_sideAfter_95 rfl 3 rfl ?_
                    refine j_iconst (v := nI (4)) dX1_sideAfter_96 (by decide) ?_
                    refine j_iload_n dX1_sideAfter_97 rfl 5 rfl ?_
                    refine jn_iadd (v := 4 + c) dX1_sideAfter_98 rfl ?_
                    refine j_iload dX1_sideAfter_99 7 rfl ?_
                    refine jb_if_eq (tgt := 108) (b := last) dX1_sideAfter_101 (by decide) (fun c101 => ?_) (fun c101 => ?_)
                    · refine j_iload dX1_sideAfter_108 0 rfl ?_
                      refine j_s0 (av := [.int (nI (s)), .int (nI (4 + c)), .int (nI ((sl s (4 + c)) + 1))]) (r0 := .int (nI (pt s (4 + c) ((sl s (4 + c)) + 1)))) (c_put l hfl D (tys3 cI cJ cZ) (s) (4 + c) ((sl s (4 + c)) + 1) (by repeat first | assumption | omega | exact sl_lt _ _ | exact slN | apply pt31 | apply pt_lt) (by repeat first | assumption | omega | exact sl_lt _ _ | exact slN | apply pt31 | apply pt_lt) (by omega)) mw1_139 mw1_140 mw1_2 mw1_141 hd_X1_put rfl ⟨rfl, rfl⟩ ⟨Nat.le_of_ble_eq_true rfl, Nat.le_of_ble_eq_true rfl⟩ ⟨Nat.zero_le _, Nat.zero_le _⟩ (Nat.le_of_ble_eq_true rfl) rfl dX1_sideAfter_110 ?_
                      exact j_iret (tys' := []) rfl hR dX1_sideAfter_113 (⟨by rw [show sideF R C cu (some s) r c t last = (some (pt s (4 + c) ((sl s (4 + c)) + 1))) from by first | (simp [sideF, *]; done) | (simp [sideF, *] <;> omega) | (exfalso; simp_all)]; rfl, rfl⟩)
                    · refine j_iconst (v := nI (0)) dX1_sideAfter_104 (by decide) ?_
                      refine j_goto (tgt := 110) dX1_sideAfter_105 (by decide) ?_
                      refine j_s0 (av := [.int (nI (s)), .int (nI (4 + c)), .int (nI (0))]) (r0 := .int (nI (pt s (4 + c) 0))) (c_put l hfl D (tys3 cI cJ cZ) (s) (4 + c) (0) (by repeat first | assumption | omega | exact sl_lt _ _ | exact slN | apply pt31 | apply pt_lt) (by repeat first | assumption | omega | exact sl_lt _ _ | exact slN | apply pt31 | apply pt_lt) (by omega)) mw1_139 mw1_140 mw1_2 mw1_141 hd_X1_put rfl ⟨rfl, rfl⟩ ⟨Nat.le_of_ble_eq_true rfl, Nat.le_of_ble_eq_true rfl⟩ ⟨Nat.zero_le _, Nat.zero_le _⟩ (Nat.le_of_ble_eq_true rfl) rfl dX1_sideAfter_110 ?_
                      exact j_iret (tys' := []) rfl hR dX1_sideAfter_113 (⟨by rw [show sideF R C cu (some s) r c t last = (some (pt s (4 + c) 0)) from by first | (simp [sideF, *]; done) | (simp [sideF, *] <;> omega) | (exfalso; simp_all)]; rfl, rfl⟩)
                  · refine j_iload dX1_sideAfter_86 0 rfl ?_
                    refine j_iload dX1_sideAfter_88 1 rfl ?_
                    refine jn_icmp_ge (tgt := 95) (a := (sl s (4 + c)) + 1) (b := cu (r * C + c)) (by have := sl_lt s (4 + c); omega) (by omega) dX1_sideAfter_90 (by decide) (fun c90 => ?_) (fun c90 => ?_)
                    · refine j_iload_n dX1_sideAfter_95 rfl 3 rfl ?_
                      refine j_iconst (v := nI (4)) dX1_sideAfter_96 (by decide) ?_
                      refine j_iload_n dX1_sideAfter_97 rfl 5 rfl ?_
                      refine jn_iadd (v := 4 + c) dX1_sideAfter_98 rfl ?_
                      refine j_iload dX1_sideAfter_99 7 rfl ?_
                      refine jb_if_eq (tgt := 108) (b := last) dX1_sideAfter_101 (by decide) (fun c101 => ?_) (fun c101 => ?_)
                      · refine j_iload dX1_sideAfter_108 0 rfl ?_
                        refine j_s0 (av := [.int (nI (s)), .int (nI (4 + c)), .int (nI ((sl s (4 + c)) + 1))]) (r0 := .int (nI (pt s (4 + c) ((sl s (4 + c)) + 1)))) (c_put l hfl D (tys3 cI cJ cZ) (s) (4 + c) ((sl s (4 + c)) + 1) (by repeat first | assumption | omega | exact sl_lt _ _ | exact slN | apply pt31 | apply pt_lt) (by repeat first | assumption | omega | exact sl_lt _ _ | exact slN | apply pt31 | apply pt_lt) (by omega)) mw1_139 mw1_140 mw1_2 mw1_141 hd_X1_put rfl ⟨rfl, rfl⟩ ⟨Nat.le_of_ble_eq_true rfl, Nat.le_of_ble_eq_true rfl⟩ ⟨Nat.zero_le _, Nat.zero_le _⟩ (Nat.le_of_ble_eq_true rfl) rfl dX1_sideAfter_110 ?_
                        exact j_iret (tys' := []) rfl hR dX1_sideAfter_113 (⟨by rw [show sideF R C cu (some s) r c t last = (some (pt s (4 + c) ((sl s (4 + c)) + 1))) from by first | (simp [sideF, *]; done) | (simp [sideF, *] <;> omega) | (exfalso; simp_all)]; rfl, rfl⟩)
                      · refine j_iconst (v := nI (0)) dX1_sideAfter_104 (by decide) ?_
                        refine j_goto (tgt := 110) dX1_sideAfter_105 (by decide) ?_
                        refine j_s0 (av := [.int (nI (s)), .int (nI (4 + c)), .int (nI (0))]) (r0 := .int (nI (pt s (4 + c) 0))) (c_put l hfl D (tys3 cI cJ cZ) (s) (4 + c) (0) (by repeat first | assumption | omega | exact sl_lt _ _ | exact slN | apply pt31 | apply pt_lt) (by repeat first | assumption | omega | exact sl_lt _ _ | exact slN | apply pt31 | apply pt_lt) (by omega)) mw1_139 mw1_140 mw1_2 mw1_141 hd_X1_put rfl ⟨rfl, rfl⟩ ⟨Nat.le_of_ble_eq_true rfl, Nat.le_of_ble_eq_true rfl⟩ ⟨Nat.zero_le _, Nat.zero_le _⟩ (Nat.le_of_ble_eq_true rfl) rfl dX1_sideAfter_110 ?_
                        exact j_iret (tys' := []) rfl hR dX1_sideAfter_113 (⟨by rw [show sideF R C cu (some s) r c t last = (some (pt s (4 + c) 0)) from by first | (simp [sideF, *]; done) | (simp [sideF, *] <;> omega) | (exfalso; simp_all)]; rfl, rfl⟩)
                    · refine j_iconst (v := (-1)) dX1_sideAfter_93 (by decide) ?_
                      exact j_iret (tys' := []) rfl hR dX1_sideAfter_94 (⟨by rw [show sideF R C cu (some s) r c t last = none from by first | (simp [sideF, *]; done) | (simp [sideF, *] <;> omega) | (exfalso; simp_all)]; rfl, rfl⟩)
            · have e49 : cu (r * C + c) = 99 := (eI_m1 (by rcases hcu _ (cell_lt c14 c26) with e | e <;> omega)).mp c49
              refine j_iload_n dX1_sideAfter_52 rfl 2 rfl ?_
              exact j_iret (tys' := []) rfl hR dX1_sideAfter_53 (⟨by rw [show sideF R C cu (some s) r c t last = (some s) from by first | (simp [sideF, *]; done) | (simp [sideF, *] <;> omega) | (exfalso; simp_all)]; rfl, rfl⟩)
          · refine j_iload_n dX1_sideAfter_29 rfl 1 rfl ?_
            exact j_iret (tys' := []) rfl hR dX1_sideAfter_30 (⟨by rw [show sideF R C cu (some s) r c t last = (some s) from by first | (simp [sideF, *]; done) | (simp [sideF, *] <;> omega) | (exfalso; simp_all)]; rfl, rfl⟩)

theorem c_side (l : Launch) (hfl : l.flags = flags0) (D : va_G) (cI cJ cZ : ClassId) (q : Nat → Nat) (R C : Nat) (hG : GS R C) (dr sz : Nat) (sa : Bool) (cu fi st : Nat → Nat) (lo hi : Nat → Option Nat) (wa sw : Nat → Nat) (hcu : CU R C cu) (x : Option Nat) (hs : ∀ s, x = some s → s < 8 ^ 8) (r c : Nat) (hr : r < 100) (hc : c < 100) (t last : Bool) : Ct l yX1_sideAfter cX1_sideAfter 8 (Option.some FieldType.int) ({ frames := 1, cells := 0, slots := 0, locals := 22 } : Room) D (tys3 cI cJ cZ) (tys3 cI cJ cZ) (wX cI cZ q R C dr sz sa cu fi st lo hi wa sw) [.ref (q 1), .int (oI x), .int (eI r), .int (eI c), .int (bI t), .int (bI last)] (fun r0 u => r0 = some (.int (oI (sideF R C cu x r c t last))) ∧ u = wX cI cZ q R C dr sz sa cu fi st lo hi wa sw) 0 0 := by
  have hR4 := hG.2.1
  have hC3 := hG.2.2.2
  cases x with
  | none => exact c_side_d l hfl D cI cJ cZ q R C hG dr sz sa cu fi st lo hi wa sw (eI r) (eI c) t last
  | some s =>
    have hs := hs s rfl
    by_cases h1 : r = 99
    · subst h1
      have e : sideF R C cu (some s) 99 c t last = some s := by simp [sideF]; omega
      rw [e, eI_99]
      exact c_side_r l hfl D cI cJ cZ q R C hG dr sz sa cu fi st lo hi wa sw s hs (eI c) t last
    · rw [eI_ne h1]
      by_cases h2 : c = 99
      · subst h2
        have e : sideF R C cu (some s) r 99 t last = some s := by simp [sideF]; omega
        rw [e, eI_99]
        exact c_side_c l hfl D cI cJ cZ q R C hG dr sz sa cu fi st lo hi wa sw s hs r hr t last
      · rw [eI_ne h2]
        exact c_side_n l hfl D cI cJ cZ q R C hG dr sz sa cu fi st lo hi wa sw hcu s hs r c (by omega) (by omega) t last
set_option maxHeartbeats 4000000 in
set_option maxRecDepth 100000 in
theorem c_cluesAfter (l : Launch) (hfl : l.flags = flags0) (D : va_G) (cI cJ cZ : ClassId) (q : Nat → Nat) (R C : Nat) (hG : GS R C) (dr sz : Nat) (sa : Bool) (cu fi st : Nat → Nat) (lo hi : Nat → Option Nat) (wa sw : Nat → Nat) (hcu : CU R C cu) (s e : Nat) (hs : s < 8 ^ 8) (he : e < nE R C) (t : Bool) : Ct l yX1_cluesAfter cX1_cluesAfter 6 (Option.some FieldType.int) ({ frames := 2, cells := 0, slots := 0, locals := 49 } : Room) D (tys3 cI cJ cZ) (tys3 cI cJ cZ) (wX cI cZ q R C dr sz sa cu fi st lo hi wa sw) [.ref (q 1), .int (nI (s)), .int (nI (e)), .int (bI (t))] (fun r u => r = some (.int (oI (cluesF R C cu s e t))) ∧ u = wX cI cZ q R C dr sz sa cu fi st lo hi wa sw) 0 0 := by
  refine Ct.of hfl (by decide) (Nat.le_of_ble_eq_true rfl) ?_
  intro k hR _
  have hR4 := hG.2.1
  have hC3 := hG.2.2.2
  have hR1 := hG.1
  have hC1 := hG.2.2.1
  have hE := hG.E
  have hRC := hG.RC
  have hro := hG.row he
  have hco := hG.col he
  show V k l D (tys3 cI cJ cZ) ({ frames := 2, cells := 0, slots := 0, locals := 49 } : Room) cX1_cluesAfter 6 RX1 (wX cI cZ q R C dr sz sa cu fi st lo hi wa sw) 0 0 0 [(0, .ref (q 1)), (1, .int (nI (s))), (2, .int (nI (e))), (3, .int (bI (t)))] []
  refine j_aload_n dX1_cluesAfter_0 rfl 0 rfl ?_
  refine gf_X1_21 1 rfl (rfl) dX1_cluesAfter_1 ?_
  refine j_iload_n dX1_cluesAfter_4 rfl 2 rfl ?_
  refine jn_iald (v := nI (tRow R C e)) 3 0 rfl rfl (he) (by omega) (rfl) dX1_cluesAfter_5 ?_
  refine j_istore [(4, .int (nI (tRow R C e))), (0, .ref (q 1)), (1, .int (nI (s))), (2, .int (nI (e))), (3, .int (bI (t)))] dX1_cluesAfter_6 (by decide) rfl ?_
  refine j_aload_n dX1_cluesAfter_8 rfl 1 rfl ?_
  refine gf_X1_25 1 rfl (rfl) dX1_cluesAfter_9 ?_
  refine j_iload_n dX1_cluesAfter_12 rfl 3 rfl ?_
  refine jn_iald (v := nI (tCol R C e)) 4 0 rfl rfl (he) (by omega) (rfl) dX1_cluesAfter_13 ?_
  refine j_istore [(5, .int (nI (tCol R C e))), (4, .int (nI (tRow R C e))), (0, .ref (q 1)), (1, .int (nI (s))), (2, .int (nI (e))), (3, .int (bI (t)))] dX1_cluesAfter_14 (by decide) rfl ?_
  refine j_aload_n dX1_cluesAfter_16 rfl 2 rfl ?_
  refine gf_X1_28 1 rfl (rfl) dX1_cluesAfter_17 ?_
  refine j_iload_n dX1_cluesAfter_20 rfl 4 rfl ?_
  refine jn_zald (v := bI ((tDown R C e))) 5 2 rfl rfl (he) (by omega) (rfl) dX1_cluesAfter_21 ?_
  refine jb_if_eq (tgt := 49) (b := (tDown R C e)) dX1_cluesAfter_22 (by decide) (fun c22 => ?_) (fun c22 => ?_)
  · have hcl := hG.colF he c22
    refine j_aload_n dX1_cluesAfter_49 rfl 2 rfl ?_
    refine j_aload_n dX1_cluesAfter_50 rfl 2 rfl ?_
    refine j_iload_n dX1_cluesAfter_51 rfl 3 rfl ?_
    refine j_iload dX1_cluesAfter_52 1 rfl ?_
    refine j_iconst (v := nI (1)) dX1_cluesAfter_54 (by decide) ?_
    refine j_isub dX1_cluesAfter_55 rfl ?_
    refine j_topi (y := eI (pd (tRow R C e))) (eI_pd (by omega)) ?_
    refine j_iload dX1_cluesAfter_56 0 rfl ?_
    refine j_iload_n dX1_cluesAfter_58 rfl 5 rfl ?_
    refine j_iconst (v := nI (1)) dX1_cluesAfter_59 (by decide) ?_
    refine j_st (st' := [.int (nI (1)), .int (bI (t)), .int (eI (tCol R C e)), .int (eI (pd (tRow R C e))), .int (nI (s)), .ref (q 1), .ref (q 1)]) (by rw [show nI (tCol R C e) = eI (tCol R C e) from (eI_ne (by omega)).symm] <;> rfl) ?_
    refine j_st (st' := [.int (bI (true)), .int (bI (t)), .int (eI (tCol R C e)), .int (eI (pd (tRow R C e))), .int (nI (s)), .ref (q 1), .ref (q 1)]) (by rfl) ?_
    refine j_vW (av := [.int (nI (s)), .int (eI (pd (tRow R C e))), .int (eI (tCol R C e)), .int (bI (t)), .int (bI (true))]) (c_side l hfl D cI cJ cZ q R C hG dr sz sa cu fi st lo hi wa sw hcu (some (s)) (fun z hz => by cases hz; exact hs) (pd (tRow R C e)) (tCol R C e) (by first | omega | (unfold pd; split <;> omega)) (by first | omega | (unfold pd; split <;> omega)) (t) (true)) 1 rfl rfl mw1_152 mw1_154 msel2 mw1_2 mw1_155 rfl hd_X1_sideAfter rfl ⟨rfl, rfl⟩ ⟨Nat.le_of_ble_eq_true rfl, Nat.le_of_ble_eq_true rfl⟩ ⟨Nat.zero_le _, Nat.zero_le _⟩ (Nat.le_of_ble_eq_true rfl) rfl dX1_cluesAfter_60 ?_
    rintro _ _ ⟨rfl, rfl⟩
    refine j_st (st' := [.int (oI (sideF R C cu (some (s)) (pd (tRow R C e)) (tCol R C e) t true)), .ref (q 1)]) rfl ?_
    refine j_iload dX1_cluesAfter_63 1 rfl ?_
    refine j_iload dX1_cluesAfter_65 0 rfl ?_
    refine j_iload_n dX1_cluesAfter_67 rfl 5 rfl ?_
    refine j_iconst (v := nI (0)) dX1_cluesAfter_68 (by decide) ?_
    refine j_st (st' := [.int (nI (0)), .int (bI (t)), .int (nI (tCol R C e)), .int (eI (tRow R C e)), .int (oI (sideF R C cu (some (s)) (pd (tRow R C e)) (tCol R C e) t true)), .ref (q 1)]) (by rw [show nI (tRow R C e) = eI (tRow R C e) from (eI_ne (by omega)).symm] <;> rfl) ?_
    refine j_st (st' := [.int (nI (0)), .int (bI (t)), .int (eI (tCol R C e)), .int (eI (tRow R C e)), .int (oI (sideF R C cu (some (s)) (pd (tRow R C e)) (tCol R C e) t true)), .ref (q 1)]) (by rw [show nI (tCol R C e) = eI (tCol R C e) from (eI_ne (by omega)).symm] <;> rfl) ?_
    refine j_st (st' := [.int (bI (false)), .int (bI (t)), .int (eI (tCol R C e)), .int (eI (tRow R C e)), .int (oI (sideF R C cu (some (s)) (pd (tRow R C e)) (tCol R C e) t true)), .ref (q 1)]) (by rfl) ?_
    refine j_vW (av := [.int (oI (sideF R C cu (some (s)) (pd (tRow R C e)) (tCol R C e) t true)), .int (eI (tRow R C e)), .int (eI (tCol R C e)), .int (bI (t)), .int (bI (false))]) (c_side l hfl D cI cJ cZ q R C hG dr sz sa cu fi st lo hi wa sw hcu (sideF R C cu (some (s)) (pd (tRow R C e)) (tCol R C e) t true) (fun z hz => sideF_lt hC3 hcu (fun y hy => by cases hy; exact hs) hz) (tRow R C e) (tCol R C e) (by first | omega | (unfold pd; split <;> omega)) (by first | omega | (unfold pd; split <;> omega)) (t) (false)) 1 rfl rfl mw1_152 mw1_154 msel2 mw1_2 mw1_155 rfl hd_X1_sideAfter rfl ⟨rfl, rfl⟩ ⟨Nat.le_of_ble_eq_true rfl, Nat.le_of_ble_eq_true rfl⟩ ⟨Nat.zero_le _, Nat.zero_le _⟩ (Nat.le_of_ble_eq_true rfl) rfl dX1_cluesAfter_69 ?_
    rintro _ _ ⟨rfl, rfl⟩
    refine j_st (st' := [.int (oI (sideF R C cu (sideF R C cu (some (s)) (pd (tRow R C e)) (tCol R C e) t true) (tRow R C e) (tCol R C e) t false))]) rfl ?_
    exact j_iret (tys' := []) rfl hR dX1_cluesAfter_72 (⟨by rw [show cluesF R C cu s e t = sideF R C cu (sideF R C cu (some (s)) (pd (tRow R C e)) (tCol R C e) t true) (tRow R C e) (tCol R C e) t false from by simp [cluesF, *]], rfl⟩)
  · have hrl := hG.rowT he c22
    refine j_aload_n dX1_cluesAfter_25 rfl 2 rfl ?_
    refine j_aload_n dX1_cluesAfter_26 rfl 2 rfl ?_
    refine j_iload_n dX1_cluesAfter_27 rfl 3 rfl ?_
    refine j_iload dX1_cluesAfter_28 1 rfl ?_
    refine j_iload dX1_cluesAfter_30 0 rfl ?_
    refine j_iconst (v := nI (1)) dX1_cluesAfter_32 (by decide) ?_
    refine j_isub dX1_cluesAfter_33 rfl ?_
    refine j_topi (y := eI (pd (tCol R C e))) (eI_pd (by omega)) ?_
    refine j_iload_n dX1_cluesAfter_34 rfl 5 rfl ?_
    refine j_iconst (v := nI (0)) dX1_cluesAfter_35 (by decide) ?_
    refine j_st (st' := [.int (nI (0)), .int (bI (t)), .int (eI (pd (tCol R C e))), .int (eI (tRow R C e)), .int (nI (s)), .ref (q 1), .ref (q 1)]) (by rw [show nI (tRow R C e) = eI (tRow R C e) from (eI_ne (by omega)).symm] <;> rfl) ?_
    refine j_st (st' := [.int (bI (false)), .int (bI (t)), .int (eI (pd (tCol R C e))), .int (eI (tRow R C e)), .int (nI (s)), .ref (q 1), .ref (q 1)]) (by rfl) ?_
    refine j_vW (av := [.int (nI (s)), .int (eI (tRow R C e)), .int (eI (pd (tCol R C e))), .int (bI (t)), .int (bI (false))]) (c_side l hfl D cI cJ cZ q R C hG dr sz sa cu fi st lo hi wa sw hcu (some (s)) (fun z hz => by cases hz; exact hs) (tRow R C e) (pd (tCol R C e)) (by first | omega | (unfold pd; split <;> omega)) (by first | omega | (unfold pd; split <;> omega)) (t) (false)) 1 rfl rfl mw1_152 mw1_154 msel2 mw1_2 mw1_155 rfl hd_X1_sideAfter rfl ⟨rfl, rfl⟩ ⟨Nat.le_of_ble_eq_true rfl, Nat.le_of_ble_eq_true rfl⟩ ⟨Nat.zero_le _, Nat.zero_le _⟩ (Nat.le_of_ble_eq_true rfl) rfl dX1_cluesAfter_36 ?_
    rintro _ _ ⟨rfl, rfl⟩
    refine j_st (st' := [.int (oI (sideF R C cu (some (s)) (tRow R C e) (pd (tCol R C e)) t false)), .ref (q 1)]) rfl ?_
    refine j_iload dX1_cluesAfter_39 1 rfl ?_
    refine j_iload dX1_cluesAfter_41 0 rfl ?_
    refine j_iload_n dX1_cluesAfter_43 rfl 5 rfl ?_
    refine j_iconst (v := nI (0)) dX1_cluesAfter_44 (by decide) ?_
    refine j_st (st' := [.int (nI (0)), .int (bI (t)), .int (nI (tCol R C e)), .int (eI (tRow R C e)), .int (oI (sideF R C cu (some (s)) (tRow R C e) (pd (tCol R C e)) t false)), .ref (q 1)]) (by rw [show nI (tRow R C e) = eI (tRow R C e) from (eI_ne (by omega)).symm] <;> rfl) ?_
    refine j_st (st' := [.int (nI (0)), .int (bI (t)), .int (eI (tCol R C e)), .int (eI (tRow R C e)), .int (oI (sideF R C cu (some (s)) (tRow R C e) (pd (tCol R C e)) t false)), .ref (q 1)]) (by rw [show nI (tCol R C e) = eI (tCol R C e) from (eI_ne (by omega)).symm] <;> rfl) ?_
    refine j_st (st' := [.int (bI (false)), .int (bI (t)), .int (eI (tCol R C e)), .int (eI (tRow R C e)), .int (oI (sideF R C cu (some (s)) (tRow R C e) (pd (tCol R C e)) t false)), .ref (q 1)]) (by rfl) ?_
    refine j_vW (av := [.int (oI (sideF R C cu (some (s)) (tRow R C e) (pd (tCol R C e)) t false)), .int (eI (tRow R C e)), .int (eI (tCol R C e)), .int (bI (t)), .int (bI (false))]) (c_side l hfl D cI cJ cZ q R C hG dr sz sa cu fi st lo hi wa sw hcu (sideF R C cu (some (s)) (tRow R C e) (pd (tCol R C e)) t false) (fun z hz => sideF_lt hC3 hcu (fun y hy => by cases hy; exact hs) hz) (tRow R C e) (tCol R C e) (by first | omega | (unfold pd; split <;> omega)) (by first | omega | (unfold pd; split <;> omega)) (t) (false)) 1 rfl rfl mw1_152 mw1_154 msel2 mw1_2 mw1_155 rfl hd_X1_sideAfter rfl ⟨rfl, rfl⟩ ⟨Nat.le_of_ble_eq_true rfl, Nat.le_of_ble_eq_true rfl⟩ ⟨Nat.zero_le _, Nat.zero_le _⟩ (Nat.le_of_ble_eq_true rfl) rfl dX1_cluesAfter_45 ?_
    rintro _ _ ⟨rfl, rfl⟩
    refine j_st (st' := [.int (oI (sideF R C cu (sideF R C cu (some (s)) (tRow R C e) (pd (tCol R C e)) t false) (tRow R C e) (tCol R C e) t false))]) rfl ?_
    exact j_iret (tys' := []) rfl hR dX1_cluesAfter_48 (⟨by rw [show cluesF R C cu s e t = sideF R C cu (sideF R C cu (some (s)) (tRow R C e) (pd (tCol R C e)) t false) (tRow R C e) (tCol R C e) t false from by simp [cluesF, *]], rfl⟩)

set_option maxHeartbeats 4000000 in
set_option maxRecDepth 100000 in
theorem c_pointsAfter (l : Launch) (hfl : l.flags = flags0) (D : va_G) (cI cJ cZ : ClassId) (q : Nat → Nat) (R C : Nat) (hG : GS R C) (dr sz : Nat) (sa : Bool) (cu fi st : Nat → Nat) (lo hi : Nat → Option Nat) (wa sw : Nat → Nat) (s e : Nat) (hs : s < 8 ^ 8) (he : e < nE R C) (t : Bool) : Ct l yX1_pointsAfter cX1_pointsAfter 7 (Option.some FieldType.int) ({ frames := 2, cells := 0, slots := 0, locals := 48 } : Room) D (tys3 cI cJ cZ) (tys3 cI cJ cZ) (wX cI cZ q R C dr sz sa cu fi st lo hi wa sw) [.ref (q 1), .int (nI (s)), .int (nI (e)), .int (bI (t))] (fun r u => r = some (.int (oI (pointsF R C s e t))) ∧ u = wX cI cZ q R C dr sz sa cu fi st lo hi wa sw) 0 0 := by
  refine Ct.of hfl (by decide) (Nat.le_of_ble_eq_true rfl) ?_
  intro k hR _
  have hR4 := hG.2.1
  have hC3 := hG.2.2.2
  have hR1 := hG.1
  have hC1 := hG.2.2.1
  have hE := hG.E
  have hRC := hG.RC
  have hro := hG.row he
  have hco := hG.col he
  have hla := hG.last
  show V k l D (tys3 cI cJ cZ) ({ frames := 2, cells := 0, slots := 0, locals := 48 } : Room) cX1_pointsAfter 7 RX1 (wX cI cZ q R C dr sz sa cu fi st lo hi wa sw) 0 0 0 [(0, .ref (q 1)), (1, .int (nI (s))), (2, .int (nI (e))), (3, .int (bI (t)))] []
  refine j_aload_n dX1_pointsAfter_0 rfl 0 rfl ?_
  refine gf_X1_25 1 rfl (rfl) dX1_pointsAfter_1 ?_
  refine j_iload_n dX1_pointsAfter_4 rfl 2 rfl ?_
  refine jn_iald (v := nI (tCol R C e)) 4 0 rfl rfl (he) (by omega) (rfl) dX1_pointsAfter_5 ?_
  refine j_istore [(4, .int (nI (tCol R C e))), (0, .ref (q 1)), (1, .int (nI (s))), (2, .int (nI (e))), (3, .int (bI (t)))] dX1_pointsAfter_6 (by decide) rfl ?_
  refine j_aload_n dX1_pointsAfter_8 rfl 1 rfl ?_
  refine gf_X1_28 1 rfl (rfl) dX1_pointsAfter_9 ?_
  refine j_iload_n dX1_pointsAfter_12 rfl 3 rfl ?_
  refine jn_zald (v := bI ((tDown R C e))) 5 2 rfl rfl (he) (by omega) (rfl) dX1_pointsAfter_13 ?_
  refine jb_if_eq (tgt := 25) (b := (tDown R C e)) dX1_pointsAfter_14 (by decide) (fun c14 => ?_) (fun c14 => ?_)
  · have hcl := hG.colF he c14
    refine j_iload_n dX1_pointsAfter_25 rfl 4 rfl ?_
    refine jb_if_eq (tgt := 38) (b := t) dX1_pointsAfter_26 (by decide) (fun c26 => ?_) (fun c26 => ?_)
    · refine j_iload_n dX1_pointsAfter_38 rfl 2 rfl ?_
      refine j_istore [(5, .int (nI (s))), (4, .int (nI (tCol R C e))), (0, .ref (q 1)), (1, .int (nI (s))), (2, .int (nI (e))), (3, .int (bI (t)))] dX1_pointsAfter_39 (by decide) rfl ?_
      refine j_aload_n dX1_pointsAfter_41 rfl 2 rfl ?_
      refine gf_X1_21 1 rfl (rfl) dX1_pointsAfter_42 ?_
      refine j_iload_n dX1_pointsAfter_45 rfl 4 rfl ?_
      refine jn_iald (v := nI (tRow R C e)) 3 0 rfl rfl (he) (by omega) (rfl) dX1_pointsAfter_46 ?_
      refine j_aload_n dX1_pointsAfter_47 rfl 2 rfl ?_
      refine gf_X1_11 1 rfl (rfl) dX1_pointsAfter_48 ?_
      refine jn_icmp_ne (tgt := 63) (a := tRow R C e) (b := R) (by omega) (by omega) dX1_pointsAfter_51 (by decide) (fun c51 => ?_) (fun c51 => ?_)
      · have h2 : ∀ y, (some (s)) = some y → y < 8 ^ 8 := fun y hy => by
          first | (cases hy; exact hs) | exact joinedF_lt hs (by omega) hy | exact endedF_lt (fun w hw => by first | (cases hw; exact hs) | exact joinedF_lt hs (by omega) hw) (by omega) hy
        refine j_iload_n dX1_pointsAfter_63 rfl 4 rfl ?_
        refine j_aload_n dX1_pointsAfter_64 rfl 2 rfl ?_
        refine gf_X1_18 1 rfl (rfl) dX1_pointsAfter_65 ?_
        refine j_iconst (v := nI (1)) dX1_pointsAfter_68 (by decide) ?_
        refine jn_isub dX1_pointsAfter_69 (by omega) rfl ?_
        refine jn_icmp_ne (tgt := 120) (a := e) (b := (nE R C) - 1) (by omega) (by omega) dX1_pointsAfter_70 (by decide) (fun c70 => ?_) (fun c70 => ?_)
        · refine j_iload dX1_pointsAfter_120 0 rfl ?_
          exact j_iret (tys' := []) rfl hR dX1_pointsAfter_122 (⟨by rw [show pointsF R C s e t = some s from by first | (simp [pointsF, c14, c26, c51, c70]; done) | (exfalso; simp_all)]; rfl, rfl⟩)
        · refine j_iload dX1_pointsAfter_73 0 rfl ?_
          refine j_iload dX1_pointsAfter_75 1 rfl ?_
          refine j_iconst (v := nI (1)) dX1_pointsAfter_77 (by decide) ?_
          refine jn_iadd (v := (tCol R C e) + 1) dX1_pointsAfter_78 rfl ?_
          refine j_s0 (av := [.int (nI (s)), .int (nI ((tCol R C e) + 1))]) (r0 := .int (oI (endedF (some (s)) ((tCol R C e) + 1)))) (c_ended l hfl D (tys3 cI cJ cZ) (some (s)) ((tCol R C e) + 1) (h2) (by omega)) mw1_145 mw1_146 mw1_2 mw1_147 hd_X1_ended rfl ⟨rfl, rfl⟩ ⟨Nat.le_of_ble_eq_true rfl, Nat.le_of_ble_eq_true rfl⟩ ⟨Nat.zero_le _, Nat.zero_le _⟩ (Nat.le_of_ble_eq_true rfl) rfl dX1_pointsAfter_79 ?_
          refine j_istore [(5, .int (oI (endedF (some (s)) ((tCol R C e) + 1)))), (4, .int (nI (tCol R C e))), (0, .ref (q 1)), (1, .int (nI (s))), (2, .int (nI (e))), (3, .int (bI (t)))] dX1_pointsAfter_82 (by decide) rfl ?_
          refine j_iload dX1_pointsAfter_84 0 rfl ?_
          refine j_iconst (v := (-1)) dX1_pointsAfter_86 (by decide) ?_
          refine j_icmp_eq (tgt := 105) dX1_pointsAfter_87 (by decide) (fun c87 => ?_) (fun c87 => ?_)
          · have e87 := (oI_m1 (fun w hw => Nat.lt_of_lt_of_le (endedF_lt (fun y hy => h2 y hy) (by omega) hw) (by decide))).mp c87
            refine j_iconst (v := nI (0)) dX1_pointsAfter_105 (by decide) ?_
            refine j_istore [(6, .int (nI (0))), (5, .int (oI (endedF (some (s)) ((tCol R C e) + 1)))), (4, .int (nI (tCol R C e))), (0, .ref (q 1)), (1, .int (nI (s))), (2, .int (nI (e))), (3, .int (bI (t)))] dX1_pointsAfter_106 (by decide) rfl ?_
            refine j_iload dX1_pointsAfter_108 0 rfl ?_
            refine jn_if_eq (tgt := 118) (a := 0) (by omega) dX1_pointsAfter_110 (by decide) (fun c110 => ?_) (fun c110 => ?_)
            · refine j_iconst (v := (-1)) dX1_pointsAfter_118 (by decide) ?_
              exact j_iret (tys' := []) rfl hR dX1_pointsAfter_119 (⟨by rw [show pointsF R C s e t = none from by first | (simp [pointsF, c14, c26, c51, eq_true c70, eq_true c110, e87]; done) | (exfalso; simp_all)]; rfl, rfl⟩)
            · exact absurd c110 (by first | decide | omega)
          · obtain ⟨z, hz⟩ : ∃ z, endedF (some (s)) ((tCol R C e) + 1) = some z := by
              cases h9 : endedF (some (s)) ((tCol R C e) + 1) with
              | none => exact absurd (by rw [h9]; rfl) c87
              | some z => exact ⟨z, rfl⟩
            have hz8 : z < 8 ^ 8 := endedF_lt (fun y hy => h2 y hy) (by omega) hz
            refine j_lv (lv' := [(5, .int (nI (z))), (4, .int (nI (tCol R C e))), (0, .ref (q 1)), (1, .int (nI (s))), (2, .int (nI (e))), (3, .int (bI (t)))]) (by rw [hz]; rfl) ?_
            refine j_iload dX1_pointsAfter_90 0 rfl ?_
            refine j_bipush (v := nI (7)) dX1_pointsAfter_92 (by decide) ?_
            refine j_s0 (av := [.int (nI (z)), .int (nI (7))]) (r0 := .int (nI (sl z 7))) (c_slot l hfl D (tys3 cI cJ cZ) (z) (7) (by repeat first | assumption | omega | exact sl_lt _ _ | exact slN | apply pt31 | apply pt_lt) (by repeat first | assumption | omega | exact sl_lt _ _ | exact slN | apply pt31 | apply pt_lt)) mw1_133 mw1_134 mw1_2 mw1_135 hd_X1_slot rfl ⟨rfl, rfl⟩ ⟨Nat.le_of_ble_eq_true rfl, Nat.le_of_ble_eq_true rfl⟩ ⟨Nat.zero_le _, Nat.zero_le _⟩ (Nat.le_of_ble_eq_true rfl) rfl dX1_pointsAfter_94 ?_
            refine j_iconst (v := nI (1)) dX1_pointsAfter_97 (by decide) ?_
            refine jn_icmp_ne (tgt := 105) (a := sl z 7) (b := 1) (slN) (by omega) dX1_pointsAfter_98 (by decide) (fun c98 => ?_) (fun c98 => ?_)
            · refine j_iconst (v := nI (0)) dX1_pointsAfter_105 (by decide) ?_
              refine j_istore [(6, .int (nI (0))), (5, .int (nI (z))), (4, .int (nI (tCol R C e))), (0, .ref (q 1)), (1, .int (nI (s))), (2, .int (nI (e))), (3, .int (bI (t)))] dX1_pointsAfter_106 (by decide) rfl ?_
              refine j_iload dX1_pointsAfter_108 0 rfl ?_
              refine jn_if_eq (tgt := 118) (a := 0) (by omega) dX1_pointsAfter_110 (by decide) (fun c110 => ?_) (fun c110 => ?_)
              · refine j_iconst (v := (-1)) dX1_pointsAfter_118 (by decide) ?_
                exact j_iret (tys' := []) rfl hR dX1_pointsAfter_119 (⟨by rw [show pointsF R C s e t = none from by first | (simp [pointsF, c14, c26, c51, eq_true c70, hz, c98, eq_true c110]; done) | (exfalso; simp_all)]; rfl, rfl⟩)
              · exact absurd c110 (by first | decide | omega)
            · refine j_iconst (v := nI (1)) dX1_pointsAfter_101 (by decide) ?_
              refine j_goto (tgt := 106) dX1_pointsAfter_102 (by decide) ?_
              refine j_istore [(6, .int (nI (1))), (5, .int (nI (z))), (4, .int (nI (tCol R C e))), (0, .ref (q 1)), (1, .int (nI (s))), (2, .int (nI (e))), (3, .int (bI (t)))] dX1_pointsAfter_106 (by decide) rfl ?_
              refine j_iload dX1_pointsAfter_108 0 rfl ?_
              refine jn_if_eq (tgt := 118) (a := 1) (by omega) dX1_pointsAfter_110 (by decide) (fun c110 => ?_) (fun c110 => ?_)
              · exact absurd c110 (by first | decide | omega)
              · refine j_iload dX1_pointsAfter_113 1 rfl ?_
                refine j_goto (tgt := 119) dX1_pointsAfter_115 (by decide) ?_
                exact j_iret (tys' := []) rfl hR dX1_pointsAfter_119 (⟨by rw [show pointsF R C s e t = some z from by first | (simp [pointsF, c14, c26, c51, eq_true c70, hz, eq_true c98, c110]; done) | (exfalso; simp_all)]; rfl, rfl⟩)
      · refine j_iload dX1_pointsAfter_54 0 rfl ?_
        refine j_iload dX1_pointsAfter_56 1 rfl ?_
        refine j_s0 (av := [.int (nI (s)), .int (nI (tCol R C e))]) (r0 := .int (oI (endedF (some (s)) (tCol R C e)))) (c_ended l hfl D (tys3 cI cJ cZ) (some (s)) (tCol R C e) (fun y hy => by first | (cases hy; exact hs) | exact joinedF_lt hs (by omega) hy) (by omega)) mw1_145 mw1_146 mw1_2 mw1_147 hd_X1_ended rfl ⟨rfl, rfl⟩ ⟨Nat.le_of_ble_eq_true rfl, Nat.le_of_ble_eq_true rfl⟩ ⟨Nat.zero_le _, Nat.zero_le _⟩ (Nat.le_of_ble_eq_true rfl) rfl dX1_pointsAfter_58 ?_
        refine j_istore [(5, .int (oI (endedF (some (s)) (tCol R C e)))), (4, .int (nI (tCol R C e))), (0, .ref (q 1)), (1, .int (nI (s))), (2, .int (nI (e))), (3, .int (bI (t)))] dX1_pointsAfter_61 (by decide) rfl ?_
        have h2 : ∀ y, (endedF (some (s)) (tCol R C e)) = some y → y < 8 ^ 8 := fun y hy => by
          first | (cases hy; exact hs) | exact joinedF_lt hs (by omega) hy | exact endedF_lt (fun w hw => by first | (cases hw; exact hs) | exact joinedF_lt hs (by omega) hw) (by omega) hy
        refine j_iload_n dX1_pointsAfter_63 rfl 4 rfl ?_
        refine j_aload_n dX1_pointsAfter_64 rfl 2 rfl ?_
        refine gf_X1_18 1 rfl (rfl) dX1_pointsAfter_65 ?_
        refine j_iconst (v := nI (1)) dX1_pointsAfter_68 (by decide) ?_
        refine jn_isub dX1_pointsAfter_69 (by omega) rfl ?_
        refine jn_icmp_ne (tgt := 120) (a := e) (b := (nE R C) - 1) (by omega) (by omega) dX1_pointsAfter_70 (by decide) (fun c70 => ?_) (fun c70 => ?_)
        · refine j_iload dX1_pointsAfter_120 0 rfl ?_
          exact j_iret (tys' := []) rfl hR dX1_pointsAfter_122 (⟨by rw [show pointsF R C s e t = endedF (some (s)) (tCol R C e) from by first | (simp [pointsF, c14, c26, eq_true c51, c70]; done) | (exfalso; simp_all)], rfl⟩)
        · refine j_iload dX1_pointsAfter_73 0 rfl ?_
          refine j_iload dX1_pointsAfter_75 1 rfl ?_
          refine j_iconst (v := nI (1)) dX1_pointsAfter_77 (by decide) ?_
          refine jn_iadd (v := (tCol R C e) + 1) dX1_pointsAfter_78 rfl ?_
          refine j_s0 (av := [.int (oI (endedF (some (s)) (tCol R C e))), .int (nI ((tCol R C e) + 1))]) (r0 := .int (oI (endedF (endedF (some (s)) (tCol R C e)) ((tCol R C e) + 1)))) (c_ended l hfl D (tys3 cI cJ cZ) (endedF (some (s)) (tCol R C e)) ((tCol R C e) + 1) (h2) (by omega)) mw1_145 mw1_146 mw1_2 mw1_147 hd_X1_ended rfl ⟨rfl, rfl⟩ ⟨Nat.le_of_ble_eq_true rfl, Nat.le_of_ble_eq_true rfl⟩ ⟨Nat.zero_le _, Nat.zero_le _⟩ (Nat.le_of_ble_eq_true rfl) rfl dX1_pointsAfter_79 ?_
          refine j_istore [(5, .int (oI (endedF (endedF (some (s)) (tCol R C e)) ((tCol R C e) + 1)))), (4, .int (nI (tCol R C e))), (0, .ref (q 1)), (1, .int (nI (s))), (2, .int (nI (e))), (3, .int (bI (t)))] dX1_pointsAfter_82 (by decide) rfl ?_
          refine j_iload dX1_pointsAfter_84 0 rfl ?_
          refine j_iconst (v := (-1)) dX1_pointsAfter_86 (by decide) ?_
          refine j_icmp_eq (tgt := 105) dX1_pointsAfter_87 (by decide) (fun c87 => ?_) (fun c87 => ?_)
          · have e87 := (oI_m1 (fun w hw => Nat.lt_of_lt_of_le (endedF_lt (fun y hy => h2 y hy) (by omega) hw) (by decide))).mp c87
            refine j_iconst (v := nI (0)) dX1_pointsAfter_105 (by decide) ?_
            refine j_istore [(6, .int (nI (0))), (5, .int (oI (endedF (endedF (some (s)) (tCol R C e)) ((tCol R C e) + 1)))), (4, .int (nI (tCol R C e))), (0, .ref (q 1)), (1, .int (nI (s))), (2, .int (nI (e))), (3, .int (bI (t)))] dX1_pointsAfter_106 (by decide) rfl ?_
            refine j_iload dX1_pointsAfter_108 0 rfl ?_
            refine jn_if_eq (tgt := 118) (a := 0) (by omega) dX1_pointsAfter_110 (by decide) (fun c110 => ?_) (fun c110 => ?_)
            · refine j_iconst (v := (-1)) dX1_pointsAfter_118 (by decide) ?_
              exact j_iret (tys' := []) rfl hR dX1_pointsAfter_119 (⟨by rw [show pointsF R C s e t = none from by first | (simp [pointsF, c14, c26, eq_true c51, eq_true c70, eq_true c110, e87]; done) | (exfalso; simp_all)]; rfl, rfl⟩)
            · exact absurd c110 (by first | decide | omega)
          · obtain ⟨z, hz⟩ : ∃ z, endedF (endedF (some (s)) (tCol R C e)) ((tCol R C e) + 1) = some z := by
              cases h9 : endedF (endedF (some (s)) (tCol R C e)) ((tCol R C e) + 1) with
              | none => exact absurd (by rw [h9]; rfl) c87
              | some z => exact ⟨z, rfl⟩
            have hz8 : z < 8 ^ 8 := endedF_lt (fun y hy => h2 y hy) (by omega) hz
            refine j_lv (lv' := [(5, .int (nI (z))), (4, .int (nI (tCol R C e))), (0, .ref (q 1)), (1, .int (nI (s))), (2, .int (nI (e))), (3, .int (bI (t)))]) (by rw [hz]; rfl) ?_
            refine j_iload dX1_pointsAfter_90 0 rfl ?_
            refine j_bipush (v := nI (7)) dX1_pointsAfter_92 (by decide) ?_
            refine j_s0 (av := [.int (nI (z)), .int (nI (7))]) (r0 := .int (nI (sl z 7))) (c_slot l hfl D (tys3 cI cJ cZ) (z) (7) (by repeat first | assumption | omega | exact sl_lt _ _ | exact slN | apply pt31 | apply pt_lt) (by repeat first | assumption | omega | exact sl_lt _ _ | exact slN | apply pt31 | apply pt_lt)) mw1_133 mw1_134 mw1_2 mw1_135 hd_X1_slot rfl ⟨rfl, rfl⟩ ⟨Nat.le_of_ble_eq_true rfl, Nat.le_of_ble_eq_true rfl⟩ ⟨Nat.zero_le _, Nat.zero_le _⟩ (Nat.le_of_ble_eq_true rfl) rfl dX1_pointsAfter_94 ?_
            refine j_iconst (v := nI (1)) dX1_pointsAfter_97 (by decide) ?_
            refine jn_icmp_ne (tgt := 105) (a := sl z 7) (b := 1) (slN) (by omega) dX1_pointsAfter_98 (by decide) (fun c98 => ?_) (fun c98 => ?_)
            · refine j_iconst (v := nI (0)) dX1_pointsAfter_105 (by decide) ?_
              refine j_istore [(6, .int (nI (0))), (5, .int (nI (z))), (4, .int (nI (tCol R C e))), (0, .ref (q 1)), (1, .int (nI (s))), (2, .int (nI (e))), (3, .int (bI (t)))] dX1_pointsAfter_106 (by decide) rfl ?_
              refine j_iload dX1_pointsAfter_108 0 rfl ?_
              refine jn_if_eq (tgt := 118) (a := 0) (by omega) dX1_pointsAfter_110 (by decide) (fun c110 => ?_) (fun c110 => ?_)
              · refine j_iconst (v := (-1)) dX1_pointsAfter_118 (by decide) ?_
                exact j_iret (tys' := []) rfl hR dX1_pointsAfter_119 (⟨by rw [show pointsF R C s e t = none from by first | (simp [pointsF, c14, c26, eq_true c51, eq_true c70, hz, c98, eq_true c110]; done) | (exfalso; simp_all)]; rfl, rfl⟩)
              · exact absurd c110 (by first | decide | omega)
            · refine j_iconst (v := nI (1)) dX1_pointsAfter_101 (by decide) ?_
              refine j_goto (tgt := 106) dX1_pointsAfter_102 (by decide) ?_
              refine j_istore [(6, .int (nI (1))), (5, .int (nI (z))), (4, .int (nI (tCol R C e))), (0, .ref (q 1)), (1, .int (nI (s))), (2, .int (nI (e))), (3, .int (bI (t)))] dX1_pointsAfter_106 (by decide) rfl ?_
              refine j_iload dX1_pointsAfter_108 0 rfl ?_
              refine jn_if_eq (tgt := 118) (a := 1) (by omega) dX1_pointsAfter_110 (by decide) (fun c110 => ?_) (fun c110 => ?_)
              · exact absurd c110 (by first | decide | omega)
              · refine j_iload dX1_pointsAfter_113 1 rfl ?_
                refine j_goto (tgt := 119) dX1_pointsAfter_115 (by decide) ?_
                exact j_iret (tys' := []) rfl hR dX1_pointsAfter_119 (⟨by rw [show pointsF R C s e t = some z from by first | (simp [pointsF, c14, c26, eq_true c51, eq_true c70, hz, eq_true c98, c110]; done) | (exfalso; simp_all)]; rfl, rfl⟩)
    · refine j_iload_n dX1_pointsAfter_29 rfl 2 rfl ?_
      refine j_iload dX1_pointsAfter_30 0 rfl ?_
      refine j_s0 (av := [.int (nI (s)), .int (nI (tCol R C e))]) (r0 := .int (oI (joinedF s (tCol R C e)))) (c_joined l hfl D (tys3 cI cJ cZ) (s) (tCol R C e) (hs) (by omega)) mw1_142 mw1_143 mw1_2 mw1_144 hd_X1_joined rfl ⟨rfl, rfl⟩ ⟨Nat.le_of_ble_eq_true rfl, Nat.le_of_ble_eq_true rfl⟩ ⟨Nat.zero_le _, Nat.zero_le _⟩ (Nat.le_of_ble_eq_true rfl) rfl dX1_pointsAfter_32 ?_
      refine j_goto (tgt := 39) dX1_pointsAfter_35 (by decide) ?_
      refine j_istore [(5, .int (oI (joinedF s (tCol R C e)))), (4, .int (nI (tCol R C e))), (0, .ref (q 1)), (1, .int (nI (s))), (2, .int (nI (e))), (3, .int (bI (t)))] dX1_pointsAfter_39 (by decide) rfl ?_
      refine j_aload_n dX1_pointsAfter_41 rfl 2 rfl ?_
      refine gf_X1_21 1 rfl (rfl) dX1_pointsAfter_42 ?_
      refine j_iload_n dX1_pointsAfter_45 rfl 4 rfl ?_
      refine jn_iald (v := nI (tRow R C e)) 3 0 rfl rfl (he) (by omega) (rfl) dX1_pointsAfter_46 ?_
      refine j_aload_n dX1_pointsAfter_47 rfl 2 rfl ?_
      refine gf_X1_11 1 rfl (rfl) dX1_pointsAfter_48 ?_
      refine jn_icmp_ne (tgt := 63) (a := tRow R C e) (b := R) (by omega) (by omega) dX1_pointsAfter_51 (by decide) (fun c51 => ?_) (fun c51 => ?_)
      · have h2 : ∀ y, (joinedF s (tCol R C e)) = some y → y < 8 ^ 8 := fun y hy => by
          first | (cases hy; exact hs) | exact joinedF_lt hs (by omega) hy | exact endedF_lt (fun w hw => by first | (cases hw; exact hs) | exact joinedF_lt hs (by omega) hw) (by omega) hy
        refine j_iload_n dX1_pointsAfter_63 rfl 4 rfl ?_
        refine j_aload_n dX1_pointsAfter_64 rfl 2 rfl ?_
        refine gf_X1_18 1 rfl (rfl) dX1_pointsAfter_65 ?_
        refine j_iconst (v := nI (1)) dX1_pointsAfter_68 (by decide) ?_
        refine jn_isub dX1_pointsAfter_69 (by omega) rfl ?_
        refine jn_icmp_ne (tgt := 120) (a := e) (b := (nE R C) - 1) (by omega) (by omega) dX1_pointsAfter_70 (by decide) (fun c70 => ?_) (fun c70 => ?_)
        · refine j_iload dX1_pointsAfter_120 0 rfl ?_
          exact j_iret (tys' := []) rfl hR dX1_pointsAfter_122 (⟨by rw [show pointsF R C s e t = joinedF s (tCol R C e) from by first | (simp [pointsF, c14, c26, c51, c70]; done) | (exfalso; simp_all)], rfl⟩)
        · refine j_iload dX1_pointsAfter_73 0 rfl ?_
          refine j_iload dX1_pointsAfter_75 1 rfl ?_
          refine j_iconst (v := nI (1)) dX1_pointsAfter_77 (by decide) ?_
          refine jn_iadd (v := (tCol R C e) + 1) dX1_pointsAfter_78 rfl ?_
          refine j_s0 (av := [.int (oI (joinedF s (tCol R C e))), .int (nI ((tCol R C e) + 1))]) (r0 := .int (oI (endedF (joinedF s (tCol R C e)) ((tCol R C e) + 1)))) (c_ended l hfl D (tys3 cI cJ cZ) (joinedF s (tCol R C e)) ((tCol R C e) + 1) (h2) (by omega)) mw1_145 mw1_146 mw1_2 mw1_147 hd_X1_ended rfl ⟨rfl, rfl⟩ ⟨Nat.le_of_ble_eq_true rfl, Nat.le_of_ble_eq_true rfl⟩ ⟨Nat.zero_le _, Nat.zero_le _⟩ (Nat.le_of_ble_eq_true rfl) rfl dX1_pointsAfter_79 ?_
          refine j_istore [(5, .int (oI (endedF (joinedF s (tCol R C e)) ((tCol R C e) + 1)))), (4, .int (nI (tCol R C e))), (0, .ref (q 1)), (1, .int (nI (s))), (2, .int (nI (e))), (3, .int (bI (t)))] dX1_pointsAfter_82 (by decide) rfl ?_
          refine j_iload dX1_pointsAfter_84 0 rfl ?_
          refine j_iconst (v := (-1)) dX1_pointsAfter_86 (by decide) ?_
          refine j_icmp_eq (tgt := 105) dX1_pointsAfter_87 (by decide) (fun c87 => ?_) (fun c87 => ?_)
          · have e87 := (oI_m1 (fun w hw => Nat.lt_of_lt_of_le (endedF_lt (fun y hy => h2 y hy) (by omega) hw) (by decide))).mp c87
            refine j_iconst (v := nI (0)) dX1_pointsAfter_105 (by decide) ?_
            refine j_istore [(6, .int (nI (0))), (5, .int (oI (endedF (joinedF s (tCol R C e)) ((tCol R C e) + 1)))), (4, .int (nI (tCol R C e))), (0, .ref (q 1)), (1, .int (nI (s))), (2, .int (nI (e))), (3, .int (bI (t)))] dX1_pointsAfter_106 (by decide) rfl ?_
            refine j_iload dX1_pointsAfter_108 0 rfl ?_
            refine jn_if_eq (tgt := 118) (a := 0) (by omega) dX1_pointsAfter_110 (by decide) (fun c110 => ?_) (fun c110 => ?_)
            · refine j_iconst (v := (-1)) dX1_pointsAfter_118 (by decide) ?_
              exact j_iret (tys' := []) rfl hR dX1_pointsAfter_119 (⟨by rw [show pointsF R C s e t = none from by first | (simp [pointsF, c14, c26, c51, eq_true c70, eq_true c110, e87]; done) | (exfalso; simp_all)]; rfl, rfl⟩)
            · exact absurd c110 (by first | decide | omega)
          · obtain ⟨z, hz⟩ : ∃ z, endedF (joinedF s (tCol R C e)) ((tCol R C e) + 1) = some z := by
              cases h9 : endedF (joinedF s (tCol R C e)) ((tCol R C e) + 1) with
              | none => exact absurd (by rw [h9]; rfl) c87
              | some z => exact ⟨z, rfl⟩
            have hz8 : z < 8 ^ 8 := endedF_lt (fun y hy => h2 y hy) (by omega) hz
            refine j_lv (lv' := [(5, .int (nI (z))), (4, .int (nI (tCol R C e))), (0, .ref (q 1)), (1, .int (nI (s))), (2, .int (nI (e))), (3, .int (bI (t)))]) (by rw [hz]; rfl) ?_
            refine j_iload dX1_pointsAfter_90 0 rfl ?_
            refine j_bipush (v := nI (7)) dX1_pointsAfter_92 (by decide) ?_
            refine j_s0 (av := [.int (nI (z)), .int (nI (7))]) (r0 := .int (nI (sl z 7))) (c_slot l hfl D (tys3 cI cJ cZ) (z) (7) (by repeat first | assumption | omega | exact sl_lt _ _ | exact slN | apply pt31 | apply pt_lt) (by repeat first | assumption | omega | exact sl_lt _ _ | exact slN | apply pt31 | apply pt_lt)) mw1_133 mw1_134 mw1_2 mw1_135 hd_X1_slot rfl ⟨rfl, rfl⟩ ⟨Nat.le_of_ble_eq_true rfl, Nat.le_of_ble_eq_true rfl⟩ ⟨Nat.zero_le _, Nat.zero_le _⟩ (Nat.le_of_ble_eq_true rfl) rfl dX1_pointsAfter_94 ?_
            refine j_iconst (v := nI (1)) dX1_pointsAfter_97 (by decide) ?_
            refine jn_icmp_ne (tgt := 105) (a := sl z 7) (b := 1) (slN) (by omega) dX1_pointsAfter_98 (by decide) (fun c98 => ?_) (fun c98 => ?_)
            · refine j_iconst (v := nI (0)) dX1_pointsAfter_105 (by decide) ?_
              refine j_istore [(6, .int (nI (0))), (5, .int (nI (z))), (4, .int (nI (tCol R C e))), (0, .ref (q 1)), (1, .int (nI (s))), (2, .int (nI (e))), (3, .int (bI (t)))] dX1_pointsAfter_106 (by decide) rfl ?_
              refine j_iload dX1_pointsAfter_108 0 rfl ?_
              refine jn_if_eq (tgt := 118) (a := 0) (by omega) dX1_pointsAfter_110 (by decide) (fun c110 => ?_) (fun c110 => ?_)
              · refine j_iconst (v := (-1)) dX1_pointsAfter_118 (by decide) ?_
                exact j_iret (tys' := []) rfl hR dX1_pointsAfter_119 (⟨by rw [show pointsF R C s e t = none from by first | (simp [pointsF, c14, c26, c51, eq_true c70, hz, c98, eq_true c110]; done) | (exfalso; simp_all)]; rfl, rfl⟩)
              · exact absurd c110 (by first | decide | omega)
            · refine j_iconst (v := nI (1)) dX1_pointsAfter_101 (by decide) ?_
              refine j_goto (tgt := 106) dX1_pointsAfter_102 (by decide) ?_
              refine j_istore [(6, .int (nI (1))), (5, .int (nI (z))), (4, .int (nI (tCol R C e))), (0, .ref (q 1)), (1, .int (nI (s))), (2, .int (nI (e))), (3, .int (bI (t)))] dX1_pointsAfter_106 (by decide) rfl ?_
              refine j_iload dX1_pointsAfter_108 0 rfl ?_
              refine jn_if_eq (tgt := 118) (a := 1) (by omega) dX1_pointsAfter_110 (by decide) (fun c110 => ?_) (fun c110 => ?_)
              · exact absurd c110 (by first | decide | omega)
              · refine j_iload dX1_pointsAfter_113 1 rfl ?_
                refine j_goto (tgt := 119) dX1_pointsAfter_115 (by decide) ?_
                exact j_iret (tys' := []) rfl hR dX1_pointsAfter_119 (⟨by rw [show pointsF R C s e t = some z from by first | (simp [pointsF, c14, c26, c51, eq_true c70, hz, eq_true c98, c110]; done) | (exfalso; simp_all)]; rfl, rfl⟩)
      · refine j_iload dX1_pointsAfter_54 0 rfl ?_
        refine j_iload dX1_pointsAfter_56 1 rfl ?_
        refine j_s0 (av := [.int (oI (joinedF s (tCol R C e))), .int (nI (tCol R C e))]) (r0 := .int (oI (endedF (joinedF s (tCol R C e)) (tCol R C e)))) (c_ended l hfl D (tys3 cI cJ cZ) (joinedF s (tCol R C e)) (tCol R C e) (fun y hy => by first | (cases hy; exact hs) | exact joinedF_lt hs (by omega) hy) (by omega)) mw1_145 mw1_146 mw1_2 mw1_147 hd_X1_ended rfl ⟨rfl, rfl⟩ ⟨Nat.le_of_ble_eq_true rfl, Nat.le_of_ble_eq_true rfl⟩ ⟨Nat.zero_le _, Nat.zero_le _⟩ (Nat.le_of_ble_eq_true rfl) rfl dX1_pointsAfter_58 ?_
        refine j_istore [(5, .int (oI (endedF (joinedF s (tCol R C e)) (tCol R C e)))), (4, .int (nI (tCol R C e))), (0, .ref (q 1)), (1, .int (nI (s))), (2, .int (nI (e))), (3, .int (bI (t)))] dX1_pointsAfter_61 (by decide) rfl ?_
        have h2 : ∀ y, (endedF (joinedF s (tCol R C e)) (tCol R C e)) = some y → y < 8 ^ 8 := fun y hy => by
          first | (cases hy; exact hs) | exact joinedF_lt hs (by omega) hy | exact endedF_lt (fun w hw => by first | (cases hw; exact hs) | exact joinedF_lt hs (by omega) hw) (by omega) hy
        refine j_iload_n dX1_pointsAfter_63 rfl 4 rfl ?_
        refine j_aload_n dX1_pointsAfter_64 rfl 2 rfl ?_
        refine gf_X1_18 1 rfl (rfl) dX1_pointsAfter_65 ?_
        refine j_iconst (v := nI (1)) dX1_pointsAfter_68 (by decide) ?_
        refine jn_isub dX1_pointsAfter_69 (by omega) rfl ?_
        refine jn_icmp_ne (tgt := 120) (a := e) (b := (nE R C) - 1) (by omega) (by omega) dX1_pointsAfter_70 (by decide) (fun c70 => ?_) (fun c70 => ?_)
        · refine j_iload dX1_pointsAfter_120 0 rfl ?_
          exact j_iret (tys' := []) rfl hR dX1_pointsAfter_122 (⟨by rw [show pointsF R C s e t = endedF (joinedF s (tCol R C e)) (tCol R C e) from by first | (simp [pointsF, c14, c26, eq_true c51, c70]; done) | (exfalso; simp_all)], rfl⟩)
        · refine j_iload dX1_pointsAfter_73 0 rfl ?_
          refine j_iload dX1_pointsAfter_75 1 rfl ?_
          refine j_iconst (v := nI (1)) dX1_pointsAfter_77 (by decide) ?_
          refine jn_iadd (v := (tCol R C e) + 1) dX1_pointsAfter_78 rfl ?_
          refine j_s0 (av := [.int (oI (endedF (joinedF s (tCol R C e)) (tCol R C e))), .int (nI ((tCol R C e) + 1))]) (r0 := .int (oI (endedF (endedF (joinedF s (tCol R C e)) (tCol R C e)) ((tCol R C e) + 1)))) (c_ended l hfl D (tys3 cI cJ cZ) (endedF (joinedF s (tCol R C e)) (tCol R C e)) ((tCol R C e) + 1) (h2) (by omega)) mw1_145 mw1_146 mw1_2 mw1_147 hd_X1_ended rfl ⟨rfl, rfl⟩ ⟨Nat.le_of_ble_eq_true rfl, Nat.le_of_ble_eq_true rfl⟩ ⟨Nat.zero_le _, Nat.zero_le _⟩ (Nat.le_of_ble_eq_true rfl) rfl dX1_pointsAfter_79 ?_
          refine j_istore [(5, .int (oI (endedF (endedF (joinedF s (tCol R C e)) (tCol R C e)) ((tCol R C e) + 1)))), (4, .int (nI (tCol R C e))), (0, .ref (q 1)), (1, .int (nI (s))), (2, .int (nI (e))), (3, .int (bI (t)))] dX1_pointsAfter_82 (by decide) rfl ?_
          refine j_iload dX1_pointsAfter_84 0 rfl ?_
          refine j_iconst (v := (-1)) dX1_pointsAfter_86 (by decide) ?_
          refine j_icmp_eq (tgt := 105) dX1_pointsAfter_87 (by decide) (fun c87 => ?_) (fun c87 => ?_)
          · have e87 := (oI_m1 (fun w hw => Nat.lt_of_lt_of_le (endedF_lt (fun y hy => h2 y hy) (by omega) hw) (by decide))).mp c87
            refine j_iconst (v := nI (0)) dX1_pointsAfter_105 (by decide) ?_
            refine j_istore [(6, .int (nI (0))), (5, .int (oI (endedF (endedF (joinedF s (tCol R C e)) (tCol R C e)) ((tCol R C e) + 1)))), (4, .int (nI (tCol R C e))), (0, .ref (q 1)), (1, .int (nI (s))), (2, .int (nI (e))), (3, .int (bI (t)))] dX1_pointsAfter_106 (by decide) rfl ?_
            refine j_iload dX1_pointsAfter_108 0 rfl ?_
            refine jn_if_eq (tgt := 118) (a := 0) (by omega) dX1_pointsAfter_110 (by decide) (fun c110 => ?_) (fun c110 => ?_)
            · refine j_iconst (v := (-1)) dX1_pointsAfter_118 (by decide) ?_
              exact j_iret (tys' := []) rfl hR dX1_pointsAfter_119 (⟨by rw [show pointsF R C s e t = none from by first | (simp [pointsF, c14, c26, eq_true c51, eq_true c70, eq_true c110, e87]; done) | (exfalso; simp_all)]; rfl, rfl⟩)
            · exact absurd c110 (by first | decide | omega)
          · obtain ⟨z, hz⟩ : ∃ z, endedF (endedF (joinedF s (tCol R C e)) (tCol R C e)) ((tCol R C e) + 1) = some z := by
              cases h9 : endedF (endedF (joinedF s (tCol R C e)) (tCol R C e)) ((tCol R C e) + 1) with
              | none => exact absurd (by rw [h9]; rfl) c87
              | some z => exact ⟨z, rfl⟩
            have hz8 : z < 8 ^ 8 := endedF_lt (fun y hy => h2 y hy) (by omega) hz
            refine j_lv (lv' := [(5, .int (nI (z))), (4, .int (nI (tCol R C e))), (0, .ref (q 1)), (1, .int (nI (s))), (2, .int (nI (e))), (3, .int (bI (t)))]) (by rw [hz]; rfl) ?_
            refine j_iload dX1_pointsAfter_90 0 rfl ?_
            refine j_bipush (v := nI (7)) dX1_pointsAfter_92 (by decide) ?_
            refine j_s0 (av := [.int (nI (z)), .int (nI (7))]) (r0 := .int (nI (sl z 7))) (c_slot l hfl D (tys3 cI cJ cZ) (z) (7) (by repeat first | assumption | omega | exact sl_lt _ _ | exact slN | apply pt31 | apply pt_lt) (by repeat first | assumption | omega | exact sl_lt _ _ | exact slN | apply pt31 | apply pt_lt)) mw1_133 mw1_134 mw1_2 mw1_135 hd_X1_slot rfl ⟨rfl, rfl⟩ ⟨Nat.le_of_ble_eq_true rfl, Nat.le_of_ble_eq_true rfl⟩ ⟨Nat.zero_le _, Nat.zero_le _⟩ (Nat.le_of_ble_eq_true rfl) rfl dX1_pointsAfter_94 ?_
            refine j_iconst (v := nI (1)) dX1_pointsAfter_97 (by decide) ?_
            refine jn_icmp_ne (tgt := 105) (a := sl z 7) (b := 1) (slN) (by omega) dX1_pointsAfter_98 (by decide) (fun c98 => ?_) (fun c98 => ?_)
            · refine j_iconst (v := nI (0)) dX1_pointsAfter_105 (by decide) ?_
              refine j_istore [(6, .int (nI (0))), (5, .int (nI (z))), (4, .int (nI (tCol R C e))), (0, .ref (q 1)), (1, .int (nI (s))), (2, .int (nI (e))), (3, .int (bI (t)))] dX1_pointsAfter_106 (by decide) rfl ?_
              refine j_iload dX1_pointsAfter_108 0 rfl ?_
              refine jn_if_eq (tgt := 118) (a := 0) (by omega) dX1_pointsAfter_110 (by decide) (fun c110 => ?_) (fun c110 => ?_)
              · refine j_iconst (v := (-1)) dX1_pointsAfter_118 (by decide) ?_
                exact j_iret (tys' := []) rfl hR dX1_pointsAfter_119 (⟨by rw [show pointsF R C s e t = none from by first | (simp [pointsF, c14, c26, eq_true c51, eq_true c70, hz, c98, eq_true c110]; done) | (exfalso; simp_all)]; rfl, rfl⟩)
              · exact absurd c110 (by first | decide | omega)
            · refine j_iconst (v := nI (1)) dX1_pointsAfter_101 (by decide) ?_
              refine j_goto (tgt := 106) dX1_pointsAfter_102 (by decide) ?_
              refine j_istore [(6, .int (nI (1))), (5, .int (nI (z))), (4, .int (nI (tCol R C e))), (0, .ref (q 1)), (1, .int (nI (s))), (2, .int (nI (e))), (3, .int (bI (t)))] dX1_pointsAfter_106 (by decide) rfl ?_
              refine j_iload dX1_pointsAfter_108 0 rfl ?_
              refine jn_if_eq (tgt := 118) (a := 1) (by omega) dX1_pointsAfter_110 (by decide) (fun c110 => ?_) (fun c110 => ?_)
              · exact absurd c110 (by first | decide | omega)
              · refine j_iload dX1_pointsAfter_113 1 rfl ?_
                refine j_goto (tgt := 119) dX1_pointsAfter_115 (by decide) ?_
                exact j_iret (tys' := []) rfl hR dX1_pointsAfter_119 (⟨by rw [show pointsF R C s e t = some z from by first | (simp [pointsF, c14, c26, eq_true c51, eq_true c70, hz, eq_true c98, c110]; done) | (exfalso; simp_all)]; rfl, rfl⟩)
  · have hrl := hG.rowT he c14
    refine j_iload_n dX1_pointsAfter_17 rfl 2 rfl ?_
    refine j_iload dX1_pointsAfter_18 0 rfl ?_
    refine j_iload_n dX1_pointsAfter_20 rfl 4 rfl ?_
    refine j_s0 (av := [.int (nI (s)), .int (nI (tCol R C e)), .int (bI (t))]) (r0 := .int (oI (downF s (tCol R C e) t))) (c_down l hfl D (tys3 cI cJ cZ) (s) (tCol R C e) (t) (hs) (by omega)) mw1_130 mw1_131 mw1_2 mw1_132 hd_X1_downAfter rfl ⟨rfl, rfl⟩ ⟨Nat.le_of_ble_eq_true rfl, Nat.le_of_ble_eq_true rfl⟩ ⟨Nat.zero_le _, Nat.zero_le _⟩ (Nat.le_of_ble_eq_true rfl) rfl dX1_pointsAfter_21 ?_
    exact j_iret (tys' := []) rfl hR dX1_pointsAfter_24 (⟨by rw [show pointsF R C s e t = downF s (tCol R C e) t from by first | (simp [pointsF, c14]; done) | (exfalso; simp_all)], rfl⟩)

