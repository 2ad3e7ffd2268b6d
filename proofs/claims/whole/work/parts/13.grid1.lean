/-! the class's pure words: the tables of the grid, states, and one edge further -/
def nE (R C : Nat) : Nat := (R + 1) * C + R * (C + 1)
def tRow (R C e : Nat) : Nat := if e < R * (2 * C + 1) then e / (2 * C + 1) else R
def tCol (R C e : Nat) : Nat := if e < R * (2 * C + 1) then e % (2 * C + 1) / 2 else e - R * (2 * C + 1)
def tDown (R C e : Nat) : Bool := decide (e < R * (2 * C + 1)) && (e % (2 * C + 1) == 2 * C || e % (2 * C + 1) % 2 == 1)
def pe (e a : Nat) : Bool := !(e == a) && !(e == 7)
def oI (x : Option Nat) : Int32 := match x with | none => -1 | some s => nI s
def downF (s a : Nat) (t : Bool) : Option Nat := if pe (sl s a) a = t then some (if t then s else pt s a a) else none
def joinedF (s a : Nat) : Option Nat :=
  if sl s a = 7 then none else if sl s 7 = 1 then none else
  if sl s a = a + 1 then
    (if pe (sl (pt (pt s a 7) (a + 1) 7) 0) 0 then none else if pe (sl (pt (pt s a 7) (a + 1) 7) 1) 1 then none else if pe (sl (pt (pt s a 7) (a + 1) 7) 2) 2 then none else if pe (sl (pt (pt s a 7) (a + 1) 7) 3) 3 then none else some (pt (pt (pt s a 7) (a + 1) 7) 7 1))
  else some (pt (pt (pt (pt s a 7) (a + 1) 7) (sl s a) (sl s (a + 1))) (sl s (a + 1)) (sl s a))
def endedF (x : Option Nat) (a : Nat) : Option Nat := match x with | none => none | some s => if pe (sl s a) a then none else some (pt s a a)
theorem bI_inj {x y : Bool} (h : bI x = bI y) : x = y := by cases x <;> cases y <;> first | rfl | exact absurd h (by decide)
theorem nI_m1 {s : Nat} (h : s < 2 ^ 31) : ¬ nI s = -1 := fun e => by
  have := congrArg Int32.toInt e
  rw [nI_toInt h] at this
  exact absurd this (by show ¬ ((s : Int) = (-1 : Int32).toInt); rw [show (-1 : Int32).toInt = -1 by decide]; omega)
theorem oI_m1 {x : Option Nat} (h : ∀ s, x = some s → s < 2 ^ 31) : oI x = -1 ↔ x = none := by
  cases x with
  | none => exact ⟨fun _ => rfl, fun _ => rfl⟩
  | some s => exact ⟨fun e => absurd e (nI_m1 (h s rfl)), fun e => nomatch e⟩
theorem slN {s i : Nat} : sl s i < 2 ^ 31 := Nat.lt_trans (sl_lt s i) (by decide)
theorem pt31 {s i v : Nat} (h : s < 8 ^ 8) (hi : i < 8) (hv : v < 8) : pt s i v < 2 ^ 31 := Nat.lt_of_lt_of_le (pt_lt h hi hv) (by decide)

set_option maxHeartbeats 4000000 in
set_option maxRecDepth 100000 in
theorem c_slot (l : Launch) (hfl : l.flags = flags0) (D : va_G) (tys : List (ClassId × FieldType)) (s i : Nat) (hs : s < 2 ^ 31) (hi : i < 8) : Ct l yX1_slot cX1_slot 2 (Option.some FieldType.int) ({ frames := 0, cells := 0, slots := 0, locals := 0 } : Room) D tys tys ([]) [.int (nI (s)), .int (nI (i))] (fun r u => r = some (.int (nI (sl s i))) ∧ u = []) 0 0 := by
  refine Ct.of hfl (by decide) (Nat.le_of_ble_eq_true rfl) ?_
  intro k hR _
  show V k l D tys ({ frames := 0, cells := 0, slots := 0, locals := 0 } : Room) cX1_slot 2 RX1 ([]) 0 0 0 [(0, .int (nI (s))), (1, .int (nI (i)))] []
  refine j_iload_n dX1_slot_0 rfl 0 rfl ?_
  refine j_iconst (v := nI (3)) dX1_slot_1 (by decide) ?_
  refine j_iload_n dX1_slot_2 rfl 1 rfl ?_
  refine jn_imul (v := 3 * i) dX1_slot_3 rfl ?_
  refine j_ishr dX1_slot_4 rfl ?_
  refine j_bipush (v := nI (7)) dX1_slot_5 (by decide) ?_
  refine j_iand dX1_slot_7 rfl ?_
  refine j_topi (y := nI (sl s i)) (sl_run hs hi) ?_
  exact j_iret (tys' := tys) rfl hR dX1_slot_8 (⟨rfl, rfl⟩)

set_option maxHeartbeats 4000000 in
set_option maxRecDepth 100000 in
theorem c_put (l : Launch) (hfl : l.flags = flags0) (D : va_G) (tys : List (ClassId × FieldType)) (s i v : Nat) (hs : s < 2 ^ 31) (hi : i < 8) (hv : v < 8) : Ct l yX1_put cX1_put 3 (Option.some FieldType.int) ({ frames := 0, cells := 0, slots := 0, locals := 0 } : Room) D tys tys ([]) [.int (nI (s)), .int (nI (i)), .int (nI (v))] (fun r u => r = some (.int (nI (pt s i v))) ∧ u = []) 0 0 := by
  refine Ct.of hfl (by decide) (Nat.le_of_ble_eq_true rfl) ?_
  intro k hR _
  show V k l D tys ({ frames := 0, cells := 0, slots := 0, locals := 0 } : Room) cX1_put 3 RX1 ([]) 0 0 0 [(0, .int (nI (s))), (1, .int (nI (i))), (2, .int (nI (v)))] []
  refine j_iload_n dX1_put_0 rfl 0 rfl ?_
  refine j_bipush (v := nI (7)) dX1_put_1 (by decide) ?_
  refine j_iconst (v := nI (3)) dX1_put_3 (by decide) ?_
  refine j_iload_n dX1_put_4 rfl 1 rfl ?_
  refine jn_imul (v := 3 * i) dX1_put_5 rfl ?_
  refine j_ishl dX1_put_6 rfl ?_
  refine j_iconst (v := (-1)) dX1_put_7 (by decide) ?_
  refine j_ixor dX1_put_8 rfl ?_
  refine j_iand dX1_put_9 rfl ?_
  refine j_iload_n dX1_put_10 rfl 2 rfl ?_
  refine j_iconst (v := nI (3)) dX1_put_11 (by decide) ?_
  refine j_iload_n dX1_put_12 rfl 1 rfl ?_
  refine jn_imul (v := 3 * i) dX1_put_13 rfl ?_
  refine j_ishl dX1_put_14 rfl ?_
  refine j_ior dX1_put_15 rfl ?_
  refine j_topi (y := nI (pt s i v)) (pt_run hs hi hv) ?_
  exact j_iret (tys' := tys) rfl hR dX1_put_16 (⟨rfl, rfl⟩)

set_option maxHeartbeats 4000000 in
set_option maxRecDepth 100000 in
theorem c_isPathEnd (l : Launch) (hfl : l.flags = flags0) (D : va_G) (tys : List (ClassId × FieldType)) (e a : Nat) (he : e < 2 ^ 31) (ha : a < 2 ^ 31) : Ct l yX1_isPathEnd cX1_isPathEnd 2 (Option.some FieldType.boolean) ({ frames := 0, cells := 0, slots := 0, locals := 0 } : Room) D tys tys ([]) [.int (nI (e)), .int (nI (a))] (fun r u => r = some (.int (bI ((pe e a)))) ∧ u = []) 0 0 := by
  refine Ct.of hfl (by decide) (Nat.le_of_ble_eq_true rfl) ?_
  intro k hR _
  show V k l D tys ({ frames := 0, cells := 0, slots := 0, locals := 0 } : Room) cX1_isPathEnd 2 RX1 ([]) 0 0 0 [(0, .int (nI (e))), (1, .int (nI (a)))] []
  refine j_iload_n dX1_isPathEnd_0 rfl 0 rfl ?_
  refine j_iload_n dX1_isPathEnd_1 rfl 1 rfl ?_
  refine jn_icmp_eq (tgt := 15) (a := e) (b := a) (by omega) (by omega) dX1_isPathEnd_2 (by decide) (fun c2 => ?_) (fun c2 => ?_)
  · refine j_iconst (v := nI (0)) dX1_isPathEnd_15 (by decide) ?_
    refine j_st (st' := [.int (bI (false))]) (by rfl) ?_
    exact j_zretB (tys' := tys) rfl hR dX1_isPathEnd_16 (⟨by have : pe e a = false := (by simp [pe, *]); rw [this], rfl⟩)
  · refine j_iload_n dX1_isPathEnd_5 rfl 0 rfl ?_
    refine j_bipush (v := nI (7)) dX1_isPathEnd_6 (by decide) ?_
    refine jn_icmp_eq (tgt := 15) (a := e) (b := 7) (by omega) (by omega) dX1_isPathEnd_8 (by decide) (fun c8 => ?_) (fun c8 => ?_)
    · refine j_iconst (v := nI (0)) dX1_isPathEnd_15 (by decide) ?_
      refine j_st (st' := [.int (bI (false))]) (by rfl) ?_
      exact j_zretB (tys' := tys) rfl hR dX1_isPathEnd_16 (⟨by have : pe e a = false := (by simp [pe, *]); rw [this], rfl⟩)
    · refine j_iconst (v := nI (1)) dX1_isPathEnd_11 (by decide) ?_
      refine j_goto (tgt := 16) dX1_isPathEnd_12 (by decide) ?_
      refine j_st (st' := [.int (bI (true))]) (by rfl) ?_
      exact j_zretB (tys' := tys) rfl hR dX1_isPathEnd_16 (⟨by have : pe e a = true := (by simp [pe, *]); rw [this], rfl⟩)

set_option maxHeartbeats 4000000 in
set_option maxRecDepth 100000 in
theorem c_hasBit (l : Launch) (hfl : l.flags = flags0) (D : va_G) (tys : List (ClassId × FieldType)) (s e : Nat) (hs : s < 2 ^ 31) (he : e < 32) : Ct l yX2_hasBit cX2_hasBit 2 (Option.some FieldType.boolean) ({ frames := 0, cells := 0, slots := 0, locals := 0 } : Room) D tys tys ([]) [.int (nI (s)), .int (nI (e))] (fun r u => r = some (.int (bI ((s.testBit e)))) ∧ u = []) 0 0 := by
  refine Ct.of hfl (by decide) (Nat.le_of_ble_eq_true rfl) ?_
  intro k hR _
  show V k l D tys ({ frames := 0, cells := 0, slots := 0, locals := 0 } : Room) cX2_hasBit 2 RX2 ([]) 0 0 0 [(0, .int (nI (s))), (1, .int (nI (e)))] []
  refine j_iload_n dX2_hasBit_0 rfl 0 rfl ?_
  refine j_iload_n dX2_hasBit_1 rfl 1 rfl ?_
  refine j_ishr dX2_hasBit_2 rfl ?_
  refine j_iconst (v := nI (1)) dX2_hasBit_3 (by decide) ?_
  refine j_iand dX2_hasBit_4 rfl ?_
  refine j_topi (y := nI (if s.testBit e then 1 else 0)) (nb_bit hs he) ?_
  refine j_iconst (v := nI (1)) dX2_hasBit_5 (by decide) ?_
  refine jn_icmp_ne (tgt := 13) (a := if s.testBit e then 1 else 0) (b := 1) (by split <;> omega) (by omega) dX2_hasBit_6 (by decide) (fun c6 => ?_) (fun c6 => ?_)
  · refine j_iconst (v := nI (0)) dX2_hasBit_13 (by decide) ?_
    refine j_st (st' := [.int (bI (false))]) (by rfl) ?_
    exact j_zretB (tys' := tys) rfl hR dX2_hasBit_14 (⟨by have : s.testBit e = false := (by revert c6; cases s.testBit e <;> simp); rw [this], rfl⟩)
  · refine j_iconst (v := nI (1)) dX2_hasBit_9 (by decide) ?_
    refine j_goto (tgt := 14) dX2_hasBit_10 (by decide) ?_
    refine j_st (st' := [.int (bI (true))]) (by rfl) ?_
    exact j_zretB (tys' := tys) rfl hR dX2_hasBit_14 (⟨by have : s.testBit e = true := (by revert c6; cases s.testBit e <;> simp); rw [this], rfl⟩)

