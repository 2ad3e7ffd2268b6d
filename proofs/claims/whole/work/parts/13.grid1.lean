theorem upd_nI (f : Nat → Nat) (i x : Nat) : upd (fun j => nI (f j)) i (nI x) = fun j => nI (va_up f i x j) := by funext j; simp only [upd, va_up]; split <;> rfl
theorem upd_bI (f : Nat → Bool) (i : Nat) (x : Bool) : upd (fun j => bI (f j)) i (vp_nar .boolean (bI x)) = fun j => bI (va_up f i x j) := by
  funext j; simp only [upd, va_up]; split <;> first | rfl | (cases x <;> rfl)
theorem upd_eI (f : Nat → Nat) (i x : Nat) : upd (fun j => eI (f j)) i (eI x) = fun j => eI (va_up f i x j) := by funext j; simp only [upd, va_up]; split <;> rfl
def oI (x : Option Nat) : Int32 := match x with | none => -1 | some s => nI s
theorem upd_oI (f : Nat → Option Nat) (i : Nat) (x : Option Nat) : upd (fun j => oI (f j)) i (oI x) = fun j => oI (va_up f i x j) := by funext j; simp only [upd, va_up]; split <;> rfl
section JS
variable {k : VK} {l : Launch} {D : va_G} {tys : List (ClassId × FieldType)} {R : Room} {cc : ByteArray} {nL : Nat} {own : String} {w : va_W} {cells slots pc : Nat} {lv : List (Nat × Value)} {rest : List Value}
theorem jn_iastN {a n : Nat} {cA : ClassId} {f : Nat → Nat} {i : Nat} {x : Nat} (w' : va_W) (q0 t0 : Nat) (ha : w[q0]? = some (a, .inl (cA, n, .inl (fun j => nI (f j))))) (ht : tys[t0]? = some (cA, .int)) (hi : i < n) (hn : n < 2 ^ 31) (hw : w.set q0 (a, .inl (cA, n, .inl (fun j => nI (va_up f i x j)))) = w') (hdg : decode cc pc = .ok (.iastore, 1)) (kk : V k l D tys R cc nL own w' cells slots (pc + 1) lv (rest)) : V k l D tys R cc nL own w cells slots (pc) lv (.int (nI x) :: .int (nI i) :: .ref a :: rest) :=
  jn_iast w' q0 t0 ha ht hi hn (by rw [upd_nI]; exact hw) hdg kk
theorem jn_iastE {a n : Nat} {cA : ClassId} {f : Nat → Nat} {i : Nat} {x : Nat} (w' : va_W) (q0 t0 : Nat) (ha : w[q0]? = some (a, .inl (cA, n, .inl (fun j => eI (f j))))) (ht : tys[t0]? = some (cA, .int)) (hi : i < n) (hn : n < 2 ^ 31) (hw : w.set q0 (a, .inl (cA, n, .inl (fun j => eI (va_up f i x j)))) = w') (hdg : decode cc pc = .ok (.iastore, 1)) (kk : V k l D tys R cc nL own w' cells slots (pc + 1) lv (rest)) : V k l D tys R cc nL own w cells slots (pc) lv (.int (eI x) :: .int (nI i) :: .ref a :: rest) :=
  jn_iast w' q0 t0 ha ht hi hn (by rw [upd_eI]; exact hw) hdg kk
theorem jn_iastO {a n : Nat} {cA : ClassId} {f : Nat → Option Nat} {i : Nat} {x : Option Nat} (w' : va_W) (q0 t0 : Nat) (ha : w[q0]? = some (a, .inl (cA, n, .inl (fun j => oI (f j))))) (ht : tys[t0]? = some (cA, .int)) (hi : i < n) (hn : n < 2 ^ 31) (hw : w.set q0 (a, .inl (cA, n, .inl (fun j => oI (va_up f i x j)))) = w') (hdg : decode cc pc = .ok (.iastore, 1)) (kk : V k l D tys R cc nL own w' cells slots (pc + 1) lv (rest)) : V k l D tys R cc nL own w cells slots (pc) lv (.int (oI x) :: .int (nI i) :: .ref a :: rest) :=
  jn_iast w' q0 t0 ha ht hi hn (by rw [upd_oI]; exact hw) hdg kk
theorem jn_zastB {a n : Nat} {cA : ClassId} {f : Nat → Bool} {i : Nat} {x : Bool} (w' : va_W) (q0 t0 : Nat) (ha : w[q0]? = some (a, .inl (cA, n, .inl (fun j => bI (f j))))) (ht : tys[t0]? = some (cA, .boolean)) (hi : i < n) (hn : n < 2 ^ 31) (hw : w.set q0 (a, .inl (cA, n, .inl (fun j => bI (va_up f i x j)))) = w') (hdg : decode cc pc = .ok (.bastore, 1)) (kk : V k l D tys R cc nL own w' cells slots (pc + 1) lv (rest)) : V k l D tys R cc nL own w cells slots (pc) lv (.int (bI x) :: .int (nI i) :: .ref a :: rest) :=
  jn_zast w' q0 t0 ha ht hi hn (by rw [upd_bI]; exact hw) hdg kk
end JS
/-! the class's pure words: the tables of the grid, states, and one edge further -/
def nE (R C : Nat) : Nat := (R + 1) * C + R * (C + 1)
def tRow (R C e : Nat) : Nat := if e < R * (2 * C + 1) then e / (2 * C + 1) else R
def tCol (R C e : Nat) : Nat := if e < R * (2 * C + 1) then e % (2 * C + 1) / 2 else e - R * (2 * C + 1)
def tDown (R C e : Nat) : Bool := decide (e < R * (2 * C + 1)) && (e % (2 * C + 1) == 2 * C || e % (2 * C + 1) % 2 == 1)
def pe (e a : Nat) : Bool := !(e == a) && !(e == 7)
def downF (s a : Nat) (t : Bool) : Option Nat := if pe (sl s a) a = t then some (if t then s else pt s a a) else none
def joinedF (s a : Nat) : Option Nat :=
  if sl s a = 7 then none else if sl s 7 = 1 then none else
  if sl s a = a + 1 then
    (if pe (sl (pt (pt s a 7) (a + 1) 7) 0) 0 then none else if pe (sl (pt (pt s a 7) (a + 1) 7) 1) 1 then none else if pe (sl (pt (pt s a 7) (a + 1) 7) 2) 2 then none else if pe (sl (pt (pt s a 7) (a + 1) 7) 3) 3 then none else some (pt (pt (pt s a 7) (a + 1) 7) 7 1))
  else some (pt (pt (pt (pt s a 7) (a + 1) 7) (sl s a) (sl s (a + 1))) (sl s (a + 1)) (sl s a))
def endedF (x : Option Nat) (a : Nat) : Option Nat := match x with | none => none | some s => if pe (sl s a) a then none else some (pt s a a)
theorem bI_inj {x y : Bool} (h : bI x = bI y) : x = y := by cases x <;> cases y <;> first | rfl | exact absurd h (by decide)
theorem nI_m1 {s : Nat} (h : s < 2 ^ 31) : ¬ nI s = -1 := fun e => by
  have := congrArg Int32.toInt e
  rw [nI_toInt h] at this
  exact absurd this (by show ¬ ((s : Int) = (-1 : Int32).toInt); rw [show (-1 : Int32).toInt = -1 by decide]; omega)
theorem oI_m1 {x : Option Nat} (h : ∀ s, x = some s → s < 2 ^ 31) : oI x = -1 ↔ x = none := by
  cases x with
  | none => exact ⟨fun _ => rfl, fun _ => rfl⟩
  | some s => exact ⟨fun e => absurd e (nI_m1 (h s rfl)), fun e => nomatch e⟩
theorem slN {s i : Nat} : sl s i < 2 ^ 31 := Nat.lt_trans (sl_lt s i) (by decide)
theorem pt31 {s i v : Nat} (h : s < 8 ^ 8) (hi : i < 8) (hv : v < 8) : pt s i v < 2 ^ 31 := Nat.lt_of_lt_of_le (pt_lt h hi hv) (by decide)

set_option maxHeartbeats 4000000 in
set_option maxRecDepth 100000 in
theorem c_slot (l : Launch) (hfl : l.flags = flags0) (D : va_G) (tys : List (ClassId × FieldType)) (s i : Nat) (hs : s < 2 ^ 31) (hi : i < 8) : Ct l yX1_slot cX1_slot 2 (Option.some FieldType.int) ({ frames := 0, cells := 0, slots := 0, locals := 0 } : Room) D tys tys ([]) [.int (nI (s)), .int (nI (i))] (fun r u => r = some (.int (nI (sl s i))) ∧ u = []) 0 0 := by
  refine Ct.of hfl (by decide) (Nat.le_of_ble_eq_true rfl) ?_
  intro k hR _
  show V k l D tys ({ frames := 0, cells := 0, slots := 0, locals := 0 } : Room) cX1_slot 2 RX1 ([]) 0 0 0 [(0, .int (nI (s))), (1, .int (nI (i)))] []
  refine j_iload_n dX1_slot_0 rfl 0 rfl ?_
  refine j_iconst (v := nI (3)) dX1_slot_1 (by decide) ?_
  refine j_iload_n dX1_slot_2 rfl 1 rfl ?_
  refine jn_imul (v := 3 * i) dX1_slot_3 rfl ?_
  refine j_ishr dX1_slot_4 rfl ?_
  refine j_bipush (v := nI (7)) dX1_slot_5 (by decide) ?_
  refine j_iand dX1_slot_7 rfl ?_
  refine j_topi (y := nI (sl s i)) (sl_run hs hi) ?_
  exact j_iret (tys' := []) rfl hR dX1_slot_8 (⟨rfl, rfl⟩)

set_option maxHeartbeats 4000000 in
set_option maxRecDepth 100000 in
theorem c_put (l : Launch) (hfl : l.flags = flags0) (D : va_G) (tys : List (ClassId × FieldType)) (s i v : Nat) (hs : s < 2 ^ 31) (hi : i < 8) (hv : v < 8) : Ct l yX1_put cX1_put 3 (Option.some FieldType.int) ({ frames := 0, cells := 0, slots := 0, locals := 0 } : Room) D tys tys ([]) [.int (nI (s)), .int (nI (i)), .int (nI (v))] (fun r u => r = some (.int (nI (pt s i v))) ∧ u = []) 0 0 := by
  refine Ct.of hfl (by decide) (Nat.le_of_ble_eq_true rfl) ?_
  intro k hR _
  show V k l D tys ({ frames := 0, cells := 0, slots := 0, locals := 0 } : Room) cX1_put 3 RX1 ([]) 0 0 0 [(0, .int (nI (s))), (1, .int (nI (i))), (2, .int (nI (v)))] []
  refine j_iload_n dX1_put_0 rfl 0 rfl ?_
  refine j_bipush (v := nI (7)) dX1_put_1 (by decide) ?_
  refine j_iconst (v := nI (3)) dX1_put_3 (by decide) ?_
  refine j_iload_n dX1_put_4 rfl 1 rfl ?_
  refine jn_imul (v := 3 * i) dX1_put_5 rfl ?_
  refine j_ishl dX1_put_6 rfl ?_
  refine j_iconst (v := (-1)) dX1_put_7 (by decide) ?_
  refine j_ixor dX1_put_8 rfl ?_
  refine j_iand dX1_put_9 rfl ?_
  refine j_iload_n dX1_put_10 rfl 2 rfl ?_
  refine j_iconst (v := nI (3)) dX1_put_11 (by decide) ?_
  refine j_iload_n dX1_put_12 rfl 1 rfl ?_
  refine jn_imul (v := 3 * i) dX1_put_13 rfl ?_
  refine j_ishl dX1_put_14 rfl ?_
  refine j_ior dX1_put_15 rfl ?_
  refine j_topi (y := nI (pt s i v)) (pt_run hs hi hv) ?_
  exact j_iret (tys' := []) rfl hR dX1_put_16 (⟨rfl, rfl⟩)

set_option maxHeartbeats 4000000 in
set_option maxRecDepth 100000 in
theorem c_isPathEnd (l : Launch) (hfl : l.flags = flags0) (D : va_G) (tys : List (ClassId × FieldType)) (e a : Nat) (he : e < 2 ^ 31) (ha : a < 2 ^ 31) : Ct l yX1_isPathEnd cX1_isPathEnd 2 (Option.some FieldType.boolean) ({ frames := 0, cells := 0, slots := 0, locals := 0 } : Room) D tys tys ([]) [.int (nI (e)), .int (nI (a))] (fun r u => r = some (.int (bI ((pe e a)))) ∧ u = []) 0 0 := by
  refine Ct.of hfl (by decide) (Nat.le_of_ble_eq_true rfl) ?_
  intro k hR _
  show V k l D tys ({ frames := 0, cells := 0, slots := 0, locals := 0 } : Room) cX1_isPathEnd 2 RX1 ([]) 0 0 0 [(0, .int (nI (e))), (1, .int (nI (a)))] []
  refine j_iload_n dX1_isPathEnd_0 rfl 0 rfl ?_
  refine j_iload_n dX1_isPathEnd_1 rfl 1 rfl ?_
  refine jn_icmp_eq (tgt := 15) (a := e) (b := a) (by omega) (by omega) dX1_isPathEnd_2 (by decide) (fun c2 => ?_) (fun c2 => ?_)
  · refine j_iconst (v := nI (0)) dX1_isPathEnd_15 (by decide) ?_
    refine j_st (st' := [.int (bI (false))]) (by rfl) ?_
    exact j_zretB (tys' := []) rfl hR dX1_isPathEnd_16 (⟨by have : pe e a = false := (by simp [pe, *]); rw [this], rfl⟩)
  · refine j_iload_n dX1_isPathEnd_5 rfl 0 rfl ?_
    refine j_bipush (v := nI (7)) dX1_isPathEnd_6 (by decide) ?_
    refine jn_icmp_eq (tgt := 15) (a := e) (b := 7) (by omega) (by omega) dX1_isPathEnd_8 (by decide) (fun c8 => ?_) (fun c8 => ?_)
    · refine j_iconst (v := nI (0)) dX1_isPathEnd_15 (by decide) ?_
      refine j_st (st' := [.int (bI (false))]) (by rfl) ?_
      exact j_zretB (tys' := []) rfl hR dX1_isPathEnd_16 (⟨by have : pe e a = false := (by simp [pe, *]); rw [this], rfl⟩)
    · refine j_iconst (v := nI (1)) dX1_isPathEnd_11 (by decide) ?_
      refine j_goto (tgt := 16) dX1_isPathEnd_12 (by decide) ?_
      refine j_st (st' := [.int (bI (true))]) (by rfl) ?_
      exact j_zretB (tys' := []) rfl hR dX1_isPathEnd_16 (⟨by have : pe e a = true := (by simp [pe, *]); rw [this], rfl⟩)

set_option maxHeartbeats 4000000 in
set_option maxRecDepth 100000 in
theorem c_hasBit (l : Launch) (hfl : l.flags = flags0) (D : va_G) (tys : List (ClassId × FieldType)) (s e : Nat) (hs : s < 2 ^ 31) (he : e < 32) : Ct l yX2_hasBit cX2_hasBit 2 (Option.some FieldType.boolean) ({ frames := 0, cells := 0, slots := 0, locals := 0 } : Room) D tys tys ([]) [.int (nI (s)), .int (nI (e))] (fun r u => r = some (.int (bI ((s.testBit e)))) ∧ u = []) 0 0 := by
  refine Ct.of hfl (by decide) (Nat.le_of_ble_eq_true rfl) ?_
  intro k hR _
  show V k l D tys ({ frames := 0, cells := 0, slots := 0, locals := 0 } : Room) cX2_hasBit 2 RX2 ([]) 0 0 0 [(0, .int (nI (s))), (1, .int (nI (e)))] []
  refine j_iload_n dX2_hasBit_0 rfl 0 rfl ?_
  refine j_iload_n dX2_hasBit_1 rfl 1 rfl ?_
  refine j_ishr dX2_hasBit_2 rfl ?_
  refine j_iconst (v := nI (1)) dX2_hasBit_3 (by decide) ?_
  refine j_iand dX2_hasBit_4 rfl ?_
  refine j_topi (y := nI (if s.testBit e then 1 else 0)) (nb_bit hs he) ?_
  refine j_iconst (v := nI (1)) dX2_hasBit_5 (by decide) ?_
  refine jn_icmp_ne (tgt := 13) (a := if s.testBit e then 1 else 0) (b := 1) (by split <;> omega) (by omega) dX2_hasBit_6 (by decide) (fun c6 => ?_) (fun c6 => ?_)
  · refine j_iconst (v := nI (0)) dX2_hasBit_13 (by decide) ?_
    refine j_st (st' := [.int (bI (false))]) (by rfl) ?_
    exact j_zretB (tys' := []) rfl hR dX2_hasBit_14 (⟨by have : s.testBit e = false := (by revert c6; cases s.testBit e <;> simp); rw [this], rfl⟩)
  · refine j_iconst (v := nI (1)) dX2_hasBit_9 (by decide) ?_
    refine j_goto (tgt := 14) dX2_hasBit_10 (by decide) ?_
    refine j_st (st' := [.int (bI (true))]) (by rfl) ?_
    exact j_zretB (tys' := []) rfl hR dX2_hasBit_14 (⟨by have : s.testBit e = true := (by revert c6; cases s.testBit e <;> simp); rw [this], rfl⟩)

theorem eI_99 : eI 99 = -1 := by unfold eI; exact if_pos rfl
theorem eI_ne {x : Nat} (h : x ≠ 99) : eI x = nI x := if_neg h
theorem eI_m1 {x : Nat} (hx : x < 2 ^ 31) : eI x = -1 ↔ x = 99 := by
  by_cases h : x = 99
  · rw [h, eI_99]; exact ⟨fun _ => rfl, fun _ => rfl⟩
  · rw [eI_ne h]; exact ⟨fun e => absurd e (nI_m1 hx), fun e => absurd e h⟩
theorem bI_ne {x y : Bool} (h : ¬ bI x = bI y) : x ≠ y := fun e => h (by rw [e])
theorem bI_x {x : Bool} : narrow .boolean (.int (bI x)) = .int (bI x) := nar_bI x
set_option maxHeartbeats 4000000 in
set_option maxRecDepth 100000 in
theorem c_down (l : Launch) (hfl : l.flags = flags0) (D : va_G) (tys : List (ClassId × FieldType)) (s a : Nat) (t : Bool) (hs : s < 8 ^ 8) (ha : a < 4) : Ct l yX1_downAfter cX1_downAfter 3 (Option.some FieldType.int) ({ frames := 1, cells := 0, slots := 0, locals := 22 } : Room) D tys tys ([]) [.int (nI (s)), .int (nI (a)), .int (bI (t))] (fun r u => r = some (.int (oI (downF s a t))) ∧ u = []) 0 0 := by
  refine Ct.of hfl (by decide) (Nat.le_of_ble_eq_true rfl) ?_
  intro k hR _
  show V k l D tys ({ frames := 1, cells := 0, slots := 0, locals := 22 } : Room) cX1_downAfter 3 RX1 ([]) 0 0 0 [(0, .int (nI (s))), (1, .int (nI (a))), (2, .int (bI (t)))] []
  refine j_iload_n dX1_downAfter_0 rfl 0 rfl ?_
  refine j_iload_n dX1_downAfter_1 rfl 1 rfl ?_
  refine j_s0 (av := [.int (nI (s)), .int (nI (a))]) (r0 := .int (nI (sl s a))) (c_slot l hfl D tys (s) (a) (by repeat first | assumption | omega | exact sl_lt _ _ | exact slN | apply pt31 | apply pt_lt) (by repeat first | assumption | omega | exact sl_lt _ _ | exact slN | apply pt31 | apply pt_lt)) mw1_133 mw1_134 mw1_2 mw1_135 hd_X1_slot rfl ⟨rfl, rfl⟩ ⟨Nat.le_of_ble_eq_true rfl, Nat.le_of_ble_eq_true rfl⟩ ⟨Nat.zero_le _, Nat.zero_le _⟩ (Nat.le_of_ble_eq_true rfl) rfl dX1_downAfter_2 ?_
  refine j_iload_n dX1_downAfter_5 rfl 1 rfl ?_
  refine j_s0 (av := [.int (nI (sl s a)), .int (nI (a))]) (r0 := .int (bI ((pe (sl s a) a)))) (c_isPathEnd l hfl D tys (sl s a) (a) (by repeat first | assumption | omega | exact sl_lt _ _ | exact slN | apply pt31 | apply pt_lt) (by repeat first | assumption | omega | exact sl_lt _ _ | exact slN | apply pt31 | apply pt_lt)) mw1_136 mw1_137 mw1_2 mw1_138 hd_X1_isPathEnd rfl ⟨rfl, rfl⟩ ⟨Nat.le_of_ble_eq_true rfl, Nat.le_of_ble_eq_true rfl⟩ ⟨Nat.zero_le _, Nat.zero_le _⟩ (Nat.le_of_ble_eq_true rfl) rfl dX1_downAfter_6 ?_
  refine j_iload_n dX1_downAfter_9 rfl 2 rfl ?_
  refine j_icmp_eq (tgt := 15) dX1_downAfter_10 (by decide) (fun c10 => ?_) (fun c10 => ?_)
  · have e10 := bI_inj c10
    refine j_iload_n dX1_downAfter_15 rfl 2 rfl ?_
    refine jb_if_eq (tgt := 23) (b := t) dX1_downAfter_16 (by decide) (fun c16 => ?_) (fun c16 => ?_)
    · refine j_iload_n dX1_downAfter_23 rfl 0 rfl ?_
      refine j_iload_n dX1_downAfter_24 rfl 1 rfl ?_
      refine j_iload_n dX1_downAfter_25 rfl 1 rfl ?_
      refine j_s0 (av := [.int (nI (s)), .int (nI (a)), .int (nI (a))]) (r0 := .int (nI (pt s a a))) (c_put l hfl D tys (s) (a) (a) (by repeat first | assumption | omega | exact sl_lt _ _ | exact slN | apply pt31 | apply pt_lt) (by repeat first | assumption | omega | exact sl_lt _ _ | exact slN | apply pt31 | apply pt_lt) (by repeat first | assumption | omega | exact sl_lt _ _ | exact slN | apply pt31 | apply pt_lt)) mw1_139 mw1_140 mw1_2 mw1_141 hd_X1_put rfl ⟨rfl, rfl⟩ ⟨Nat.le_of_ble_eq_true rfl, Nat.le_of_ble_eq_true rfl⟩ ⟨Nat.zero_le _, Nat.zero_le _⟩ (Nat.le_of_ble_eq_true rfl) rfl dX1_downAfter_26 ?_
      exact j_iret (tys' := []) rfl hR dX1_downAfter_29 (⟨by rw [show downF s a t = (some (pt s a a)) from by simp [downF, *]]; rfl, rfl⟩)
    · refine j_iload_n dX1_downAfter_19 rfl 0 rfl ?_
      refine j_goto (tgt := 29) dX1_downAfter_20 (by decide) ?_
      exact j_iret (tys' := []) rfl hR dX1_downAfter_29 (⟨by rw [show downF s a t = (some s) from by simp [downF, *]]; rfl, rfl⟩)
  · have e10 := bI_ne c10
    refine j_iconst (v := (-1)) dX1_downAfter_13 (by decide) ?_
    exact j_iret (tys' := []) rfl hR dX1_downAfter_14 (⟨by rw [show downF s a t = none from by simp [downF, *]]; rfl, rfl⟩)

set_option maxHeartbeats 4000000 in
set_option maxRecDepth 100000 in
theorem c_joined (l : Launch) (hfl : l.flags = flags0) (D : va_G) (tys : List (ClassId × FieldType)) (s a : Nat) (hs : s < 8 ^ 8) (ha : a < 3) : Ct l yX1_joined cX1_joined 7 (Option.some FieldType.int) ({ frames := 1, cells := 0, slots := 0, locals := 22 } : Room) D tys tys ([]) [.int (nI (s)), .int (nI (a))] (fun r u => r = some (.int (oI (joinedF s a))) ∧ u = []) 0 0 := by
  refine Ct.of hfl (by decide) (Nat.le_of_ble_eq_true rfl) ?_
  intro k hR _
  show V k l D tys ({ frames := 1, cells := 0, slots := 0, locals := 22 } : Room) cX1_joined 7 RX1 ([]) 0 0 0 [(0, .int (nI (s))), (1, .int (nI (a)))] []
  refine j_iload_n dX1_joined_0 rfl 1 rfl ?_
  refine j_iconst (v := nI (1)) dX1_joined_1 (by decide) ?_
  refine jn_iadd (v := a + 1) dX1_joined_2 rfl ?_
  refine j_istore_n [(2, .int (nI (a + 1))), (0, .int (nI (s))), (1, .int (nI (a)))] dX1_joined_3 rfl (by decide) rfl ?_
  refine j_iload_n dX1_joined_4 rfl 1 rfl ?_
  refine j_iload_n dX1_joined_5 rfl 2 rfl ?_
  refine j_s0 (av := [.int (nI (s)), .int (nI (a))]) (r0 := .int (nI (sl s a))) (c_slot l hfl D tys (s) (a) (by repeat first | assumption | omega | exact sl_lt _ _ | exact slN | apply pt31 | apply pt_lt) (by repeat first | assumption | omega | exact sl_lt _ _ | exact slN | apply pt31 | apply pt_lt)) mw1_133 mw1_134 mw1_2 mw1_135 hd_X1_slot rfl ⟨rfl, rfl⟩ ⟨Nat.le_of_ble_eq_true rfl, Nat.le_of_ble_eq_true rfl⟩ ⟨Nat.zero_le _, Nat.zero_le _⟩ (Nat.le_of_ble_eq_true rfl) rfl dX1_joined_6 ?_
  refine j_istore_n [(3, .int (nI (sl s a))), (2, .int (nI (a + 1))), (0, .int (nI (s))), (1, .int (nI (a)))] dX1_joined_9 rfl (by decide) rfl ?_
  refine j_iload_n dX1_joined_10 rfl 2 rfl ?_
  refine j_iload_n dX1_joined_11 rfl 1 rfl ?_
  refine j_s0 (av := [.int (nI (s)), .int (nI (a + 1))]) (r0 := .int (nI (sl s (a + 1)))) (c_slot l hfl D tys (s) (a + 1) (by repeat first | assumption | omega | exact sl_lt _ _ | exact slN | apply pt31 | apply pt_lt) (by repeat first | assumption | omega | exact sl_lt _ _ | exact slN | apply pt31 | apply pt_lt)) mw1_133 mw1_134 mw1_2 mw1_135 hd_X1_slot rfl ⟨rfl, rfl⟩ ⟨Nat.le_of_ble_eq_true rfl, Nat.le_of_ble_eq_true rfl⟩ ⟨Nat.zero_le _, Nat.zero_le _⟩ (Nat.le_of_ble_eq_true rfl) rfl dX1_joined_12 ?_
  refine j_istore [(4, .int (nI (sl s (a + 1)))), (3, .int (nI (sl s a))), (2, .int (nI (a + 1))), (0, .int (nI (s))), (1, .int (nI (a)))] dX1_joined_15 (by decide) rfl ?_
  refine j_iload_n dX1_joined_17 rfl 1 rfl ?_
  refine j_bipush (v := nI (7)) dX1_joined_18 (by decide) ?_
  refine jn_icmp_eq (tgt := 33) (a := sl s a) (b := 7) (slN) (by omega) dX1_joined_20 (by decide) (fun c20 => ?_) (fun c20 => ?_)
  · refine j_iconst (v := (-1)) dX1_joined_33 (by decide) ?_
    exact j_iret (tys' := []) rfl hR dX1_joined_34 (⟨by rw [show joinedF s a = none from by simp [joinedF, *] <;> omega]; rfl, rfl⟩)
  · refine j_iload_n dX1_joined_23 rfl 3 rfl ?_
    refine j_bipush (v := nI (7)) dX1_joined_24 (by decide) ?_
    refine j_s0 (av := [.int (nI (s)), .int (nI (7))]) (r0 := .int (nI (sl s 7))) (c_slot l hfl D tys (s) (7) (by repeat first | assumption | omega | exact sl_lt _ _ | exact slN | apply pt31 | apply pt_lt) (by repeat first | assumption | omega | exact sl_lt _ _ | exact slN | apply pt31 | apply pt_lt)) mw1_133 mw1_134 mw1_2 mw1_135 hd_X1_slot rfl ⟨rfl, rfl⟩ ⟨Nat.le_of_ble_eq_true rfl, Nat.le_of_ble_eq_true rfl⟩ ⟨Nat.zero_le _, Nat.zero_le _⟩ (Nat.le_of_ble_eq_true rfl) rfl dX1_joined_26 ?_
    refine j_iconst (v := nI (1)) dX1_joined_29 (by decide) ?_
    refine jn_icmp_ne (tgt := 35) (a := sl s 7) (b := 1) (slN) (by omega) dX1_joined_30 (by decide) (fun c30 => ?_) (fun c30 => ?_)
    · refine j_iload_n dX1_joined_35 rfl 3 rfl ?_
      refine j_iload_n dX1_joined_36 rfl 4 rfl ?_
      refine j_bipush (v := nI (7)) dX1_joined_37 (by decide) ?_
      refine j_s0 (av := [.int (nI (s)), .int (nI (a)), .int (nI (7))]) (r0 := .int (nI (pt s a 7))) (c_put l hfl D tys (s) (a) (7) (by repeat first | assumption | omega | exact sl_lt _ _ | exact slN | apply pt31 | apply pt_lt) (by repeat first | assumption | omega | exact sl_lt _ _ | exact slN | apply pt31 | apply pt_lt) (by repeat first | assumption | omega | exact sl_lt _ _ | exact slN | apply pt31 | apply pt_lt)) mw1_139 mw1_140 mw1_2 mw1_141 hd_X1_put rfl ⟨rfl, rfl⟩ ⟨Nat.le_of_ble_eq_true rfl, Nat.le_of_ble_eq_true rfl⟩ ⟨Nat.zero_le _, Nat.zero_le _⟩ (Nat.le_of_ble_eq_true rfl) rfl dX1_joined_39 ?_
      refine j_iload_n dX1_joined_42 rfl 2 rfl ?_
      refine j_bipush (v := nI (7)) dX1_joined_43 (by decide) ?_
      refine j_s0 (av := [.int (nI (pt s a 7)), .int (nI (a + 1)), .int (nI (7))]) (r0 := .int (nI (pt (pt s a 7) (a + 1) 7))) (c_put l hfl D tys (pt s a 7) (a + 1) (7) (by repeat first | assumption | omega | exact sl_lt _ _ | exact slN | apply pt31 | apply pt_lt) (by repeat first | assumption | omega | exact sl_lt _ _ | exact slN | apply pt31 | apply pt_lt) (by repeat first | assumption | omega | exact sl_lt _ _ | exact slN | apply pt31 | apply pt_lt)) mw1_139 mw1_140 mw1_2 mw1_141 hd_X1_put rfl ⟨rfl, rfl⟩ ⟨Nat.le_of_ble_eq_true rfl, Nat.le_of_ble_eq_true rfl⟩ ⟨Nat.zero_le _, Nat.zero_le _⟩ (Nat.le_of_ble_eq_true rfl) rfl dX1_joined_45 ?_
      refine j_istore [(5, .int (nI (pt (pt s a 7) (a + 1) 7))), (4, .int (nI (sl s (a + 1)))), (3, .int (nI (sl s a))), (2, .int (nI (a + 1))), (0, .int (nI (s))), (1, .int (nI (a)))] dX1_joined_48 (by decide) rfl ?_
      refine j_iload_n dX1_joined_50 rfl 2 rfl ?_
      refine j_iload_n dX1_joined_51 rfl 3 rfl ?_
      refine jn_icmp_eq (tgt := 70) (a := sl s a) (b := a + 1) (slN) (by omega) dX1_joined_52 (by decide) (fun c52 => ?_) (fun c52 => ?_)
      · refine j_iconst (v := nI (0)) dX1_joined_70 (by decide) ?_
        refine j_istore [(6, .int (nI (0))), (5, .int (nI (pt (pt s a 7) (a + 1) 7))), (4, .int (nI (sl s (a + 1)))), (3, .int (nI (sl s a))), (2, .int (nI (a + 1))), (0, .int (nI (s))), (1, .int (nI (a)))] dX1_joined_71 (by decide) rfl ?_
        refine j_iload dX1_joined_73 0 rfl ?_
        refine j_iconst (v := nI (4)) dX1_joined_75 (by decide) ?_
        refine jn_icmp_ge (tgt := 102) (a := 0) (b := 4) (by omega) (by omega) dX1_joined_76 (by decide) (fun c76 => ?_) (fun c76 => ?_)
        · exact absurd c76 (by first | decide | omega)
        · refine j_iload dX1_joined_79 1 rfl ?_
          refine j_iload dX1_joined_81 0 rfl ?_
          refine j_s0 (av := [.int (nI (pt (pt s a 7) (a + 1) 7)), .int (nI (0))]) (r0 := .int (nI (sl (pt (pt s a 7) (a + 1) 7) 0))) (c_slot l hfl D tys (pt (pt s a 7) (a + 1) 7) (0) (by repeat first | assumption | omega | exact sl_lt _ _ | exact slN | apply pt31 | apply pt_lt) (by repeat first | assumption | omega | exact sl_lt _ _ | exact slN | apply pt31 | apply pt_lt)) mw1_133 mw1_134 mw1_2 mw1_135 hd_X1_slot rfl ⟨rfl, rfl⟩ ⟨Nat.le_of_ble_eq_true rfl, Nat.le_of_ble_eq_true rfl⟩ ⟨Nat.zero_le _, Nat.zero_le _⟩ (Nat.le_of_ble_eq_true rfl) rfl dX1_joined_83 ?_
          refine j_iload dX1_joined_86 0 rfl ?_
          refine j_s0 (av := [.int (nI (sl (pt (pt s a 7) (a + 1) 7) 0)), .int (nI (0))]) (r0 := .int (bI ((pe (sl (pt (pt s a 7) (a + 1) 7) 0) 0)))) (c_isPathEnd l hfl D tys (sl (pt (pt s a 7) (a + 1) 7) 0) (0) (by repeat first | assumption | omega | exact sl_lt _ _ | exact slN | apply pt31 | apply pt_lt) (by repeat first | assumption | omega | exact sl_lt _ _ | exact slN | apply pt31 | apply pt_lt)) mw1_136 mw1_137 mw1_2 mw1_138 hd_X1_isPathEnd rfl ⟨rfl, rfl⟩ ⟨Nat.le_of_ble_eq_true rfl, Nat.le_of_ble_eq_true rfl⟩ ⟨Nat.zero_le _, Nat.zero_le _⟩ (Nat.le_of_ble_eq_true rfl) rfl dX1_joined_88 ?_
          refine jb_if_eq (tgt := 96) (b := (pe (sl (pt (pt s a 7) (a + 1) 7) 0) 0)) dX1_joined_91 (by decide) (fun c91 => ?_) (fun c91 => ?_)
          · refine j_iinc (n0 := 0) (v := nI (1)) [(6, .int (nI (1))), (5, .int (nI (pt (pt s a 7) (a + 1) 7))), (4, .int (nI (sl s (a + 1)))), (3, .int (nI (sl s a))), (2, .int (nI (a + 1))), (0, .int (nI (s))), (1, .int (nI (a)))] dX1_joined_96 rfl (by decide) (by decide) rfl ?_
            refine j_goto (tgt := 73) dX1_joined_99 (by decide) ?_
            refine j_iload dX1_joined_73 0 rfl ?_
            refine j_iconst (v := nI (4)) dX1_joined_75 (by decide) ?_
            refine jn_icmp_ge (tgt := 102) (a := 1) (b := 4) (by omega) (by omega) dX1_joined_76 (by decide) (fun c76 => ?_) (fun c76 => ?_)
            · exact absurd c76 (by first | decide | omega)
            · refine j_iload dX1_joined_79 1 rfl ?_
              refine j_iload dX1_joined_81 0 rfl ?_
              refine j_s0 (av := [.int (nI (pt (pt s a 7) (a + 1) 7)), .int (nI (1))]) (r0 := .int (nI (sl (pt (pt s a 7) (a + 1) 7) 1))) (c_slot l hfl D tys (pt (pt s a 7) (a + 1) 7) (1) (by repeat first | assumption | omega | exact sl_lt _ _ | exact slN | apply pt31 | apply pt_lt) (by repeat first | assumption | omega | exact sl_lt _ _ | exact slN | apply pt31 | apply pt_lt)) mw1_133 mw1_134 mw1_2 mw1_135 hd_X1_slot rfl ⟨rfl, rfl⟩ ⟨Nat.le_of_ble_eq_true rfl, Nat.le_of_ble_eq_true rfl⟩ ⟨Nat.zero_le _, Nat.zero_le _⟩ (Nat.le_of_ble_eq_true rfl) rfl dX1_joined_83 ?_
              refine j_iload dX1_joined_86 0 rfl ?_
              refine j_s0 (av := [.int (nI (sl (pt (pt s a 7) (a + 1) 7) 1)), .int (nI (1))]) (r0 := .int (bI ((pe (sl (pt (pt s a 7) (a + 1) 7) 1) 1)))) (c_isPathEnd l hfl D tys (sl (pt (pt s a 7) (a + 1) 7) 1) (1) (by repeat first | assumption | omega | exact sl_lt _ _ | exact slN | apply pt31 | apply pt_lt) (by repeat first | assumption | omega | exact sl_lt _ _ | exact slN | apply pt31 | apply pt_lt)) mw1_136 mw1_137 mw1_2 mw1_138 hd_X1_isPathEnd rfl ⟨rfl, rfl⟩ ⟨Nat.le_of_ble_eq_true rfl, Nat.le_of_ble_eq_true rfl⟩ ⟨Nat.zero_le _, Nat.zero_le _⟩ (Nat.le_of_ble_eq_true rfl) rfl dX1_joined_88 ?_
              refine jb_if_eq (tgt := 96) (b := (pe (sl (pt (pt s a 7) (a + 1) 7) 1) 1)) dX1_joined_91 (by decide) (fun c91 => ?_) (fun c91 => ?_)
              · refine j_iinc (n0 := 0) (v := nI (2)) [(6, .int (nI (2))), (5, .int (nI (pt (pt s a 7) (a + 1) 7))), (4, .int (nI (sl s (a + 1)))), (3, .int (nI (sl s a))), (2, .int (nI (a + 1))), (0, .int (nI (s))), (1, .int (nI (a)))] dX1_joined_96 rfl (by decide) (by decide) rfl ?_
                refine j_goto (tgt := 73) dX1_joined_99 (by decide) ?_
                refine j_iload dX1_joined_73 0 rfl ?_
                refine j_iconst (v := nI (4)) dX1_joined_75 (by decide) ?_
                refine jn_icmp_ge (tgt := 102) (a := 2) (b := 4) (by omega) (by omega) dX1_joined_76 (by decide) (fun c76 => ?_) (fun c76 => ?_)
                · exact absurd c76 (by first | decide | omega)
                · refine j_iload dX1_joined_79 1 rfl ?_
                  refine j_iload dX1_joined_81 0 rfl ?_
                  refine j_s0 (av := [.int (nI (pt (pt s a 7) (a + 1) 7)), .int (nI (2))]) (r0 := .int (nI (sl (pt (pt s a 7) (a + 1) 7) 2))) (c_slot l hfl D tys (pt (pt s a 7) (a + 1) 7) (2) (by repeat first | assumption | omega | exact sl_lt _ _ | exact slN | apply pt31 | apply pt_lt) (by repeat first | assumption | omega | exact sl_lt _ _ | exact slN | apply pt31 | apply pt_lt)) mw1_133 mw1_134 mw1_2 mw1_135 hd_X1_slot rfl ⟨rfl, rfl⟩ ⟨Nat.le_of_ble_eq_true rfl, Nat.le_of_ble_eq_true rfl⟩ ⟨Nat.zero_le _, Nat.zero_le _⟩ (Nat.le_of_ble_eq_true rfl) rfl dX1_joined_83 ?_
                  refine j_iload dX1_joined_86 0 rfl ?_
                  refine j_s0 (av := [.int (nI (sl (pt (pt s a 7) (a + 1) 7) 2)), .int (nI (2))]) (r0 := .int (bI ((pe (sl (pt (pt s a 7) (a + 1) 7) 2) 2)))) (c_isPathEnd l hfl D tys (sl (pt (pt s a 7) (a + 1) 7) 2) (2) (by repeat first | assumption | omega | exact sl_lt _ _ | exact slN | apply pt31 | apply pt_lt) (by repeat first | assumption | omega | exact sl_lt _ _ | exact slN | apply pt31 | apply pt_lt)) mw1_136 mw1_137 mw1_2 mw1_138 hd_X1_isPathEnd rfl ⟨rfl, rfl⟩ ⟨Nat.le_of_ble_eq_true rfl, Nat.le_of_ble_eq_true rfl⟩ ⟨Nat.zero_le _, Nat.zero_le _⟩ (Nat.le_of_ble_eq_true rfl) rfl dX1_joined_88 ?_
                  refine jb_if_eq (tgt := 96) (b := (pe (sl (pt (pt s a 7) (a + 1) 7) 2) 2)) dX1_joined_91 (by decide) (fun c91 => ?_) (fun c91 => ?_)
                  · refine j_iinc (n0 := 0) (v := nI (3)) [(6, .int (nI (3))), (5, .int (nI (pt (pt s a 7) (a + 1) 7))), (4, .int (nI (sl s (a + 1)))), (3, .int (nI (sl s a))), (2, .int (nI (a + 1))), (0, .int (nI (s))), (1, .int (nI (a)))] dX1_joined_96 rfl (by decide) (by decide) rfl ?_
                    refine j_goto (tgt := 73) dX1_joined_99 (by decide) ?_
                    refine j_iload dX1_joined_73 0 rfl ?_
                    refine j_iconst (v := nI (4)) dX1_joined_75 (by decide) ?_
                    refine jn_icmp_ge (tgt := 102) (a := 3) (b := 4) (by omega) (by omega) dX1_joined_76 (by decide) (fun c76 => ?_) (fun c76 => ?_)
                    · exact absurd c76 (by first | decide | omega)
                    · refine j_iload dX1_joined_79 1 rfl ?_
                      refine j_iload dX1_joined_81 0 rfl ?_
                      refine j_s0 (av := [.int (nI (pt (pt s a 7) (a + 1) 7)), .int (nI (3))]) (r0 := .int (nI (sl (pt (pt s a 7) (a + 1) 7) 3))) (c_slot l hfl D tys (pt (pt s a 7) (a + 1) 7) (3) (by repeat first | assumption | omega | exact sl_lt _ _ | exact slN | apply pt31 | apply pt_lt) (by repeat first | assumption | omega | exact sl_lt _ _ | exact slN | apply pt31 | apply pt_lt)) mw1_133 mw1_134 mw1_2 mw1_135 hd_X1_slot rfl ⟨rfl, rfl⟩ ⟨Nat.le_of_ble_eq_true rfl, Nat.le_of_ble_eq_true rfl⟩ ⟨Nat.zero_le _, Nat.zero_le _⟩ (Nat.le_of_ble_eq_true rfl) rfl dX1_joined_83 ?_
                      refine j_iload dX1_joined_86 0 rfl ?_
                      refine j_s0 (av := [.int (nI (sl (pt (pt s a 7) (a + 1) 7) 3)), .int (nI (3))]) (r0 := .int (bI ((pe (sl (pt (pt s a 7) (a + 1) 7) 3) 3)))) (c_isPathEnd l hfl D tys (sl (pt (pt s a 7) (a + 1) 7) 3) (3) (by repeat first | assumption | omega | exact sl_lt _ _ | exact slN | apply pt31 | apply pt_lt) (by repeat first | assumption | omega | exact sl_lt _ _ | exact slN | apply pt31 | apply pt_lt)) mw1_136 mw1_137 mw1_2 mw1_138 hd_X1_isPathEnd rfl ⟨rfl, rfl⟩ ⟨Nat.le_of_ble_eq_true rfl, Nat.le_of_ble_eq_true rfl⟩ ⟨Nat.zero_le _, Nat.zero_le _⟩ (Nat.le_of_ble_eq_true rfl) rfl dX1_joined_88 ?_
                      refine jb_if_eq (tgt := 96) (b := (pe (sl (pt (pt s a 7) (a + 1) 7) 3) 3)) dX1_joined_91 (by decide) (fun c91 => ?_) (fun c91 => ?_)
                      · refine j_iinc (n0 := 0) (v := nI (4)) [(6, .int (nI (4))), (5, .int (nI (pt (pt s a 7) (a + 1) 7))), (4, .int (nI (sl s (a + 1)))), (3, .int (nI (sl s a))), (2, .int (nI (a + 1))), (0, .int (nI (s))), (1, .int (nI (a)))] dX1_joined_96 rfl (by decide) (by decide) rfl ?_
                        refine j_goto (tgt := 73) dX1_joined_99 (by decide) ?_
                        refine j_iload dX1_joined_73 0 rfl ?_
                        refine j_iconst (v := nI (4)) dX1_joined_75 (by decide) ?_
                        refine jn_icmp_ge (tgt := 102) (a := 4) (b := 4) (by omega) (by omega) dX1_joined_76 (by decide) (fun c76 => ?_) (fun c76 => ?_)
                        · refine j_iload dX1_joined_102 1 rfl ?_
                          refine j_bipush (v := nI (7)) dX1_joined_104 (by decide) ?_
                          refine j_iconst (v := nI (1)) dX1_joined_106 (by decide) ?_
                          refine j_s0 (av := [.int (nI (pt (pt s a 7) (a + 1) 7)), .int (nI (7)), .int (nI (1))]) (r0 := .int (nI (pt (pt (pt s a 7) (a + 1) 7) 7 1))) (c_put l hfl D tys (pt (pt s a 7) (a + 1) 7) (7) (1) (by repeat first | assumption | omega | exact sl_lt _ _ | exact slN | apply pt31 | apply pt_lt) (by repeat first | assumption | omega | exact sl_lt _ _ | exact slN | apply pt31 | apply pt_lt) (by repeat first | assumption | omega | exact sl_lt _ _ | exact slN | apply pt31 | apply pt_lt)) mw1_139 mw1_140 mw1_2 mw1_141 hd_X1_put rfl ⟨rfl, rfl⟩ ⟨Nat.le_of_ble_eq_true rfl, Nat.le_of_ble_eq_true rfl⟩ ⟨Nat.zero_le _, Nat.zero_le _⟩ (Nat.le_of_ble_eq_true rfl) rfl dX1_joined_107 ?_
                          exact j_iret (tys' := []) rfl hR dX1_joined_110 (⟨by rw [show joinedF s a = (some (pt (pt (pt s a 7) (a + 1) 7) 7 1)) from by simp [joinedF, *] <;> omega]; rfl, rfl⟩)
                        · exact absurd c76 (by first | decide | omega)
                      · refine j_iconst (v := (-1)) dX1_joined_94 (by decide) ?_
                        exact j_iret (tys' := []) rfl hR dX1_joined_95 (⟨by rw [show joinedF s a = none from by simp [joinedF, *] <;> omega]; rfl, rfl⟩)
                  · refine j_iconst (v := (-1)) dX1_joined_94 (by decide) ?_
                    exact j_iret (tys' := []) rfl hR dX1_joined_95 (⟨by rw [show joinedF s a = none from by simp [joinedF, *] <;> omega]; rfl, rfl⟩)
              · refine j_iconst (v := (-1)) dX1_joined_94 (by decide) ?_
                exact j_iret (tys' := []) rfl hR dX1_joined_95 (⟨by rw [show joinedF s a = none from by simp [joinedF, *] <;> omega]; rfl, rfl⟩)
          · refine j_iconst (v := (-1)) dX1_joined_94 (by decide) ?_
            exact j_iret (tys' := []) rfl hR dX1_joined_95 (⟨by rw [show joinedF s a = none from by simp [joinedF, *] <;> omega]; rfl, rfl⟩)
      · refine j_iload dX1_joined_55 0 rfl ?_
        refine j_iload_n dX1_joined_57 rfl 2 rfl ?_
        refine j_iload dX1_joined_58 1 rfl ?_
        refine j_s0 (av := [.int (nI (pt (pt s a 7) (a + 1) 7)), .int (nI (sl s a)), .int (nI (sl s (a + 1)))]) (r0 := .int (nI (pt (pt (pt s a 7) (a + 1) 7) (sl s a) (sl s (a + 1))))) (c_put l hfl D tys (pt (pt s a 7) (a + 1) 7) (sl s a) (sl s (a + 1)) (by repeat first | assumption | omega | exact sl_lt _ _ | exact slN | apply pt31 | apply pt_lt) (by repeat first | assumption | omega | exact sl_lt _ _ | exact slN | apply pt31 | apply pt_lt) (by repeat first | assumption | omega | exact sl_lt _ _ | exact slN | apply pt31 | apply pt_lt)) mw1_139 mw1_140 mw1_2 mw1_141 hd_X1_put rfl ⟨rfl, rfl⟩ ⟨Nat.le_of_ble_eq_true rfl, Nat.le_of_ble_eq_true rfl⟩ ⟨Nat.zero_le _, Nat.zero_le _⟩ (Nat.le_of_ble_eq_true rfl) rfl dX1_joined_60 ?_
        refine j_iload dX1_joined_63 1 rfl ?_
        refine j_iload_n dX1_joined_65 rfl 2 rfl ?_
        refine j_s0 (av := [.int (nI (pt (pt (pt s a 7) (a + 1) 7) (sl s a) (sl s (a + 1)))), .int (nI (sl s (a + 1))), .int (nI (sl s a))]) (r0 := .int (nI (pt (pt (pt (pt s a 7) (a + 1) 7) (sl s a) (sl s (a + 1))) (sl s (a + 1)) (sl s a)))) (c_put l hfl D tys (pt (pt (pt s a 7) (a + 1) 7) (sl s a) (sl s (a + 1))) (sl s (a + 1)) (sl s a) (by repeat first | assumption | omega | exact sl_lt _ _ | exact slN | apply pt31 | apply pt_lt) (by repeat first | assumption | omega | exact sl_lt _ _ | exact slN | apply pt31 | apply pt_lt) (by repeat first | assumption | omega | exact sl_lt _ _ | exact slN | apply pt31 | apply pt_lt)) mw1_139 mw1_140 mw1_2 mw1_141 hd_X1_put rfl ⟨rfl, rfl⟩ ⟨Nat.le_of_ble_eq_true rfl, Nat.le_of_ble_eq_true rfl⟩ ⟨Nat.zero_le _, Nat.zero_le _⟩ (Nat.le_of_ble_eq_true rfl) rfl dX1_joined_66 ?_
        exact j_iret (tys' := []) rfl hR dX1_joined_69 (⟨by rw [show joinedF s a = (some (pt (pt (pt (pt s a 7) (a + 1) 7) (sl s a) (sl s (a + 1))) (sl s (a + 1)) (sl s a))) from by simp [joinedF, *] <;> omega]; rfl, rfl⟩)
    · refine j_iconst (v := (-1)) dX1_joined_33 (by decide) ?_
      exact j_iret (tys' := []) rfl hR dX1_joined_34 (⟨by rw [show joinedF s a = none from by simp [joinedF, *] <;> omega]; rfl, rfl⟩)

set_option maxHeartbeats 4000000 in
set_option maxRecDepth 100000 in
theorem c_ended0 (l : Launch) (hfl : l.flags = flags0) (D : va_G) (tys : List (ClassId × FieldType)) (a : Nat) (ha : a < 4) : Ct l yX1_ended cX1_ended 2 (Option.some FieldType.int) ({ frames := 1, cells := 0, slots := 0, locals := 22 } : Room) D tys tys ([]) [.int ((-1)), .int (nI (a))] (fun r u => r = some (.int (oI (endedF none a))) ∧ u = []) 0 0 := by
  refine Ct.of hfl (by decide) (Nat.le_of_ble_eq_true rfl) ?_
  intro k hR _
  show V k l D tys ({ frames := 1, cells := 0, slots := 0, locals := 22 } : Room) cX1_ended 2 RX1 ([]) 0 0 0 [(0, .int ((-1))), (1, .int (nI (a)))] []
  refine j_iload_n dX1_ended_0 rfl 0 rfl ?_
  refine j_iconst (v := (-1)) dX1_ended_1 (by decide) ?_
  refine j_icmp_eq (tgt := 17) dX1_ended_2 (by decide) (fun c2 => ?_) (fun c2 => ?_)
  · refine j_iconst (v := (-1)) dX1_ended_17 (by decide) ?_
    exact j_iret (tys' := []) rfl hR dX1_ended_18 (⟨rfl, rfl⟩)
  · exact absurd rfl c2

set_option maxHeartbeats 4000000 in
set_option maxRecDepth 100000 in
theorem c_ended1 (l : Launch) (hfl : l.flags = flags0) (D : va_G) (tys : List (ClassId × FieldType)) (s a : Nat) (hs : s < 8 ^ 8) (ha : a < 4) : Ct l yX1_ended cX1_ended 2 (Option.some FieldType.int) ({ frames := 1, cells := 0, slots := 0, locals := 22 } : Room) D tys tys ([]) [.int (nI (s)), .int (nI (a))] (fun r u => r = some (.int (oI (endedF (some s) a))) ∧ u = []) 0 0 := by
  refine Ct.of hfl (by decide) (Nat.le_of_ble_eq_true rfl) ?_
  intro k hR _
  show V k l D tys ({ frames := 1, cells := 0, slots := 0, locals := 22 } : Room) cX1_ended 2 RX1 ([]) 0 0 0 [(0, .int (nI (s))), (1, .int (nI (a)))] []
  refine j_iload_n dX1_ended_0 rfl 0 rfl ?_
  refine j_iconst (v := (-1)) dX1_ended_1 (by decide) ?_
  refine j_icmp_eq (tgt := 17) dX1_ended_2 (by decide) (fun c2 => ?_) (fun c2 => ?_)
  · exact absurd c2 (nI_m1 (by omega))
  · refine j_iload_n dX1_ended_5 rfl 0 rfl ?_
    refine j_iload_n dX1_ended_6 rfl 1 rfl ?_
    refine j_s0 (av := [.int (nI (s)), .int (nI (a))]) (r0 := .int (nI (sl s a))) (c_slot l hfl D tys (s) (a) (by repeat first | assumption | omega | exact sl_lt _ _ | exact slN | apply pt31 | apply pt_lt) (by repeat first | assumption | omega | exact sl_lt _ _ | exact slN | apply pt31 | apply pt_lt)) mw1_133 mw1_134 mw1_2 mw1_135 hd_X1_slot rfl ⟨rfl, rfl⟩ ⟨Nat.le_of_ble_eq_true rfl, Nat.le_of_ble_eq_true rfl⟩ ⟨Nat.zero_le _, Nat.zero_le _⟩ (Nat.le_of_ble_eq_true rfl) rfl dX1_ended_7 ?_
    refine j_iload_n dX1_ended_10 rfl 1 rfl ?_
    refine j_s0 (av := [.int (nI (sl s a)), .int (nI (a))]) (r0 := .int (bI ((pe (sl s a) a)))) (c_isPathEnd l hfl D tys (sl s a) (a) (by repeat first | assumption | omega | exact sl_lt _ _ | exact slN | apply pt31 | apply pt_lt) (by repeat first | assumption | omega | exact sl_lt _ _ | exact slN | apply pt31 | apply pt_lt)) mw1_136 mw1_137 mw1_2 mw1_138 hd_X1_isPathEnd rfl ⟨rfl, rfl⟩ ⟨Nat.le_of_ble_eq_true rfl, Nat.le_of_ble_eq_true rfl⟩ ⟨Nat.zero_le _, Nat.zero_le _⟩ (Nat.le_of_ble_eq_true rfl) rfl dX1_ended_11 ?_
    refine jb_if_eq (tgt := 19) (b := (pe (sl s a) a)) dX1_ended_14 (by decide) (fun c14 => ?_) (fun c14 => ?_)
    · refine j_iload_n dX1_ended_19 rfl 0 rfl ?_
      refine j_iload_n dX1_ended_20 rfl 1 rfl ?_
      refine j_iload_n dX1_ended_21 rfl 1 rfl ?_
      refine j_s0 (av := [.int (nI (s)), .int (nI (a)), .int (nI (a))]) (r0 := .int (nI (pt s a a))) (c_put l hfl D tys (s) (a) (a) (by repeat first | assumption | omega | exact sl_lt _ _ | exact slN | apply pt31 | apply pt_lt) (by repeat first | assumption | omega | exact sl_lt _ _ | exact slN | apply pt31 | apply pt_lt) (by repeat first | assumption | omega | exact sl_lt _ _ | exact slN | apply pt31 | apply pt_lt)) mw1_139 mw1_140 mw1_2 mw1_141 hd_X1_put rfl ⟨rfl, rfl⟩ ⟨Nat.le_of_ble_eq_true rfl, Nat.le_of_ble_eq_true rfl⟩ ⟨Nat.zero_le _, Nat.zero_le _⟩ (Nat.le_of_ble_eq_true rfl) rfl dX1_ended_22 ?_
      exact j_iret (tys' := []) rfl hR dX1_ended_25 (⟨by rw [show endedF (some s) a = (some (pt s a a)) from by simp [endedF, *]]; rfl, rfl⟩)
    · refine j_iconst (v := (-1)) dX1_ended_17 (by decide) ?_
      exact j_iret (tys' := []) rfl hR dX1_ended_18 (⟨by rw [show endedF (some s) a = none from by simp [endedF, *]]; rfl, rfl⟩)

theorem c_ended (l : Launch) (hfl : l.flags = flags0) (D : va_G) (tys : List (ClassId × FieldType)) (x : Option Nat) (a : Nat) (hs : ∀ s, x = some s → s < 8 ^ 8) (ha : a < 4) : Ct l yX1_ended cX1_ended 2 (Option.some FieldType.int) ({ frames := 1, cells := 0, slots := 0, locals := 22 } : Room) D tys tys [] [.int (oI x), .int (nI a)] (fun r u => r = some (.int (oI (endedF x a))) ∧ u = []) 0 0 := by
  cases x with
  | none => exact c_ended0 l hfl D tys a ha
  | some s => exact c_ended1 l hfl D tys s a (hs s rfl) ha
theorem downF_lt {s a : Nat} {t : Bool} (hs : s < 8 ^ 8) (ha : a < 8) {z : Nat} (h : downF s a t = some z) : z < 8 ^ 8 := by
  unfold downF at h
  split at h
  · cases t with
    | true => simp at h; omega
    | false => simp at h; rw [← h]; exact pt_lt hs ha (by omega)
  · cases h
theorem endedF_lt {x : Option Nat} {a : Nat} (hs : ∀ s, x = some s → s < 8 ^ 8) (ha : a < 8) {z : Nat} (h : endedF x a = some z) : z < 8 ^ 8 := by
  cases x with
  | none => cases h
  | some s =>
    unfold endedF at h
    simp only at h
    split at h
    · cases h
    · cases h; exact pt_lt (hs s rfl) ha (by omega)
theorem joinedF_lt {s a : Nat} (hs : s < 8 ^ 8) (ha : a < 3) {z : Nat} (h : joinedF s a = some z) : z < 8 ^ 8 := by
  unfold joinedF at h
  repeat' split at h
  all_goals (first | (cases h; done) | (cases h; repeat first | assumption | exact sl_lt _ _ | apply pt_lt | omega))
