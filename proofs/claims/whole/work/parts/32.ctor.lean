/-! constructors -/
def z0 : Nat → Nat := fun _ => 0
def zL : Nat → Int64 := fun _ => 0
theorem vz_n (N : Nat) (cA : ClassId) : vp_cell cA (N, .inl (fun i => nI (z0 i))) = arrV cA N (fun _ => defaultValue .int) := by
  show arrV cA N (fun j => .int (nI 0)) = _
  rw [nI_0]; rfl
theorem vz_b (N : Nat) (cA : ClassId) : vp_cell cA (N, .inl (fun i => bI (no0 i))) = arrV cA N (fun _ => defaultValue .boolean) := rfl
theorem vz_l (N : Nat) (cA : ClassId) : vp_cell cA (N, .inr (.inl zL)) = arrV cA N (fun _ => defaultValue .long) := rfl
def cE (D : va_G) (x y : va_E) : Prop := ∀ (H : Heap) (q : Nat), va_at D vwCl (q, x) H → va_at D vwCl (q, y) H
theorem cE_rfl {D : va_G} {x : va_E} : cE D x x := fun _ _ h => h
theorem arrV_ext {c : ClassId} {n : Nat} {f g : Nat → Value} (h : ∀ i, i < n → f i = g i) : arrV c n f = arrV c n g := by
  have e : (Array.ofFn (n := n) fun j => f j.val) = Array.ofFn (n := n) fun j => g j.val := by
    congr 1
    funext j
    exact h j.val j.isLt
  unfold arrV
  rw [e]
theorem cE_arr {D : va_G} {c : ClassId} {n : Nat} {f g : Nat → Int32} (h : ∀ i, i < n → f i = g i) : cE D (.inl (c, n, .inl f)) (.inl (c, n, .inl g)) := fun H q h2 => by
  have h3 : H[q]? = some (arrV c n (fun j => .int (f j))) := h2
  rw [arrV_ext (g := fun j => .int (g j)) (fun i hi => by rw [h i hi])] at h3
  exact h3
def wE (D : va_G) : va_W → va_W → Prop
  | [], [] => True
  | x :: w, y :: w2 => x.1 = y.1 ∧ cE D x.2 y.2 ∧ wE D w w2
  | _, _ => False
theorem wE_n {D : va_G} : wE D [] [] := trivial
theorem wE_c {D : va_G} {x y : Nat × va_E} {w w2 : va_W} (h1 : x.1 = y.1) (h2 : cE D x.2 y.2) (h3 : wE D w w2) : wE D (x :: w) (y :: w2) := ⟨h1, h2, h3⟩
theorem wE_get {D : va_G} : ∀ {w w2 : va_W}, wE D w w2 → ∀ (k : Nat) (y : Nat × va_E), w2[k]? = some y → ∃ x, w[k]? = some x ∧ x.1 = y.1 ∧ cE D x.2 y.2
  | [], [], _, k, y, hk => by simp at hk
  | x :: w, y :: w2, h, 0, z, hk => by
    simp at hk
    subst hk
    exact ⟨x, rfl, h.1, h.2.1⟩
  | x :: w, y :: w2, h, k + 1, z, hk => by
    simp only [List.getElem?_cons_succ] at hk ⊢
    exact wE_get h.2.2 k z hk
  | [], _ :: _, h, _, _, _ => h.elim
  | _ :: _, [], h, _, _, _ => h.elim
section JY
variable {k : VK} {l : Launch} {D : va_G} {tys : List (ClassId × FieldType)} {R : Room} {cc : ByteArray} {nL : Nat} {own : String} {w : va_W} {cells slots pc : Nat} {lv : List (Nat × Value)} {rest : List Value}
/-- arrays that agree as far as they are long -/
theorem j_wext {w2 : va_W} (h : wE D w w2) (kk : V k l D tys R cc nL own w2 cells slots pc lv rest) : V k l D tys R cc nL own w cells slots pc lv rest := by
  intro C H locs ls hP hD hS hl
  refine kk C H locs ls (fun j y hj => ?_) ⟨fun i j p q hi hj he => ?_, fun j y hj => ?_⟩ hS hl
  · obtain ⟨x, hx, h1, h2⟩ := wE_get h j y hj
    have h3 := hP j x hx
    obtain ⟨xa, xe⟩ := x
    obtain ⟨ya, ye⟩ := y
    dsimp only at h1 h2
    subst h1
    exact h2 H xa h3
  · obtain ⟨x, hx, h1, -⟩ := wE_get h i p hi
    obtain ⟨y, hy, h2, -⟩ := wE_get h j q hj
    exact hD.1 i j x y hx hy (by rw [h1, h2, he])
  · obtain ⟨x, hx, h1, -⟩ := wE_get h j y hj
    rw [← h1]
    exact hD.2 j x hx
end JY
/-- how many edges are there ahead of a point's -/
def eN (R C r c : Nat) : Nat := if r < R then r * (2 * C + 1) + min (2 * c) (2 * C + 1) else if r = R then R * (2 * C + 1) + min c C else nE R C
def eNok (R C r c : Nat) : Bool :=
  decide (c < C → eN R C r c < nE R C ∧ tRow R C (eN R C r c) = r ∧ tCol R C (eN R C r c) = c ∧ tDown R C (eN R C r c) = false) &&
  (decide (r < R → c < C → eN R C r c + 1 < nE R C ∧ tRow R C (eN R C r c + 1) = r ∧ tCol R C (eN R C r c + 1) = c ∧ tDown R C (eN R C r c + 1) = true) &&
  (decide (r < R → C ≤ c → eN R C r c < nE R C ∧ tRow R C (eN R C r c) = r ∧ tCol R C (eN R C r c) = c ∧ tDown R C (eN R C r c) = true) &&
  (decide (eN R C r (c + 1) = eN R C r c + (if c < C then 1 else 0) + (if r < R then 1 else 0)) && decide (eN R C r (C + 1) = eN R C (r + 1) 0))))
theorem eN_all : (List.range 5).all (fun R => (List.range 4).all fun C => decide (R = 0) || (decide (C = 0) || (List.range (R + 1)).all fun r => (List.range (C + 1)).all fun c => eNok R C r c)) = true := by decide +kernel
theorem eN_t {R C r c : Nat} (hG : GS R C) (hr : r ≤ R) (hc : c ≤ C) : (c < C → eN R C r c < nE R C ∧ tRow R C (eN R C r c) = r ∧ tCol R C (eN R C r c) = c ∧ tDown R C (eN R C r c) = false) ∧
    (r < R → c < C → eN R C r c + 1 < nE R C ∧ tRow R C (eN R C r c + 1) = r ∧ tCol R C (eN R C r c + 1) = c ∧ tDown R C (eN R C r c + 1) = true) ∧
    (r < R → C ≤ c → eN R C r c < nE R C ∧ tRow R C (eN R C r c) = r ∧ tCol R C (eN R C r c) = c ∧ tDown R C (eN R C r c) = true) ∧
    eN R C r (c + 1) = eN R C r c + (if c < C then 1 else 0) + (if r < R then 1 else 0) ∧ eN R C r (C + 1) = eN R C (r + 1) 0 := by
  have hR1 := hG.1
  have hC1 := hG.2.2.1
  have h1 := List.all_eq_true.mp (List.all_eq_true.mp eN_all R (List.mem_range.mpr (by have := hG.2.1; omega))) C (List.mem_range.mpr (by have := hG.2.2.2; omega))
  rw [decide_eq_false (by omega), decide_eq_false (by omega), Bool.false_or, Bool.false_or] at h1
  have h2 := List.all_eq_true.mp (List.all_eq_true.mp h1 r (List.mem_range.mpr (by omega))) c (List.mem_range.mpr (by omega))
  simp only [eNok, Bool.and_eq_true] at h2
  exact ⟨of_decide_eq_true h2.1, of_decide_eq_true h2.2.1, of_decide_eq_true h2.2.2.1, of_decide_eq_true h2.2.2.2.1, of_decide_eq_true h2.2.2.2.2⟩
theorem eN_0 {R C : Nat} (hG : GS R C) : eN R C 0 0 = 0 := by
  unfold eN
  rw [if_pos (show 0 < R from hG.1)]; simp
theorem eN_R {R C : Nat} : eN R C (R + 1) 0 = nE R C := by
  unfold eN
  rw [if_neg (by omega), if_neg (by omega)]
def TB (R C e : Nat) (f3 f4 : Nat → Nat) (f5 : Nat → Bool) : Prop := (∀ j, j < e → f3 j = tRow R C j ∧ f4 j = tCol R C j ∧ f5 j = tDown R C j) ∧ ∀ j, e ≤ j → f5 j = false
theorem TB_r {R C e r c : Nat} {f3 f4 : Nat → Nat} {f5 : Nat → Bool} (h : TB R C e f3 f4 f5) (h1 : tRow R C e = r) (h2 : tCol R C e = c) (h3 : tDown R C e = false) : TB R C (e + 1) (va_up f3 e r) (va_up f4 e c) f5 := by
  refine ⟨fun j hj => ?_, fun j hj => h.2 j (by omega)⟩
  by_cases e1 : j = e
  · subst e1
    rw [va_up_self, va_up_self, h1, h2, h3]
    exact ⟨rfl, rfl, h.2 j (Nat.le_refl _)⟩
  · rw [va_up_ne _ _ e1, va_up_ne _ _ e1]
    exact h.1 j (by omega)
theorem TB_d {R C e r c : Nat} {f3 f4 : Nat → Nat} {f5 : Nat → Bool} (h : TB R C e f3 f4 f5) (h1 : tRow R C e = r) (h2 : tCol R C e = c) (h3 : tDown R C e = true) : TB R C (e + 1) (va_up f3 e r) (va_up f4 e c) (va_up f5 e true) := by
  refine ⟨fun j hj => ?_, fun j hj => by rw [va_up_ne _ _ (by omega)]; exact h.2 j (by omega)⟩
  by_cases e1 : j = e
  · subst e1
    rw [va_up_self, va_up_self, va_up_self, h1, h2, h3]
    exact ⟨rfl, rfl, rfl⟩
  · rw [va_up_ne _ _ e1, va_up_ne _ _ e1, va_up_ne _ _ e1]
    exact h.1 j (by omega)
set_option maxHeartbeats 8000000 in
set_option maxRecDepth 100000 in
theorem c_gridI (l : Launch) (hfl : l.flags = flags0) (D : va_G) (cI cJ cZ : ClassId) (R C : Nat) (hG : GS R C) (gq : Nat) : Ct l yX1_init cX1_init 6 none ({ frames := 1, cells := 4, slots := 105, locals := 12 } : Room) D (tys3 cI cJ cZ) (tys3 cI cJ cZ) [(gq, .inr (1, [.int (nI (0)), .int (nI (0)), .int (nI (0)), .null, .null, .null, .null]))] [.ref (gq), .int (nI (R)), .int (nI (C))] (fun r u => r = none ∧ ∃ r3 r4 r5 r6 : Nat, u = [(gq, .inr (1, [.int (nI (R)), .int (nI (C)), .int (nI (nE R C)), .ref r3, .ref r4, .ref r5, .ref r6])), (r3, .inl (cI, nE R C, .inl (fun i => nI (tRow R C i)))), (r4, .inl (cI, nE R C, .inl (fun i => nI (tCol R C i)))), (r5, .inl (cZ, nE R C, .inl (fun i => bI (tDown R C i)))), (r6, .inl (cI, R * C, .inl (fun _ => eI 99)))]) 4 105 := by
  refine Ct.of hfl (by decide) (Nat.le_of_ble_eq_true rfl) ?_
  intro k hR hI0
  have hI := hI0 _ rfl
  have hR4 := hG.2.1
  have hC3 := hG.2.2.2
  have hR1 := hG.1
  have hC1 := hG.2.2.1
  have hE := hG.E
  have hRC := hG.RC
  show V k l D (tys3 cI cJ cZ) ({ frames := 1, cells := 4, slots := 105, locals := 12 } : Room) cX1_init 6 RX1 ([(gq, .inr (1, [.int (nI (0)), .int (nI (0)), .int (nI (0)), .null, .null, .null, .null]))]) (0) (0) 0 [(0, .ref (gq)), (1, .int (nI (R))), (2, .int (nI (C)))] []
  refine j_aload_n dX1_init_0 rfl 0 rfl ?_
  refine j_objInit mw1_26 mw1_19 mw1_20 dX1_init_1 (by decide) (by decide) ?_
  refine j_aload_n dX1_init_4 rfl 0 rfl ?_
  refine j_iload_n dX1_init_5 rfl 1 rfl ?_
  refine pF_X1_11 hI ([(gq, .inr (1, [.int (nI (R)), .int (nI (0)), .int (nI (0)), .null, .null, .null, .null]))]) 0 rfl (Nat.le_of_ble_eq_true rfl) rfl dX1_init_6 ?_
  refine j_aload_n dX1_init_9 rfl 0 rfl ?_
  refine j_iload_n dX1_init_10 rfl 2 rfl ?_
  refine pF_X1_15 hI ([(gq, .inr (1, [.int (nI (R)), .int (nI (C)), .int (nI (0)), .null, .null, .null, .null]))]) 0 rfl (Nat.le_of_ble_eq_true rfl) rfl dX1_init_11 ?_
  refine j_aload_n dX1_init_14 rfl 0 rfl ?_
  refine j_iload_n dX1_init_15 rfl 1 rfl ?_
  refine j_iconst (v := nI (1)) dX1_init_16 (by decide) ?_
  refine jn_iadd (v := R + 1) dX1_init_17 rfl ?_
  refine j_iload_n dX1_init_18 rfl 2 rfl ?_
  refine jn_imul (v := (R + 1) * C) dX1_init_19 rfl ?_
  refine j_iload_n dX1_init_20 rfl 1 rfl ?_
  refine j_iload_n dX1_init_21 rfl 2 rfl ?_
  refine j_iconst (v := nI (1)) dX1_init_22 (by decide) ?_
  refine jn_iadd (v := C + 1) dX1_init_23 rfl ?_
  refine jn_imul (v := R * (C + 1)) dX1_init_24 rfl ?_
  refine jn_iadd (v := ((R + 1) * C) + (R * (C + 1))) dX1_init_25 rfl ?_
  refine j_topi (y := nI (nE R C)) (by rfl) ?_
  refine pF_X1_18 hI ([(gq, .inr (1, [.int (nI (R)), .int (nI (C)), .int (nI (nE R C)), .null, .null, .null, .null]))]) 0 rfl (Nat.le_of_ble_eq_true rfl) rfl dX1_init_26 ?_
  refine j_aload_n dX1_init_29 rfl 0 rfl ?_
  refine j_aload_n dX1_init_30 rfl 0 rfl ?_
  refine gf_X1_18 0 rfl (rfl) dX1_init_31 ?_
  refine j_newaP (atype := .int) (ty := .int) (N := nE R C) (a0 := (nE R C, .inl (fun i => nI (z0 i)))) 0 rfl (fun _ _ h => h) mw1_57 rfl (vz_n _) (nI_pos (by omega)) (nI_clamp (by omega)) (by first | exact Nat.le_of_ble_eq_true rfl | (show _ * 4 ≤ _; omega) | (show _ * 1 ≤ _; omega)) (show _ + 1 ≤ 4 by omega) (show _ + _ ≤ 105 by omega) dX1_init_34 ?_
  intro r3
  refine pF_X1_21 hI ([(gq, .inr (1, [.int (nI (R)), .int (nI (C)), .int (nI (nE R C)), .ref (r3), .null, .null, .null])), (r3, .inl (cI, nE R C, .inl (fun jz => nI (z0 jz))))]) 0 rfl (Nat.le_of_ble_eq_true rfl) rfl dX1_init_36 ?_
  refine j_aload_n dX1_init_39 rfl 0 rfl ?_
  refine j_aload_n dX1_init_40 rfl 0 rfl ?_
  refine gf_X1_18 0 rfl (rfl) dX1_init_41 ?_
  refine j_newaP (atype := .int) (ty := .int) (N := nE R C) (a0 := (nE R C, .inl (fun i => nI (z0 i)))) 0 rfl (fun _ _ h => h) mw1_57 rfl (vz_n _) (nI_pos (by omega)) (nI_clamp (by omega)) (by first | exact Nat.le_of_ble_eq_true rfl | (show _ * 4 ≤ _; omega) | (show _ * 1 ≤ _; omega)) (show _ + 1 ≤ 4 by omega) (show _ + _ ≤ 105 by omega) dX1_init_44 ?_
  intro r4
  refine pF_X1_25 hI ([(gq, .inr (1, [.int (nI (R)), .int (nI (C)), .int (nI (nE R C)), .ref (r3), .ref (r4), .null, .null])), (r3, .inl (cI, nE R C, .inl (fun jz => nI (z0 jz)))), (r4, .inl (cI, nE R C, .inl (fun jz => nI (z0 jz))))]) 0 rfl (Nat.le_of_ble_eq_true rfl) rfl dX1_init_46 ?_
  refine j_aload_n dX1_init_49 rfl 0 rfl ?_
  refine j_aload_n dX1_init_50 rfl 0 rfl ?_
  refine gf_X1_18 0 rfl (rfl) dX1_init_51 ?_
  refine j_newaP (atype := .boolean) (ty := .boolean) (N := nE R C) (a0 := (nE R C, .inl (fun i => bI (no0 i)))) 2 rfl (fun _ _ h => h) mw1_58 rfl (vz_b _) (nI_pos (by omega)) (nI_clamp (by omega)) (by first | exact Nat.le_of_ble_eq_true rfl | (show _ * 4 ≤ _; omega) | (show _ * 1 ≤ _; omega)) (show _ + 1 ≤ 4 by omega) (show _ + _ ≤ 105 by omega) dX1_init_54 ?_
  intro r5
  refine pF_X1_28 hI ([(gq, .inr (1, [.int (nI (R)), .int (nI (C)), .int (nI (nE R C)), .ref (r3), .ref (r4), .ref (r5), .null])), (r3, .inl (cI, nE R C, .inl (fun jz => nI (z0 jz)))), (r4, .inl (cI, nE R C, .inl (fun jz => nI (z0 jz)))), (r5, .inl (cZ, nE R C, .inl (fun jz => bI (no0 jz))))]) 0 rfl (Nat.le_of_ble_eq_true rfl) rfl dX1_init_56 ?_
  refine j_aload_n dX1_init_59 rfl 0 rfl ?_
  refine j_iload_n dX1_init_60 rfl 1 rfl ?_
  refine j_iload_n dX1_init_61 rfl 2 rfl ?_
  refine jn_imul (v := R * C) dX1_init_62 rfl ?_
  refine j_newaP (atype := .int) (ty := .int) (N := R * C) (a0 := (R * C, .inl (fun i => nI (z0 i)))) 0 rfl (fun _ _ h => h) mw1_57 rfl (vz_n _) (nI_pos (by omega)) (nI_clamp (by omega)) (by first | exact Nat.le_of_ble_eq_true rfl | (show _ * 4 ≤ _; omega) | (show _ * 1 ≤ _; omega)) (show _ + 1 ≤ 4 by omega) (show _ + _ ≤ 105 by omega) dX1_init_63 ?_
  intro r6
  refine pF_X1_32 hI ([(gq, .inr (1, [.int (nI (R)), .int (nI (C)), .int (nI (nE R C)), .ref (r3), .ref (r4), .ref (r5), .ref (r6)])), (r3, .inl (cI, nE R C, .inl (fun jz => nI (z0 jz)))), (r4, .inl (cI, nE R C, .inl (fun jz => nI (z0 jz)))), (r5, .inl (cZ, nE R C, .inl (fun jz => bI (no0 jz)))), (r6, .inl (cI, R * C, .inl (fun jz => nI (z0 jz))))]) 0 rfl (Nat.le_of_ble_eq_true rfl) rfl dX1_init_65 ?_
  refine j_iconst (v := nI (0)) dX1_init_68 (by decide) ?_
  refine j_istore_n [(3, .int (nI (0))), (0, .ref (gq)), (1, .int (nI (R))), (2, .int (nI (C)))] dX1_init_69 rfl (by decide) rfl ?_
  refine j_world (w' := [(gq, .inr (1, [.int (nI (R)), .int (nI (C)), .int (nI (nE R C)), .ref (r3), .ref (r4), .ref (r5), .ref (r6)])), (r3, .inl (cI, nE R C, .inl (fun jz => nI (z0 jz)))), (r4, .inl (cI, nE R C, .inl (fun jz => nI (z0 jz)))), (r5, .inl (cZ, nE R C, .inl (fun jz => bI (no0 jz)))), (r6, .inl (cI, R * C, .inl (fun jz => eI (z0 jz))))]) (by rfl) ?_
  refine j_sub [1, 2, 3, 0] [(0, .ref (gq)), (1, .int (nI (R))), (2, .int (nI (C))), (3, .int (nI (0)))] rfl ?_
  have loop70 : ∀ (n : Nat) (i : Nat) (f6 : Nat → Nat), (R * C < i + n) → (i ≤ R * C) → (∀ j, j < i → f6 j = 99) → V k l D (tys3 cI cJ cZ) ({ frames := 1, cells := 4, slots := 105, locals := 12 } : Room) cX1_init 6 RX1 ([(gq, .inr (1, [.int (nI (R)), .int (nI (C)), .int (nI (nE R C)), .ref (r3), .ref (r4), .ref (r5), .ref (r6)])), (r3, .inl (cI, nE R C, .inl (fun jz => nI (z0 jz)))), (r4, .inl (cI, nE R C, .inl (fun jz => nI (z0 jz)))), (r5, .inl (cZ, nE R C, .inl (fun jz => bI (no0 jz)))), (r6, .inl (cI, R * C, .inl (fun jz => eI (f6 jz))))]) (4) (0 + (nE R C) + (nE R C) + (nE R C) + (R * C)) 70 [(0, .ref (gq)), (1, .int (nI (R))), (2, .int (nI (C))), (3, .int (nI (i)))] [] := by
    intro n
    induction n with
    | zero => intro i f6 hm hi hz; exfalso; omega
    | succ n ih70 =>
      intro i f6 hm hi hz
      refine j_iload_n dX1_init_70 rfl 3 rfl ?_
      refine j_aload_n dX1_init_71 rfl 0 rfl ?_
      refine gf_X1_32 0 rfl (rfl) dX1_init_72 ?_
      refine j_alen (v := nI (R * C)) 4 0 rfl rfl rfl dX1_init_75 ?_
      refine jn_icmp_ge (tgt := 92) (a := i) (b := R * C) (by omega) (by omega) dX1_init_76 (by decide) (fun c76 => ?_) (fun c76 => ?_)
      · refine j_iconst (v := nI (0)) dX1_init_92 (by decide) ?_
        refine j_istore_n [(3, .int (nI (0))), (0, .ref (gq)), (1, .int (nI (R))), (2, .int (nI (C)))] dX1_init_93 rfl (by decide) rfl ?_
        refine j_iconst (v := nI (0)) dX1_init_94 (by decide) ?_
        refine j_istore [(4, .int (nI (0))), (3, .int (nI (0))), (0, .ref (gq)), (1, .int (nI (R))), (2, .int (nI (C)))] dX1_init_95 (by decide) rfl ?_
        refine j_wext (w2 := [(gq, .inr (1, [.int (nI (R)), .int (nI (C)), .int (nI (nE R C)), .ref (r3), .ref (r4), .ref (r5), .ref (r6)])), (r3, .inl (cI, nE R C, .inl (fun jz => nI (z0 jz)))), (r4, .inl (cI, nE R C, .inl (fun jz => nI (z0 jz)))), (r5, .inl (cZ, nE R C, .inl (fun jz => bI (no0 jz)))), (r6, .inl (cI, R * C, .inl (fun jz => eI ((fun _ => 99) jz))))]) (wE_c rfl cE_rfl (wE_c rfl cE_rfl (wE_c rfl cE_rfl (wE_c rfl cE_rfl (wE_c rfl (cE_arr (fun j hj => by rw [hz j (by omega)])) wE_n))))) ?_
        refine j_lv (lv' := [(4, .int (nI (0))), (3, .int (nI (eN R C 0 0))), (0, .ref (gq)), (1, .int (nI (R))), (2, .int (nI (C)))]) (by rw [eN_0 hG]) ?_
        refine j_sub [2, 3, 4, 1, 0] [(0, .ref (gq)), (1, .int (nI (R))), (2, .int (nI (C))), (3, .int (nI (eN R C 0 0))), (4, .int (nI (0)))] rfl ?_
        have loop97 : ∀ (n : Nat) (r : Nat) (f3 f4 : Nat → Nat) (f5 : Nat → Bool), (R + 1 < r + n) → (r ≤ R + 1) → (TB R C (eN R C r 0) f3 f4 f5) → V k l D (tys3 cI cJ cZ) ({ frames := 1, cells := 4, slots := 105, locals := 12 } : Room) cX1_init 6 RX1 ([(gq, .inr (1, [.int (nI (R)), .int (nI (C)), .int (nI (nE R C)), .ref (r3), .ref (r4), .ref (r5), .ref (r6)])), (r3, .inl (cI, nE R C, .inl (fun jz => nI (f3 jz)))), (r4, .inl (cI, nE R C, .inl (fun jz => nI (f4 jz)))), (r5, .inl (cZ, nE R C, .inl (fun jz => bI (f5 jz)))), (r6, .inl (cI, R * C, .inl (fun jz => eI ((fun _ => 99) jz))))]) (4) (0 + (nE R C) + (nE R C) + (nE R C) + (R * C)) 97 [(0, .ref (gq)), (1, .int (nI (R))), (2, .int (nI (C))), (3, .int (nI (eN R C r 0))), (4, .int (nI (r)))] [] := by
          intro n
          induction n with
          | zero => intro r f3 f4 f5 hm1 hr hT; exfalso; omega
          | succ n ih97 =>
            intro r f3 f4 f5 hm1 hr hT
            refine j_iload dX1_init_97 4 rfl ?_
            refine j_iload_n dX1_init_99 rfl 1 rfl ?_
            refine jn_icmp_gt (tgt := 181) (a := r) (b := R) (by omega) (by omega) dX1_init_100 (by decide) (fun c100 => ?_) (fun c100 => ?_)
            · rw [show r = R + 1 by omega, eN_R] at hT
              refine j_wext (w2 := [(gq, .inr (1, [.int (nI (R)), .int (nI (C)), .int (nI (nE R C)), .ref (r3), .ref (r4), .ref (r5), .ref (r6)])), (r3, .inl (cI, nE R C, .inl (fun jz => nI ((tRow R C) jz)))), (r4, .inl (cI, nE R C, .inl (fun jz => nI ((tCol R C) jz)))), (r5, .inl (cZ, nE R C, .inl (fun jz => bI ((tDown R C) jz)))), (r6, .inl (cI, R * C, .inl (fun jz => eI ((fun _ => 99) jz))))]) (wE_c rfl cE_rfl (wE_c rfl (cE_arr (fun j hj => by rw [(hT.1 j hj).1])) (wE_c rfl (cE_arr (fun j hj => by rw [(hT.1 j hj).2.1])) (wE_c rfl (cE_arr (fun j hj => by rw [(hT.1 j hj).2.2])) (wE_c rfl cE_rfl wE_n))))) ?_
              refine j_widen (k2 := 4) (n2 := 105) (by omega) (by omega) ?_
              exact j_vret (tys' := []) rfl hR dX1_init_181 (⟨rfl, r3, r4, r5, r6, rfl⟩)
            · refine j_iconst (v := nI (0)) dX1_init_103 (by decide) ?_
              refine j_istore [(5, .int (nI (0))), (0, .ref (gq)), (1, .int (nI (R))), (2, .int (nI (C))), (3, .int (nI (eN R C r 0))), (4, .int (nI (r)))] dX1_init_104 (by decide) rfl ?_
              refine j_sub [1, 2, 3, 4, 5, 0] [(0, .ref (gq)), (1, .int (nI (R))), (2, .int (nI (C))), (3, .int (nI (eN R C r 0))), (4, .int (nI (r))), (5, .int (nI (0)))] rfl ?_
              have loop106 : ∀ (n : Nat) (c : Nat) (f3 f4 : Nat → Nat) (f5 : Nat → Bool), (C + 1 < c + n) → (c ≤ C + 1) → (TB R C (eN R C r c) f3 f4 f5) → V k l D (tys3 cI cJ cZ) ({ frames := 1, cells := 4, slots := 105, locals := 12 } : Room) cX1_init 6 RX1 ([(gq, .inr (1, [.int (nI (R)), .int (nI (C)), .int (nI (nE R C)), .ref (r3), .ref (r4), .ref (r5), .ref (r6)])), (r3, .inl (cI, nE R C, .inl (fun jz => nI (f3 jz)))), (r4, .inl (cI, nE R C, .inl (fun jz => nI (f4 jz)))), (r5, .inl (cZ, nE R C, .inl (fun jz => bI (f5 jz)))), (r6, .inl (cI, R * C, .inl (fun jz => eI ((fun _ => 99) jz))))]) (4) (0 + (nE R C) + (nE R C) + (nE R C) + (R * C)) 106 [(0, .ref (gq)), (1, .int (nI (R))), (2, .int (nI (C))), (3, .int (nI (eN R C r c))), (4, .int (nI (r))), (5, .int (nI (c)))] [] := by
                intro n
                induction n with
                | zero => intro c f3 f4 f5 hm2 hc hT2; exfalso; omega
                | succ n ih106 =>
                  intro c f3 f4 f5 hm2 hc hT2
                  refine j_iload dX1_init_106 5 rfl ?_
                  refine j_iload_n dX1_init_108 rfl 2 rfl ?_
                  refine jn_icmp_gt (tgt := 175) (a := c) (b := C) (by omega) (by omega) dX1_init_109 (by decide) (fun c109 => ?_) (fun c109 => ?_)
                  · refine j_iinc (n0 := 4) (v := nI (r + 1)) [(4, .int (nI (r + 1))), (0, .ref (gq)), (1, .int (nI (R))), (2, .int (nI (C))), (3, .int (nI (eN R C r c))), (5, .int (nI (c)))] dX1_init_175 rfl (by exact nI_add (r) 1) (by decide) rfl ?_
                    refine j_goto (tgt := 97) dX1_init_178 (by decide) ?_
                    refine j_sub [1, 2, 3, 4, 0] [(0, .ref (gq)), (1, .int (nI (R))), (2, .int (nI (C))), (3, .int (nI (eN R C r c))), (4, .int (nI (r + 1)))] rfl ?_
                    have hcC : c = C + 1 := by omega
                    subst hcC
                    have hen := (eN_t hG (show r ≤ R by omega) (Nat.le_refl C)).2.2.2.2
                    rw [hen] at hT2 ⊢
                    exact ih97 (r + 1) f3 f4 f5 (by omega) (by omega) hT2
                  · refine j_iload dX1_init_112 5 rfl ?_
                    refine j_iload_n dX1_init_114 rfl 2 rfl ?_
                    refine jn_icmp_ge (tgt := 137) (a := c) (b := C) (by omega) (by omega) dX1_init_115 (by decide) (fun c115 => ?_) (fun c115 => ?_)
                    · refine j_iload dX1_init_137 4 rfl ?_
                      refine j_iload_n dX1_init_139 rfl 1 rfl ?_
                      refine jn_icmp_ge (tgt := 169) (a := r) (b := R) (by omega) (by omega) dX1_init_140 (by decide) (fun c140 => ?_) (fun c140 => ?_)
                      · refine j_iinc (n0 := 5) (v := nI (c + 1)) [(5, .int (nI (c + 1))), (0, .ref (gq)), (1, .int (nI (R))), (2, .int (nI (C))), (3, .int (nI (eN R C r c))), (4, .int (nI (r)))] dX1_init_169 rfl (by exact nI_add (c) 1) (by decide) rfl ?_
                        refine j_goto (tgt := 106) dX1_init_172 (by decide) ?_
                        refine j_sub [1, 2, 3, 4, 5, 0] [(0, .ref (gq)), (1, .int (nI (R))), (2, .int (nI (C))), (3, .int (nI (eN R C r c))), (4, .int (nI (r))), (5, .int (nI (c + 1)))] rfl ?_
                        have hen := (eN_t hG (show r ≤ R by omega) (show c ≤ C by omega)).2.2.2.1
                        rw [if_neg (show ¬ c < C by omega), if_neg (show ¬ r < R by omega)] at hen
                        simp only [Nat.add_zero] at hen
                        refine j_lv (lv' := [(0, .ref (gq)), (1, .int (nI (R))), (2, .int (nI (C))), (3, .int (nI (eN R C r (c + 1)))), (4, .int (nI (r))), (5, .int (nI (c + 1)))]) (by rw [hen]) ?_
                        exact ih106 (c + 1) (f3) (f4) (f5) (by omega) (by omega) (by rw [hen]; exact hT2)
                      · obtain ⟨d1, d2, d3, d4⟩ := (eN_t hG (show r ≤ R by omega) (show c ≤ C by omega)).2.2.1 c140 c115
                        refine j_aload_n dX1_init_143 rfl 0 rfl ?_
                        refine gf_X1_21 0 rfl (rfl) dX1_init_144 ?_
                        refine j_iload_n dX1_init_147 rfl 3 rfl ?_
                        refine j_iload dX1_init_148 4 rfl ?_
                        refine jn_iastN ([(gq, .inr (1, [.int (nI (R)), .int (nI (C)), .int (nI (nE R C)), .ref (r3), .ref (r4), .ref (r5), .ref (r6)])), (r3, .inl (cI, nE R C, .inl (fun jz => nI ((va_up f3 (eN R C r c) r) jz)))), (r4, .inl (cI, nE R C, .inl (fun jz => nI (f4 jz)))), (r5, .inl (cZ, nE R C, .inl (fun jz => bI (f5 jz)))), (r6, .inl (cI, R * C, .inl (fun jz => eI ((fun _ => 99) jz))))]) 1 0 rfl rfl (by omega) (by omega) rfl dX1_init_150 ?_
                        refine j_aload_n dX1_init_151 rfl 0 rfl ?_
                        refine gf_X1_25 0 rfl (rfl) dX1_init_152 ?_
                        refine j_iload_n dX1_init_155 rfl 3 rfl ?_
                        refine j_iload dX1_init_156 5 rfl ?_
                        refine jn_iastN ([(gq, .inr (1, [.int (nI (R)), .int (nI (C)), .int (nI (nE R C)), .ref (r3), .ref (r4), .ref (r5), .ref (r6)])), (r3, .inl (cI, nE R C, .inl (fun jz => nI ((va_up f3 (eN R C r c) r) jz)))), (r4, .inl (cI, nE R C, .inl (fun jz => nI ((va_up f4 (eN R C r c) c) jz)))), (r5, .inl (cZ, nE R C, .inl (fun jz => bI (f5 jz)))), (r6, .inl (cI, R * C, .inl (fun jz => eI ((fun _ => 99) jz))))]) 2 0 rfl rfl (by omega) (by omega) rfl dX1_init_158 ?_
                        refine j_aload_n dX1_init_159 rfl 0 rfl ?_
                        refine gf_X1_28 0 rfl (rfl) dX1_init_160 ?_
                        refine j_iload_n dX1_init_163 rfl 3 rfl ?_
                        refine j_iconst (v := nI (1)) dX1_init_164 (by decide) ?_
                        refine j_st (st' := [.int (bI (true)), .int (nI (eN R C r c)), .ref (r5)]) (by rfl) ?_
                        refine jn_zastB ([(gq, .inr (1, [.int (nI (R)), .int (nI (C)), .int (nI (nE R C)), .ref (r3), .ref (r4), .ref (r5), .ref (r6)])), (r3, .inl (cI, nE R C, .inl (fun jz => nI ((va_up f3 (eN R C r c) r) jz)))), (r4, .inl (cI, nE R C, .inl (fun jz => nI ((va_up f4 (eN R C r c) c) jz)))), (r5, .inl (cZ, nE R C, .inl (fun jz => bI ((va_up f5 (eN R C r c) true) jz)))), (r6, .inl (cI, R * C, .inl (fun jz => eI ((fun _ => 99) jz))))]) 3 2 rfl rfl (by omega) (by omega) rfl dX1_init_165 ?_
                        refine j_iinc (n0 := 3) (v := nI (eN R C r c + 1)) [(3, .int (nI (eN R C r c + 1))), (0, .ref (gq)), (1, .int (nI (R))), (2, .int (nI (C))), (4, .int (nI (r))), (5, .int (nI (c)))] dX1_init_166 rfl (by exact nI_add (eN R C r c) 1) (by decide) rfl ?_
                        refine j_iinc (n0 := 5) (v := nI (c + 1)) [(5, .int (nI (c + 1))), (3, .int (nI (eN R C r c + 1))), (0, .ref (gq)), (1, .int (nI (R))), (2, .int (nI (C))), (4, .int (nI (r)))] dX1_init_169 rfl (by exact nI_add (c) 1) (by decide) rfl ?_
                        refine j_goto (tgt := 106) dX1_init_172 (by decide) ?_
                        refine j_sub [2, 3, 4, 1, 5, 0] [(0, .ref (gq)), (1, .int (nI (R))), (2, .int (nI (C))), (3, .int (nI (eN R C r c + 1))), (4, .int (nI (r))), (5, .int (nI (c + 1)))] rfl ?_
                        have hen := (eN_t hG (show r ≤ R by omega) (show c ≤ C by omega)).2.2.2.1
                        rw [if_neg (show ¬ c < C by omega), if_pos c140] at hen
                        simp only [Nat.add_zero] at hen
                        have hTd := TB_d hT2 d2 d3 d4
                        refine j_lv (lv' := [(0, .ref (gq)), (1, .int (nI (R))), (2, .int (nI (C))), (3, .int (nI (eN R C r (c + 1)))), (4, .int (nI (r))), (5, .int (nI (c + 1)))]) (by rw [hen]) ?_
                        exact ih106 (c + 1) (va_up f3 (eN R C r c) r) (va_up f4 (eN R C r c) c) (va_up f5 (eN R C r c) true) (by omega) (by omega) (by rw [hen]; exact hTd)
                    · obtain ⟨b1, b2, b3, b4⟩ := (eN_t hG (show r ≤ R by omega) (show c ≤ C by omega)).1 c115
                      refine j_aload_n dX1_init_118 rfl 0 rfl ?_
                      refine gf_X1_21 0 rfl (rfl) dX1_init_119 ?_
                      refine j_iload_n dX1_init_122 rfl 3 rfl ?_
                      refine j_iload dX1_init_123 4 rfl ?_
                      refine jn_iastN ([(gq, .inr (1, [.int (nI (R)), .int (nI (C)), .int (nI (nE R C)), .ref (r3), .ref (r4), .ref (r5), .ref (r6)])), (r3, .inl (cI, nE R C, .inl (fun jz => nI ((va_up f3 (eN R C r c) r) jz)))), (r4, .inl (cI, nE R C, .inl (fun jz => nI (f4 jz)))), (r5, .inl (cZ, nE R C, .inl (fun jz => bI (f5 jz)))), (r6, .inl (cI, R * C, .inl (fun jz => eI ((fun _ => 99) jz))))]) 1 0 rfl rfl (by omega) (by omega) rfl dX1_init_125 ?_
                      refine j_aload_n dX1_init_126 rfl 0 rfl ?_
                      refine gf_X1_25 0 rfl (rfl) dX1_init_127 ?_
                      refine j_iload_n dX1_init_130 rfl 3 rfl ?_
                      refine j_iload dX1_init_131 5 rfl ?_
                      refine jn_iastN ([(gq, .inr (1, [.int (nI (R)), .int (nI (C)), .int (nI (nE R C)), .ref (r3), .ref (r4), .ref (r5), .ref (r6)])), (r3, .inl (cI, nE R C, .inl (fun jz => nI ((va_up f3 (eN R C r c) r) jz)))), (r4, .inl (cI, nE R C, .inl (fun jz => nI ((va_up f4 (eN R C r c) c) jz)))), (r5, .inl (cZ, nE R C, .inl (fun jz => bI (f5 jz)))), (r6, .inl (cI, R * C, .inl (fun jz => eI ((fun _ => 99) jz))))]) 2 0 rfl rfl (by omega) (by omega) rfl dX1_init_133 ?_
                      refine j_iinc (n0 := 3) (v := nI (eN R C r c + 1)) [(3, .int (nI (eN R C r c + 1))), (0, .ref (gq)), (1, .int (nI (R))), (2, .int (nI (C))), (4, .int (nI (r))), (5, .int (nI (c)))] dX1_init_134 rfl (by exact nI_add (eN R C r c) 1) (by decide) rfl ?_
                      refine j_iload dX1_init_137 4 rfl ?_
                      refine j_iload_n dX1_init_139 rfl 2 rfl ?_
                      refine jn_icmp_ge (tgt := 169) (a := r) (b := R) (by omega) (by omega) dX1_init_140 (by decide) (fun c140 => ?_) (fun c140 => ?_)
                      · refine j_iinc (n0 := 5) (v := nI (c + 1)) [(5, .int (nI (c + 1))), (3, .int (nI (eN R C r c + 1))), (0, .ref (gq)), (1, .int (nI (R))), (2, .int (nI (C))), (4, .int (nI (r)))] dX1_init_169 rfl (by exact nI_add (c) 1) (by decide) rfl ?_
                        refine j_goto (tgt := 106) dX1_init_172 (by decide) ?_
                        refine j_sub [2, 3, 4, 1, 5, 0] [(0, .ref (gq)), (1, .int (nI (R))), (2, .int (nI (C))), (3, .int (nI (eN R C r c + 1))), (4, .int (nI (r))), (5, .int (nI (c + 1)))] rfl ?_
                        have hen := (eN_t hG (show r ≤ R by omega) (show c ≤ C by omega)).2.2.2.1
                        rw [if_pos c115, if_neg (show ¬ r < R by omega)] at hen
                        simp only [Nat.add_zero] at hen
                        have hTr := TB_r hT2 b2 b3 b4
                        refine j_lv (lv' := [(0, .ref (gq)), (1, .int (nI (R))), (2, .int (nI (C))), (3, .int (nI (eN R C r (c + 1)))), (4, .int (nI (r))), (5, .int (nI (c + 1)))]) (by rw [hen]) ?_
                        exact ih106 (c + 1) (va_up f3 (eN R C r c) r) (va_up f4 (eN R C r c) c) (f5) (by omega) (by omega) (by rw [hen]; exact hTr)
                      · obtain ⟨d1, d2, d3, d4⟩ := (eN_t hG (show r ≤ R by omega) (show c ≤ C by omega)).2.1 c140 c115
                        refine j_aload_n dX1_init_143 rfl 1 rfl ?_
                        refine gf_X1_21 0 rfl (rfl) dX1_init_144 ?_
                        refine j_iload_n dX1_init_147 rfl 0 rfl ?_
                        refine j_iload dX1_init_148 4 rfl ?_
                        refine jn_iastN ([(gq, .inr (1, [.int (nI (R)), .int (nI (C)), .int (nI (nE R C)), .ref (r3), .ref (r4), .ref (r5), .ref (r6)])), (r3, .inl (cI, nE R C, .inl (fun jz => nI ((va_up (va_up f3 (eN R C r c) r) (eN R C r c + 1) r) jz)))), (r4, .inl (cI, nE R C, .inl (fun jz => nI ((va_up f4 (eN R C r c) c) jz)))), (r5, .inl (cZ, nE R C, .inl (fun jz => bI (f5 jz)))), (r6, .inl (cI, R * C, .inl (fun jz => eI ((fun _ => 99) jz))))]) 1 0 rfl rfl (by omega) (by omega) rfl dX1_init_150 ?_
                        refine j_aload_n dX1_init_151 rfl 1 rfl ?_
                        refine gf_X1_25 0 rfl (rfl) dX1_init_152 ?_
                        refine j_iload_n dX1_init_155 rfl 0 rfl ?_
                        refine j_iload dX1_init_156 5 rfl ?_
                        refine jn_iastN ([(gq, .inr (1, [.int (nI (R)), .int (nI (C)), .int (nI (nE R C)), .ref (r3), .ref (r4), .ref (r5), .ref (r6)])), (r3, .inl (cI, nE R C, .inl (fun jz => nI ((va_up (va_up f3 (eN R C r c) r) (eN R C r c + 1) r) jz)))), (r4, .inl (cI, nE R C, .inl (fun jz => nI ((va_up (va_up f4 (eN R C r c) c) (eN R C r c + 1) c) jz)))), (r5, .inl (cZ, nE R C, .inl (fun jz => bI (f5 jz)))), (r6, .inl (cI, R * C, .inl (fun jz => eI ((fun _ => 99) jz))))]) 2 0 rfl rfl (by omega) (by omega) rfl dX1_init_158 ?_
                        refine j_aload_n dX1_init_159 rfl 1 rfl ?_
                        refine gf_X1_28 0 rfl (rfl) dX1_init_160 ?_
                        refine j_iload_n dX1_init_163 rfl 0 rfl ?_
                        refine j_iconst (v := nI (1)) dX1_init_164 (by decide) ?_
                        refine j_st (st' := [.int (bI (true)), .int (nI (eN R C r c + 1)), .ref (r5)]) (by rfl) ?_
                        refine jn_zastB ([(gq, .inr (1, [.int (nI (R)), .int (nI (C)), .int (nI (nE R C)), .ref (r3), .ref (r4), .ref (r5), .ref (r6)])), (r3, .inl (cI, nE R C, .inl (fun jz => nI ((va_up (va_up f3 (eN R C r c) r) (eN R C r c + 1) r) jz)))), (r4, .inl (cI, nE R C, .inl (fun jz => nI ((va_up (va_up f4 (eN R C r c) c) (eN R C r c + 1) c) jz)))), (r5, .inl (cZ, nE R C, .inl (fun jz => bI ((va_up f5 (eN R C r c + 1) true) jz)))), (r6, .inl (cI, R * C, .inl (fun jz => eI ((fun _ => 99) jz))))]) 3 2 rfl rfl (by omega) (by omega) rfl dX1_init_165 ?_
                        refine j_iinc (n0 := 0) (v := nI (eN R C r c + 1 + 1)) [(3, .int (nI (eN R C r c + 1 + 1))), (0, .ref (gq)), (1, .int (nI (R))), (2, .int (nI (C))), (4, .int (nI (r))), (5, .int (nI (c)))] dX1_init_166 rfl (by exact nI_add (eN R C r c + 1) 1) (by decide) rfl ?_
                        refine j_iinc (n0 := 5) (v := nI (c + 1)) [(5, .int (nI (c + 1))), (3, .int (nI (eN R C r c + 1 + 1))), (0, .ref (gq)), (1, .int (nI (R))), (2, .int (nI (C))), (4, .int (nI (r)))] dX1_init_169 rfl (by exact nI_add (c) 1) (by decide) rfl ?_
                        refine j_goto (tgt := 106) dX1_init_172 (by decide) ?_
                        refine j_sub [2, 3, 4, 1, 5, 0] [(0, .ref (gq)), (1, .int (nI (R))), (2, .int (nI (C))), (3, .int (nI (eN R C r c + 1 + 1))), (4, .int (nI (r))), (5, .int (nI (c + 1)))] rfl ?_
                        have hen := (eN_t hG (show r ≤ R by omega) (show c ≤ C by omega)).2.2.2.1
                        rw [if_pos c115, if_pos c140] at hen
                        have hTr := TB_r hT2 b2 b3 b4
                        have hTd := TB_d hTr d2 d3 d4
                        refine j_lv (lv' := [(0, .ref (gq)), (1, .int (nI (R))), (2, .int (nI (C))), (3, .int (nI (eN R C r (c + 1)))), (4, .int (nI (r))), (5, .int (nI (c + 1)))]) (by rw [hen]) ?_
                        exact ih106 (c + 1) (va_up (va_up f3 (eN R C r c) r) (eN R C r c + 1) r) (va_up (va_up f4 (eN R C r c) c) (eN R C r c + 1) c) (va_up f5 (eN R C r c + 1) true) (by omega) (by omega) (by rw [hen]; exact hTd)
              exact loop106 (C + 3) 0 f3 f4 f5 (by omega) (by omega) hT
        exact loop97 (R + 3) 0 z0 z0 no0 (by omega) (by omega) (by rw [eN_0 hG]; exact ⟨fun j h => absurd h (by omega), fun j h => rfl⟩)
      · refine j_aload_n dX1_init_79 rfl 0 rfl ?_
        refine gf_X1_32 0 rfl (rfl) dX1_init_80 ?_
        refine j_iload_n dX1_init_83 rfl 3 rfl ?_
        refine j_iconst (v := (-1)) dX1_init_84 (by decide) ?_
        refine j_st (st' := [.int (eI (99)), .int (nI (i)), .ref (r6)]) (by rfl) ?_
        refine jn_iastE ([(gq, .inr (1, [.int (nI (R)), .int (nI (C)), .int (nI (nE R C)), .ref (r3), .ref (r4), .ref (r5), .ref (r6)])), (r3, .inl (cI, nE R C, .inl (fun jz => nI (z0 jz)))), (r4, .inl (cI, nE R C, .inl (fun jz => nI (z0 jz)))), (r5, .inl (cZ, nE R C, .inl (fun jz => bI (no0 jz)))), (r6, .inl (cI, R * C, .inl (fun jz => eI ((va_up f6 i 99) jz))))]) 4 0 rfl rfl (by omega) (by omega) rfl dX1_init_85 ?_
        refine j_iinc (n0 := 3) (v := nI (i + 1)) [(3, .int (nI (i + 1))), (0, .ref (gq)), (1, .int (nI (R))), (2, .int (nI (C)))] dX1_init_86 rfl (by exact nI_add (i) 1) (by decide) rfl ?_
        refine j_goto (tgt := 70) dX1_init_89 (by decide) ?_
        refine j_sub [1, 2, 3, 0] [(0, .ref (gq)), (1, .int (nI (R))), (2, .int (nI (C))), (3, .int (nI (i + 1)))] rfl ?_
        exact ih70 (i + 1) (va_up f6 i 99) (by omega) (by omega) (fun j h => if h2 : j = i then by rw [h2, va_up_self] else by rw [va_up_ne _ _ h2]; exact hz j (by omega))
  exact loop70 (R * C + 2) 0 z0 (by omega) (by omega) (fun j h => absurd h (by omega))

set_option maxHeartbeats 8000000 in
set_option maxRecDepth 100000 in
theorem c_diagI (l : Launch) (hfl : l.flags = flags0) (D : va_G) (cI cJ cZ : ClassId) (R C : Nat) (hG : GS R C) (dq gq g3 g4 g5 g6 : Nat) : Ct l yX0_init cX0_init 2 none ({ frames := 1, cells := 6, slots := 5110, locals := 12 } : Room) D (tys3 cI cJ cZ) (tys3 cI cJ cZ) [(dq, .inr (0, [.null, .null, .int (nI (0)), .null, .null, .null, .null, .null])), (gq, .inr (1, [.int (nI (R)), .int (nI (C)), .int (nI (nE R C)), .ref (g3), .ref (g4), .ref (g5), .ref (g6)]))] [.ref (dq), .ref (gq)] (fun r u => r = none ∧ ∃ r7 r8 r9 r10 r11 r12 : Nat, u = [(dq, .inr (0, [.ref gq, .ref r7, .int (nI 0), .ref r8, .ref r9, .ref r10, .ref r11, .ref r12])), (gq, .inr (1, [.int (nI R), .int (nI C), .int (nI (nE R C)), .ref g3, .ref g4, .ref g5, .ref g6])), (r7, .inl (cI, nE R C + 2, .inl (fun i => nI (z0 i)))), (r8, .inl (cI, 1014, .inl (fun i => nI (z0 i)))), (r9, .inl (cI, 1014, .inl (fun i => nI (z0 i)))), (r10, .inl (cI, 1014, .inl (fun i => nI (z0 i)))), (r11, .inl (cI, 1014, .inl (fun i => nI (z0 i)))), (r12, .inl (cI, 1014, .inl (fun i => nI (z0 i))))]) 6 5110 := by
  refine Ct.of hfl (by decide) (Nat.le_of_ble_eq_true rfl) ?_
  intro k hR hI0
  have hI := hI0 _ rfl
  have hE := hG.E
  show V k l D (tys3 cI cJ cZ) ({ frames := 1, cells := 6, slots := 5110, locals := 12 } : Room) cX0_init 2 RX0 ([(dq, .inr (0, [.null, .null, .int (nI (0)), .null, .null, .null, .null, .null])), (gq, .inr (1, [.int (nI (R)), .int (nI (C)), .int (nI (nE R C)), .ref (g3), .ref (g4), .ref (g5), .ref (g6)]))]) (0) (0) 0 [(0, .ref (dq)), (1, .ref (gq))] []
  refine j_aload_n dX0_init_0 rfl 0 rfl ?_
  refine j_objInit mw1_64 mw1_19 mw1_20 dX0_init_1 (by decide) (by decide) ?_
  refine j_aload_n dX0_init_4 rfl 0 rfl ?_
  refine j_aload_n dX0_init_5 rfl 1 rfl ?_
  refine pF_X0_9 hI ([(dq, .inr (0, [.ref (gq), .null, .int (nI (0)), .null, .null, .null, .null, .null])), (gq, .inr (1, [.int (nI (R)), .int (nI (C)), .int (nI (nE R C)), .ref (g3), .ref (g4), .ref (g5), .ref (g6)]))]) 0 rfl (Nat.le_of_ble_eq_true rfl) rfl dX0_init_6 ?_
  refine j_aload_n dX0_init_9 rfl 0 rfl ?_
  refine j_aload_n dX0_init_10 rfl 1 rfl ?_
  refine gf_X0_15 1 rfl (rfl) dX0_init_11 ?_
  refine j_iconst (v := nI (2)) dX0_init_14 (by decide) ?_
  refine jn_iadd (v := (nE R C) + 2) dX0_init_15 rfl ?_
  refine j_newaP (atype := .int) (ty := .int) (N := (nE R C) + 2) (a0 := ((nE R C) + 2, .inl (fun i => nI (z0 i)))) 0 rfl (fun _ _ h => h) mw1_57 rfl (vz_n _) (nI_pos (by omega)) (nI_clamp (by omega)) (by first | exact Nat.le_of_ble_eq_true rfl | (show _ * 4 ≤ _; omega) | (show _ * 1 ≤ _; omega)) (show _ + 1 ≤ 6 by omega) (show _ + _ ≤ 5110 by omega) dX0_init_16 ?_
  intro r7
  refine pF_X0_21 hI ([(dq, .inr (0, [.ref (gq), .ref (r7), .int (nI (0)), .null, .null, .null, .null, .null])), (gq, .inr (1, [.int (nI (R)), .int (nI (C)), .int (nI (nE R C)), .ref (g3), .ref (g4), .ref (g5), .ref (g6)])), (r7, .inl (cI, (nE R C) + 2, .inl (fun jz => nI (z0 jz))))]) 0 rfl (Nat.le_of_ble_eq_true rfl) rfl dX0_init_18 ?_
  refine j_aload_n dX0_init_21 rfl 0 rfl ?_
  refine j_iconst (v := nI (0)) dX0_init_22 (by decide) ?_
  refine pf_X0_25 ([(dq, .inr (0, [.ref (gq), .ref (r7), .int (nI (0)), .null, .null, .null, .null, .null])), (gq, .inr (1, [.int (nI (R)), .int (nI (C)), .int (nI (nE R C)), .ref (g3), .ref (g4), .ref (g5), .ref (g6)])), (r7, .inl (cI, (nE R C) + 2, .inl (fun jz => nI (z0 jz))))]) 0 rfl (Nat.le_of_ble_eq_true rfl) rfl dX0_init_23 ?_
  refine j_aload_n dX0_init_26 rfl 0 rfl ?_
  refine j_sipush (v := nI (1014)) dX0_init_27 (by decide) ?_
  refine j_newaP (atype := .int) (ty := .int) (N := 1014) (a0 := (1014, .inl (fun i => nI (z0 i)))) 0 rfl (fun _ _ h => h) mw1_57 rfl (vz_n _) (nI_pos (by omega)) (nI_clamp (by omega)) (by first | exact Nat.le_of_ble_eq_true rfl | (show _ * 4 ≤ _; omega) | (show _ * 1 ≤ _; omega)) (show _ + 1 ≤ 6 by omega) (show _ + _ ≤ 5110 by omega) dX0_init_30 ?_
  intro r8
  refine pF_X0_28 hI ([(dq, .inr (0, [.ref (gq), .ref (r7), .int (nI (0)), .ref (r8), .null, .null, .null, .null])), (gq, .inr (1, [.int (nI (R)), .int (nI (C)), .int (nI (nE R C)), .ref (g3), .ref (g4), .ref (g5), .ref (g6)])), (r7, .inl (cI, (nE R C) + 2, .inl (fun jz => nI (z0 jz)))), (r8, .inl (cI, 1014, .inl (fun jz => nI (z0 jz))))]) 0 rfl (Nat.le_of_ble_eq_true rfl) rfl dX0_init_32 ?_
  refine j_aload_n dX0_init_35 rfl 0 rfl ?_
  refine j_sipush (v := nI (1014)) dX0_init_36 (by decide) ?_
  refine j_newaP (atype := .int) (ty := .int) (N := 1014) (a0 := (1014, .inl (fun i => nI (z0 i)))) 0 rfl (fun _ _ h => h) mw1_57 rfl (vz_n _) (nI_pos (by omega)) (nI_clamp (by omega)) (by first | exact Nat.le_of_ble_eq_true rfl | (show _ * 4 ≤ _; omega) | (show _ * 1 ≤ _; omega)) (show _ + 1 ≤ 6 by omega) (show _ + _ ≤ 5110 by omega) dX0_init_39 ?_
  intro r9
  refine pF_X0_31 hI ([(dq, .inr (0, [.ref (gq), .ref (r7), .int (nI (0)), .ref (r8), .ref (r9), .null, .null, .null])), (gq, .inr (1, [.int (nI (R)), .int (nI (C)), .int (nI (nE R C)), .ref (g3), .ref (g4), .ref (g5), .ref (g6)])), (r7, .inl (cI, (nE R C) + 2, .inl (fun jz => nI (z0 jz)))), (r8, .inl (cI, 1014, .inl (fun jz => nI (z0 jz)))), (r9, .inl (cI, 1014, .inl (fun jz => nI (z0 jz))))]) 0 rfl (Nat.le_of_ble_eq_true rfl) rfl dX0_init_41 ?_
  refine j_aload_n dX0_init_44 rfl 0 rfl ?_
  refine j_sipush (v := nI (1014)) dX0_init_45 (by decide) ?_
  refine j_newaP (atype := .int) (ty := .int) (N := 1014) (a0 := (1014, .inl (fun i => nI (z0 i)))) 0 rfl (fun _ _ h => h) mw1_57 rfl (vz_n _) (nI_pos (by omega)) (nI_clamp (by omega)) (by first | exact Nat.le_of_ble_eq_true rfl | (show _ * 4 ≤ _; omega) | (show _ * 1 ≤ _; omega)) (show _ + 1 ≤ 6 by omega) (show _ + _ ≤ 5110 by omega) dX0_init_48 ?_
  intro r10
  refine pF_X0_34 hI ([(dq, .inr (0, [.ref (gq), .ref (r7), .int (nI (0)), .ref (r8), .ref (r9), .ref (r10), .null, .null])), (gq, .inr (1, [.int (nI (R)), .int (nI (C)), .int (nI (nE R C)), .ref (g3), .ref (g4), .ref (g5), .ref (g6)])), (r7, .inl (cI, (nE R C) + 2, .inl (fun jz => nI (z0 jz)))), (r8, .inl (cI, 1014, .inl (fun jz => nI (z0 jz)))), (r9, .inl (cI, 1014, .inl (fun jz => nI (z0 jz)))), (r10, .inl (cI, 1014, .inl (fun jz => nI (z0 jz))))]) 0 rfl (Nat.le_of_ble_eq_true rfl) rfl dX0_init_50 ?_
  refine j_aload_n dX0_init_53 rfl 0 rfl ?_
  refine j_sipush (v := nI (1014)) dX0_init_54 (by decide) ?_
  refine j_newaP (atype := .int) (ty := .int) (N := 1014) (a0 := (1014, .inl (fun i => nI (z0 i)))) 0 rfl (fun _ _ h => h) mw1_57 rfl (vz_n _) (nI_pos (by omega)) (nI_clamp (by omega)) (by first | exact Nat.le_of_ble_eq_true rfl | (show _ * 4 ≤ _; omega) | (show _ * 1 ≤ _; omega)) (show _ + 1 ≤ 6 by omega) (show _ + _ ≤ 5110 by omega) dX0_init_57 ?_
  intro r11
  refine pF_X0_37 hI ([(dq, .inr (0, [.ref (gq), .ref (r7), .int (nI (0)), .ref (r8), .ref (r9), .ref (r10), .ref (r11), .null])), (gq, .inr (1, [.int (nI (R)), .int (nI (C)), .int (nI (nE R C)), .ref (g3), .ref (g4), .ref (g5), .ref (g6)])), (r7, .inl (cI, (nE R C) + 2, .inl (fun jz => nI (z0 jz)))), (r8, .inl (cI, 1014, .inl (fun jz => nI (z0 jz)))), (r9, .inl (cI, 1014, .inl (fun jz => nI (z0 jz)))), (r10, .inl (cI, 1014, .inl (fun jz => nI (z0 jz)))), (r11, .inl (cI, 1014, .inl (fun jz => nI (z0 jz))))]) 0 rfl (Nat.le_of_ble_eq_true rfl) rfl dX0_init_59 ?_
  refine j_aload_n dX0_init_62 rfl 0 rfl ?_
  refine j_sipush (v := nI (1014)) dX0_init_63 (by decide) ?_
  refine j_newaP (atype := .int) (ty := .int) (N := 1014) (a0 := (1014, .inl (fun i => nI (z0 i)))) 0 rfl (fun _ _ h => h) mw1_57 rfl (vz_n _) (nI_pos (by omega)) (nI_clamp (by omega)) (by first | exact Nat.le_of_ble_eq_true rfl | (show _ * 4 ≤ _; omega) | (show _ * 1 ≤ _; omega)) (show _ + 1 ≤ 6 by omega) (show _ + _ ≤ 5110 by omega) dX0_init_66 ?_
  intro r12
  refine pF_X0_40 hI ([(dq, .inr (0, [.ref (gq), .ref (r7), .int (nI (0)), .ref (r8), .ref (r9), .ref (r10), .ref (r11), .ref (r12)])), (gq, .inr (1, [.int (nI (R)), .int (nI (C)), .int (nI (nE R C)), .ref (g3), .ref (g4), .ref (g5), .ref (g6)])), (r7, .inl (cI, (nE R C) + 2, .inl (fun jz => nI (z0 jz)))), (r8, .inl (cI, 1014, .inl (fun jz => nI (z0 jz)))), (r9, .inl (cI, 1014, .inl (fun jz => nI (z0 jz)))), (r10, .inl (cI, 1014, .inl (fun jz => nI (z0 jz)))), (r11, .inl (cI, 1014, .inl (fun jz => nI (z0 jz)))), (r12, .inl (cI, 1014, .inl (fun jz => nI (z0 jz))))]) 0 rfl (Nat.le_of_ble_eq_true rfl) rfl dX0_init_68 ?_
  refine j_widen (k2 := 6) (n2 := 5110) (by omega) (by omega) ?_
  exact j_vret (tys' := []) rfl hR dX0_init_71 (⟨rfl, r7, r8, r9, r10, r11, r12, rfl⟩)

