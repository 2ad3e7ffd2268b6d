/-! the model's constructor, the whole -/
theorem pt_div {C y x : Nat} (h : x ≤ C) : (y * (C + 1) + x) / (C + 1) = y := by
  rw [Nat.mul_comm, Nat.mul_add_div (by omega), Nat.div_eq_of_lt (by omega), Nat.add_zero]
theorem pt_mod {C y x : Nat} (h : x ≤ C) : (y * (C + 1) + x) % (C + 1) = x := by
  rw [Nat.mul_comm, Nat.mul_add_mod, Nat.mod_eq_of_lt (by omega)]
theorem pq_lt {R C y x : Nat} (hy : y ≤ R) (h : x ≤ C) : y * (C + 1) + x < nP R C := by
  unfold nP
  have h1 : (y + 1) * (C + 1) ≤ (R + 1) * (C + 1) := Nat.mul_le_mul_right _ (by omega)
  rw [Nat.add_mul y, Nat.one_mul] at h1
  omega
theorem pq_le {R C y x : Nat} (h : x ≤ C) (hy : y ≤ R ∨ (y = R + 1 ∧ x = 0)) : y * (C + 1) + x ≤ nP R C := by
  rcases hy with h1 | ⟨h1, h2⟩
  · exact Nat.le_of_lt (pq_lt h1 h)
  · subst h1 h2; exact Nat.le_refl _
theorem jn_r {R C e y x : Nat} (he : e < nE R C) (h1 : tRow R C e = y) (h2 : tCol R C e = x) (h3 : tDown R C e = false) : mLow R C e = y * (C + 1) + x ∧ mHigh R C e = y * (C + 1) + x + 1 ∧ mOne R C e = ccell R C (pd y) x ∧ mOther R C e = ccell R C y x := by
  have e1 : mLow R C e = y * (C + 1) + x := by unfold mLow; rw [if_pos he, h1, h2]
  refine ⟨e1, ?_, ?_, ?_⟩
  · unfold mHigh; rw [if_pos he, e1, h3]; rfl
  · unfold mOne; rw [if_pos he, h1, h2, h3]; rfl
  · unfold mOther; rw [if_pos he, h1, h2]
theorem jn_d {R C e y x : Nat} (he : e < nE R C) (h1 : tRow R C e = y) (h2 : tCol R C e = x) (h3 : tDown R C e = true) : mLow R C e = y * (C + 1) + x ∧ mHigh R C e = y * (C + 1) + x + C + 1 ∧ mOne R C e = ccell R C y (pd x) ∧ mOther R C e = ccell R C y x := by
  have e1 : mLow R C e = y * (C + 1) + x := by unfold mLow; rw [if_pos he, h1, h2]
  refine ⟨e1, ?_, ?_, ?_⟩
  · unfold mHigh; rw [if_pos he, e1, h3]; rfl
  · unfold mOne; rw [if_pos he, h1, h2, h3]; rfl
  · unfold mOther; rw [if_pos he, h1, h2]
theorem TC_0 {R C : Nat} {en fp cf : Nat → Nat} (h1 : ∀ j, j < 80 → en j = 99) (h2 : ∀ j, j < nP R C → fp j = 99) (h3 : ∀ j, nP R C ≤ j → fp j = 0) (h4 : ∀ j, j < 12 → cf j = 99) : TC R C 0 z0 z0 z0 z0 en fp z0 cf z0 := by
  refine ⟨fun j hj => absurd hj (by omega), fun j _ => ⟨rfl, rfl, rfl, rfl⟩, fun p i hp hi => by rw [h1 _ (by omega)]; rfl, fun p hp => ⟨?_, rfl⟩, fun c hc => ⟨by rw [h4 c hc]; rfl, rfl⟩⟩
  split
  · rename_i h; rw [h2 p h]; rfl
  · rename_i h; exact h3 p (by omega)
theorem TC_f {R C : Nat} (hG : GS R C) {lw hg n1 n2 en fp la cf cl : Nat → Nat} (h : TC R C (nE R C) lw hg n1 n2 en fp la cf cl) :
    (∀ j, lw j = mLow R C j) ∧ (∀ j, hg j = mHigh R C j) ∧ (∀ j, n1 j = mOne R C j) ∧ (∀ j, n2 j = mOther R C j) ∧ (∀ j, j < 80 → en j = mEnds R C j) ∧ (∀ j, j < 20 → fp j = mFirst R C j) ∧ (∀ j, j < 20 → la j = mLast R C j) ∧ (∀ j, j < 12 → cf j = mCF R C j) ∧ (∀ j, j < 12 → cl j = mCL R C j) := by
  obtain ⟨t1, t2, t3, t4, t5⟩ := h
  have hRC := hG.RC
  have no : ∀ p, nP R C ≤ p → incE R C (nE R C) p = [] := fun p hp => by
    refine List.filter_eq_nil_iff.mpr fun x hx => ?_
    have h1 := hG.lo (List.mem_range.mp hx)
    have h2 := hG.hi (List.mem_range.mp hx)
    simp
    exact ⟨by omega, by omega⟩
  have nc : ∀ c, c < 12 → R * C ≤ c → sdsE R C (nE R C) c = [] := fun c hc hp => by
    refine List.filter_eq_nil_iff.mpr fun x hx => ?_
    have h1 := hG.one (List.mem_range.mp hx)
    have h2 := hG.oth (List.mem_range.mp hx)
    simp
    exact ⟨by omega, by omega⟩
  refine ⟨fun j => ?_, fun j => ?_, fun j => ?_, fun j => ?_, fun j hj => ?_, fun j hj => ?_, fun j hj => ?_, fun j hj => ?_, fun j hj => ?_⟩
  · rcases Nat.lt_or_ge j (nE R C) with q | q
    · exact (t1 j q).1
    · rw [(t2 j q).1]; unfold mLow; rw [if_neg (by omega)]
  · rcases Nat.lt_or_ge j (nE R C) with q | q
    · exact (t1 j q).2.1
    · rw [(t2 j q).2.1]; unfold mHigh; rw [if_neg (by omega)]
  · rcases Nat.lt_or_ge j (nE R C) with q | q
    · exact (t1 j q).2.2.1
    · rw [(t2 j q).2.2.1]; unfold mOne; rw [if_neg (by omega)]
  · rcases Nat.lt_or_ge j (nE R C) with q | q
    · exact (t1 j q).2.2.2
    · rw [(t2 j q).2.2.2]; unfold mOther; rw [if_neg (by omega)]
  · have h1 := t3 (j / 4) (j % 4) (by omega) (by omega)
    rw [show 4 * (j / 4) + j % 4 = j by omega] at h1
    rw [h1]
    unfold mEnds
    split
    · rfl
    · rw [no _ (by omega)]; rfl
  · rw [(t4 j hj).1]; rfl
  · rw [(t4 j hj).2]
    unfold mLast
    split
    · rfl
    · rw [no _ (by omega)]; rfl
  · rw [(t5 j hj).1]
    unfold mCF
    split
    · rfl
    · rw [nc j hj (by omega)]; rfl
  · rw [(t5 j hj).2]
    unfold mCL
    split
    · rfl
    · rw [nc j hj (by omega)]; rfl
theorem pd_lt {n : Nat} (h : n < 99) : pd n < 100 := by
  unfold pd
  split <;> omega
set_option maxHeartbeats 8000000 in
set_option maxRecDepth 100000 in
theorem c_modI (l : Launch) (hfl : l.flags = flags0) (D : va_G) (cI cJ cZ : ClassId) (R C : Nat) (hG : GS R C) (mq : Nat) (x y : Int32) (hxR : szI 4 x R) (hyC : szI 3 y C) (hcap : (lpA R C (2 ^ (R * C) - 1)).length ≤ 1300) : Ct l yX3_init cX3_init 6 none ({ frames := 6, cells := 20, slots := 14580, locals := 137 } : Room) D (tys3 cI cJ cZ) (tys3 cI cJ cZ) [(mq, .inr (3, [.int (nI (0)), .int (nI (0)), .int (nI (0)), .int (nI (0)), .int (nI (0)), .null, .null, .null, .null, .null, .null, .null, .null, .null, .int (nI (0)), .null, .null, .int (nI (0)), .int (nI (0)), .null, .int (nI (0)), .null, .null, .int (nI (0)), .null, .int (nI (0)), .null, .null, .null, .int (nI (0)), .null, .null]))] [.ref (mq), .int (x), .int (y)] (fun r u => r = none ∧ ∃ q : Nat → Nat, q 0 = mq ∧ MW cI cJ cZ q R C (lpA R C (2 ^ (R * C) - 1)) 0 0 (fun _ => 99) u) 20 14580 := by
  refine Ct.of hfl (by decide) (Nat.le_of_ble_eq_true rfl) ?_
  intro k hR hI0
  have hI := hI0 _ rfl
  have hR4 := hG.2.1
  have hC3 := hG.2.2.2
  have hR1 := hG.1
  have hC1 := hG.2.2.1
  have hE := hG.E
  have hRC := hG.RC
  have hP := hG.P
  show V k l D (tys3 cI cJ cZ) ({ frames := 6, cells := 20, slots := 14580, locals := 137 } : Room) cX3_init 6 RX3 ([(mq, .inr (3, [.int (nI (0)), .int (nI (0)), .int (nI (0)), .int (nI (0)), .int (nI (0)), .null, .null, .null, .null, .null, .null, .null, .null, .null, .int (nI (0)), .null, .null, .int (nI (0)), .int (nI (0)), .null, .int (nI (0)), .null, .null, .int (nI (0)), .null, .int (nI (0)), .null, .null, .null, .int (nI (0)), .null, .null]))]) (0) (0) 0 [(0, .ref (mq)), (1, .int (x)), (2, .int (y))] []
  refine j_aload_n dX3_init_0 rfl 0 rfl ?_
  refine j_objInit mw2_184 mw1_19 mw1_20 dX3_init_1 (by decide) (by decide) ?_
  refine j_aload_n dX3_init_4 rfl 0 rfl ?_
  refine j_bipush (v := nI (31)) dX3_init_5 (by decide) ?_
  refine j_newaP (atype := .int) (ty := .int) (N := 31) (a0 := (31, .inl (fun i => nI (z0 i)))) 0 rfl (fun _ _ h => h) mw1_57 rfl (vz_n _) (nI_pos (by omega)) (nI_clamp (by omega)) (by first | exact Nat.le_of_ble_eq_true rfl | (show _ * 4 ≤ _; omega) | (show _ * 1 ≤ _; omega)) (Nat.le_of_ble_eq_true rfl) (Nat.le_of_ble_eq_true rfl) dX3_init_7 ?_
  intro r5
  refine pF_X3_7 hI ([(mq, .inr (3, [.int (nI (0)), .int (nI (0)), .int (nI (0)), .int (nI (0)), .int (nI (0)), .ref (r5), .null, .null, .null, .null, .null, .null, .null, .null, .int (nI (0)), .null, .null, .int (nI (0)), .int (nI (0)), .null, .int (nI (0)), .null, .null, .int (nI (0)), .null, .int (nI (0)), .null, .null, .null, .int (nI (0)), .null, .null])), (r5, .inl (cI, 31, .inl (fun jz => nI (z0 jz))))]) 0 rfl (Nat.le_of_ble_eq_true rfl) rfl dX3_init_9 ?_
  refine j_aload_n dX3_init_12 rfl 0 rfl ?_
  refine j_bipush (v := nI (31)) dX3_init_13 (by decide) ?_
  refine j_newaP (atype := .int) (ty := .int) (N := 31) (a0 := (31, .inl (fun i => nI (z0 i)))) 0 rfl (fun _ _ h => h) mw1_57 rfl (vz_n _) (nI_pos (by omega)) (nI_clamp (by omega)) (by first | exact Nat.le_of_ble_eq_true rfl | (show _ * 4 ≤ _; omega) | (show _ * 1 ≤ _; omega)) (Nat.le_of_ble_eq_true rfl) (Nat.le_of_ble_eq_true rfl) dX3_init_15 ?_
  intro r6
  refine pF_X3_13 hI ([(mq, .inr (3, [.int (nI (0)), .int (nI (0)), .int (nI (0)), .int (nI (0)), .int (nI (0)), .ref (r5), .ref (r6), .null, .null, .null, .null, .null, .null, .null, .int (nI (0)), .null, .null, .int (nI (0)), .int (nI (0)), .null, .int (nI (0)), .null, .null, .int (nI (0)), .null, .int (nI (0)), .null, .null, .null, .int (nI (0)), .null, .null])), (r5, .inl (cI, 31, .inl (fun jz => nI (z0 jz)))), (r6, .inl (cI, 31, .inl (fun jz => nI (z0 jz))))]) 0 rfl (Nat.le_of_ble_eq_true rfl) rfl dX3_init_17 ?_
  refine j_aload_n dX3_init_20 rfl 0 rfl ?_
  refine j_bipush (v := nI (31)) dX3_init_21 (by decide) ?_
  refine j_newaP (atype := .int) (ty := .int) (N := 31) (a0 := (31, .inl (fun i => nI (z0 i)))) 0 rfl (fun _ _ h => h) mw1_57 rfl (vz_n _) (nI_pos (by omega)) (nI_clamp (by omega)) (by first | exact Nat.le_of_ble_eq_true rfl | (show _ * 4 ≤ _; omega) | (show _ * 1 ≤ _; omega)) (Nat.le_of_ble_eq_true rfl) (Nat.le_of_ble_eq_true rfl) dX3_init_23 ?_
  intro r7
  refine pF_X3_16 hI ([(mq, .inr (3, [.int (nI (0)), .int (nI (0)), .int (nI (0)), .int (nI (0)), .int (nI (0)), .ref (r5), .ref (r6), .ref (r7), .null, .null, .null, .null, .null, .null, .int (nI (0)), .null, .null, .int (nI (0)), .int (nI (0)), .null, .int (nI (0)), .null, .null, .int (nI (0)), .null, .int (nI (0)), .null, .null, .null, .int (nI (0)), .null, .null])), (r5, .inl (cI, 31, .inl (fun jz => nI (z0 jz)))), (r6, .inl (cI, 31, .inl (fun jz => nI (z0 jz)))), (r7, .inl (cI, 31, .inl (fun jz => nI (z0 jz))))]) 0 rfl (Nat.le_of_ble_eq_true rfl) rfl dX3_init_25 ?_
  refine j_aload_n dX3_init_28 rfl 0 rfl ?_
  refine j_bipush (v := nI (31)) dX3_init_29 (by decide) ?_
  refine j_newaP (atype := .int) (ty := .int) (N := 31) (a0 := (31, .inl (fun i => nI (z0 i)))) 0 rfl (fun _ _ h => h) mw1_57 rfl (vz_n _) (nI_pos (by omega)) (nI_clamp (by omega)) (by first | exact Nat.le_of_ble_eq_true rfl | (show _ * 4 ≤ _; omega) | (show _ * 1 ≤ _; omega)) (Nat.le_of_ble_eq_true rfl) (Nat.le_of_ble_eq_true rfl) dX3_init_31 ?_
  intro r8
  refine pF_X3_19 hI ([(mq, .inr (3, [.int (nI (0)), .int (nI (0)), .int (nI (0)), .int (nI (0)), .int (nI (0)), .ref (r5), .ref (r6), .ref (r7), .ref (r8), .null, .null, .null, .null, .null, .int (nI (0)), .null, .null, .int (nI (0)), .int (nI (0)), .null, .int (nI (0)), .null, .null, .int (nI (0)), .null, .int (nI (0)), .null, .null, .null, .int (nI (0)), .null, .null])), (r5, .inl (cI, 31, .inl (fun jz => nI (z0 jz)))), (r6, .inl (cI, 31, .inl (fun jz => nI (z0 jz)))), (r7, .inl (cI, 31, .inl (fun jz => nI (z0 jz)))), (r8, .inl (cI, 31, .inl (fun jz => nI (z0 jz))))]) 0 rfl (Nat.le_of_ble_eq_true rfl) rfl dX3_init_33 ?_
  refine j_aload_n dX3_init_36 rfl 0 rfl ?_
  refine j_bipush (v := nI (80)) dX3_init_37 (by decide) ?_
  refine j_newaP (atype := .int) (ty := .int) (N := 80) (a0 := (80, .inl (fun i => nI (z0 i)))) 0 rfl (fun _ _ h => h) mw1_57 rfl (vz_n _) (nI_pos (by omega)) (nI_clamp (by omega)) (by first | exact Nat.le_of_ble_eq_true rfl | (show _ * 4 ≤ _; omega) | (show _ * 1 ≤ _; omega)) (Nat.le_of_ble_eq_true rfl) (Nat.le_of_ble_eq_true rfl) dX3_init_39 ?_
  intro r9
  refine pF_X3_22 hI ([(mq, .inr (3, [.int (nI (0)), .int (nI (0)), .int (nI (0)), .int (nI (0)), .int (nI (0)), .ref (r5), .ref (r6), .ref (r7), .ref (r8), .ref (r9), .null, .null, .null, .null, .int (nI (0)), .null, .null, .int (nI (0)), .int (nI (0)), .null, .int (nI (0)), .null, .null, .int (nI (0)), .null, .int (nI (0)), .null, .null, .null, .int (nI (0)), .null, .null])), (r5, .inl (cI, 31, .inl (fun jz => nI (z0 jz)))), (r6, .inl (cI, 31, .inl (fun jz => nI (z0 jz)))), (r7, .inl (cI, 31, .inl (fun jz => nI (z0 jz)))), (r8, .inl (cI, 31, .inl (fun jz => nI (z0 jz)))), (r9, .inl (cI, 80, .inl (fun jz => nI (z0 jz))))]) 0 rfl (Nat.le_of_ble_eq_true rfl) rfl dX3_init_41 ?_
  refine j_aload_n dX3_init_44 rfl 0 rfl ?_
  refine j_bipush (v := nI (20)) dX3_init_45 (by decide) ?_
  refine j_newaP (atype := .int) (ty := .int) (N := 20) (a0 := (20, .inl (fun i => nI (z0 i)))) 0 rfl (fun _ _ h => h) mw1_57 rfl (vz_n _) (nI_pos (by omega)) (nI_clamp (by omega)) (by first | exact Nat.le_of_ble_eq_true rfl | (show _ * 4 ≤ _; omega) | (show _ * 1 ≤ _; omega)) (Nat.le_of_ble_eq_true rfl) (Nat.le_of_ble_eq_true rfl) dX3_init_47 ?_
  intro r10
  refine pF_X3_25 hI ([(mq, .inr (3, [.int (nI (0)), .int (nI (0)), .int (nI (0)), .int (nI (0)), .int (nI (0)), .ref (r5), .ref (r6), .ref (r7), .ref (r8), .ref (r9), .ref (r10), .null, .null, .null, .int (nI (0)), .null, .null, .int (nI (0)), .int (nI (0)), .null, .int (nI (0)), .null, .null, .int (nI (0)), .null, .int (nI (0)), .null, .null, .null, .int (nI (0)), .null, .null])), (r5, .inl (cI, 31, .inl (fun jz => nI (z0 jz)))), (r6, .inl (cI, 31, .inl (fun jz => nI (z0 jz)))), (r7, .inl (cI, 31, .inl (fun jz => nI (z0 jz)))), (r8, .inl (cI, 31, .inl (fun jz => nI (z0 jz)))), (r9, .inl (cI, 80, .inl (fun jz => nI (z0 jz)))), (r10, .inl (cI, 20, .inl (fun jz => nI (z0 jz))))]) 0 rfl (Nat.le_of_ble_eq_true rfl) rfl dX3_init_49 ?_
  refine j_aload_n dX3_init_52 rfl 0 rfl ?_
  refine j_bipush (v := nI (20)) dX3_init_53 (by decide) ?_
  refine j_newaP (atype := .int) (ty := .int) (N := 20) (a0 := (20, .inl (fun i => nI (z0 i)))) 0 rfl (fun _ _ h => h) mw1_57 rfl (vz_n _) (nI_pos (by omega)) (nI_clamp (by omega)) (by first | exact Nat.le_of_ble_eq_true rfl | (show _ * 4 ≤ _; omega) | (show _ * 1 ≤ _; omega)) (Nat.le_of_ble_eq_true rfl) (Nat.le_of_ble_eq_true rfl) dX3_init_55 ?_
  intro r11
  refine pF_X3_28 hI ([(mq, .inr (3, [.int (nI (0)), .int (nI (0)), .int (nI (0)), .int (nI (0)), .int (nI (0)), .ref (r5), .ref (r6), .ref (r7), .ref (r8), .ref (r9), .ref (r10), .ref (r11), .null, .null, .int (nI (0)), .null, .null, .int (nI (0)), .int (nI (0)), .null, .int (nI (0)), .null, .null, .int (nI (0)), .null, .int (nI (0)), .null, .null, .null, .int (nI (0)), .null, .null])), (r5, .inl (cI, 31, .inl (fun jz => nI (z0 jz)))), (r6, .inl (cI, 31, .inl (fun jz => nI (z0 jz)))), (r7, .inl (cI, 31, .inl (fun jz => nI (z0 jz)))), (r8, .inl (cI, 31, .inl (fun jz => nI (z0 jz)))), (r9, .inl (cI, 80, .inl (fun jz => nI (z0 jz)))), (r10, .inl (cI, 20, .inl (fun jz => nI (z0 jz)))), (r11, .inl (cI, 20, .inl (fun jz => nI (z0 jz))))]) 0 rfl (Nat.le_of_ble_eq_true rfl) rfl dX3_init_57 ?_
  refine j_aload_n dX3_init_60 rfl 0 rfl ?_
  refine j_bipush (v := nI (12)) dX3_init_61 (by decide) ?_
  refine j_newaP (atype := .int) (ty := .int) (N := 12) (a0 := (12, .inl (fun i => nI (z0 i)))) 0 rfl (fun _ _ h => h) mw1_57 rfl (vz_n _) (nI_pos (by omega)) (nI_clamp (by omega)) (by first | exact Nat.le_of_ble_eq_true rfl | (show _ * 4 ≤ _; omega) | (show _ * 1 ≤ _; omega)) (Nat.le_of_ble_eq_true rfl) (Nat.le_of_ble_eq_true rfl) dX3_init_63 ?_
  intro r12
  refine pF_X3_31 hI ([(mq, .inr (3, [.int (nI (0)), .int (nI (0)), .int (nI (0)), .int (nI (0)), .int (nI (0)), .ref (r5), .ref (r6), .ref (r7), .ref (r8), .ref (r9), .ref (r10), .ref (r11), .ref (r12), .null, .int (nI (0)), .null, .null, .int (nI (0)), .int (nI (0)), .null, .int (nI (0)), .null, .null, .int (nI (0)), .null, .int (nI (0)), .null, .null, .null, .int (nI (0)), .null, .null])), (r5, .inl (cI, 31, .inl (fun jz => nI (z0 jz)))), (r6, .inl (cI, 31, .inl (fun jz => nI (z0 jz)))), (r7, .inl (cI, 31, .inl (fun jz => nI (z0 jz)))), (r8, .inl (cI, 31, .inl (fun jz => nI (z0 jz)))), (r9, .inl (cI, 80, .inl (fun jz => nI (z0 jz)))), (r10, .inl (cI, 20, .inl (fun jz => nI (z0 jz)))), (r11, .inl (cI, 20, .inl (fun jz => nI (z0 jz)))), (r12, .inl (cI, 12, .inl (fun jz => nI (z0 jz))))]) 0 rfl (Nat.le_of_ble_eq_true rfl) rfl dX3_init_65 ?_
  refine j_aload_n dX3_init_68 rfl 0 rfl ?_
  refine j_bipush (v := nI (12)) dX3_init_69 (by decide) ?_
  refine j_newaP (atype := .int) (ty := .int) (N := 12) (a0 := (12, .inl (fun i => nI (z0 i)))) 0 rfl (fun _ _ h => h) mw1_57 rfl (vz_n _) (nI_pos (by omega)) (nI_clamp (by omega)) (by first | exact Nat.le_of_ble_eq_true rfl | (show _ * 4 ≤ _; omega) | (show _ * 1 ≤ _; omega)) (Nat.le_of_ble_eq_true rfl) (Nat.le_of_ble_eq_true rfl) dX3_init_71 ?_
  intro r13
  refine pF_X3_34 hI ([(mq, .inr (3, [.int (nI (0)), .int (nI (0)), .int (nI (0)), .int (nI (0)), .int (nI (0)), .ref (r5), .ref (r6), .ref (r7), .ref (r8), .ref (r9), .ref (r10), .ref (r11), .ref (r12), .ref (r13), .int (nI (0)), .null, .null, .int (nI (0)), .int (nI (0)), .null, .int (nI (0)), .null, .null, .int (nI (0)), .null, .int (nI (0)), .null, .null, .null, .int (nI (0)), .null, .null])), (r5, .inl (cI, 31, .inl (fun jz => nI (z0 jz)))), (r6, .inl (cI, 31, .inl (fun jz => nI (z0 jz)))), (r7, .inl (cI, 31, .inl (fun jz => nI (z0 jz)))), (r8, .inl (cI, 31, .inl (fun jz => nI (z0 jz)))), (r9, .inl (cI, 80, .inl (fun jz => nI (z0 jz)))), (r10, .inl (cI, 20, .inl (fun jz => nI (z0 jz)))), (r11, .inl (cI, 20, .inl (fun jz => nI (z0 jz)))), (r12, .inl (cI, 12, .inl (fun jz => nI (z0 jz)))), (r13, .inl (cI, 12, .inl (fun jz => nI (z0 jz))))]) 0 rfl (Nat.le_of_ble_eq_true rfl) rfl dX3_init_73 ?_
  refine j_aload_n dX3_init_76 rfl 0 rfl ?_
  refine j_sipush (v := nI (1300)) dX3_init_77 (by decide) ?_
  refine j_newaP (atype := .int) (ty := .int) (N := 1300) (a0 := (1300, .inl (fun i => nI (z0 i)))) 0 rfl (fun _ _ h => h) mw1_57 rfl (vz_n _) (nI_pos (by omega)) (nI_clamp (by omega)) (by first | exact Nat.le_of_ble_eq_true rfl | (show _ * 4 ≤ _; omega) | (show _ * 1 ≤ _; omega)) (Nat.le_of_ble_eq_true rfl) (Nat.le_of_ble_eq_true rfl) dX3_init_80 ?_
  intro r15
  refine pF_X3_37 hI ([(mq, .inr (3, [.int (nI (0)), .int (nI (0)), .int (nI (0)), .int (nI (0)), .int (nI (0)), .ref (r5), .ref (r6), .ref (r7), .ref (r8), .ref (r9), .ref (r10), .ref (r11), .ref (r12), .ref (r13), .int (nI (0)), .ref (r15), .null, .int (nI (0)), .int (nI (0)), .null, .int (nI (0)), .null, .null, .int (nI (0)), .null, .int (nI (0)), .null, .null, .null, .int (nI (0)), .null, .null])), (r5, .inl (cI, 31, .inl (fun jz => nI (z0 jz)))), (r6, .inl (cI, 31, .inl (fun jz => nI (z0 jz)))), (r7, .inl (cI, 31, .inl (fun jz => nI (z0 jz)))), (r8, .inl (cI, 31, .inl (fun jz => nI (z0 jz)))), (r9, .inl (cI, 80, .inl (fun jz => nI (z0 jz)))), (r10, .inl (cI, 20, .inl (fun jz => nI (z0 jz)))), (r11, .inl (cI, 20, .inl (fun jz => nI (z0 jz)))), (r12, .inl (cI, 12, .inl (fun jz => nI (z0 jz)))), (r13, .inl (cI, 12, .inl (fun jz => nI (z0 jz)))), (r15, .inl (cI, 1300, .inl (fun jz => nI (z0 jz))))]) 0 rfl (Nat.le_of_ble_eq_true rfl) rfl dX3_init_82 ?_
  refine j_aload_n dX3_init_85 rfl 0 rfl ?_
  refine j_bipush (v := nI (12)) dX3_init_86 (by decide) ?_
  refine j_newaP (atype := .int) (ty := .int) (N := 12) (a0 := (12, .inl (fun i => nI (z0 i)))) 0 rfl (fun _ _ h => h) mw1_57 rfl (vz_n _) (nI_pos (by omega)) (nI_clamp (by omega)) (by first | exact Nat.le_of_ble_eq_true rfl | (show _ * 4 ≤ _; omega) | (show _ * 1 ≤ _; omega)) (Nat.le_of_ble_eq_true rfl) (Nat.le_of_ble_eq_true rfl) dX3_init_88 ?_
  intro r16
  refine pF_X3_40 hI ([(mq, .inr (3, [.int (nI (0)), .int (nI (0)), .int (nI (0)), .int (nI (0)), .int (nI (0)), .ref (r5), .ref (r6), .ref (r7), .ref (r8), .ref (r9), .ref (r10), .ref (r11), .ref (r12), .ref (r13), .int (nI (0)), .ref (r15), .ref (r16), .int (nI (0)), .int (nI (0)), .null, .int (nI (0)), .null, .null, .int (nI (0)), .null, .int (nI (0)), .null, .null, .null, .int (nI (0)), .null, .null])), (r5, .inl (cI, 31, .inl (fun jz => nI (z0 jz)))), (r6, .inl (cI, 31, .inl (fun jz => nI (z0 jz)))), (r7, .inl (cI, 31, .inl (fun jz => nI (z0 jz)))), (r8, .inl (cI, 31, .inl (fun jz => nI (z0 jz)))), (r9, .inl (cI, 80, .inl (fun jz => nI (z0 jz)))), (r10, .inl (cI, 20, .inl (fun jz => nI (z0 jz)))), (r11, .inl (cI, 20, .inl (fun jz => nI (z0 jz)))), (r12, .inl (cI, 12, .inl (fun jz => nI (z0 jz)))), (r13, .inl (cI, 12, .inl (fun jz => nI (z0 jz)))), (r15, .inl (cI, 1300, .inl (fun jz => nI (z0 jz)))), (r16, .inl (cI, 12, .inl (fun jz => nI (z0 jz))))]) 0 rfl (Nat.le_of_ble_eq_true rfl) rfl dX3_init_90 ?_
  refine j_aload_n dX3_init_93 rfl 0 rfl ?_
  refine j_sipush (v := nI (1300)) dX3_init_94 (by decide) ?_
  refine j_newaP (atype := .int) (ty := .int) (N := 1300) (a0 := (1300, .inl (fun i => nI (z0 i)))) 0 rfl (fun _ _ h => h) mw1_57 rfl (vz_n _) (nI_pos (by omega)) (nI_clamp (by omega)) (by first | exact Nat.le_of_ble_eq_true rfl | (show _ * 4 ≤ _; omega) | (show _ * 1 ≤ _; omega)) (Nat.le_of_ble_eq_true rfl) (Nat.le_of_ble_eq_true rfl) dX3_init_97 ?_
  intro r19
  refine pF_X3_43 hI ([(mq, .inr (3, [.int (nI (0)), .int (nI (0)), .int (nI (0)), .int (nI (0)), .int (nI (0)), .ref (r5), .ref (r6), .ref (r7), .ref (r8), .ref (r9), .ref (r10), .ref (r11), .ref (r12), .ref (r13), .int (nI (0)), .ref (r15), .ref (r16), .int (nI (0)), .int (nI (0)), .ref (r19), .int (nI (0)), .null, .null, .int (nI (0)), .null, .int (nI (0)), .null, .null, .null, .int (nI (0)), .null, .null])), (r5, .inl (cI, 31, .inl (fun jz => nI (z0 jz)))), (r6, .inl (cI, 31, .inl (fun jz => nI (z0 jz)))), (r7, .inl (cI, 31, .inl (fun jz => nI (z0 jz)))), (r8, .inl (cI, 31, .inl (fun jz => nI (z0 jz)))), (r9, .inl (cI, 80, .inl (fun jz => nI (z0 jz)))), (r10, .inl (cI, 20, .inl (fun jz => nI (z0 jz)))), (r11, .inl (cI, 20, .inl (fun jz => nI (z0 jz)))), (r12, .inl (cI, 12, .inl (fun jz => nI (z0 jz)))), (r13, .inl (cI, 12, .inl (fun jz => nI (z0 jz)))), (r15, .inl (cI, 1300, .inl (fun jz => nI (z0 jz)))), (r16, .inl (cI, 12, .inl (fun jz => nI (z0 jz)))), (r19, .inl (cI, 1300, .inl (fun jz => nI (z0 jz))))]) 0 rfl (Nat.le_of_ble_eq_true rfl) rfl dX3_init_99 ?_
  refine j_aload_n dX3_init_102 rfl 0 rfl ?_
  refine j_bipush (v := nI (32)) dX3_init_103 (by decide) ?_
  refine j_newaP (atype := .int) (ty := .int) (N := 32) (a0 := (32, .inl (fun i => nI (z0 i)))) 0 rfl (fun _ _ h => h) mw1_57 rfl (vz_n _) (nI_pos (by omega)) (nI_clamp (by omega)) (by first | exact Nat.le_of_ble_eq_true rfl | (show _ * 4 ≤ _; omega) | (show _ * 1 ≤ _; omega)) (Nat.le_of_ble_eq_true rfl) (Nat.le_of_ble_eq_true rfl) dX3_init_105 ?_
  intro r21
  refine pF_X3_46 hI ([(mq, .inr (3, [.int (nI (0)), .int (nI (0)), .int (nI (0)), .int (nI (0)), .int (nI (0)), .ref (r5), .ref (r6), .ref (r7), .ref (r8), .ref (r9), .ref (r10), .ref (r11), .ref (r12), .ref (r13), .int (nI (0)), .ref (r15), .ref (r16), .int (nI (0)), .int (nI (0)), .ref (r19), .int (nI (0)), .ref (r21), .null, .int (nI (0)), .null, .int (nI (0)), .null, .null, .null, .int (nI (0)), .null, .null])), (r5, .inl (cI, 31, .inl (fun jz => nI (z0 jz)))), (r6, .inl (cI, 31, .inl (fun jz => nI (z0 jz)))), (r7, .inl (cI, 31, .inl (fun jz => nI (z0 jz)))), (r8, .inl (cI, 31, .inl (fun jz => nI (z0 jz)))), (r9, .inl (cI, 80, .inl (fun jz => nI (z0 jz)))), (r10, .inl (cI, 20, .inl (fun jz => nI (z0 jz)))), (r11, .inl (cI, 20, .inl (fun jz => nI (z0 jz)))), (r12, .inl (cI, 12, .inl (fun jz => nI (z0 jz)))), (r13, .inl (cI, 12, .inl (fun jz => nI (z0 jz)))), (r15, .inl (cI, 1300, .inl (fun jz => nI (z0 jz)))), (r16, .inl (cI, 12, .inl (fun jz => nI (z0 jz)))), (r19, .inl (cI, 1300, .inl (fun jz => nI (z0 jz)))), (r21, .inl (cI, 32, .inl (fun jz => nI (z0 jz))))]) 0 rfl (Nat.le_of_ble_eq_true rfl) rfl dX3_init_107 ?_
  refine j_aload_n dX3_init_110 rfl 0 rfl ?_
  refine j_bipush (v := nI (32)) dX3_init_111 (by decide) ?_
  refine j_newaP (atype := .int) (ty := .int) (N := 32) (a0 := (32, .inl (fun i => nI (z0 i)))) 0 rfl (fun _ _ h => h) mw1_57 rfl (vz_n _) (nI_pos (by omega)) (nI_clamp (by omega)) (by first | exact Nat.le_of_ble_eq_true rfl | (show _ * 4 ≤ _; omega) | (show _ * 1 ≤ _; omega)) (Nat.le_of_ble_eq_true rfl) (Nat.le_of_ble_eq_true rfl) dX3_init_113 ?_
  intro r22
  refine pF_X3_49 hI ([(mq, .inr (3, [.int (nI (0)), .int (nI (0)), .int (nI (0)), .int (nI (0)), .int (nI (0)), .ref (r5), .ref (r6), .ref (r7), .ref (r8), .ref (r9), .ref (r10), .ref (r11), .ref (r12), .ref (r13), .int (nI (0)), .ref (r15), .ref (r16), .int (nI (0)), .int (nI (0)), .ref (r19), .int (nI (0)), .ref (r21), .ref (r22), .int (nI (0)), .null, .int (nI (0)), .null, .null, .null, .int (nI (0)), .null, .null])), (r5, .inl (cI, 31, .inl (fun jz => nI (z0 jz)))), (r6, .inl (cI, 31, .inl (fun jz => nI (z0 jz)))), (r7, .inl (cI, 31, .inl (fun jz => nI (z0 jz)))), (r8, .inl (cI, 31, .inl (fun jz => nI (z0 jz)))), (r9, .inl (cI, 80, .inl (fun jz => nI (z0 jz)))), (r10, .inl (cI, 20, .inl (fun jz => nI (z0 jz)))), (r11, .inl (cI, 20, .inl (fun jz => nI (z0 jz)))), (r12, .inl (cI, 12, .inl (fun jz => nI (z0 jz)))), (r13, .inl (cI, 12, .inl (fun jz => nI (z0 jz)))), (r15, .inl (cI, 1300, .inl (fun jz => nI (z0 jz)))), (r16, .inl (cI, 12, .inl (fun jz => nI (z0 jz)))), (r19, .inl (cI, 1300, .inl (fun jz => nI (z0 jz)))), (r21, .inl (cI, 32, .inl (fun jz => nI (z0 jz)))), (r22, .inl (cI, 32, .inl (fun jz => nI (z0 jz))))]) 0 rfl (Nat.le_of_ble_eq_true rfl) rfl dX3_init_115 ?_
  refine j_aload_n dX3_init_118 rfl 0 rfl ?_
  refine j_sipush (v := nI (2500)) dX3_init_119 (by decide) ?_
  refine j_newaP (atype := .int) (ty := .int) (N := 2500) (a0 := (2500, .inl (fun i => nI (z0 i)))) 0 rfl (fun _ _ h => h) mw1_57 rfl (vz_n _) (nI_pos (by omega)) (nI_clamp (by omega)) (by first | exact Nat.le_of_ble_eq_true rfl | (show _ * 4 ≤ _; omega) | (show _ * 1 ≤ _; omega)) (Nat.le_of_ble_eq_true rfl) (Nat.le_of_ble_eq_true rfl) dX3_init_122 ?_
  intro r24
  refine pF_X3_52 hI ([(mq, .inr (3, [.int (nI (0)), .int (nI (0)), .int (nI (0)), .int (nI (0)), .int (nI (0)), .ref (r5), .ref (r6), .ref (r7), .ref (r8), .ref (r9), .ref (r10), .ref (r11), .ref (r12), .ref (r13), .int (nI (0)), .ref (r15), .ref (r16), .int (nI (0)), .int (nI (0)), .ref (r19), .int (nI (0)), .ref (r21), .ref (r22), .int (nI (0)), .ref (r24), .int (nI (0)), .null, .null, .null, .int (nI (0)), .null, .null])), (r5, .inl (cI, 31, .inl (fun jz => nI (z0 jz)))), (r6, .inl (cI, 31, .inl (fun jz => nI (z0 jz)))), (r7, .inl (cI, 31, .inl (fun jz => nI (z0 jz)))), (r8, .inl (cI, 31, .inl (fun jz => nI (z0 jz)))), (r9, .inl (cI, 80, .inl (fun jz => nI (z0 jz)))), (r10, .inl (cI, 20, .inl (fun jz => nI (z0 jz)))), (r11, .inl (cI, 20, .inl (fun jz => nI (z0 jz)))), (r12, .inl (cI, 12, .inl (fun jz => nI (z0 jz)))), (r13, .inl (cI, 12, .inl (fun jz => nI (z0 jz)))), (r15, .inl (cI, 1300, .inl (fun jz => nI (z0 jz)))), (r16, .inl (cI, 12, .inl (fun jz => nI (z0 jz)))), (r19, .inl (cI, 1300, .inl (fun jz => nI (z0 jz)))), (r21, .inl (cI, 32, .inl (fun jz => nI (z0 jz)))), (r22, .inl (cI, 32, .inl (fun jz => nI (z0 jz)))), (r24, .inl (cI, 2500, .inl (fun jz => nI (z0 jz))))]) 0 rfl (Nat.le_of_ble_eq_true rfl) rfl dX3_init_124 ?_
  refine j_aload_n dX3_init_127 rfl 0 rfl ?_
  refine j_sipush (v := nI (2500)) dX3_init_128 (by decide) ?_
  refine j_newaP (atype := .int) (ty := .int) (N := 2500) (a0 := (2500, .inl (fun i => nI (z0 i)))) 0 rfl (fun _ _ h => h) mw1_57 rfl (vz_n _) (nI_pos (by omega)) (nI_clamp (by omega)) (by first | exact Nat.le_of_ble_eq_true rfl | (show _ * 4 ≤ _; omega) | (show _ * 1 ≤ _; omega)) (Nat.le_of_ble_eq_true rfl) (Nat.le_of_ble_eq_true rfl) dX3_init_131 ?_
  intro r26
  refine pF_X3_55 hI ([(mq, .inr (3, [.int (nI (0)), .int (nI (0)), .int (nI (0)), .int (nI (0)), .int (nI (0)), .ref (r5), .ref (r6), .ref (r7), .ref (r8), .ref (r9), .ref (r10), .ref (r11), .ref (r12), .ref (r13), .int (nI (0)), .ref (r15), .ref (r16), .int (nI (0)), .int (nI (0)), .ref (r19), .int (nI (0)), .ref (r21), .ref (r22), .int (nI (0)), .ref (r24), .int (nI (0)), .ref (r26), .null, .null, .int (nI (0)), .null, .null])), (r5, .inl (cI, 31, .inl (fun jz => nI (z0 jz)))), (r6, .inl (cI, 31, .inl (fun jz => nI (z0 jz)))), (r7, .inl (cI, 31, .inl (fun jz => nI (z0 jz)))), (r8, .inl (cI, 31, .inl (fun jz => nI (z0 jz)))), (r9, .inl (cI, 80, .inl (fun jz => nI (z0 jz)))), (r10, .inl (cI, 20, .inl (fun jz => nI (z0 jz)))), (r11, .inl (cI, 20, .inl (fun jz => nI (z0 jz)))), (r12, .inl (cI, 12, .inl (fun jz => nI (z0 jz)))), (r13, .inl (cI, 12, .inl (fun jz => nI (z0 jz)))), (r15, .inl (cI, 1300, .inl (fun jz => nI (z0 jz)))), (r16, .inl (cI, 12, .inl (fun jz => nI (z0 jz)))), (r19, .inl (cI, 1300, .inl (fun jz => nI (z0 jz)))), (r21, .inl (cI, 32, .inl (fun jz => nI (z0 jz)))), (r22, .inl (cI, 32, .inl (fun jz => nI (z0 jz)))), (r24, .inl (cI, 2500, .inl (fun jz => nI (z0 jz)))), (r26, .inl (cI, 2500, .inl (fun jz => nI (z0 jz))))]) 0 rfl (Nat.le_of_ble_eq_true rfl) rfl dX3_init_133 ?_
  refine j_aload_n dX3_init_136 rfl 0 rfl ?_
  refine j_sipush (v := nI (2500)) dX3_init_137 (by decide) ?_
  refine j_newaP (atype := .long) (ty := .long) (N := 2500) (a0 := (2500, .inr (.inl zL))) 1 rfl (fun _ _ h => h) mw3_104 rfl (vz_l _) (nI_pos (by omega)) (nI_clamp (by omega)) (by first | exact Nat.le_of_ble_eq_true rfl | (show _ * 4 ≤ _; omega) | (show _ * 1 ≤ _; omega)) (Nat.le_of_ble_eq_true rfl) (Nat.le_of_ble_eq_true rfl) dX3_init_140 ?_
  intro r27
  refine pF_X3_58 hI ([(mq, .inr (3, [.int (nI (0)), .int (nI (0)), .int (nI (0)), .int (nI (0)), .int (nI (0)), .ref (r5), .ref (r6), .ref (r7), .ref (r8), .ref (r9), .ref (r10), .ref (r11), .ref (r12), .ref (r13), .int (nI (0)), .ref (r15), .ref (r16), .int (nI (0)), .int (nI (0)), .ref (r19), .int (nI (0)), .ref (r21), .ref (r22), .int (nI (0)), .ref (r24), .int (nI (0)), .ref (r26), .ref (r27), .null, .int (nI (0)), .null, .null])), (r5, .inl (cI, 31, .inl (fun jz => nI (z0 jz)))), (r6, .inl (cI, 31, .inl (fun jz => nI (z0 jz)))), (r7, .inl (cI, 31, .inl (fun jz => nI (z0 jz)))), (r8, .inl (cI, 31, .inl (fun jz => nI (z0 jz)))), (r9, .inl (cI, 80, .inl (fun jz => nI (z0 jz)))), (r10, .inl (cI, 20, .inl (fun jz => nI (z0 jz)))), (r11, .inl (cI, 20, .inl (fun jz => nI (z0 jz)))), (r12, .inl (cI, 12, .inl (fun jz => nI (z0 jz)))), (r13, .inl (cI, 12, .inl (fun jz => nI (z0 jz)))), (r15, .inl (cI, 1300, .inl (fun jz => nI (z0 jz)))), (r16, .inl (cI, 12, .inl (fun jz => nI (z0 jz)))), (r19, .inl (cI, 1300, .inl (fun jz => nI (z0 jz)))), (r21, .inl (cI, 32, .inl (fun jz => nI (z0 jz)))), (r22, .inl (cI, 32, .inl (fun jz => nI (z0 jz)))), (r24, .inl (cI, 2500, .inl (fun jz => nI (z0 jz)))), (r26, .inl (cI, 2500, .inl (fun jz => nI (z0 jz)))), (r27, .inl (cJ, 2500, .inr (.inl (zL))))]) 0 rfl (Nat.le_of_ble_eq_true rfl) rfl dX3_init_142 ?_
  refine j_aload_n dX3_init_145 rfl 0 rfl ?_
  refine j_sipush (v := nI (4096)) dX3_init_146 (by decide) ?_
  refine j_newaP (atype := .int) (ty := .int) (N := 4096) (a0 := (4096, .inl (fun i => nI (z0 i)))) 0 rfl (fun _ _ h => h) mw1_57 rfl (vz_n _) (nI_pos (by omega)) (nI_clamp (by omega)) (by first | exact Nat.le_of_ble_eq_true rfl | (show _ * 4 ≤ _; omega) | (show _ * 1 ≤ _; omega)) (Nat.le_of_ble_eq_true rfl) (Nat.le_of_ble_eq_true rfl) dX3_init_149 ?_
  intro r28
  refine pF_X3_62 hI ([(mq, .inr (3, [.int (nI (0)), .int (nI (0)), .int (nI (0)), .int (nI (0)), .int (nI (0)), .ref (r5), .ref (r6), .ref (r7), .ref (r8), .ref (r9), .ref (r10), .ref (r11), .ref (r12), .ref (r13), .int (nI (0)), .ref (r15), .ref (r16), .int (nI (0)), .int (nI (0)), .ref (r19), .int (nI (0)), .ref (r21), .ref (r22), .int (nI (0)), .ref (r24), .int (nI (0)), .ref (r26), .ref (r27), .ref (r28), .int (nI (0)), .null, .null])), (r5, .inl (cI, 31, .inl (fun jz => nI (z0 jz)))), (r6, .inl (cI, 31, .inl (fun jz => nI (z0 jz)))), (r7, .inl (cI, 31, .inl (fun jz => nI (z0 jz)))), (r8, .inl (cI, 31, .inl (fun jz => nI (z0 jz)))), (r9, .inl (cI, 80, .inl (fun jz => nI (z0 jz)))), (r10, .inl (cI, 20, .inl (fun jz => nI (z0 jz)))), (r11, .inl (cI, 20, .inl (fun jz => nI (z0 jz)))), (r12, .inl (cI, 12, .inl (fun jz => nI (z0 jz)))), (r13, .inl (cI, 12, .inl (fun jz => nI (z0 jz)))), (r15, .inl (cI, 1300, .inl (fun jz => nI (z0 jz)))), (r16, .inl (cI, 12, .inl (fun jz => nI (z0 jz)))), (r19, .inl (cI, 1300, .inl (fun jz => nI (z0 jz)))), (r21, .inl (cI, 32, .inl (fun jz => nI (z0 jz)))), (r22, .inl (cI, 32, .inl (fun jz => nI (z0 jz)))), (r24, .inl (cI, 2500, .inl (fun jz => nI (z0 jz)))), (r26, .inl (cI, 2500, .inl (fun jz => nI (z0 jz)))), (r27, .inl (cJ, 2500, .inr (.inl (zL)))), (r28, .inl (cI, 4096, .inl (fun jz => nI (z0 jz))))]) 0 rfl (Nat.le_of_ble_eq_true rfl) rfl dX3_init_151 ?_
  refine j_aload_n dX3_init_154 rfl 0 rfl ?_
  refine j_bipush (v := nI (20)) dX3_init_155 (by decide) ?_
  refine j_newaP (atype := .int) (ty := .int) (N := 20) (a0 := (20, .inl (fun i => nI (z0 i)))) 0 rfl (fun _ _ h => h) mw1_57 rfl (vz_n _) (nI_pos (by omega)) (nI_clamp (by omega)) (by first | exact Nat.le_of_ble_eq_true rfl | (show _ * 4 ≤ _; omega) | (show _ * 1 ≤ _; omega)) (Nat.le_of_ble_eq_true rfl) (Nat.le_of_ble_eq_true rfl) dX3_init_157 ?_
  intro r30
  refine pF_X3_65 hI ([(mq, .inr (3, [.int (nI (0)), .int (nI (0)), .int (nI (0)), .int (nI (0)), .int (nI (0)), .ref (r5), .ref (r6), .ref (r7), .ref (r8), .ref (r9), .ref (r10), .ref (r11), .ref (r12), .ref (r13), .int (nI (0)), .ref (r15), .ref (r16), .int (nI (0)), .int (nI (0)), .ref (r19), .int (nI (0)), .ref (r21), .ref (r22), .int (nI (0)), .ref (r24), .int (nI (0)), .ref (r26), .ref (r27), .ref (r28), .int (nI (0)), .ref (r30), .null])), (r5, .inl (cI, 31, .inl (fun jz => nI (z0 jz)))), (r6, .inl (cI, 31, .inl (fun jz => nI (z0 jz)))), (r7, .inl (cI, 31, .inl (fun jz => nI (z0 jz)))), (r8, .inl (cI, 31, .inl (fun jz => nI (z0 jz)))), (r9, .inl (cI, 80, .inl (fun jz => nI (z0 jz)))), (r10, .inl (cI, 20, .inl (fun jz => nI (z0 jz)))), (r11, .inl (cI, 20, .inl (fun jz => nI (z0 jz)))), (r12, .inl (cI, 12, .inl (fun jz => nI (z0 jz)))), (r13, .inl (cI, 12, .inl (fun jz => nI (z0 jz)))), (r15, .inl (cI, 1300, .inl (fun jz => nI (z0 jz)))), (r16, .inl (cI, 12, .inl (fun jz => nI (z0 jz)))), (r19, .inl (cI, 1300, .inl (fun jz => nI (z0 jz)))), (r21, .inl (cI, 32, .inl (fun jz => nI (z0 jz)))), (r22, .inl (cI, 32, .inl (fun jz => nI (z0 jz)))), (r24, .inl (cI, 2500, .inl (fun jz => nI (z0 jz)))), (r26, .inl (cI, 2500, .inl (fun jz => nI (z0 jz)))), (r27, .inl (cJ, 2500, .inr (.inl (zL)))), (r28, .inl (cI, 4096, .inl (fun jz => nI (z0 jz)))), (r30, .inl (cI, 20, .inl (fun jz => nI (z0 jz))))]) 0 rfl (Nat.le_of_ble_eq_true rfl) rfl dX3_init_159 ?_
  refine j_aload_n dX3_init_162 rfl 0 rfl ?_
  refine j_bipush (v := nI (20)) dX3_init_163 (by decide) ?_
  refine j_newaP (atype := .boolean) (ty := .boolean) (N := 20) (a0 := (20, .inl (fun i => bI (no0 i)))) 2 rfl (fun _ _ h => h) mw1_58 rfl (vz_b _) (nI_pos (by omega)) (nI_clamp (by omega)) (by first | exact Nat.le_of_ble_eq_true rfl | (show _ * 4 ≤ _; omega) | (show _ * 1 ≤ _; omega)) (Nat.le_of_ble_eq_true rfl) (Nat.le_of_ble_eq_true rfl) dX3_init_165 ?_
  intro r31
  refine pF_X3_68 hI ([(mq, .inr (3, [.int (nI (0)), .int (nI (0)), .int (nI (0)), .int (nI (0)), .int (nI (0)), .ref (r5), .ref (r6), .ref (r7), .ref (r8), .ref (r9), .ref (r10), .ref (r11), .ref (r12), .ref (r13), .int (nI (0)), .ref (r15), .ref (r16), .int (nI (0)), .int (nI (0)), .ref (r19), .int (nI (0)), .ref (r21), .ref (r22), .int (nI (0)), .ref (r24), .int (nI (0)), .ref (r26), .ref (r27), .ref (r28), .int (nI (0)), .ref (r30), .ref (r31)])), (r5, .inl (cI, 31, .inl (fun jz => nI (z0 jz)))), (r6, .inl (cI, 31, .inl (fun jz => nI (z0 jz)))), (r7, .inl (cI, 31, .inl (fun jz => nI (z0 jz)))), (r8, .inl (cI, 31, .inl (fun jz => nI (z0 jz)))), (r9, .inl (cI, 80, .inl (fun jz => nI (z0 jz)))), (r10, .inl (cI, 20, .inl (fun jz => nI (z0 jz)))), (r11, .inl (cI, 20, .inl (fun jz => nI (z0 jz)))), (r12, .inl (cI, 12, .inl (fun jz => nI (z0 jz)))), (r13, .inl (cI, 12, .inl (fun jz => nI (z0 jz)))), (r15, .inl (cI, 1300, .inl (fun jz => nI (z0 jz)))), (r16, .inl (cI, 12, .inl (fun jz => nI (z0 jz)))), (r19, .inl (cI, 1300, .inl (fun jz => nI (z0 jz)))), (r21, .inl (cI, 32, .inl (fun jz => nI (z0 jz)))), (r22, .inl (cI, 32, .inl (fun jz => nI (z0 jz)))), (r24, .inl (cI, 2500, .inl (fun jz => nI (z0 jz)))), (r26, .inl (cI, 2500, .inl (fun jz => nI (z0 jz)))), (r27, .inl (cJ, 2500, .inr (.inl (zL)))), (r28, .inl (cI, 4096, .inl (fun jz => nI (z0 jz)))), (r30, .inl (cI, 20, .inl (fun jz => nI (z0 jz)))), (r31, .inl (cZ, 20, .inl (fun jz => bI (no0 jz))))]) 0 rfl (Nat.le_of_ble_eq_true rfl) rfl dX3_init_167 ?_
  refine j_aload_n dX3_init_170 rfl 0 rfl ?_
  refine j_iload_n dX3_init_171 rfl 1 rfl ?_
  refine j_iconst (v := nI (1)) dX3_init_172 (by decide) ?_
  refine j_icmp_lt (tgt := 181) dX3_init_173 (by decide) (fun c173 => ?_) (fun c173 => ?_)
  · refine j_iconst (v := nI (2)) dX3_init_181 (by decide) ?_
    refine j_goto (tgt := 186) dX3_init_182 (by decide) ?_
    have eR : R = 2 := szI_f (by decide) hxR (by first | exact Or.inl c173 | exact Or.inr (by rw [Int32.lt_iff_toInt_lt]; rw [Int32.le_iff_toInt_le] at c178; omega))
    refine j_st (st' := [.int (nI (R)), .ref (mq)]) (by rw [eR]) ?_
    refine pf_X3_72 ([(mq, .inr (3, [.int (nI (0)), .int (nI (R)), .int (nI (0)), .int (nI (0)), .int (nI (0)), .ref (r5), .ref (r6), .ref (r7), .ref (r8), .ref (r9), .ref (r10), .ref (r11), .ref (r12), .ref (r13), .int (nI (0)), .ref (r15), .ref (r16), .int (nI (0)), .int (nI (0)), .ref (r19), .int (nI (0)), .ref (r21), .ref (r22), .int (nI (0)), .ref (r24), .int (nI (0)), .ref (r26), .ref (r27), .ref (r28), .int (nI (0)), .ref (r30), .ref (r31)])), (r5, .inl (cI, 31, .inl (fun jz => nI (z0 jz)))), (r6, .inl (cI, 31, .inl (fun jz => nI (z0 jz)))), (r7, .inl (cI, 31, .inl (fun jz => nI (z0 jz)))), (r8, .inl (cI, 31, .inl (fun jz => nI (z0 jz)))), (r9, .inl (cI, 80, .inl (fun jz => nI (z0 jz)))), (r10, .inl (cI, 20, .inl (fun jz => nI (z0 jz)))), (r11, .inl (cI, 20, .inl (fun jz => nI (z0 jz)))), (r12, .inl (cI, 12, .inl (fun jz => nI (z0 jz)))), (r13, .inl (cI, 12, .inl (fun jz => nI (z0 jz)))), (r15, .inl (cI, 1300, .inl (fun jz => nI (z0 jz)))), (r16, .inl (cI, 12, .inl (fun jz => nI (z0 jz)))), (r19, .inl (cI, 1300, .inl (fun jz => nI (z0 jz)))), (r21, .inl (cI, 32, .inl (fun jz => nI (z0 jz)))), (r22, .inl (cI, 32, .inl (fun jz => nI (z0 jz)))), (r24, .inl (cI, 2500, .inl (fun jz => nI (z0 jz)))), (r26, .inl (cI, 2500, .inl (fun jz => nI (z0 jz)))), (r27, .inl (cJ, 2500, .inr (.inl (zL)))), (r28, .inl (cI, 4096, .inl (fun jz => nI (z0 jz)))), (r30, .inl (cI, 20, .inl (fun jz => nI (z0 jz)))), (r31, .inl (cZ, 20, .inl (fun jz => bI (no0 jz))))]) 0 rfl (Nat.le_of_ble_eq_true rfl) rfl dX3_init_186 ?_
    refine j_aload_n dX3_init_189 rfl 0 rfl ?_
    refine j_iload_n dX3_init_190 rfl 2 rfl ?_
    refine j_iconst (v := nI (1)) dX3_init_191 (by decide) ?_
    refine j_icmp_lt (tgt := 200) dX3_init_192 (by decide) (fun c192 => ?_) (fun c192 => ?_)
    · refine j_iconst (v := nI (2)) dX3_init_200 (by decide) ?_
      refine j_goto (tgt := 205) dX3_init_201 (by decide) ?_
      have eC : C = 2 := szI_f (by decide) hyC (by first | exact Or.inl c192 | exact Or.inr (by rw [Int32.lt_iff_toInt_lt]; rw [Int32.le_iff_toInt_le] at c197; omega))
      refine j_st (st' := [.int (nI (C)), .ref (mq)]) (by rw [eC]) ?_
      refine pf_X3_76 ([(mq, .inr (3, [.int (nI (0)), .int (nI (R)), .int (nI (C)), .int (nI (0)), .int (nI (0)), .ref (r5), .ref (r6), .ref (r7), .ref (r8), .ref (r9), .ref (r10), .ref (r11), .ref (r12), .ref (r13), .int (nI (0)), .ref (r15), .ref (r16), .int (nI (0)), .int (nI (0)), .ref (r19), .int (nI (0)), .ref (r21), .ref (r22), .int (nI (0)), .ref (r24), .int (nI (0)), .ref (r26), .ref (r27), .ref (r28), .int (nI (0)), .ref (r30), .ref (r31)])), (r5, .inl (cI, 31, .inl (fun jz => nI (z0 jz)))), (r6, .inl (cI, 31, .inl (fun jz => nI (z0 jz)))), (r7, .inl (cI, 31, .inl (fun jz => nI (z0 jz)))), (r8, .inl (cI, 31, .inl (fun jz => nI (z0 jz)))), (r9, .inl (cI, 80, .inl (fun jz => nI (z0 jz)))), (r10, .inl (cI, 20, .inl (fun jz => nI (z0 jz)))), (r11, .inl (cI, 20, .inl (fun jz => nI (z0 jz)))), (r12, .inl (cI, 12, .inl (fun jz => nI (z0 jz)))), (r13, .inl (cI, 12, .inl (fun jz => nI (z0 jz)))), (r15, .inl (cI, 1300, .inl (fun jz => nI (z0 jz)))), (r16, .inl (cI, 12, .inl (fun jz => nI (z0 jz)))), (r19, .inl (cI, 1300, .inl (fun jz => nI (z0 jz)))), (r21, .inl (cI, 32, .inl (fun jz => nI (z0 jz)))), (r22, .inl (cI, 32, .inl (fun jz => nI (z0 jz)))), (r24, .inl (cI, 2500, .inl (fun jz => nI (z0 jz)))), (r26, .inl (cI, 2500, .inl (fun jz => nI (z0 jz)))), (r27, .inl (cJ, 2500, .inr (.inl (zL)))), (r28, .inl (cI, 4096, .inl (fun jz => nI (z0 jz)))), (r30, .inl (cI, 20, .inl (fun jz => nI (z0 jz)))), (r31, .inl (cZ, 20, .inl (fun jz => bI (no0 jz))))]) 0 rfl (Nat.le_of_ble_eq_true rfl) rfl dX3_init_205 ?_
      refine j_aload_n dX3_init_208 rfl 0 rfl ?_
      refine j_aload_n dX3_init_209 rfl 0 rfl ?_
      refine gf_X3_72 0 rfl (rfl) dX3_init_210 ?_
      refine j_iconst (v := nI (1)) dX3_init_213 (by decide) ?_
      refine jn_iadd (v := R + 1) dX3_init_214 rfl ?_
      refine j_aload_n dX3_init_215 rfl 0 rfl ?_
      refine gf_X3_76 0 rfl (rfl) dX3_init_216 ?_
      refine j_iconst (v := nI (1)) dX3_init_219 (by decide) ?_
      refine jn_iadd (v := C + 1) dX3_init_220 rfl ?_
      refine jn_imul (v := (R + 1) * (C + 1)) dX3_init_221 rfl ?_
      refine j_topi (y := nI (nP R C)) (by rfl) ?_
      refine pf_X3_79 ([(mq, .inr (3, [.int (nI (0)), .int (nI (R)), .int (nI (C)), .int (nI (nP R C)), .int (nI (0)), .ref (r5), .ref (r6), .ref (r7), .ref (r8), .ref (r9), .ref (r10), .ref (r11), .ref (r12), .ref (r13), .int (nI (0)), .ref (r15), .ref (r16), .int (nI (0)), .int (nI (0)), .ref (r19), .int (nI (0)), .ref (r21), .ref (r22), .int (nI (0)), .ref (r24), .int (nI (0)), .ref (r26), .ref (r27), .ref (r28), .int (nI (0)), .ref (r30), .ref (r31)])), (r5, .inl (cI, 31, .inl (fun jz => nI (z0 jz)))), (r6, .inl (cI, 31, .inl (fun jz => nI (z0 jz)))), (r7, .inl (cI, 31, .inl (fun jz => nI (z0 jz)))), (r8, .inl (cI, 31, .inl (fun jz => nI (z0 jz)))), (r9, .inl (cI, 80, .inl (fun jz => nI (z0 jz)))), (r10, .inl (cI, 20, .inl (fun jz => nI (z0 jz)))), (r11, .inl (cI, 20, .inl (fun jz => nI (z0 jz)))), (r12, .inl (cI, 12, .inl (fun jz => nI (z0 jz)))), (r13, .inl (cI, 12, .inl (fun jz => nI (z0 jz)))), (r15, .inl (cI, 1300, .inl (fun jz => nI (z0 jz)))), (r16, .inl (cI, 12, .inl (fun jz => nI (z0 jz)))), (r19, .inl (cI, 1300, .inl (fun jz => nI (z0 jz)))), (r21, .inl (cI, 32, .inl (fun jz => nI (z0 jz)))), (r22, .inl (cI, 32, .inl (fun jz => nI (z0 jz)))), (r24, .inl (cI, 2500, .inl (fun jz => nI (z0 jz)))), (r26, .inl (cI, 2500, .inl (fun jz => nI (z0 jz)))), (r27, .inl (cJ, 2500, .inr (.inl (zL)))), (r28, .inl (cI, 4096, .inl (fun jz => nI (z0 jz)))), (r30, .inl (cI, 20, .inl (fun jz => nI (z0 jz)))), (r31, .inl (cZ, 20, .inl (fun jz => bI (no0 jz))))]) 0 rfl (Nat.le_of_ble_eq_true rfl) rfl dX3_init_222 ?_
      refine j_iconst (v := nI (0)) dX3_init_225 (by decide) ?_
      refine j_istore_n [(3, .int (nI (0))), (0, .ref (mq)), (1, .int (x)), (2, .int (y))] dX3_init_226 rfl (by decide) rfl ?_
      obtain ⟨q, hq⟩ : ∃ q : Nat → Nat, q = mkQ [mq, 0, 0, 0, 0, r5, r6, r7, r8, r9, r10, r11, r12, r13, 0, r15, r16, 0, 0, r19, 0, r21, r22, 0, r24, 0, r26, r27, r28, 0, r30, r31] := ⟨_, rfl⟩
      refine j_world (w' := wK cI cJ cZ q R C 0 z0 z0 z0 z0 z0 z0 z0 z0 z0 z0) (by rw [hq]; rfl) ?_
      refine j_sub [1, 0] [(0, .ref (mq)), (3, .int (nI (0)))] rfl ?_
      refine j_lv (lv' := [(0, .ref (q 0)), (3, .int (nI (0)))]) (by rw [hq]; rfl) ?_
      have loop227 : ∀ (n : Nat) (i : Nat) (cf1 cu1 : Nat → Nat), (12 < i + n) → (i ≤ 12) → (∀ j, j < i → cf1 j = 99 ∧ cu1 j = 99) → V k l D (tys3 cI cJ cZ) ({ frames := 6, cells := 20, slots := 14580, locals := 137 } : Room) cX3_init 6 RX3 (wK cI cJ cZ q R C 0 z0 z0 z0 z0 z0 z0 z0 cf1 z0 cu1) (20) (14580) 227 [(0, .ref (q 0)), (3, .int (nI (i)))] [] := by
        intro n
        induction n with
        | zero => intro i cf1 cu1 hm1 hi1 hz1; exfalso; omega
        | succ n ih227 =>
          intro i cf1 cu1 hm1 hi1 hz1
          refine j_iload_n dX3_init_227 rfl 1 rfl ?_
          refine j_bipush (v := nI (12)) dX3_init_228 (by decide) ?_
          refine jn_icmp_ge (tgt := 254) (a := i) (b := 12) (by omega) (by omega) dX3_init_230 (by decide) (fun c230 => ?_) (fun c230 => ?_)
          · refine j_iconst (v := nI (0)) dX3_init_254 (by decide) ?_
            refine j_istore_n [(3, .int (nI (0))), (0, .ref (q 0))] dX3_init_255 rfl (by decide) rfl ?_
            refine j_wext (w2 := wK cI cJ cZ q R C 0 z0 z0 z0 z0 z0 z0 z0 cf1 z0 (fun _ => 99)) (wE_c rfl cE_rfl (wE_c rfl cE_rfl (wE_c rfl cE_rfl (wE_c rfl cE_rfl (wE_c rfl cE_rfl (wE_c rfl cE_rfl (wE_c rfl cE_rfl (wE_c rfl cE_rfl (wE_c rfl cE_rfl (wE_c rfl cE_rfl (wE_c rfl cE_rfl (wE_c rfl (cE_arr (fun j hj => by rw [(hz1 j (by omega)).2])) (wE_c rfl cE_rfl (wE_c rfl cE_rfl (wE_c rfl cE_rfl (wE_c rfl cE_rfl (wE_c rfl cE_rfl (wE_c rfl cE_rfl (wE_c rfl cE_rfl (wE_c rfl cE_rfl (wE_c rfl cE_rfl (wE_n)))))))))))))))))))))) ?_
            refine j_sub [1, 0] [(0, .ref (q 0)), (3, .int (nI (0)))] rfl ?_
            have loop256 : ∀ (n : Nat) (i2 : Nat) (en1 : Nat → Nat), (80 < i2 + n) → (i2 ≤ 80) → (∀ j, j < i2 → en1 j = 99) → V k l D (tys3 cI cJ cZ) ({ frames := 6, cells := 20, slots := 14580, locals := 137 } : Room) cX3_init 6 RX3 (wK cI cJ cZ q R C 0 z0 z0 z0 z0 en1 z0 z0 cf1 z0 (fun _ => 99)) (20) (14580) 256 [(0, .ref (q 0)), (3, .int (nI (i2)))] [] := by
              intro n
              induction n with
              | zero => intro i2 en1 hm2 hi2 hz2; exfalso; omega
              | succ n ih256 =>
                intro i2 en1 hm2 hi2 hz2
                refine j_iload_n dX3_init_256 rfl 1 rfl ?_
                refine j_bipush (v := nI (80)) dX3_init_257 (by decide) ?_
                refine jn_icmp_ge (tgt := 275) (a := i2) (b := 80) (by omega) (by omega) dX3_init_259 (by decide) (fun c259 => ?_) (fun c259 => ?_)
                · refine j_iconst (v := nI (0)) dX3_init_275 (by decide) ?_
                  refine j_istore_n [(3, .int (nI (0))), (0, .ref (q 0))] dX3_init_276 rfl (by decide) rfl ?_
                  refine j_sub [1, 0] [(0, .ref (q 0)), (3, .int (nI (0)))] rfl ?_
                  have loop277 : ∀ (n : Nat) (i3 : Nat) (fp1 : Nat → Nat), (nP R C < i3 + n) → (i3 ≤ nP R C) → (∀ j, j < i3 → fp1 j = 99) → (∀ j, i3 ≤ j → fp1 j = 0) → V k l D (tys3 cI cJ cZ) ({ frames := 6, cells := 20, slots := 14580, locals := 137 } : Room) cX3_init 6 RX3 (wK cI cJ cZ q R C 0 z0 z0 z0 z0 en1 fp1 z0 cf1 z0 (fun _ => 99)) (20) (14580) 277 [(0, .ref (q 0)), (3, .int (nI (i3)))] [] := by
                    intro n
                    induction n with
                    | zero => intro i3 fp1 hm3 hi3 hz3 hy3; exfalso; omega
                    | succ n ih277 =>
                      intro i3 fp1 hm3 hi3 hz3 hy3
                      refine j_iload_n dX3_init_277 rfl 1 rfl ?_
                      refine j_aload_n dX3_init_278 rfl 0 rfl ?_
                      refine gf_X3_79 0 rfl (rfl) dX3_init_279 ?_
                      refine jn_icmp_ge (tgt := 299) (a := i3) (b := nP R C) (by omega) (by omega) dX3_init_282 (by decide) (fun c282 => ?_) (fun c282 => ?_)
                      · refine j_iconst (v := nI (0)) dX3_init_299 (by decide) ?_
                        refine j_istore_n [(3, .int (nI (0))), (0, .ref (q 0))] dX3_init_300 rfl (by decide) rfl ?_
                        have hT0 : TC R C (eN R C 0 0) z0 z0 z0 z0 en1 fp1 z0 cf1 z0 := by rw [eN_0 hG]; exact TC_0 (fun j hj => hz2 j (by omega)) (fun j hj => hz3 j (by omega)) (fun j hj => hy3 j (by omega)) (fun j hj => (hz1 j (by omega)).1)
                        refine j_world (w' := wK cI cJ cZ q R C (eN R C 0 0) z0 z0 z0 z0 en1 fp1 z0 cf1 z0 (fun _ => 99)) (by rw [eN_0 hG]) ?_
                        refine j_lv (lv' := [(3, .int (nI (0 * (C + 1) + 0))), (0, .ref (q 0))]) (by rw [Nat.zero_mul]) ?_
                        refine j_sub [1, 0] [(0, .ref (q 0)), (3, .int (nI (0 * (C + 1) + 0)))] rfl ?_
                        have loop301 : ∀ (n : Nat) (yy xx : Nat) (lw8 hg8 n18 n28 en8 fp8 la8 cf8 cl8 : Nat → Nat), (nP R C < yy * (C + 1) + xx + n) → (xx ≤ C) → (yy ≤ R ∨ (yy = R + 1 ∧ xx = 0)) → (TC R C (eN R C yy xx) lw8 hg8 n18 n28 en8 fp8 la8 cf8 cl8) → V k l D (tys3 cI cJ cZ) ({ frames := 6, cells := 20, slots := 14580, locals := 137 } : Room) cX3_init 6 RX3 (wK cI cJ cZ q R C (eN R C yy xx) lw8 hg8 n18 n28 en8 fp8 la8 cf8 cl8 (fun _ => 99)) (20) (14580) 301 [(0, .ref (q 0)), (3, .int (nI (yy * (C + 1) + xx)))] [] := by
                          intro n
                          induction n with
                          | zero => intro yy xx lw8 hg8 n18 n28 en8 fp8 la8 cf8 cl8 hm4 hxC hyx hT8; exfalso; have := pq_le hxC hyx; omega
                          | succ n ih301 =>
                            intro yy xx lw8 hg8 n18 n28 en8 fp8 la8 cf8 cl8 hm4 hxC hyx hT8
                            have hple := pq_le hxC hyx
                            refine j_iload_n dX3_init_301 rfl 1 rfl ?_
                            refine j_aload_n dX3_init_302 rfl 0 rfl ?_
                            refine gf_X3_79 0 rfl (rfl) dX3_init_303 ?_
                            refine jn_icmp_ge (tgt := 410) (a := yy * (C + 1) + xx) (b := nP R C) (by omega) (by omega) dX3_init_306 (by decide) (fun c306 => ?_) (fun c306 => ?_)
                            · have hxy : yy = R + 1 ∧ xx = 0 := by
                                rcases hyx with h9 | h9
                                · exact absurd (pq_lt h9 hxC) (by omega)
                                · exact h9
                              obtain ⟨h9, h8⟩ := hxy
                              subst h9 h8
                              rw [eN_R] at hT8
                              obtain ⟨f1, f2, f3, f4, f5, f6, f7, f8, f9⟩ := TC_f hG hT8
                              refine j_world (w' := wK cI cJ cZ q R C (nE R C) lw8 hg8 n18 n28 en8 fp8 la8 cf8 cl8 (fun _ => 99)) (by rw [eN_R]) ?_
                              refine j_wext (w2 := wM cI cJ cZ q R C 0 false false 0 0 0 0 0 z0 (fun _ => 99) z0 z0 z0 z0 z0 zL z0 z0 no0) (wE_c rfl cE_rfl (wE_c rfl (cE_arr (fun j hj => by rw [f1])) (wE_c rfl (cE_arr (fun j hj => by rw [f2])) (wE_c rfl (cE_arr (fun j hj => by rw [f3])) (wE_c rfl (cE_arr (fun j hj => by rw [f4])) (wE_c rfl (cE_arr (fun j hj => by rw [f5 j hj])) (wE_c rfl (cE_arr (fun j hj => by rw [f6 j hj])) (wE_c rfl (cE_arr (fun j hj => by rw [f7 j hj])) (wE_c rfl (cE_arr (fun j hj => by rw [f8 j hj])) (wE_c rfl (cE_arr (fun j hj => by rw [f9 j hj])) (wE_c rfl cE_rfl (wE_c rfl cE_rfl (wE_c rfl cE_rfl (wE_c rfl cE_rfl (wE_c rfl cE_rfl (wE_c rfl cE_rfl (wE_c rfl cE_rfl (wE_c rfl cE_rfl (wE_c rfl cE_rfl (wE_c rfl cE_rfl (wE_c rfl cE_rfl (wE_n)))))))))))))))))))))) ?_
                              refine j_aload_n dX3_init_410 rfl 0 rfl ?_
                              refine j_vW (av := []) (c_findLoops l hfl D cI cJ cZ q R C hG 0 false false 0 0 0 0 0 z0 (fun _ => 99) z0 z0 z0 z0 z0 zL z0 z0 no0 (fun p _ => ⟨rfl, rfl⟩) hcap rfl) 0 rfl rfl mw2_201 mw2_203 msel12 mw1_4 mw2_204 rfl hd_X3_findLoops rfl ⟨rfl, rfl⟩ ⟨Nat.le_of_ble_eq_true rfl, Nat.le_of_ble_eq_true rfl⟩ ⟨Nat.le_of_ble_eq_true rfl, Nat.le_of_ble_eq_true rfl⟩ (Nat.le_of_ble_eq_true rfl) rfl dX3_init_411 ?_
                              rintro _ _ ⟨rfl, nl2, lp2, de2, se2, hL2, hJ2, rfl⟩
                              refine j_st (st' := []) rfl ?_
                              exact j_vret (tys' := []) rfl hR dX3_init_414 (⟨rfl, q, by rw [hq]; rfl, MW_of ⟨hL2, (fun h => nomatch h), (fun h => nomatch h), hJ2, by decide⟩⟩)
                            · have hyR : yy ≤ R := by
                                rcases hyx with h9 | ⟨h9, h8⟩
                                · exact h9
                                · exfalso; subst h9 h8; unfold nP at c306; omega
                              refine j_iload_n dX3_init_309 rfl 1 rfl ?_
                              refine j_aload_n dX3_init_310 rfl 0 rfl ?_
                              refine gf_X3_76 0 rfl (rfl) dX3_init_311 ?_
                              refine j_iconst (v := nI (1)) dX3_init_314 (by decide) ?_
                              refine jn_iadd (v := C + 1) dX3_init_315 rfl ?_
                              refine j_idiv dX3_init_316 (fun h => absurd (nI_eq0 (by omega) h) (by omega)) rfl ?_
                              refine j_topi (y := nI (yy)) (by rw [pk_div (by have := pq_lt hyR hxC; omega) (by omega) (by omega), pt_div hxC]) ?_
                              refine j_istore [(4, .int (nI (yy))), (0, .ref (q 0)), (3, .int (nI (yy * (C + 1) + xx)))] dX3_init_317 (by decide) rfl ?_
                              refine j_iload_n dX3_init_319 rfl 2 rfl ?_
                              refine j_aload_n dX3_init_320 rfl 1 rfl ?_
                              refine gf_X3_76 0 rfl (rfl) dX3_init_321 ?_
                              refine j_iconst (v := nI (1)) dX3_init_324 (by decide) ?_
                              refine jn_iadd (v := C + 1) dX3_init_325 rfl ?_
                              refine j_irem dX3_init_326 (fun h => absurd (nI_eq0 (by omega) h) (by omega)) rfl ?_
                              refine j_topi (y := nI (xx)) (by rw [pk_rem (by have := pq_lt hyR hxC; omega) (by omega) (by omega), pt_mod hxC]) ?_
                              refine j_istore [(5, .int (nI (xx))), (4, .int (nI (yy))), (0, .ref (q 0)), (3, .int (nI (yy * (C + 1) + xx)))] dX3_init_327 (by decide) rfl ?_
                              refine j_iload dX3_init_329 0 rfl ?_
                              refine j_aload_n dX3_init_331 rfl 2 rfl ?_
                              refine gf_X3_76 0 rfl (rfl) dX3_init_332 ?_
                              refine jn_icmp_ge (tgt := 364) (a := xx) (b := C) (by omega) (by omega) dX3_init_335 (by decide) (fun c335 => ?_) (fun c335 => ?_)
                              · refine j_iload dX3_init_364 1 rfl ?_
                                refine j_aload_n dX3_init_366 rfl 2 rfl ?_
                                refine gf_X3_72 0 rfl (rfl) dX3_init_367 ?_
                                refine jn_icmp_ge (tgt := 404) (a := yy) (b := R) (by omega) (by omega) dX3_init_370 (by decide) (fun c370 => ?_) (fun c370 => ?_)
                                · refine j_iinc (n0 := 3) (v := nI (yy * (C + 1) + xx + 1)) [(3, .int (nI (yy * (C + 1) + xx + 1))), (5, .int (nI (xx))), (4, .int (nI (yy))), (0, .ref (q 0))] dX3_init_404 rfl (by exact nI_add (yy * (C + 1) + xx) 1) (by decide) rfl ?_
                                  refine j_goto (tgt := 301) dX3_init_407 (by decide) ?_
                                  refine j_sub [3, 0] [(0, .ref (q 0)), (3, .int (nI (yy * (C + 1) + xx + 1)))] rfl ?_
                                  have hen := (eN_t hG hyR hxC).2.2.2
                                  have hen1 := hen.1
                                  rw [if_neg (show ¬ xx < C by omega), if_neg (show ¬ yy < R by omega)] at hen1
                                  simp only [Nat.add_zero] at hen1
                                  have hxe : xx = C := by omega
                                  subst hxe
                                  rw [hen.2] at hen1
                                  rw [← hen1] at hT8 ⊢
                                  have hmul : (yy + 1) * (xx + 1) = yy * (xx + 1) + (xx + 1) := by rw [Nat.add_mul, Nat.one_mul]
                                  refine j_lv (lv' := [(0, .ref (q 0)), (3, .int (nI ((yy + 1) * (xx + 1) + 0)))]) (by rw [hmul]; rfl) ?_
                                  exact ih301 (yy + 1) 0 lw8 hg8 n18 n28 en8 fp8 la8 cf8 cl8 (by omega) (by omega) (by omega) hT8
                                · refine j_aload_n dX3_init_373 rfl 2 rfl ?_
                                  refine j_iload_n dX3_init_374 rfl 3 rfl ?_
                                  refine j_iload_n dX3_init_375 rfl 3 rfl ?_
                                  refine j_aload_n dX3_init_376 rfl 2 rfl ?_
                                  refine gf_X3_76 0 rfl (rfl) dX3_init_377 ?_
                                  refine jn_iadd (v := (yy * (C + 1) + xx) + C) dX3_init_380 rfl ?_
                                  refine j_iconst (v := nI (1)) dX3_init_381 (by decide) ?_
                                  refine jn_iadd (v := ((yy * (C + 1) + xx) + C) + 1) dX3_init_382 rfl ?_
                                  refine j_aload_n dX3_init_383 rfl 2 rfl ?_
                                  refine j_iload dX3_init_384 1 rfl ?_
                                  refine j_iload dX3_init_386 0 rfl ?_
                                  refine j_iconst (v := nI (1)) dX3_init_388 (by decide) ?_
                                  refine j_isub dX3_init_389 rfl ?_
                                  refine j_topi (y := eI (pd xx)) (eI_pd (by omega)) ?_
                                  refine j_st (st' := [.int (eI (pd xx)), .int (eI (yy)), .ref (q 0), .int (nI (((yy * (C + 1) + xx) + C) + 1)), .int (nI (yy * (C + 1) + xx)), .ref (q 0)]) (by rw [eI_ne (show ¬ yy = 99 by omega)]) ?_
                                  refine j_vW (av := [.int (eI (yy)), .int (eI (pd xx))]) (k_cell l hfl D cI cJ cZ q R C hG (eN R C yy xx) lw8 hg8 n18 n28 en8 fp8 la8 cf8 cl8 (fun _ => 99) (yy) (pd xx) (by first | omega | exact pd_lt (by omega)) (by first | omega | exact pd_lt (by omega))) 0 rfl rfl mw2_185 mw2_187 msel8 mw1_4 mw2_188 rfl hd_X3_cell rfl ⟨rfl, rfl⟩ ⟨Nat.le_of_ble_eq_true rfl, Nat.le_of_ble_eq_true rfl⟩ ⟨Nat.le_of_ble_eq_true rfl, Nat.le_of_ble_eq_true rfl⟩ (Nat.le_of_ble_eq_true rfl) rfl dX3_init_390 ?_
                                  rintro _ _ ⟨rfl, rfl⟩
                                  refine j_st (st' := [.int (eI (ccell R C yy (pd xx))), .int (nI (((yy * (C + 1) + xx) + C) + 1)), .int (nI (yy * (C + 1) + xx)), .ref (q 0)]) rfl ?_
                                  refine j_aload_n dX3_init_393 rfl 2 rfl ?_
                                  refine j_iload dX3_init_394 1 rfl ?_
                                  refine j_iload dX3_init_396 0 rfl ?_
                                  refine j_st (st' := [.int (eI (xx)), .int (eI (yy)), .ref (q 0), .int (eI (ccell R C yy (pd xx))), .int (nI (((yy * (C + 1) + xx) + C) + 1)), .int (nI (yy * (C + 1) + xx)), .ref (q 0)]) (by rw [eI_ne (show ¬ xx = 99 by omega), eI_ne (show ¬ yy = 99 by omega)]) ?_
                                  refine j_vW (av := [.int (eI (yy)), .int (eI (xx))]) (k_cell l hfl D cI cJ cZ q R C hG (eN R C yy xx) lw8 hg8 n18 n28 en8 fp8 la8 cf8 cl8 (fun _ => 99) (yy) (xx) (by first | omega | exact pd_lt (by omega)) (by first | omega | exact pd_lt (by omega))) 0 rfl rfl mw2_185 mw2_187 msel8 mw1_4 mw2_188 rfl hd_X3_cell rfl ⟨rfl, rfl⟩ ⟨Nat.le_of_ble_eq_true rfl, Nat.le_of_ble_eq_true rfl⟩ ⟨Nat.le_of_ble_eq_true rfl, Nat.le_of_ble_eq_true rfl⟩ (Nat.le_of_ble_eq_true rfl) rfl dX3_init_398 ?_
                                  rintro _ _ ⟨rfl, rfl⟩
                                  refine j_st (st' := [.int (eI (ccell R C yy xx)), .int (eI (ccell R C yy (pd xx))), .int (nI (((yy * (C + 1) + xx) + C) + 1)), .int (nI (yy * (C + 1) + xx)), .ref (q 0)]) rfl ?_
                                  obtain ⟨d1, d2, d3, d4⟩ := (eN_t hG hyR hxC).2.2.1 c370 c335
                                  obtain ⟨m1, m2, m3, m4⟩ := jn_d d1 d2 d3 d4
                                  refine j_st (st' := [.int (eI (mOther R C (eN R C yy xx))), .int (eI (mOne R C (eN R C yy xx))), .int (nI (mHigh R C (eN R C yy xx))), .int (nI (mLow R C (eN R C yy xx))), .ref (q 0)]) (by rw [m1, m2, m3, m4]) ?_
                                  refine j_vW (av := [.int (nI (mLow R C (eN R C yy xx))), .int (nI (mHigh R C (eN R C yy xx))), .int (eI (mOne R C (eN R C yy xx))), .int (eI (mOther R C (eN R C yy xx)))]) (k_join l hfl D cI cJ cZ q R C hG (eN R C yy xx) lw8 hg8 n18 n28 en8 fp8 la8 cf8 cl8 (fun _ => 99) d1 hT8) 0 rfl rfl mw2_189 mw2_191 msel9 mw1_4 mw2_192 rfl hd_X3_join rfl ⟨rfl, rfl⟩ ⟨Nat.le_of_ble_eq_true rfl, Nat.le_of_ble_eq_true rfl⟩ ⟨Nat.le_of_ble_eq_true rfl, Nat.le_of_ble_eq_true rfl⟩ (Nat.le_of_ble_eq_true rfl) rfl dX3_init_401 ?_
                                  rintro _ _ ⟨rfl, lwb, hgb, nab, nbb, enb, fpb, lab, cfb, clb, hTb, rfl⟩
                                  refine j_st (st' := []) rfl ?_
                                  refine j_iinc (n0 := 3) (v := nI (yy * (C + 1) + xx + 1)) [(3, .int (nI (yy * (C + 1) + xx + 1))), (5, .int (nI (xx))), (4, .int (nI (yy))), (0, .ref (q 0))] dX3_init_404 rfl (by exact nI_add (yy * (C + 1) + xx) 1) (by decide) rfl ?_
                                  refine j_goto (tgt := 301) dX3_init_407 (by decide) ?_
                                  refine j_sub [3, 0] [(0, .ref (q 0)), (3, .int (nI (yy * (C + 1) + xx + 1)))] rfl ?_
                                  have hen := (eN_t hG hyR hxC).2.2.2
                                  have hen1 := hen.1
                                  rw [if_neg (show ¬ xx < C by omega), if_pos c370] at hen1
                                  simp only [Nat.add_zero] at hen1
                                  have hxe : xx = C := by omega
                                  subst hxe
                                  rw [hen.2] at hen1
                                  rw [← hen1] at hTb ⊢
                                  have hmul : (yy + 1) * (xx + 1) = yy * (xx + 1) + (xx + 1) := by rw [Nat.add_mul, Nat.one_mul]
                                  refine j_lv (lv' := [(0, .ref (q 0)), (3, .int (nI ((yy + 1) * (xx + 1) + 0)))]) (by rw [hmul]; rfl) ?_
                                  exact ih301 (yy + 1) 0 lwb hgb nab nbb enb fpb lab cfb clb (by omega) (by omega) (by omega) hTb
                              · refine j_aload_n dX3_init_338 rfl 2 rfl ?_
                                refine j_iload_n dX3_init_339 rfl 3 rfl ?_
                                refine j_iload_n dX3_init_340 rfl 3 rfl ?_
                                refine j_iconst (v := nI (1)) dX3_init_341 (by decide) ?_
                                refine jn_iadd (v := (yy * (C + 1) + xx) + 1) dX3_init_342 rfl ?_
                                refine j_aload_n dX3_init_343 rfl 2 rfl ?_
                                refine j_iload dX3_init_344 1 rfl ?_
                                refine j_iconst (v := nI (1)) dX3_init_346 (by decide) ?_
                                refine j_isub dX3_init_347 rfl ?_
                                refine j_topi (y := eI (pd yy)) (eI_pd (by omega)) ?_
                                refine j_iload dX3_init_348 0 rfl ?_
                                refine j_st (st' := [.int (eI (xx)), .int (eI (pd yy)), .ref (q 0), .int (nI ((yy * (C + 1) + xx) + 1)), .int (nI (yy * (C + 1) + xx)), .ref (q 0)]) (by rw [eI_ne (show ¬ xx = 99 by omega)]) ?_
                                refine j_vW (av := [.int (eI (pd yy)), .int (eI (xx))]) (k_cell l hfl D cI cJ cZ q R C hG (eN R C yy xx) lw8 hg8 n18 n28 en8 fp8 la8 cf8 cl8 (fun _ => 99) (pd yy) (xx) (by first | omega | exact pd_lt (by omega)) (by first | omega | exact pd_lt (by omega))) 0 rfl rfl mw2_185 mw2_187 msel8 mw1_4 mw2_188 rfl hd_X3_cell rfl ⟨rfl, rfl⟩ ⟨Nat.le_of_ble_eq_true rfl, Nat.le_of_ble_eq_true rfl⟩ ⟨Nat.le_of_ble_eq_true rfl, Nat.le_of_ble_eq_true rfl⟩ (Nat.le_of_ble_eq_true rfl) rfl dX3_init_350 ?_
                                rintro _ _ ⟨rfl, rfl⟩
                                refine j_st (st' := [.int (eI (ccell R C (pd yy) xx)), .int (nI ((yy * (C + 1) + xx) + 1)), .int (nI (yy * (C + 1) + xx)), .ref (q 0)]) rfl ?_
                                refine j_aload_n dX3_init_353 rfl 2 rfl ?_
                                refine j_iload dX3_init_354 1 rfl ?_
                                refine j_iload dX3_init_356 0 rfl ?_
                                refine j_st (st' := [.int (eI (xx)), .int (eI (yy)), .ref (q 0), .int (eI (ccell R C (pd yy) xx)), .int (nI ((yy * (C + 1) + xx) + 1)), .int (nI (yy * (C + 1) + xx)), .ref (q 0)]) (by rw [eI_ne (show ¬ xx = 99 by omega), eI_ne (show ¬ yy = 99 by omega)]) ?_
                                refine j_vW (av := [.int (eI (yy)), .int (eI (xx))]) (k_cell l hfl D cI cJ cZ q R C hG (eN R C yy xx) lw8 hg8 n18 n28 en8 fp8 la8 cf8 cl8 (fun _ => 99) (yy) (xx) (by first | omega | exact pd_lt (by omega)) (by first | omega | exact pd_lt (by omega))) 0 rfl rfl mw2_185 mw2_187 msel8 mw1_4 mw2_188 rfl hd_X3_cell rfl ⟨rfl, rfl⟩ ⟨Nat.le_of_ble_eq_true rfl, Nat.le_of_ble_eq_true rfl⟩ ⟨Nat.le_of_ble_eq_true rfl, Nat.le_of_ble_eq_true rfl⟩ (Nat.le_of_ble_eq_true rfl) rfl dX3_init_358 ?_
                                rintro _ _ ⟨rfl, rfl⟩
                                refine j_st (st' := [.int (eI (ccell R C yy xx)), .int (eI (ccell R C (pd yy) xx)), .int (nI ((yy * (C + 1) + xx) + 1)), .int (nI (yy * (C + 1) + xx)), .ref (q 0)]) rfl ?_
                                obtain ⟨b1, b2, b3, b4⟩ := (eN_t hG hyR hxC).1 c335
                                obtain ⟨k1, k2, k3, k4⟩ := jn_r b1 b2 b3 b4
                                refine j_st (st' := [.int (eI (mOther R C (eN R C yy xx))), .int (eI (mOne R C (eN R C yy xx))), .int (nI (mHigh R C (eN R C yy xx))), .int (nI (mLow R C (eN R C yy xx))), .ref (q 0)]) (by rw [k1, k2, k3, k4]) ?_
                                refine j_vW (av := [.int (nI (mLow R C (eN R C yy xx))), .int (nI (mHigh R C (eN R C yy xx))), .int (eI (mOne R C (eN R C yy xx))), .int (eI (mOther R C (eN R C yy xx)))]) (k_join l hfl D cI cJ cZ q R C hG (eN R C yy xx) lw8 hg8 n18 n28 en8 fp8 la8 cf8 cl8 (fun _ => 99) b1 hT8) 0 rfl rfl mw2_189 mw2_191 msel9 mw1_4 mw2_192 rfl hd_X3_join rfl ⟨rfl, rfl⟩ ⟨Nat.le_of_ble_eq_true rfl, Nat.le_of_ble_eq_true rfl⟩ ⟨Nat.le_of_ble_eq_true rfl, Nat.le_of_ble_eq_true rfl⟩ (Nat.le_of_ble_eq_true rfl) rfl dX3_init_361 ?_
                                rintro _ _ ⟨rfl, lwa, hga, naa, nba, ena, fpa, laa, cfa, cla, hTa, rfl⟩
                                refine j_st (st' := []) rfl ?_
                                refine j_iload dX3_init_364 1 rfl ?_
                                refine j_aload_n dX3_init_366 rfl 2 rfl ?_
                                refine gf_X3_72 0 rfl (rfl) dX3_init_367 ?_
                                refine jn_icmp_ge (tgt := 404) (a := yy) (b := R) (by omega) (by omega) dX3_init_370 (by decide) (fun c370 => ?_) (fun c370 => ?_)
                                · refine j_iinc (n0 := 3) (v := nI (yy * (C + 1) + xx + 1)) [(3, .int (nI (yy * (C + 1) + xx + 1))), (5, .int (nI (xx))), (4, .int (nI (yy))), (0, .ref (q 0))] dX3_init_404 rfl (by exact nI_add (yy * (C + 1) + xx) 1) (by decide) rfl ?_
                                  refine j_goto (tgt := 301) dX3_init_407 (by decide) ?_
                                  refine j_sub [3, 0] [(0, .ref (q 0)), (3, .int (nI (yy * (C + 1) + xx + 1)))] rfl ?_
                                  have hen := (eN_t hG hyR hxC).2.2.2
                                  have hen1 := hen.1
                                  rw [if_pos c335, if_neg (show ¬ yy < R by omega)] at hen1
                                  simp only [Nat.add_zero] at hen1
                                  rw [← hen1] at hTa ⊢
                                  exact ih301 yy (xx + 1) lwa hga naa nba ena fpa laa cfa cla (by omega) (by omega) (Or.inl hyR) hTa
                                · refine j_aload_n dX3_init_373 rfl 2 rfl ?_
                                  refine j_iload_n dX3_init_374 rfl 3 rfl ?_
                                  refine j_iload_n dX3_init_375 rfl 3 rfl ?_
                                  refine j_aload_n dX3_init_376 rfl 2 rfl ?_
                                  refine gf_X3_76 0 rfl (rfl) dX3_init_377 ?_
                                  refine jn_iadd (v := (yy * (C + 1) + xx) + C) dX3_init_380 rfl ?_
                                  refine j_iconst (v := nI (1)) dX3_init_381 (by decide) ?_
                                  refine jn_iadd (v := ((yy * (C + 1) + xx) + C) + 1) dX3_init_382 rfl ?_
                                  refine j_aload_n dX3_init_383 rfl 2 rfl ?_
                                  refine j_iload dX3_init_384 1 rfl ?_
                                  refine j_iload dX3_init_386 0 rfl ?_
                                  refine j_iconst (v := nI (1)) dX3_init_388 (by decide) ?_
                                  refine j_isub dX3_init_389 rfl ?_
                                  refine j_topi (y := eI (pd xx)) (eI_pd (by omega)) ?_
                                  refine j_st (st' := [.int (eI (pd xx)), .int (eI (yy)), .ref (q 0), .int (nI (((yy * (C + 1) + xx) + C) + 1)), .int (nI (yy * (C + 1) + xx)), .ref (q 0)]) (by rw [eI_ne (show ¬ yy = 99 by omega)]) ?_
                                  refine j_vW (av := [.int (eI (yy)), .int (eI (pd xx))]) (k_cell l hfl D cI cJ cZ q R C hG (eN R C yy xx + 1) lwa hga naa nba ena fpa laa cfa cla (fun _ => 99) (yy) (pd xx) (by first | omega | exact pd_lt (by omega)) (by first | omega | exact pd_lt (by omega))) 0 rfl rfl mw2_185 mw2_187 msel8 mw1_4 mw2_188 rfl hd_X3_cell rfl ⟨rfl, rfl⟩ ⟨Nat.le_of_ble_eq_true rfl, Nat.le_of_ble_eq_true rfl⟩ ⟨Nat.le_of_ble_eq_true rfl, Nat.le_of_ble_eq_true rfl⟩ (Nat.le_of_ble_eq_true rfl) rfl dX3_init_390 ?_
                                  rintro _ _ ⟨rfl, rfl⟩
                                  refine j_st (st' := [.int (eI (ccell R C yy (pd xx))), .int (nI (((yy * (C + 1) + xx) + C) + 1)), .int (nI (yy * (C + 1) + xx)), .ref (q 0)]) rfl ?_
                                  refine j_aload_n dX3_init_393 rfl 2 rfl ?_
                                  refine j_iload dX3_init_394 1 rfl ?_
                                  refine j_iload dX3_init_396 0 rfl ?_
                                  refine j_st (st' := [.int (eI (xx)), .int (eI (yy)), .ref (q 0), .int (eI (ccell R C yy (pd xx))), .int (nI (((yy * (C + 1) + xx) + C) + 1)), .int (nI (yy * (C + 1) + xx)), .ref (q 0)]) (by rw [eI_ne (show ¬ xx = 99 by omega), eI_ne (show ¬ yy = 99 by omega)]) ?_
                                  refine j_vW (av := [.int (eI (yy)), .int (eI (xx))]) (k_cell l hfl D cI cJ cZ q R C hG (eN R C yy xx + 1) lwa hga naa nba ena fpa laa cfa cla (fun _ => 99) (yy) (xx) (by first | omega | exact pd_lt (by omega)) (by first | omega | exact pd_lt (by omega))) 0 rfl rfl mw2_185 mw2_187 msel8 mw1_4 mw2_188 rfl hd_X3_cell rfl ⟨rfl, rfl⟩ ⟨Nat.le_of_ble_eq_true rfl, Nat.le_of_ble_eq_true rfl⟩ ⟨Nat.le_of_ble_eq_true rfl, Nat.le_of_ble_eq_true rfl⟩ (Nat.le_of_ble_eq_true rfl) rfl dX3_init_398 ?_
                                  rintro _ _ ⟨rfl, rfl⟩
                                  refine j_st (st' := [.int (eI (ccell R C yy xx)), .int (eI (ccell R C yy (pd xx))), .int (nI (((yy * (C + 1) + xx) + C) + 1)), .int (nI (yy * (C + 1) + xx)), .ref (q 0)]) rfl ?_
                                  obtain ⟨d1, d2, d3, d4⟩ := (eN_t hG hyR hxC).2.1 c370 c335
                                  obtain ⟨m1, m2, m3, m4⟩ := jn_d d1 d2 d3 d4
                                  refine j_st (st' := [.int (eI (mOther R C (eN R C yy xx + 1))), .int (eI (mOne R C (eN R C yy xx + 1))), .int (nI (mHigh R C (eN R C yy xx + 1))), .int (nI (mLow R C (eN R C yy xx + 1))), .ref (q 0)]) (by rw [m1, m2, m3, m4]) ?_
                                  refine j_vW (av := [.int (nI (mLow R C (eN R C yy xx + 1))), .int (nI (mHigh R C (eN R C yy xx + 1))), .int (eI (mOne R C (eN R C yy xx + 1))), .int (eI (mOther R C (eN R C yy xx + 1)))]) (k_join l hfl D cI cJ cZ q R C hG (eN R C yy xx + 1) lwa hga naa nba ena fpa laa cfa cla (fun _ => 99) d1 hTa) 0 rfl rfl mw2_189 mw2_191 msel9 mw1_4 mw2_192 rfl hd_X3_join rfl ⟨rfl, rfl⟩ ⟨Nat.le_of_ble_eq_true rfl, Nat.le_of_ble_eq_true rfl⟩ ⟨Nat.le_of_ble_eq_true rfl, Nat.le_of_ble_eq_true rfl⟩ (Nat.le_of_ble_eq_true rfl) rfl dX3_init_401 ?_
                                  rintro _ _ ⟨rfl, lwb, hgb, nab, nbb, enb, fpb, lab, cfb, clb, hTb, rfl⟩
                                  refine j_st (st' := []) rfl ?_
                                  refine j_iinc (n0 := 3) (v := nI (yy * (C + 1) + xx + 1)) [(3, .int (nI (yy * (C + 1) + xx + 1))), (5, .int (nI (xx))), (4, .int (nI (yy))), (0, .ref (q 0))] dX3_init_404 rfl (by exact nI_add (yy * (C + 1) + xx) 1) (by decide) rfl ?_
                                  refine j_goto (tgt := 301) dX3_init_407 (by decide) ?_
                                  refine j_sub [3, 0] [(0, .ref (q 0)), (3, .int (nI (yy * (C + 1) + xx + 1)))] rfl ?_
                                  have hen := (eN_t hG hyR hxC).2.2.2
                                  have hen1 := hen.1
                                  rw [if_pos c335, if_pos c370] at hen1
                                  rw [← hen1] at hTb ⊢
                                  exact ih301 yy (xx + 1) lwb hgb nab nbb enb fpb lab cfb clb (by omega) (by omega) (Or.inl hyR) hTb
                        exact loop301 (nP R C + 2) 0 0 z0 z0 z0 z0 en1 fp1 z0 cf1 z0 (by omega) (by omega) (Or.inl (by omega)) hT0
                      · refine j_aload_n dX3_init_285 rfl 0 rfl ?_
                        refine gf_X3_25 0 rfl (rfl) dX3_init_286 ?_
                        refine j_iload_n dX3_init_289 rfl 1 rfl ?_
                        refine j_bipush (v := nI (99)) dX3_init_290 (by decide) ?_
                        refine jn_iastN (wK cI cJ cZ q R C 0 z0 z0 z0 z0 en1 (va_up fp1 i3 99) z0 cf1 z0 (fun _ => 99)) 6 0 rfl rfl (by omega) (by omega) rfl dX3_init_292 ?_
                        refine j_iinc (n0 := 1) (v := nI (i3 + 1)) [(3, .int (nI (i3 + 1))), (0, .ref (q 0))] dX3_init_293 rfl (by exact nI_add (i3) 1) (by decide) rfl ?_
                        refine j_goto (tgt := 277) dX3_init_296 (by decide) ?_
                        refine j_sub [1, 0] [(0, .ref (q 0)), (3, .int (nI (i3 + 1)))] rfl ?_
                        exact ih277 (i3 + 1) (va_up fp1 i3 99) (by omega) (by omega) (fun j h => if h2 : j = i3 then by rw [h2, va_up_self] else by rw [va_up_ne _ _ h2]; exact hz3 j (by omega)) (fun j h => by rw [va_up_ne _ _ (by omega)]; exact hy3 j (by omega))
                  exact loop277 (nP R C + 2) 0 z0 (by omega) (by omega) (fun j h => absurd h (by omega)) (fun j _ => rfl)
                · refine j_aload_n dX3_init_262 rfl 0 rfl ?_
                  refine gf_X3_22 0 rfl (rfl) dX3_init_263 ?_
                  refine j_iload_n dX3_init_266 rfl 1 rfl ?_
                  refine j_iconst (v := (-1)) dX3_init_267 (by decide) ?_
                  refine j_st (st' := [.int (eI (99)), .int (nI (i2)), .ref (q 9)]) (by rfl) ?_
                  refine jn_iastE (wK cI cJ cZ q R C 0 z0 z0 z0 z0 (va_up en1 i2 99) z0 z0 cf1 z0 (fun _ => 99)) 5 0 rfl rfl (by omega) (by omega) rfl dX3_init_268 ?_
                  refine j_iinc (n0 := 1) (v := nI (i2 + 1)) [(3, .int (nI (i2 + 1))), (0, .ref (q 0))] dX3_init_269 rfl (by exact nI_add (i2) 1) (by decide) rfl ?_
                  refine j_goto (tgt := 256) dX3_init_272 (by decide) ?_
                  refine j_sub [1, 0] [(0, .ref (q 0)), (3, .int (nI (i2 + 1)))] rfl ?_
                  exact ih256 (i2 + 1) (va_up en1 i2 99) (by omega) (by omega) (fun j h => if h2 : j = i2 then by rw [h2, va_up_self] else by rw [va_up_ne _ _ h2]; exact hz2 j (by omega))
            exact loop256 82 0 z0 (by omega) (by omega) (fun j h => absurd h (by omega))
          · refine j_aload_n dX3_init_233 rfl 0 rfl ?_
            refine gf_X3_40 0 rfl (rfl) dX3_init_234 ?_
            refine j_iload_n dX3_init_237 rfl 1 rfl ?_
            refine j_iconst (v := (-1)) dX3_init_238 (by decide) ?_
            refine j_st (st' := [.int (eI (99)), .int (nI (i)), .ref (q 16)]) (by rfl) ?_
            refine jn_iastE (wK cI cJ cZ q R C 0 z0 z0 z0 z0 z0 z0 z0 cf1 z0 (va_up cu1 i 99)) 11 0 rfl rfl (by omega) (by omega) rfl dX3_init_239 ?_
            refine j_aload_n dX3_init_240 rfl 0 rfl ?_
            refine gf_X3_31 0 rfl (rfl) dX3_init_241 ?_
            refine j_iload_n dX3_init_244 rfl 1 rfl ?_
            refine j_bipush (v := nI (99)) dX3_init_245 (by decide) ?_
            refine jn_iastN (wK cI cJ cZ q R C 0 z0 z0 z0 z0 z0 z0 z0 (va_up cf1 i 99) z0 (va_up cu1 i 99)) 8 0 rfl rfl (by omega) (by omega) rfl dX3_init_247 ?_
            refine j_iinc (n0 := 1) (v := nI (i + 1)) [(3, .int (nI (i + 1))), (0, .ref (q 0))] dX3_init_248 rfl (by exact nI_add (i) 1) (by decide) rfl ?_
            refine j_goto (tgt := 227) dX3_init_251 (by decide) ?_
            refine j_sub [1, 0] [(0, .ref (q 0)), (3, .int (nI (i + 1)))] rfl ?_
            exact ih227 (i + 1) (va_up cf1 i 99) (va_up cu1 i 99) (by omega) (by omega) (fun j h => if h2 : j = i then by rw [h2, va_up_self, va_up_self]; exact ⟨rfl, rfl⟩ else by rw [va_up_ne _ _ h2, va_up_ne _ _ h2]; exact hz1 j (by omega))
      exact loop227 14 0 z0 z0 (by omega) (by omega) (fun j h => absurd h (by omega))
    · refine j_iload_n dX3_init_195 rfl 2 rfl ?_
      refine j_iconst (v := nI (3)) dX3_init_196 (by decide) ?_
      refine j_icmp_le (tgt := 204) dX3_init_197 (by decide) (fun c197 => ?_) (fun c197 => ?_)
      · refine j_iload_n dX3_init_204 rfl 2 rfl ?_
        have eC : y = nI C := szI_t (by decide) hyC c192 (fun h => by have h2 := Int32.lt_iff_toInt_lt.mp h; have h3 := Int32.le_iff_toInt_le.mp c197; omega)
        refine j_st (st' := [.int (nI (C)), .ref (mq)]) (by rw [eC]) ?_
        refine pf_X3_76 ([(mq, .inr (3, [.int (nI (0)), .int (nI (R)), .int (nI (C)), .int (nI (0)), .int (nI (0)), .ref (r5), .ref (r6), .ref (r7), .ref (r8), .ref (r9), .ref (r10), .ref (r11), .ref (r12), .ref (r13), .int (nI (0)), .ref (r15), .ref (r16), .int (nI (0)), .int (nI (0)), .ref (r19), .int (nI (0)), .ref (r21), .ref (r22), .int (nI (0)), .ref (r24), .int (nI (0)), .ref (r26), .ref (r27), .ref (r28), .int (nI (0)), .ref (r30), .ref (r31)])), (r5, .inl (cI, 31, .inl (fun jz => nI (z0 jz)))), (r6, .inl (cI, 31, .inl (fun jz => nI (z0 jz)))), (r7, .inl (cI, 31, .inl (fun jz => nI (z0 jz)))), (r8, .inl (cI, 31, .inl (fun jz => nI (z0 jz)))), (r9, .inl (cI, 80, .inl (fun jz => nI (z0 jz)))), (r10, .inl (cI, 20, .inl (fun jz => nI (z0 jz)))), (r11, .inl (cI, 20, .inl (fun jz => nI (z0 jz)))), (r12, .inl (cI, 12, .inl (fun jz => nI (z0 jz)))), (r13, .inl (cI, 12, .inl (fun jz => nI (z0 jz)))), (r15, .inl (cI, 1300, .inl (fun jz => nI (z0 jz)))), (r16, .inl (cI, 12, .inl (fun jz => nI (z0 jz)))), (r19, .inl (cI, 1300, .inl (fun jz => nI (z0 jz)))), (r21, .inl (cI, 32, .inl (fun jz => nI (z0 jz)))), (r22, .inl (cI, 32, .inl (fun jz => nI (z0 jz)))), (r24, .inl (cI, 2500, .inl (fun jz => nI (z0 jz)))), (r26, .inl (cI, 2500, .inl (fun jz => nI (z0 jz)))), (r27, .inl (cJ, 2500, .inr (.inl (zL)))), (r28, .inl (cI, 4096, .inl (fun jz => nI (z0 jz)))), (r30, .inl (cI, 20, .inl (fun jz => nI (z0 jz)))), (r31, .inl (cZ, 20, .inl (fun jz => bI (no0 jz))))]) 0 rfl (Nat.le_of_ble_eq_true rfl) rfl dX3_init_205 ?_
        refine j_aload_n dX3_init_208 rfl 0 rfl ?_
        refine j_aload_n dX3_init_209 rfl 0 rfl ?_
        refine gf_X3_72 0 rfl (rfl) dX3_init_210 ?_
        refine j_iconst (v := nI (1)) dX3_init_213 (by decide) ?_
        refine jn_iadd (v := R + 1) dX3_init_214 rfl ?_
        refine j_aload_n dX3_init_215 rfl 0 rfl ?_
        refine gf_X3_76 0 rfl (rfl) dX3_init_216 ?_
        refine j_iconst (v := nI (1)) dX3_init_219 (by decide) ?_
        refine jn_iadd (v := C + 1) dX3_init_220 rfl ?_
        refine jn_imul (v := (R + 1) * (C + 1)) dX3_init_221 rfl ?_
        refine j_topi (y := nI (nP R C)) (by rfl) ?_
        refine pf_X3_79 ([(mq, .inr (3, [.int (nI (0)), .int (nI (R)), .int (nI (C)), .int (nI (nP R C)), .int (nI (0)), .ref (r5), .ref (r6), .ref (r7), .ref (r8), .ref (r9), .ref (r10), .ref (r11), .ref (r12), .ref (r13), .int (nI (0)), .ref (r15), .ref (r16), .int (nI (0)), .int (nI (0)), .ref (r19), .int (nI (0)), .ref (r21), .ref (r22), .int (nI (0)), .ref (r24), .int (nI (0)), .ref (r26), .ref (r27), .ref (r28), .int (nI (0)), .ref (r30), .ref (r31)])), (r5, .inl (cI, 31, .inl (fun jz => nI (z0 jz)))), (r6, .inl (cI, 31, .inl (fun jz => nI (z0 jz)))), (r7, .inl (cI, 31, .inl (fun jz => nI (z0 jz)))), (r8, .inl (cI, 31, .inl (fun jz => nI (z0 jz)))), (r9, .inl (cI, 80, .inl (fun jz => nI (z0 jz)))), (r10, .inl (cI, 20, .inl (fun jz => nI (z0 jz)))), (r11, .inl (cI, 20, .inl (fun jz => nI (z0 jz)))), (r12, .inl (cI, 12, .inl (fun jz => nI (z0 jz)))), (r13, .inl (cI, 12, .inl (fun jz => nI (z0 jz)))), (r15, .inl (cI, 1300, .inl (fun jz => nI (z0 jz)))), (r16, .inl (cI, 12, .inl (fun jz => nI (z0 jz)))), (r19, .inl (cI, 1300, .inl (fun jz => nI (z0 jz)))), (r21, .inl (cI, 32, .inl (fun jz => nI (z0 jz)))), (r22, .inl (cI, 32, .inl (fun jz => nI (z0 jz)))), (r24, .inl (cI, 2500, .inl (fun jz => nI (z0 jz)))), (r26, .inl (cI, 2500, .inl (fun jz => nI (z0 jz)))), (r27, .inl (cJ, 2500, .inr (.inl (zL)))), (r28, .inl (cI, 4096, .inl (fun jz => nI (z0 jz)))), (r30, .inl (cI, 20, .inl (fun jz => nI (z0 jz)))), (r31, .inl (cZ, 20, .inl (fun jz => bI (no0 jz))))]) 0 rfl (Nat.le_of_ble_eq_true rfl) rfl dX3_init_222 ?_
        refine j_iconst (v := nI (0)) dX3_init_225 (by decide) ?_
        refine j_istore_n [(3, .int (nI (0))), (0, .ref (mq)), (1, .int (x)), (2, .int (y))] dX3_init_226 rfl (by decide) rfl ?_
        obtain ⟨q, hq⟩ : ∃ q : Nat → Nat, q = mkQ [mq, 0, 0, 0, 0, r5, r6, r7, r8, r9, r10, r11, r12, r13, 0, r15, r16, 0, 0, r19, 0, r21, r22, 0, r24, 0, r26, r27, r28, 0, r30, r31] := ⟨_, rfl⟩
        refine j_world (w' := wK cI cJ cZ q R C 0 z0 z0 z0 z0 z0 z0 z0 z0 z0 z0) (by rw [hq]; rfl) ?_
        refine j_sub [1, 0] [(0, .ref (mq)), (3, .int (nI (0)))] rfl ?_
        refine j_lv (lv' := [(0, .ref (q 0)), (3, .int (nI (0)))]) (by rw [hq]; rfl) ?_
        have loop227 : ∀ (n : Nat) (i : Nat) (cf1 cu1 : Nat → Nat), (12 < i + n) → (i ≤ 12) → (∀ j, j < i → cf1 j = 99 ∧ cu1 j = 99) → V k l D (tys3 cI cJ cZ) ({ frames := 6, cells := 20, slots := 14580, locals := 137 } : Room) cX3_init 6 RX3 (wK cI cJ cZ q R C 0 z0 z0 z0 z0 z0 z0 z0 cf1 z0 cu1) (20) (14580) 227 [(0, .ref (q 0)), (3, .int (nI (i)))] [] := by
          intro n
          induction n with
          | zero => intro i cf1 cu1 hm1 hi1 hz1; exfalso; omega
          | succ n ih227 =>
            intro i cf1 cu1 hm1 hi1 hz1
            refine j_iload_n dX3_init_227 rfl 1 rfl ?_
            refine j_bipush (v := nI (12)) dX3_init_228 (by decide) ?_
            refine jn_icmp_ge (tgt := 254) (a := i) (b := 12) (by omega) (by omega) dX3_init_230 (by decide) (fun c230 => ?_) (fun c230 => ?_)
            · refine j_iconst (v := nI (0)) dX3_init_254 (by decide) ?_
              refine j_istore_n [(3, .int (nI (0))), (0, .ref (q 0))] dX3_init_255 rfl (by decide) rfl ?_
              refine j_wext (w2 := wK cI cJ cZ q R C 0 z0 z0 z0 z0 z0 z0 z0 cf1 z0 (fun _ => 99)) (wE_c rfl cE_rfl (wE_c rfl cE_rfl (wE_c rfl cE_rfl (wE_c rfl cE_rfl (wE_c rfl cE_rfl (wE_c rfl cE_rfl (wE_c rfl cE_rfl (wE_c rfl cE_rfl (wE_c rfl cE_rfl (wE_c rfl cE_rfl (wE_c rfl cE_rfl (wE_c rfl (cE_arr (fun j hj => by rw [(hz1 j (by omega)).2])) (wE_c rfl cE_rfl (wE_c rfl cE_rfl (wE_c rfl cE_rfl (wE_c rfl cE_rfl (wE_c rfl cE_rfl (wE_c rfl cE_rfl (wE_c rfl cE_rfl (wE_c rfl cE_rfl (wE_c rfl cE_rfl (wE_n)))))))))))))))))))))) ?_
              refine j_sub [1, 0] [(0, .ref (q 0)), (3, .int (nI (0)))] rfl ?_
              have loop256 : ∀ (n : Nat) (i2 : Nat) (en1 : Nat → Nat), (80 < i2 + n) → (i2 ≤ 80) → (∀ j, j < i2 → en1 j = 99) → V k l D (tys3 cI cJ cZ) ({ frames := 6, cells := 20, slots := 14580, locals := 137 } : Room) cX3_init 6 RX3 (wK cI cJ cZ q R C 0 z0 z0 z0 z0 en1 z0 z0 cf1 z0 (fun _ => 99)) (20) (14580) 256 [(0, .ref (q 0)), (3, .int (nI (i2)))] [] := by
                intro n
                induction n with
                | zero => intro i2 en1 hm2 hi2 hz2; exfalso; omega
                | succ n ih256 =>
                  intro i2 en1 hm2 hi2 hz2
                  refine j_iload_n dX3_init_256 rfl 1 rfl ?_
                  refine j_bipush (v := nI (80)) dX3_init_257 (by decide) ?_
                  refine jn_icmp_ge (tgt := 275) (a := i2) (b := 80) (by omega) (by omega) dX3_init_259 (by decide) (fun c259 => ?_) (fun c259 => ?_)
                  · refine j_iconst (v := nI (0)) dX3_init_275 (by decide) ?_
                    refine j_istore_n [(3, .int (nI (0))), (0, .ref (q 0))] dX3_init_276 rfl (by decide) rfl ?_
                    refine j_sub [1, 0] [(0, .ref (q 0)), (3, .int (nI (0)))] rfl ?_
                    have loop277 : ∀ (n : Nat) (i3 : Nat) (fp1 : Nat → Nat), (nP R C < i3 + n) → (i3 ≤ nP R C) → (∀ j, j < i3 → fp1 j = 99) → (∀ j, i3 ≤ j → fp1 j = 0) → V k l D (tys3 cI cJ cZ) ({ frames := 6, cells := 20, slots := 14580, locals := 137 } : Room) cX3_init 6 RX3 (wK cI cJ cZ q R C 0 z0 z0 z0 z0 en1 fp1 z0 cf1 z0 (fun _ => 99)) (20) (14580) 277 [(0, .ref (q 0)), (3, .int (nI (i3)))] [] := by
                      intro n
                      induction n with
                      | zero => intro i3 fp1 hm3 hi3 hz3 hy3; exfalso; omega
                      | succ n ih277 =>
                        intro i3 fp1 hm3 hi3 hz3 hy3
                        refine j_iload_n dX3_init_277 rfl 1 rfl ?_
                        refine j_aload_n dX3_init_278 rfl 0 rfl ?_
                        refine gf_X3_79 0 rfl (rfl) dX3_init_279 ?_
                        refine jn_icmp_ge (tgt := 299) (a := i3) (b := nP R C) (by omega) (by omega) dX3_init_282 (by decide) (fun c282 => ?_) (fun c282 => ?_)
                        · refine j_iconst (v := nI (0)) dX3_init_299 (by decide) ?_
                          refine j_istore_n [(3, .int (nI (0))), (0, .ref (q 0))] dX3_init_300 rfl (by decide) rfl ?_
                          have hT0 : TC R C (eN R C 0 0) z0 z0 z0 z0 en1 fp1 z0 cf1 z0 := by rw [eN_0 hG]; exact TC_0 (fun j hj => hz2 j (by omega)) (fun j hj => hz3 j (by omega)) (fun j hj => hy3 j (by omega)) (fun j hj => (hz1 j (by omega)).1)
                          refine j_world (w' := wK cI cJ cZ q R C (eN R C 0 0) z0 z0 z0 z0 en1 fp1 z0 cf1 z0 (fun _ => 99)) (by rw [eN_0 hG]) ?_
                          refine j_lv (lv' := [(3, .int (nI (0 * (C + 1) + 0))), (0, .ref (q 0))]) (by rw [Nat.zero_mul]) ?_
                          refine j_sub [1, 0] [(0, .ref (q 0)), (3, .int (nI (0 * (C + 1) + 0)))] rfl ?_
                          have loop301 : ∀ (n : Nat) (yy xx : Nat) (lw8 hg8 n18 n28 en8 fp8 la8 cf8 cl8 : Nat → Nat), (nP R C < yy * (C + 1) + xx + n) → (xx ≤ C) → (yy ≤ R ∨ (yy = R + 1 ∧ xx = 0)) → (TC R C (eN R C yy xx) lw8 hg8 n18 n28 en8 fp8 la8 cf8 cl8) → V k l D (tys3 cI cJ cZ) ({ frames := 6, cells := 20, slots := 14580, locals := 137 } : Room) cX3_init 6 RX3 (wK cI cJ cZ q R C (eN R C yy xx) lw8 hg8 n18 n28 en8 fp8 la8 cf8 cl8 (fun _ => 99)) (20) (14580) 301 [(0, .ref (q 0)), (3, .int (nI (yy * (C + 1) + xx)))] [] := by
                            intro n
                            induction n with
                            | zero => intro yy xx lw8 hg8 n18 n28 en8 fp8 la8 cf8 cl8 hm4 hxC hyx hT8; exfalso; have := pq_le hxC hyx; omega
                            | succ n ih301 =>
                              intro yy xx lw8 hg8 n18 n28 en8 fp8 la8 cf8 cl8 hm4 hxC hyx hT8
                              have hple := pq_le hxC hyx
                              refine j_iload_n dX3_init_301 rfl 1 rfl ?_
                              refine j_aload_n dX3_init_302 rfl 0 rfl ?_
                              refine gf_X3_79 0 rfl (rfl) dX3_init_303 ?_
                              refine jn_icmp_ge (tgt := 410) (a := yy * (C + 1) + xx) (b := nP R C) (by omega) (by omega) dX3_init_306 (by decide) (fun c306 => ?_) (fun c306 => ?_)
                              · have hxy : yy = R + 1 ∧ xx = 0 := by
                                  rcases hyx with h9 | h9
                                  · exact absurd (pq_lt h9 hxC) (by omega)
                                  · exact h9
                                obtain ⟨h9, h8⟩ := hxy
                                subst h9 h8
                                rw [eN_R] at hT8
                                obtain ⟨f1, f2, f3, f4, f5, f6, f7, f8, f9⟩ := TC_f hG hT8
                                refine j_world (w' := wK cI cJ cZ q R C (nE R C) lw8 hg8 n18 n28 en8 fp8 la8 cf8 cl8 (fun _ => 99)) (by rw [eN_R]) ?_
                                refine j_wext (w2 := wM cI cJ cZ q R C 0 false false 0 0 0 0 0 z0 (fun _ => 99) z0 z0 z0 z0 z0 zL z0 z0 no0) (wE_c rfl cE_rfl (wE_c rfl (cE_arr (fun j hj => by rw [f1])) (wE_c rfl (cE_arr (fun j hj => by rw [f2])) (wE_c rfl (cE_arr (fun j hj => by rw [f3])) (wE_c rfl (cE_arr (fun j hj => by rw [f4])) (wE_c rfl (cE_arr (fun j hj => by rw [f5 j hj])) (wE_c rfl (cE_arr (fun j hj => by rw [f6 j hj])) (wE_c rfl (cE_arr (fun j hj => by rw [f7 j hj])) (wE_c rfl (cE_arr (fun j hj => by rw [f8 j hj])) (wE_c rfl (cE_arr (fun j hj => by rw [f9 j hj])) (wE_c rfl cE_rfl (wE_c rfl cE_rfl (wE_c rfl cE_rfl (wE_c rfl cE_rfl (wE_c rfl cE_rfl (wE_c rfl cE_rfl (wE_c rfl cE_rfl (wE_c rfl cE_rfl (wE_c rfl cE_rfl (wE_c rfl cE_rfl (wE_c rfl cE_rfl (wE_n)))))))))))))))))))))) ?_
                                refine j_aload_n dX3_init_410 rfl 0 rfl ?_
                                refine j_vW (av := []) (c_findLoops l hfl D cI cJ cZ q R C hG 0 false false 0 0 0 0 0 z0 (fun _ => 99) z0 z0 z0 z0 z0 zL z0 z0 no0 (fun p _ => ⟨rfl, rfl⟩) hcap rfl) 0 rfl rfl mw2_201 mw2_203 msel12 mw1_4 mw2_204 rfl hd_X3_findLoops rfl ⟨rfl, rfl⟩ ⟨Nat.le_of_ble_eq_true rfl, Nat.le_of_ble_eq_true rfl⟩ ⟨Nat.le_of_ble_eq_true rfl, Nat.le_of_ble_eq_true rfl⟩ (Nat.le_of_ble_eq_true rfl) rfl dX3_init_411 ?_
                                rintro _ _ ⟨rfl, nl2, lp2, de2, se2, hL2, hJ2, rfl⟩
                                refine j_st (st' := []) rfl ?_
                                exact j_vret (tys' := []) rfl hR dX3_init_414 (⟨rfl, q, by rw [hq]; rfl, MW_of ⟨hL2, (fun h => nomatch h), (fun h => nomatch h), hJ2, by decide⟩⟩)
                              · have hyR : yy ≤ R := by
                                  rcases hyx with h9 | ⟨h9, h8⟩
                                  · exact h9
                                  · exfalso; subst h9 h8; unfold nP at c306; omega
                                refine j_iload_n dX3_init_309 rfl 1 rfl ?_
                                refine j_aload_n dX3_init_310 rfl 0 rfl ?_
                                refine gf_X3_76 0 rfl (rfl) dX3_init_311 ?_
                                refine j_iconst (v := nI (1)) dX3_init_314 (by decide) ?_
                                refine jn_iadd (v := C + 1) dX3_init_315 rfl ?_
                                refine j_idiv dX3_init_316 (fun h => absurd (nI_eq0 (by omega) h) (by omega)) rfl ?_
                                refine j_topi (y := nI (yy)) (by rw [pk_div (by have := pq_lt hyR hxC; omega) (by omega) (by omega), pt_div hxC]) ?_
                                refine j_istore [(4, .int (nI (yy))), (0, .ref (q 0)), (3, .int (nI (yy * (C + 1) + xx)))] dX3_init_317 (by decide) rfl ?_
                                refine j_iload_n dX3_init_319 rfl 2 rfl ?_
                                refine j_aload_n dX3_init_320 rfl 1 rfl ?_
                                refine gf_X3_76 0 rfl (rfl) dX3_init_321 ?_
                                refine j_iconst (v := nI (1)) dX3_init_324 (by decide) ?_
                                refine jn_iadd (v := C + 1) dX3_init_325 rfl ?_
                                refine j_irem dX3_init_326 (fun h => absurd (nI_eq0 (by omega) h) (by omega)) rfl ?_
                                refine j_topi (y := nI (xx)) (by rw [pk_rem (by have := pq_lt hyR hxC; omega) (by omega) (by omega), pt_mod hxC]) ?_
                                refine j_istore [(5, .int (nI (xx))), (4, .int (nI (yy))), (0, .ref (q 0)), (3, .int (nI (yy * (C + 1) + xx)))] dX3_init_327 (by decide) rfl ?_
                                refine j_iload dX3_init_329 0 rfl ?_
                                refine j_aload_n dX3_init_331 rfl 2 rfl ?_
                                refine gf_X3_76 0 rfl (rfl) dX3_init_332 ?_
                                refine jn_icmp_ge (tgt := 364) (a := xx) (b := C) (by omega) (by omega) dX3_init_335 (by decide) (fun c335 => ?_) (fun c335 => ?_)
                                · refine j_iload dX3_init_364 1 rfl ?_
                                  refine j_aload_n dX3_init_366 rfl 2 rfl ?_
                                  refine gf_X3_72 0 rfl (rfl) dX3_init_367 ?_
                                  refine jn_icmp_ge (tgt := 404) (a := yy) (b := R) (by omega) (by omega) dX3_init_370 (by decide) (fun c370 => ?_) (fun c370 => ?_)
                                  · refine j_iinc (n0 := 3) (v := nI (yy * (C + 1) + xx + 1)) [(3, .int (nI (yy * (C + 1) + xx + 1))), (5, .int (nI (xx))), (4, .int (nI (yy))), (0, .ref (q 0))] dX3_init_404 rfl (by exact nI_add (yy * (C + 1) + xx) 1) (by decide) rfl ?_
                                    refine j_goto (tgt := 301) dX3_init_407 (by decide) ?_
                                    refine j_sub [3, 0] [(0, .ref (q 0)), (3, .int (nI (yy * (C + 1) + xx + 1)))] rfl ?_
                                    have hen := (eN_t hG hyR hxC).2.2.2
                                    have hen1 := hen.1
                                    rw [if_neg (show ¬ xx < C by omega), if_neg (show ¬ yy < R by omega)] at hen1
                                    simp only [Nat.add_zero] at hen1
                                    have hxe : xx = C := by omega
                                    subst hxe
                                    rw [hen.2] at hen1
                                    rw [← hen1] at hT8 ⊢
                                    have hmul : (yy + 1) * (xx + 1) = yy * (xx + 1) + (xx + 1) := by rw [Nat.add_mul, Nat.one_mul]
                                    refine j_lv (lv' := [(0, .ref (q 0)), (3, .int (nI ((yy + 1) * (xx + 1) + 0)))]) (by rw [hmul]; rfl) ?_
                                    exact ih301 (yy + 1) 0 lw8 hg8 n18 n28 en8 fp8 la8 cf8 cl8 (by omega) (by omega) (by omega) hT8
                                  · refine j_aload_n dX3_init_373 rfl 2 rfl ?_
                                    refine j_iload_n dX3_init_374 rfl 3 rfl ?_
                                    refine j_iload_n dX3_init_375 rfl 3 rfl ?_
                                    refine j_aload_n dX3_init_376 rfl 2 rfl ?_
                                    refine gf_X3_76 0 rfl (rfl) dX3_init_377 ?_
                                    refine jn_iadd (v := (yy * (C + 1) + xx) + C) dX3_init_380 rfl ?_
                                    refine j_iconst (v := nI (1)) dX3_init_381 (by decide) ?_
                                    refine jn_iadd (v := ((yy * (C + 1) + xx) + C) + 1) dX3_init_382 rfl ?_
                                    refine j_aload_n dX3_init_383 rfl 2 rfl ?_
                                    refine j_iload dX3_init_384 1 rfl ?_
                                    refine j_iload dX3_init_386 0 rfl ?_
                                    refine j_iconst (v := nI (1)) dX3_init_388 (by decide) ?_
                                    refine j_isub dX3_init_389 rfl ?_
                                    refine j_topi (y := eI (pd xx)) (eI_pd (by omega)) ?_
                                    refine j_st (st' := [.int (eI (pd xx)), .int (eI (yy)), .ref (q 0), .int (nI (((yy * (C + 1) + xx) + C) + 1)), .int (nI (yy * (C + 1) + xx)), .ref (q 0)]) (by rw [eI_ne (show ¬ yy = 99 by omega)]) ?_
                                    refine j_vW (av := [.int (eI (yy)), .int (eI (pd xx))]) (k_cell l hfl D cI cJ cZ q R C hG (eN R C yy xx) lw8 hg8 n18 n28 en8 fp8 la8 cf8 cl8 (fun _ => 99) (yy) (pd xx) (by first | omega | exact pd_lt (by omega)) (by first | omega | exact pd_lt (by omega))) 0 rfl rfl mw2_185 mw2_187 msel8 mw1_4 mw2_188 rfl hd_X3_cell rfl ⟨rfl, rfl⟩ ⟨Nat.le_of_ble_eq_true rfl, Nat.le_of_ble_eq_true rfl⟩ ⟨Nat.le_of_ble_eq_true rfl, Nat.le_of_ble_eq_true rfl⟩ (Nat.le_of_ble_eq_true rfl) rfl dX3_init_390 ?_
                                    rintro _ _ ⟨rfl, rfl⟩
                                    refine j_st (st' := [.int (eI (ccell R C yy (pd xx))), .int (nI (((yy * (C + 1) + xx) + C) + 1)), .int (nI (yy * (C + 1) + xx)), .ref (q 0)]) rfl ?_
                                    refine j_aload_n dX3_init_393 rfl 2 rfl ?_
                                    refine j_iload dX3_init_394 1 rfl ?_
                                    refine j_iload dX3_init_396 0 rfl ?_
                                    refine j_st (st' := [.int (eI (xx)), .int (eI (yy)), .ref (q 0), .int (eI (ccell R C yy (pd xx))), .int (nI (((yy * (C + 1) + xx) + C) + 1)), .int (nI (yy * (C + 1) + xx)), .ref (q 0)]) (by rw [eI_ne (show ¬ xx = 99 by omega), eI_ne (show ¬ yy = 99 by omega)]) ?_
                                    refine j_vW (av := [.int (eI (yy)), .int (eI (xx))]) (k_cell l hfl D cI cJ cZ q R C hG (eN R C yy xx) lw8 hg8 n18 n28 en8 fp8 la8 cf8 cl8 (fun _ => 99) (yy) (xx) (by first | omega | exact pd_lt (by omega)) (by first | omega | exact pd_lt (by omega))) 0 rfl rfl mw2_185 mw2_187 msel8 mw1_4 mw2_188 rfl hd_X3_cell rfl ⟨rfl, rfl⟩ ⟨Nat.le_of_ble_eq_true rfl, Nat.le_of_ble_eq_true rfl⟩ ⟨Nat.le_of_ble_eq_true rfl, Nat.le_of_ble_eq_true rfl⟩ (Nat.le_of_ble_eq_true rfl) rfl dX3_init_398 ?_
                                    rintro _ _ ⟨rfl, rfl⟩
                                    refine j_st (st' := [.int (eI (ccell R C yy xx)), .int (eI (ccell R C yy (pd xx))), .int (nI (((yy * (C + 1) + xx) + C) + 1)), .int (nI (yy * (C + 1) + xx)), .ref (q 0)]) rfl ?_
                                    obtain ⟨d1, d2, d3, d4⟩ := (eN_t hG hyR hxC).2.2.1 c370 c335
                                    obtain ⟨m1, m2, m3, m4⟩ := jn_d d1 d2 d3 d4
                                    refine j_st (st' := [.int (eI (mOther R C (eN R C yy xx))), .int (eI (mOne R C (eN R C yy xx))), .int (nI (mHigh R C (eN R C yy xx))), .int (nI (mLow R C (eN R C yy xx))), .ref (q 0)]) (by rw [m1, m2, m3, m4]) ?_
                                    refine j_vW (av := [.int (nI (mLow R C (eN R C yy xx))), .int (nI (mHigh R C (eN R C yy xx))), .int (eI (mOne R C (eN R C yy xx))), .int (eI (mOther R C (eN R C yy xx)))]) (k_join l hfl D cI cJ cZ q R C hG (eN R C yy xx) lw8 hg8 n18 n28 en8 fp8 la8 cf8 cl8 (fun _ => 99) d1 hT8) 0 rfl rfl mw2_189 mw2_191 msel9 mw1_4 mw2_192 rfl hd_X3_join rfl ⟨rfl, rfl⟩ ⟨Nat.le_of_ble_eq_true rfl, Nat.le_of_ble_eq_true rfl⟩ ⟨Nat.le_of_ble_eq_true rfl, Nat.le_of_ble_eq_true rfl⟩ (Nat.le_of_ble_eq_true rfl) rfl dX3_init_401 ?_
                                    rintro _ _ ⟨rfl, lwb, hgb, nab, nbb, enb, fpb, lab, cfb, clb, hTb, rfl⟩
                                    refine j_st (st' := []) rfl ?_
                                    refine j_iinc (n0 := 3) (v := nI (yy * (C + 1) + xx + 1)) [(3, .int (nI (yy * (C + 1) + xx + 1))), (5, .int (nI (xx))), (4, .int (nI (yy))), (0, .ref (q 0))] dX3_init_404 rfl (by exact nI_add (yy * (C + 1) + xx) 1) (by decide) rfl ?_
                                    refine j_goto (tgt := 301) dX3_init_407 (by decide) ?_
                                    refine j_sub [3, 0] [(0, .ref (q 0)), (3, .int (nI (yy * (C + 1) + xx + 1)))] rfl ?_
                                    have hen := (eN_t hG hyR hxC).2.2.2
                                    have hen1 := hen.1
                                    rw [if_neg (show ¬ xx < C by omega), if_pos c370] at hen1
                                    simp only [Nat.add_zero] at hen1
                                    have hxe : xx = C := by omega
                                    subst hxe
                                    rw [hen.2] at hen1
                                    rw [← hen1] at hTb ⊢
                                    have hmul : (yy + 1) * (xx + 1) = yy * (xx + 1) + (xx + 1) := by rw [Nat.add_mul, Nat.one_mul]
                                    refine j_lv (lv' := [(0, .ref (q 0)), (3, .int (nI ((yy + 1) * (xx + 1) + 0)))]) (by rw [hmul]; rfl) ?_
                                    exact ih301 (yy + 1) 0 lwb hgb nab nbb enb fpb lab cfb clb (by omega) (by omega) (by omega) hTb
                                · refine j_aload_n dX3_init_338 rfl 2 rfl ?_
                                  refine j_iload_n dX3_init_339 rfl 3 rfl ?_
                                  refine j_iload_n dX3_init_340 rfl 3 rfl ?_
                                  refine j_iconst (v := nI (1)) dX3_init_341 (by decide) ?_
                                  refine jn_iadd (v := (yy * (C + 1) + xx) + 1) dX3_init_342 rfl ?_
                                  refine j_aload_n dX3_init_343 rfl 2 rfl ?_
                                  refine j_iload dX3_init_344 1 rfl ?_
                                  refine j_iconst (v := nI (1)) dX3_init_346 (by decide) ?_
                                  refine j_isub dX3_init_347 rfl ?_
                                  refine j_topi (y := eI (pd yy)) (eI_pd (by omega)) ?_
                                  refine j_iload dX3_init_348 0 rfl ?_
                                  refine j_st (st' := [.int (eI (xx)), .int (eI (pd yy)), .ref (q 0), .int (nI ((yy * (C + 1) + xx) + 1)), .int (nI (yy * (C + 1) + xx)), .ref (q 0)]) (by rw [eI_ne (show ¬ xx = 99 by omega)]) ?_
                                  refine j_vW (av := [.int (eI (pd yy)), .int (eI (xx))]) (k_cell l hfl D cI cJ cZ q R C hG (eN R C yy xx) lw8 hg8 n18 n28 en8 fp8 la8 cf8 cl8 (fun _ => 99) (pd yy) (xx) (by first | omega | exact pd_lt (by omega)) (by first | omega | exact pd_lt (by omega))) 0 rfl rfl mw2_185 mw2_187 msel8 mw1_4 mw2_188 rfl hd_X3_cell rfl ⟨rfl, rfl⟩ ⟨Nat.le_of_ble_eq_true rfl, Nat.le_of_ble_eq_true rfl⟩ ⟨Nat.le_of_ble_eq_true rfl, Nat.le_of_ble_eq_true rfl⟩ (Nat.le_of_ble_eq_true rfl) rfl dX3_init_350 ?_
                                  rintro _ _ ⟨rfl, rfl⟩
                                  refine j_st (st' := [.int (eI (ccell R C (pd yy) xx)), .int (nI ((yy * (C + 1) + xx) + 1)), .int (nI (yy * (C + 1) + xx)), .ref (q 0)]) rfl ?_
                                  refine j_aload_n dX3_init_353 rfl 2 rfl ?_
                                  refine j_iload dX3_init_354 1 rfl ?_
                                  refine j_iload dX3_init_356 0 rfl ?_
                                  refine j_st (st' := [.int (eI (xx)), .int (eI (yy)), .ref (q 0), .int (eI (ccell R C (pd yy) xx)), .int (nI ((yy * (C + 1) + xx) + 1)), .int (nI (yy * (C + 1) + xx)), .ref (q 0)]) (by rw [eI_ne (show ¬ xx = 99 by omega), eI_ne (show ¬ yy = 99 by omega)]) ?_
                                  refine j_vW (av := [.int (eI (yy)), .int (eI (xx))]) (k_cell l hfl D cI cJ cZ q R C hG (eN R C yy xx) lw8 hg8 n18 n28 en8 fp8 la8 cf8 cl8 (fun _ => 99) (yy) (xx) (by first | omega | exact pd_lt (by omega)) (by first | omega | exact pd_lt (by omega))) 0 rfl rfl mw2_185 mw2_187 msel8 mw1_4 mw2_188 rfl hd_X3_cell rfl ⟨rfl, rfl⟩ ⟨Nat.le_of_ble_eq_true rfl, Nat.le_of_ble_eq_true rfl⟩ ⟨Nat.le_of_ble_eq_true rfl, Nat.le_of_ble_eq_true rfl⟩ (Nat.le_of_ble_eq_true rfl) rfl dX3_init_358 ?_
                                  rintro _ _ ⟨rfl, rfl⟩
                                  refine j_st (st' := [.int (eI (ccell R C yy xx)), .int (eI (ccell R C (pd yy) xx)), .int (nI ((yy * (C + 1) + xx) + 1)), .int (nI (yy * (C + 1) + xx)), .ref (q 0)]) rfl ?_
                                  obtain ⟨b1, b2, b3, b4⟩ := (eN_t hG hyR hxC).1 c335
                                  obtain ⟨k1, k2, k3, k4⟩ := jn_r b1 b2 b3 b4
                                  refine j_st (st' := [.int (eI (mOther R C (eN R C yy xx))), .int (eI (mOne R C (eN R C yy xx))), .int (nI (mHigh R C (eN R C yy xx))), .int (nI (mLow R C (eN R C yy xx))), .ref (q 0)]) (by rw [k1, k2, k3, k4]) ?_
                                  refine j_vW (av := [.int (nI (mLow R C (eN R C yy xx))), .int (nI (mHigh R C (eN R C yy xx))), .int (eI (mOne R C (eN R C yy xx))), .int (eI (mOther R C (eN R C yy xx)))]) (k_join l hfl D cI cJ cZ q R C hG (eN R C yy xx) lw8 hg8 n18 n28 en8 fp8 la8 cf8 cl8 (fun _ => 99) b1 hT8) 0 rfl rfl mw2_189 mw2_191 msel9 mw1_4 mw2_192 rfl hd_X3_join rfl ⟨rfl, rfl⟩ ⟨Nat.le_of_ble_eq_true rfl, Nat.le_of_ble_eq_true rfl⟩ ⟨Nat.le_of_ble_eq_true rfl, Nat.le_of_ble_eq_true rfl⟩ (Nat.le_of_ble_eq_true rfl) rfl dX3_init_361 ?_
                                  rintro _ _ ⟨rfl, lwa, hga, naa, nba, ena, fpa, laa, cfa, cla, hTa, rfl⟩
                                  refine j_st (st' := []) rfl ?_
                                  refine j_iload dX3_init_364 1 rfl ?_
                                  refine j_aload_n dX3_init_366 rfl 2 rfl ?_
                                  refine gf_X3_72 0 rfl (rfl) dX3_init_367 ?_
                                  refine jn_icmp_ge (tgt := 404) (a := yy) (b := R) (by omega) (by omega) dX3_init_370 (by decide) (fun c370 => ?_) (fun c370 => ?_)
                                  · refine j_iinc (n0 := 3) (v := nI (yy * (C + 1) + xx + 1)) [(3, .int (nI (yy * (C + 1) + xx + 1))), (5, .int (nI (xx))), (4, .int (nI (yy))), (0, .ref (q 0))] dX3_init_404 rfl (by exact nI_add (yy * (C + 1) + xx) 1) (by decide) rfl ?_
                                    refine j_goto (tgt := 301) dX3_init_407 (by decide) ?_
                                    refine j_sub [3, 0] [(0, .ref (q 0)), (3, .int (nI (yy * (C + 1) + xx + 1)))] rfl ?_
                                    have hen := (eN_t hG hyR hxC).2.2.2
                                    have hen1 := hen.1
                                    rw [if_pos c335, if_neg (show ¬ yy < R by omega)] at hen1
                                    simp only [Nat.add_zero] at hen1
                                    rw [← hen1] at hTa ⊢
                                    exact ih301 yy (xx + 1) lwa hga naa nba ena fpa laa cfa cla (by omega) (by omega) (Or.inl hyR) hTa
                                  · refine j_aload_n dX3_init_373 rfl 2 rfl ?_
                                    refine j_iload_n dX3_init_374 rfl 3 rfl ?_
                                    refine j_iload_n dX3_init_375 rfl 3 rfl ?_
                                    refine j_aload_n dX3_init_376 rfl 2 rfl ?_
                                    refine gf_X3_76 0 rfl (rfl) dX3_init_377 ?_
                                    refine jn_iadd (v := (yy * (C + 1) + xx) + C) dX3_init_380 rfl ?_
                                    refine j_iconst (v := nI (1)) dX3_init_381 (by decide) ?_
                                    refine jn_iadd (v := ((yy * (C + 1) + xx) + C) + 1) dX3_init_382 rfl ?_
                                    refine j_aload_n dX3_init_383 rfl 2 rfl ?_
                                    refine j_iload dX3_init_384 1 rfl ?_
                                    refine j_iload dX3_init_386 0 rfl ?_
                                    refine j_iconst (v := nI (1)) dX3_init_388 (by decide) ?_
                                    refine j_isub dX3_init_389 rfl ?_
                                    refine j_topi (y := eI (pd xx)) (eI_pd (by omega)) ?_
                                    refine j_st (st' := [.int (eI (pd xx)), .int (eI (yy)), .ref (q 0), .int (nI (((yy * (C + 1) + xx) + C) + 1)), .int (nI (yy * (C + 1) + xx)), .ref (q 0)]) (by rw [eI_ne (show ¬ yy = 99 by omega)]) ?_
                                    refine j_vW (av := [.int (eI (yy)), .int (eI (pd xx))]) (k_cell l hfl D cI cJ cZ q R C hG (eN R C yy xx + 1) lwa hga naa nba ena fpa laa cfa cla (fun _ => 99) (yy) (pd xx) (by first | omega | exact pd_lt (by omega)) (by first | omega | exact pd_lt (by omega))) 0 rfl rfl mw2_185 mw2_187 msel8 mw1_4 mw2_188 rfl hd_X3_cell rfl ⟨rfl, rfl⟩ ⟨Nat.le_of_ble_eq_true rfl, Nat.le_of_ble_eq_true rfl⟩ ⟨Nat.le_of_ble_eq_true rfl, Nat.le_of_ble_eq_true rfl⟩ (Nat.le_of_ble_eq_true rfl) rfl dX3_init_390 ?_
                                    rintro _ _ ⟨rfl, rfl⟩
                                    refine j_st (st' := [.int (eI (ccell R C yy (pd xx))), .int (nI (((yy * (C + 1) + xx) + C) + 1)), .int (nI (yy * (C + 1) + xx)), .ref (q 0)]) rfl ?_
                                    refine j_aload_n dX3_init_393 rfl 2 rfl ?_
                                    refine j_iload dX3_init_394 1 rfl ?_
                                    refine j_iload dX3_init_396 0 rfl ?_
                                    refine j_st (st' := [.int (eI (xx)), .int (eI (yy)), .ref (q 0), .int (eI (ccell R C yy (pd xx))), .int (nI (((yy * (C + 1) + xx) + C) + 1)), .int (nI (yy * (C + 1) + xx)), .ref (q 0)]) (by rw [eI_ne (show ¬ xx = 99 by omega), eI_ne (show ¬ yy = 99 by omega)]) ?_
                                    refine j_vW (av := [.int (eI (yy)), .int (eI (xx))]) (k_cell l hfl D cI cJ cZ q R C hG (eN R C yy xx + 1) lwa hga naa nba ena fpa laa cfa cla (fun _ => 99) (yy) (xx) (by first | omega | exact pd_lt (by omega)) (by first | omega | exact pd_lt (by omega))) 0 rfl rfl mw2_185 mw2_187 msel8 mw1_4 mw2_188 rfl hd_X3_cell rfl ⟨rfl, rfl⟩ ⟨Nat.le_of_ble_eq_true rfl, Nat.le_of_ble_eq_true rfl⟩ ⟨Nat.le_of_ble_eq_true rfl, Nat.le_of_ble_eq_true rfl⟩ (Nat.le_of_ble_eq_true rfl) rfl dX3_init_398 ?_
                                    rintro _ _ ⟨rfl, rfl⟩
                                    refine j_st (st' := [.int (eI (ccell R C yy xx)), .int (eI (ccell R C yy (pd xx))), .int (nI (((yy * (C + 1) + xx) + C) + 1)), .int (nI (yy * (C + 1) + xx)), .ref (q 0)]) rfl ?_
                                    obtain ⟨d1, d2, d3, d4⟩ := (eN_t hG hyR hxC).2.1 c370 c335
                                    obtain ⟨m1, m2, m3, m4⟩ := jn_d d1 d2 d3 d4
                                    refine j_st (st' := [.int (eI (mOther R C (eN R C yy xx + 1))), .int (eI (mOne R C (eN R C yy xx + 1))), .int (nI (mHigh R C (eN R C yy xx + 1))), .int (nI (mLow R C (eN R C yy xx + 1))), .ref (q 0)]) (by rw [m1, m2, m3, m4]) ?_
                                    refine j_vW (av := [.int (nI (mLow R C (eN R C yy xx + 1))), .int (nI (mHigh R C (eN R C yy xx + 1))), .int (eI (mOne R C (eN R C yy xx + 1))), .int (eI (mOther R C (eN R C yy xx + 1)))]) (k_join l hfl D cI cJ cZ q R C hG (eN R C yy xx + 1) lwa hga naa nba ena fpa laa cfa cla (fun _ => 99) d1 hTa) 0 rfl rfl mw2_189 mw2_191 msel9 mw1_4 mw2_192 rfl hd_X3_join rfl ⟨rfl, rfl⟩ ⟨Nat.le_of_ble_eq_true rfl, Nat.le_of_ble_eq_true rfl⟩ ⟨Nat.le_of_ble_eq_true rfl, Nat.le_of_ble_eq_true rfl⟩ (Nat.le_of_ble_eq_true rfl) rfl dX3_init_401 ?_
                                    rintro _ _ ⟨rfl, lwb, hgb, nab, nbb, enb, fpb, lab, cfb, clb, hTb, rfl⟩
                                    refine j_st (st' := []) rfl ?_
                                    refine j_iinc (n0 := 3) (v := nI (yy * (C + 1) + xx + 1)) [(3, .int (nI (yy * (C + 1) + xx + 1))), (5, .int (nI (xx))), (4, .int (nI (yy))), (0, .ref (q 0))] dX3_init_404 rfl (by exact nI_add (yy * (C + 1) + xx) 1) (by decide) rfl ?_
                                    refine j_goto (tgt := 301) dX3_init_407 (by decide) ?_
                                    refine j_sub [3, 0] [(0, .ref (q 0)), (3, .int (nI (yy * (C + 1) + xx + 1)))] rfl ?_
                                    have hen := (eN_t hG hyR hxC).2.2.2
                                    have hen1 := hen.1
                                    rw [if_pos c335, if_pos c370] at hen1
                                    rw [← hen1] at hTb ⊢
                                    exact ih301 yy (xx + 1) lwb hgb nab nbb enb fpb lab cfb clb (by omega) (by omega) (Or.inl hyR) hTb
                          exact loop301 (nP R C + 2) 0 0 z0 z0 z0 z0 en1 fp1 z0 cf1 z0 (by omega) (by omega) (Or.inl (by omega)) hT0
                        · refine j_aload_n dX3_init_285 rfl 0 rfl ?_
                          refine gf_X3_25 0 rfl (rfl) dX3_init_286 ?_
                          refine j_iload_n dX3_init_289 rfl 1 rfl ?_
                          refine j_bipush (v := nI (99)) dX3_init_290 (by decide) ?_
                          refine jn_iastN (wK cI cJ cZ q R C 0 z0 z0 z0 z0 en1 (va_up fp1 i3 99) z0 cf1 z0 (fun _ => 99)) 6 0 rfl rfl (by omega) (by omega) rfl dX3_init_292 ?_
                          refine j_iinc (n0 := 1) (v := nI (i3 + 1)) [(3, .int (nI (i3 + 1))), (0, .ref (q 0))] dX3_init_293 rfl (by exact nI_add (i3) 1) (by decide) rfl ?_
                          refine j_goto (tgt := 277) dX3_init_296 (by decide) ?_
                          refine j_sub [1, 0] [(0, .ref (q 0)), (3, .int (nI (i3 + 1)))] rfl ?_
                          exact ih277 (i3 + 1) (va_up fp1 i3 99) (by omega) (by omega) (fun j h => if h2 : j = i3 then by rw [h2, va_up_self] else by rw [va_up_ne _ _ h2]; exact hz3 j (by omega)) (fun j h => by rw [va_up_ne _ _ (by omega)]; exact hy3 j (by omega))
                    exact loop277 (nP R C + 2) 0 z0 (by omega) (by omega) (fun j h => absurd h (by omega)) (fun j _ => rfl)
                  · refine j_aload_n dX3_init_262 rfl 0 rfl ?_
                    refine gf_X3_22 0 rfl (rfl) dX3_init_263 ?_
                    refine j_iload_n dX3_init_266 rfl 1 rfl ?_
                    refine j_iconst (v := (-1)) dX3_init_267 (by decide) ?_
                    refine j_st (st' := [.int (eI (99)), .int (nI (i2)), .ref (q 9)]) (by rfl) ?_
                    refine jn_iastE (wK cI cJ cZ q R C 0 z0 z0 z0 z0 (va_up en1 i2 99) z0 z0 cf1 z0 (fun _ => 99)) 5 0 rfl rfl (by omega) (by omega) rfl dX3_init_268 ?_
                    refine j_iinc (n0 := 1) (v := nI (i2 + 1)) [(3, .int (nI (i2 + 1))), (0, .ref (q 0))] dX3_init_269 rfl (by exact nI_add (i2) 1) (by decide) rfl ?_
                    refine j_goto (tgt := 256) dX3_init_272 (by decide) ?_
                    refine j_sub [1, 0] [(0, .ref (q 0)), (3, .int (nI (i2 + 1)))] rfl ?_
                    exact ih256 (i2 + 1) (va_up en1 i2 99) (by omega) (by omega) (fun j h => if h2 : j = i2 then by rw [h2, va_up_self] else by rw [va_up_ne _ _ h2]; exact hz2 j (by omega))
              exact loop256 82 0 z0 (by omega) (by omega) (fun j h => absurd h (by omega))
            · refine j_aload_n dX3_init_233 rfl 0 rfl ?_
              refine gf_X3_40 0 rfl (rfl) dX3_init_234 ?_
              refine j_iload_n dX3_init_237 rfl 1 rfl ?_
              refine j_iconst (v := (-1)) dX3_init_238 (by decide) ?_
              refine j_st (st' := [.int (eI (99)), .int (nI (i)), .ref (q 16)]) (by rfl) ?_
              refine jn_iastE (wK cI cJ cZ q R C 0 z0 z0 z0 z0 z0 z0 z0 cf1 z0 (va_up cu1 i 99)) 11 0 rfl rfl (by omega) (by omega) rfl dX3_init_239 ?_
              refine j_aload_n dX3_init_240 rfl 0 rfl ?_
              refine gf_X3_31 0 rfl (rfl) dX3_init_241 ?_
              refine j_iload_n dX3_init_244 rfl 1 rfl ?_
              refine j_bipush (v := nI (99)) dX3_init_245 (by decide) ?_
              refine jn_iastN (wK cI cJ cZ q R C 0 z0 z0 z0 z0 z0 z0 z0 (va_up cf1 i 99) z0 (va_up cu1 i 99)) 8 0 rfl rfl (by omega) (by omega) rfl dX3_init_247 ?_
              refine j_iinc (n0 := 1) (v := nI (i + 1)) [(3, .int (nI (i + 1))), (0, .ref (q 0))] dX3_init_248 rfl (by exact nI_add (i) 1) (by decide) rfl ?_
              refine j_goto (tgt := 227) dX3_init_251 (by decide) ?_
              refine j_sub [1, 0] [(0, .ref (q 0)), (3, .int (nI (i + 1)))] rfl ?_
              exact ih227 (i + 1) (va_up cf1 i 99) (va_up cu1 i 99) (by omega) (by omega) (fun j h => if h2 : j = i then by rw [h2, va_up_self, va_up_self]; exact ⟨rfl, rfl⟩ else by rw [va_up_ne _ _ h2, va_up_ne _ _ h2]; exact hz1 j (by omega))
        exact loop227 14 0 z0 z0 (by omega) (by omega) (fun j h => absurd h (by omega))
      · refine j_iconst (v := nI (2)) dX3_init_200 (by decide) ?_
        refine j_goto (tgt := 205) dX3_init_201 (by decide) ?_
        have eC : C = 2 := szI_f (by decide) hyC (by first | exact Or.inl c192 | exact Or.inr (by rw [Int32.lt_iff_toInt_lt]; rw [Int32.le_iff_toInt_le] at c197; omega))
        refine j_st (st' := [.int (nI (C)), .ref (mq)]) (by rw [eC]) ?_
        refine pf_X3_76 ([(mq, .inr (3, [.int (nI (0)), .int (nI (R)), .int (nI (C)), .int (nI (0)), .int (nI (0)), .ref (r5), .ref (r6), .ref (r7), .ref (r8), .ref (r9), .ref (r10), .ref (r11), .ref (r12), .ref (r13), .int (nI (0)), .ref (r15), .ref (r16), .int (nI (0)), .int (nI (0)), .ref (r19), .int (nI (0)), .ref (r21), .ref (r22), .int (nI (0)), .ref (r24), .int (nI (0)), .ref (r26), .ref (r27), .ref (r28), .int (nI (0)), .ref (r30), .ref (r31)])), (r5, .inl (cI, 31, .inl (fun jz => nI (z0 jz)))), (r6, .inl (cI, 31, .inl (fun jz => nI (z0 jz)))), (r7, .inl (cI, 31, .inl (fun jz => nI (z0 jz)))), (r8, .inl (cI, 31, .inl (fun jz => nI (z0 jz)))), (r9, .inl (cI, 80, .inl (fun jz => nI (z0 jz)))), (r10, .inl (cI, 20, .inl (fun jz => nI (z0 jz)))), (r11, .inl (cI, 20, .inl (fun jz => nI (z0 jz)))), (r12, .inl (cI, 12, .inl (fun jz => nI (z0 jz)))), (r13, .inl (cI, 12, .inl (fun jz => nI (z0 jz)))), (r15, .inl (cI, 1300, .inl (fun jz => nI (z0 jz)))), (r16, .inl (cI, 12, .inl (fun jz => nI (z0 jz)))), (r19, .inl (cI, 1300, .inl (fun jz => nI (z0 jz)))), (r21, .inl (cI, 32, .inl (fun jz => nI (z0 jz)))), (r22, .inl (cI, 32, .inl (fun jz => nI (z0 jz)))), (r24, .inl (cI, 2500, .inl (fun jz => nI (z0 jz)))), (r26, .inl (cI, 2500, .inl (fun jz => nI (z0 jz)))), (r27, .inl (cJ, 2500, .inr (.inl (zL)))), (r28, .inl (cI, 4096, .inl (fun jz => nI (z0 jz)))), (r30, .inl (cI, 20, .inl (fun jz => nI (z0 jz)))), (r31, .inl (cZ, 20, .inl (fun jz => bI (no0 jz))))]) 0 rfl (Nat.le_of_ble_eq_true rfl) rfl dX3_init_205 ?_
        refine j_aload_n dX3_init_208 rfl 0 rfl ?_
        refine j_aload_n dX3_init_209 rfl 0 rfl ?_
        refine gf_X3_72 0 rfl (rfl) dX3_init_210 ?_
        refine j_iconst (v := nI (1)) dX3_init_213 (by decide) ?_
        refine jn_iadd (v := R + 1) dX3_init_214 rfl ?_
        refine j_aload_n dX3_init_215 rfl 0 rfl ?_
        refine gf_X3_76 0 rfl (rfl) dX3_init_216 ?_
        refine j_iconst (v := nI (1)) dX3_init_219 (by decide) ?_
        refine jn_iadd (v := C + 1) dX3_init_220 rfl ?_
        refine jn_imul (v := (R + 1) * (C + 1)) dX3_init_221 rfl ?_
        refine j_topi (y := nI (nP R C)) (by rfl) ?_
        refine pf_X3_79 ([(mq, .inr (3, [.int (nI (0)), .int (nI (R)), .int (nI (C)), .int (nI (nP R C)), .int (nI (0)), .ref (r5), .ref (r6), .ref (r7), .ref (r8), .ref (r9), .ref (r10), .ref (r11), .ref (r12), .ref (r13), .int (nI (0)), .ref (r15), .ref (r16), .int (nI (0)), .int (nI (0)), .ref (r19), .int (nI (0)), .ref (r21), .ref (r22), .int (nI (0)), .ref (r24), .int (nI (0)), .ref (r26), .ref (r27), .ref (r28), .int (nI (0)), .ref (r30), .ref (r31)])), (r5, .inl (cI, 31, .inl (fun jz => nI (z0 jz)))), (r6, .inl (cI, 31, .inl (fun jz => nI (z0 jz)))), (r7, .inl (cI, 31, .inl (fun jz => nI (z0 jz)))), (r8, .inl (cI, 31, .inl (fun jz => nI (z0 jz)))), (r9, .inl (cI, 80, .inl (fun jz => nI (z0 jz)))), (r10, .inl (cI, 20, .inl (fun jz => nI (z0 jz)))), (r11, .inl (cI, 20, .inl (fun jz => nI (z0 jz)))), (r12, .inl (cI, 12, .inl (fun jz => nI (z0 jz)))), (r13, .inl (cI, 12, .inl (fun jz => nI (z0 jz)))), (r15, .inl (cI, 1300, .inl (fun jz => nI (z0 jz)))), (r16, .inl (cI, 12, .inl (fun jz => nI (z0 jz)))), (r19, .inl (cI, 1300, .inl (fun jz => nI (z0 jz)))), (r21, .inl (cI, 32, .inl (fun jz => nI (z0 jz)))), (r22, .inl (cI, 32, .inl (fun jz => nI (z0 jz)))), (r24, .inl (cI, 2500, .inl (fun jz => nI (z0 jz)))), (r26, .inl (cI, 2500, .inl (fun jz => nI (z0 jz)))), (r27, .inl (cJ, 2500, .inr (.inl (zL)))), (r28, .inl (cI, 4096, .inl (fun jz => nI (z0 jz)))), (r30, .inl (cI, 20, .inl (fun jz => nI (z0 jz)))), (r31, .inl (cZ, 20, .inl (fun jz => bI (no0 jz))))]) 0 rfl (Nat.le_of_ble_eq_true rfl) rfl dX3_init_222 ?_
        refine j_iconst (v := nI (0)) dX3_init_225 (by decide) ?_
        refine j_istore_n [(3, .int (nI (0))), (0, .ref (mq)), (1, .int (x)), (2, .int (y))] dX3_init_226 rfl (by decide) rfl ?_
        obtain ⟨q, hq⟩ : ∃ q : Nat → Nat, q = mkQ [mq, 0, 0, 0, 0, r5, r6, r7, r8, r9, r10, r11, r12, r13, 0, r15, r16, 0, 0, r19, 0, r21, r22, 0, r24, 0, r26, r27, r28, 0, r30, r31] := ⟨_, rfl⟩
        refine j_world (w' := wK cI cJ cZ q R C 0 z0 z0 z0 z0 z0 z0 z0 z0 z0 z0) (by rw [hq]; rfl) ?_
        refine j_sub [1, 0] [(0, .ref (mq)), (3, .int (nI (0)))] rfl ?_
        refine j_lv (lv' := [(0, .ref (q 0)), (3, .int (nI (0)))]) (by rw [hq]; rfl) ?_
        have loop227 : ∀ (n : Nat) (i : Nat) (cf1 cu1 : Nat → Nat), (12 < i + n) → (i ≤ 12) → (∀ j, j < i → cf1 j = 99 ∧ cu1 j = 99) → V k l D (tys3 cI cJ cZ) ({ frames := 6, cells := 20, slots := 14580, locals := 137 } : Room) cX3_init 6 RX3 (wK cI cJ cZ q R C 0 z0 z0 z0 z0 z0 z0 z0 cf1 z0 cu1) (20) (14580) 227 [(0, .ref (q 0)), (3, .int (nI (i)))] [] := by
          intro n
          induction n with
          | zero => intro i cf1 cu1 hm1 hi1 hz1; exfalso; omega
          | succ n ih227 =>
            intro i cf1 cu1 hm1 hi1 hz1
            refine j_iload_n dX3_init_227 rfl 1 rfl ?_
            refine j_bipush (v := nI (12)) dX3_init_228 (by decide) ?_
            refine jn_icmp_ge (tgt := 254) (a := i) (b := 12) (by omega) (by omega) dX3_init_230 (by decide) (fun c230 => ?_) (fun c230 => ?_)
            · refine j_iconst (v := nI (0)) dX3_init_254 (by decide) ?_
              refine j_istore_n [(3, .int (nI (0))), (0, .ref (q 0))] dX3_init_255 rfl (by decide) rfl ?_
              refine j_wext (w2 := wK cI cJ cZ q R C 0 z0 z0 z0 z0 z0 z0 z0 cf1 z0 (fun _ => 99)) (wE_c rfl cE_rfl (wE_c rfl cE_rfl (wE_c rfl cE_rfl (wE_c rfl cE_rfl (wE_c rfl cE_rfl (wE_c rfl cE_rfl (wE_c rfl cE_rfl (wE_c rfl cE_rfl (wE_c rfl cE_rfl (wE_c rfl cE_rfl (wE_c rfl cE_rfl (wE_c rfl (cE_arr (fun j hj => by rw [(hz1 j (by omega)).2])) (wE_c rfl cE_rfl (wE_c rfl cE_rfl (wE_c rfl cE_rfl (wE_c rfl cE_rfl (wE_c rfl cE_rfl (wE_c rfl cE_rfl (wE_c rfl cE_rfl (wE_c rfl cE_rfl (wE_c rfl cE_rfl (wE_n)))))))))))))))))))))) ?_
              refine j_sub [1, 0] [(0, .ref (q 0)), (3, .int (nI (0)))] rfl ?_
              have loop256 : ∀ (n : Nat) (i2 : Nat) (en1 : Nat → Nat), (80 < i2 + n) → (i2 ≤ 80) → (∀ j, j < i2 → en1 j = 99) → V k l D (tys3 cI cJ cZ) ({ frames := 6, cells := 20, slots := 14580, locals := 137 } : Room) cX3_init 6 RX3 (wK cI cJ cZ q R C 0 z0 z0 z0 z0 en1 z0 z0 cf1 z0 (fun _ => 99)) (20) (14580) 256 [(0, .ref (q 0)), (3, .int (nI (i2)))] [] := by
                intro n
                induction n with
                | zero => intro i2 en1 hm2 hi2 hz2; exfalso; omega
                | succ n ih256 =>
                  intro i2 en1 hm2 hi2 hz2
                  refine j_iload_n dX3_init_256 rfl 1 rfl ?_
                  refine j_bipush (v := nI (80)) dX3_init_257 (by decide) ?_
                  refine jn_icmp_ge (tgt := 275) (a := i2) (b := 80) (by omega) (by omega) dX3_init_259 (by decide) (fun c259 => ?_) (fun c259 => ?_)
                  · refine j_iconst (v := nI (0)) dX3_init_275 (by decide) ?_
                    refine j_istore_n [(3, .int (nI (0))), (0, .ref (q 0))] dX3_init_276 rfl (by decide) rfl ?_
                    refine j_sub [1, 0] [(0, .ref (q 0)), (3, .int (nI (0)))] rfl ?_
                    have loop277 : ∀ (n : Nat) (i3 : Nat) (fp1 : Nat → Nat), (nP R C < i3 + n) → (i3 ≤ nP R C) → (∀ j, j < i3 → fp1 j = 99) → (∀ j, i3 ≤ j → fp1 j = 0) → V k l D (tys3 cI cJ cZ) ({ frames := 6, cells := 20, slots := 14580, locals := 137 } : Room) cX3_init 6 RX3 (wK cI cJ cZ q R C 0 z0 z0 z0 z0 en1 fp1 z0 cf1 z0 (fun _ => 99)) (20) (14580) 277 [(0, .ref (q 0)), (3, .int (nI (i3)))] [] := by
                      intro n
                      induction n with
                      | zero => intro i3 fp1 hm3 hi3 hz3 hy3; exfalso; omega
                      | succ n ih277 =>
                        intro i3 fp1 hm3 hi3 hz3 hy3
                        refine j_iload_n dX3_init_277 rfl 1 rfl ?_
                        refine j_aload_n dX3_init_278 rfl 0 rfl ?_
                        refine gf_X3_79 0 rfl (rfl) dX3_init_279 ?_
                        refine jn_icmp_ge (tgt := 299) (a := i3) (b := nP R C) (by omega) (by omega) dX3_init_282 (by decide) (fun c282 => ?_) (fun c282 => ?_)
                        · refine j_iconst (v := nI (0)) dX3_init_299 (by decide) ?_
                          refine j_istore_n [(3, .int (nI (0))), (0, .ref (q 0))] dX3_init_300 rfl (by decide) rfl ?_
                          have hT0 : TC R C (eN R C 0 0) z0 z0 z0 z0 en1 fp1 z0 cf1 z0 := by rw [eN_0 hG]; exact TC_0 (fun j hj => hz2 j (by omega)) (fun j hj => hz3 j (by omega)) (fun j hj => hy3 j (by omega)) (fun j hj => (hz1 j (by omega)).1)
                          refine j_world (w' := wK cI cJ cZ q R C (eN R C 0 0) z0 z0 z0 z0 en1 fp1 z0 cf1 z0 (fun _ => 99)) (by rw [eN_0 hG]) ?_
                          refine j_lv (lv' := [(3, .int (nI (0 * (C + 1) + 0))), (0, .ref (q 0))]) (by rw [Nat.zero_mul]) ?_
                          refine j_sub [1, 0] [(0, .ref (q 0)), (3, .int (nI (0 * (C + 1) + 0)))] rfl ?_
                          have loop301 : ∀ (n : Nat) (yy xx : Nat) (lw8 hg8 n18 n28 en8 fp8 la8 cf8 cl8 : Nat → Nat), (nP R C < yy * (C + 1) + xx + n) → (xx ≤ C) → (yy ≤ R ∨ (yy = R + 1 ∧ xx = 0)) → (TC R C (eN R C yy xx) lw8 hg8 n18 n28 en8 fp8 la8 cf8 cl8) → V k l D (tys3 cI cJ cZ) ({ frames := 6, cells := 20, slots := 14580, locals := 137 } : Room) cX3_init 6 RX3 (wK cI cJ cZ q R C (eN R C yy xx) lw8 hg8 n18 n28 en8 fp8 la8 cf8 cl8 (fun _ => 99)) (20) (14580) 301 [(0, .ref (q 0)), (3, .int (nI (yy * (C + 1) + xx)))] [] := by
                            intro n
                            induction n with
                            | zero => intro yy xx lw8 hg8 n18 n28 en8 fp8 la8 cf8 cl8 hm4 hxC hyx hT8; exfalso; have := pq_le hxC hyx; omega
                            | succ n ih301 =>
                              intro yy xx lw8 hg8 n18 n28 en8 fp8 la8 cf8 cl8 hm4 hxC hyx hT8
                              have hple := pq_le hxC hyx
                              refine j_iload_n dX3_init_301 rfl 1 rfl ?_
                              refine j_aload_n dX3_init_302 rfl 0 rfl ?_
                              refine gf_X3_79 0 rfl (rfl) dX3_init_303 ?_
                              refine jn_icmp_ge (tgt := 410) (a := yy * (C + 1) + xx) (b := nP R C) (by omega) (by omega) dX3_init_306 (by decide) (fun c306 => ?_) (fun c306 => ?_)
                              · have hxy : yy = R + 1 ∧ xx = 0 := by
                                  rcases hyx with h9 | h9
                                  · exact absurd (pq_lt h9 hxC) (by omega)
                                  · exact h9
                                obtain ⟨h9, h8⟩ := hxy
                                subst h9 h8
                                rw [eN_R] at hT8
                                obtain ⟨f1, f2, f3, f4, f5, f6, f7, f8, f9⟩ := TC_f hG hT8
                                refine j_world (w' := wK cI cJ cZ q R C (nE R C) lw8 hg8 n18 n28 en8 fp8 la8 cf8 cl8 (fun _ => 99)) (by rw [eN_R]) ?_
                                refine j_wext (w2 := wM cI cJ cZ q R C 0 false false 0 0 0 0 0 z0 (fun _ => 99) z0 z0 z0 z0 z0 zL z0 z0 no0) (wE_c rfl cE_rfl (wE_c rfl (cE_arr (fun j hj => by rw [f1])) (wE_c rfl (cE_arr (fun j hj => by rw [f2])) (wE_c rfl (cE_arr (fun j hj => by rw [f3])) (wE_c rfl (cE_arr (fun j hj => by rw [f4])) (wE_c rfl (cE_arr (fun j hj => by rw [f5 j hj])) (wE_c rfl (cE_arr (fun j hj => by rw [f6 j hj])) (wE_c rfl (cE_arr (fun j hj => by rw [f7 j hj])) (wE_c rfl (cE_arr (fun j hj => by rw [f8 j hj])) (wE_c rfl (cE_arr (fun j hj => by rw [f9 j hj])) (wE_c rfl cE_rfl (wE_c rfl cE_rfl (wE_c rfl cE_rfl (wE_c rfl cE_rfl (wE_c rfl cE_rfl (wE_c rfl cE_rfl (wE_c rfl cE_rfl (wE_c rfl cE_rfl (wE_c rfl cE_rfl (wE_c rfl cE_rfl (wE_c rfl cE_rfl (wE_n)))))))))))))))))))))) ?_
                                refine j_aload_n dX3_init_410 rfl 0 rfl ?_
                                refine j_vW (av := []) (c_findLoops l hfl D cI cJ cZ q R C hG 0 false false 0 0 0 0 0 z0 (fun _ => 99) z0 z0 z0 z0 z0 zL z0 z0 no0 (fun p _ => ⟨rfl, rfl⟩) hcap rfl) 0 rfl rfl mw2_201 mw2_203 msel12 mw1_4 mw2_204 rfl hd_X3_findLoops rfl ⟨rfl, rfl⟩ ⟨Nat.le_of_ble_eq_true rfl, Nat.le_of_ble_eq_true rfl⟩ ⟨Nat.le_of_ble_eq_true rfl, Nat.le_of_ble_eq_true rfl⟩ (Nat.le_of_ble_eq_true rfl) rfl dX3_init_411 ?_
                                rintro _ _ ⟨rfl, nl2, lp2, de2, se2, hL2, hJ2, rfl⟩
                                refine j_st (st' := []) rfl ?_
                                exact j_vret (tys' := []) rfl hR dX3_init_414 (⟨rfl, q, by rw [hq]; rfl, MW_of ⟨hL2, (fun h => nomatch h), (fun h => nomatch h), hJ2, by decide⟩⟩)
                              · have hyR : yy ≤ R := by
                                  rcases hyx with h9 | ⟨h9, h8⟩
                                  · exact h9
                                  · exfalso; subst h9 h8; unfold nP at c306; omega
                                refine j_iload_n dX3_init_309 rfl 1 rfl ?_
                                refine j_aload_n dX3_init_310 rfl 0 rfl ?_
                                refine gf_X3_76 0 rfl (rfl) dX3_init_311 ?_
                                refine j_iconst (v := nI (1)) dX3_init_314 (by decide) ?_
                                refine jn_iadd (v := C + 1) dX3_init_315 rfl ?_
                                refine j_idiv dX3_init_316 (fun h => absurd (nI_eq0 (by omega) h) (by omega)) rfl ?_
                                refine j_topi (y := nI (yy)) (by rw [pk_div (by have := pq_lt hyR hxC; omega) (by omega) (by omega), pt_div hxC]) ?_
                                refine j_istore [(4, .int (nI (yy))), (0, .ref (q 0)), (3, .int (nI (yy * (C + 1) + xx)))] dX3_init_317 (by decide) rfl ?_
                                refine j_iload_n dX3_init_319 rfl 2 rfl ?_
                                refine j_aload_n dX3_init_320 rfl 1 rfl ?_
                                refine gf_X3_76 0 rfl (rfl) dX3_init_321 ?_
                                refine j_iconst (v := nI (1)) dX3_init_324 (by decide) ?_
                                refine jn_iadd (v := C + 1) dX3_init_325 rfl ?_
                                refine j_irem dX3_init_326 (fun h => absurd (nI_eq0 (by omega) h) (by omega)) rfl ?_
                                refine j_topi (y := nI (xx)) (by rw [pk_rem (by have := pq_lt hyR hxC; omega) (by omega) (by omega), pt_mod hxC]) ?_
                                refine j_istore [(5, .int (nI (xx))), (4, .int (nI (yy))), (0, .ref (q 0)), (3, .int (nI (yy * (C + 1) + xx)))] dX3_init_327 (by decide) rfl ?_
                                refine j_iload dX3_init_329 0 rfl ?_
                                refine j_aload_n dX3_init_331 rfl 2 rfl ?_
                                refine gf_X3_76 0 rfl (rfl) dX3_init_332 ?_
                                refine jn_icmp_ge (tgt := 364) (a := xx) (b := C) (by omega) (by omega) dX3_init_335 (by decide) (fun c335 => ?_) (fun c335 => ?_)
                                · refine j_iload dX3_init_364 1 rfl ?_
                                  refine j_aload_n dX3_init_366 rfl 2 rfl ?_
                                  refine gf_X3_72 0 rfl (rfl) dX3_init_367 ?_
                                  refine jn_icmp_ge (tgt := 404) (a := yy) (b := R) (by omega) (by omega) dX3_init_370 (by decide) (fun c370 => ?_) (fun c370 => ?_)
                                  · refine j_iinc (n0 := 3) (v := nI (yy * (C + 1) + xx + 1)) [(3, .int (nI (yy * (C + 1) + xx + 1))), (5, .int (nI (xx))), (4, .int (nI (yy))), (0, .ref (q 0))] dX3_init_404 rfl (by exact nI_add (yy * (C + 1) + xx) 1) (by decide) rfl ?_
                                    refine j_goto (tgt := 301) dX3_init_407 (by decide) ?_
                                    refine j_sub [3, 0] [(0, .ref (q 0)), (3, .int (nI (yy * (C + 1) + xx + 1)))] rfl ?_
                                    have hen := (eN_t hG hyR hxC).2.2.2
                                    have hen1 := hen.1
                                    rw [if_neg (show ¬ xx < C by omega), if_neg (show ¬ yy < R by omega)] at hen1
                                    simp only [Nat.add_zero] at hen1
                                    have hxe : xx = C := by omega
                                    subst hxe
                                    rw [hen.2] at hen1
                                    rw [← hen1] at hT8 ⊢
                                    have hmul : (yy + 1) * (xx + 1) = yy * (xx + 1) + (xx + 1) := by rw [Nat.add_mul, Nat.one_mul]
                                    refine j_lv (lv' := [(0, .ref (q 0)), (3, .int (nI ((yy + 1) * (xx + 1) + 0)))]) (by rw [hmul]; rfl) ?_
                                    exact ih301 (yy + 1) 0 lw8 hg8 n18 n28 en8 fp8 la8 cf8 cl8 (by omega) (by omega) (by omega) hT8
                                  · refine j_aload_n dX3_init_373 rfl 2 rfl ?_
                                    refine j_iload_n dX3_init_374 rfl 3 rfl ?_
                                    refine j_iload_n dX3_init_375 rfl 3 rfl ?_
                                    refine j_aload_n dX3_init_376 rfl 2 rfl ?_
                                    refine gf_X3_76 0 rfl (rfl) dX3_init_377 ?_
                                    refine jn_iadd (v := (yy * (C + 1) + xx) + C) dX3_init_380 rfl ?_
                                    refine j_iconst (v := nI (1)) dX3_init_381 (by decide) ?_
                                    refine jn_iadd (v := ((yy * (C + 1) + xx) + C) + 1) dX3_init_382 rfl ?_
                                    refine j_aload_n dX3_init_383 rfl 2 rfl ?_
                                    refine j_iload dX3_init_384 1 rfl ?_
                                    refine j_iload dX3_init_386 0 rfl ?_
                                    refine j_iconst (v := nI (1)) dX3_init_388 (by decide) ?_
                                    refine j_isub dX3_init_389 rfl ?_
                                    refine j_topi (y := eI (pd xx)) (eI_pd (by omega)) ?_
                                    refine j_st (st' := [.int (eI (pd xx)), .int (eI (yy)), .ref (q 0), .int (nI (((yy * (C + 1) + xx) + C) + 1)), .int (nI (yy * (C + 1) + xx)), .ref (q 0)]) (by rw [eI_ne (show ¬ yy = 99 by omega)]) ?_
                                    refine j_vW (av := [.int (eI (yy)), .int (eI (pd xx))]) (k_cell l hfl D cI cJ cZ q R C hG (eN R C yy xx) lw8 hg8 n18 n28 en8 fp8 la8 cf8 cl8 (fun _ => 99) (yy) (pd xx) (by first | omega | exact pd_lt (by omega)) (by first | omega | exact pd_lt (by omega))) 0 rfl rfl mw2_185 mw2_187 msel8 mw1_4 mw2_188 rfl hd_X3_cell rfl ⟨rfl, rfl⟩ ⟨Nat.le_of_ble_eq_true rfl, Nat.le_of_ble_eq_true rfl⟩ ⟨Nat.le_of_ble_eq_true rfl, Nat.le_of_ble_eq_true rfl⟩ (Nat.le_of_ble_eq_true rfl) rfl dX3_init_390 ?_
                                    rintro _ _ ⟨rfl, rfl⟩
                                    refine j_st (st' := [.int (eI (ccell R C yy (pd xx))), .int (nI (((yy * (C + 1) + xx) + C) + 1)), .int (nI (yy * (C + 1) + xx)), .ref (q 0)]) rfl ?_
                                    refine j_aload_n dX3_init_393 rfl 2 rfl ?_
                                    refine j_iload dX3_init_394 1 rfl ?_
                                    refine j_iload dX3_init_396 0 rfl ?_
                                    refine j_st (st' := [.int (eI (xx)), .int (eI (yy)), .ref (q 0), .int (eI (ccell R C yy (pd xx))), .int (nI (((yy * (C + 1) + xx) + C) + 1)), .int (nI (yy * (C + 1) + xx)), .ref (q 0)]) (by rw [eI_ne (show ¬ xx = 99 by omega), eI_ne (show ¬ yy = 99 by omega)]) ?_
                                    refine j_vW (av := [.int (eI (yy)), .int (eI (xx))]) (k_cell l hfl D cI cJ cZ q R C hG (eN R C yy xx) lw8 hg8 n18 n28 en8 fp8 la8 cf8 cl8 (fun _ => 99) (yy) (xx) (by first | omega | exact pd_lt (by omega)) (by first | omega | exact pd_lt (by omega))) 0 rfl rfl mw2_185 mw2_187 msel8 mw1_4 mw2_188 rfl hd_X3_cell rfl ⟨rfl, rfl⟩ ⟨Nat.le_of_ble_eq_true rfl, Nat.le_of_ble_eq_true rfl⟩ ⟨Nat.le_of_ble_eq_true rfl, Nat.le_of_ble_eq_true rfl⟩ (Nat.le_of_ble_eq_true rfl) rfl dX3_init_398 ?_
                                    rintro _ _ ⟨rfl, rfl⟩
                                    refine j_st (st' := [.int (eI (ccell R C yy xx)), .int (eI (ccell R C yy (pd xx))), .int (nI (((yy * (C + 1) + xx) + C) + 1)), .int (nI (yy * (C + 1) + xx)), .ref (q 0)]) rfl ?_
                                    obtain ⟨d1, d2, d3, d4⟩ := (eN_t hG hyR hxC).2.2.1 c370 c335
                                    obtain ⟨m1, m2, m3, m4⟩ := jn_d d1 d2 d3 d4
                                    refine j_st (st' := [.int (eI (mOther R C (eN R C yy xx))), .int (eI (mOne R C (eN R C yy xx))), .int (nI (mHigh R C (eN R C yy xx))), .int (nI (mLow R C (eN R C yy xx))), .ref (q 0)]) (by rw [m1, m2, m3, m4]) ?_
                                    refine j_vW (av := [.int (nI (mLow R C (eN R C yy xx))), .int (nI (mHigh R C (eN R C yy xx))), .int (eI (mOne R C (eN R C yy xx))), .int (eI (mOther R C (eN R C yy xx)))]) (k_join l hfl D cI cJ cZ q R C hG (eN R C yy xx) lw8 hg8 n18 n28 en8 fp8 la8 cf8 cl8 (fun _ => 99) d1 hT8) 0 rfl rfl mw2_189 mw2_191 msel9 mw1_4 mw2_192 rfl hd_X3_join rfl ⟨rfl, rfl⟩ ⟨Nat.le_of_ble_eq_true rfl, Nat.le_of_ble_eq_true rfl⟩ ⟨Nat.le_of_ble_eq_true rfl, Nat.le_of_ble_eq_true rfl⟩ (Nat.le_of_ble_eq_true rfl) rfl dX3_init_401 ?_
                                    rintro _ _ ⟨rfl, lwb, hgb, nab, nbb, enb, fpb, lab, cfb, clb, hTb, rfl⟩
                                    refine j_st (st' := []) rfl ?_
                                    refine j_iinc (n0 := 3) (v := nI (yy * (C + 1) + xx + 1)) [(3, .int (nI (yy * (C + 1) + xx + 1))), (5, .int (nI (xx))), (4, .int (nI (yy))), (0, .ref (q 0))] dX3_init_404 rfl (by exact nI_add (yy * (C + 1) + xx) 1) (by decide) rfl ?_
                                    refine j_goto (tgt := 301) dX3_init_407 (by decide) ?_
                                    refine j_sub [3, 0] [(0, .ref (q 0)), (3, .int (nI (yy * (C + 1) + xx + 1)))] rfl ?_
                                    have hen := (eN_t hG hyR hxC).2.2.2
                                    have hen1 := hen.1
                                    rw [if_neg (show ¬ xx < C by omega), if_pos c370] at hen1
                                    simp only [Nat.add_zero] at hen1
                                    have hxe : xx = C := by omega
                                    subst hxe
                                    rw [hen.2] at hen1
                                    rw [← hen1] at hTb ⊢
                                    have hmul : (yy + 1) * (xx + 1) = yy * (xx + 1) + (xx + 1) := by rw [Nat.add_mul, Nat.one_mul]
                                    refine j_lv (lv' := [(0, .ref (q 0)), (3, .int (nI ((yy + 1) * (xx + 1) + 0)))]) (by rw [hmul]; rfl) ?_
                                    exact ih301 (yy + 1) 0 lwb hgb nab nbb enb fpb lab cfb clb (by omega) (by omega) (by omega) hTb
                                · refine j_aload_n dX3_init_338 rfl 2 rfl ?_
                                  refine j_iload_n dX3_init_339 rfl 3 rfl ?_
                                  refine j_iload_n dX3_init_340 rfl 3 rfl ?_
                                  refine j_iconst (v := nI (1)) dX3_init_341 (by decide) ?_
                                  refine jn_iadd (v := (yy * (C + 1) + xx) + 1) dX3_init_342 rfl ?_
                                  refine j_aload_n dX3_init_343 rfl 2 rfl ?_
                                  refine j_iload dX3_init_344 1 rfl ?_
                                  refine j_iconst (v := nI (1)) dX3_init_346 (by decide) ?_
                                  refine j_isub dX3_init_347 rfl ?_
                                  refine j_topi (y := eI (pd yy)) (eI_pd (by omega)) ?_
                                  refine j_iload dX3_init_348 0 rfl ?_
                                  refine j_st (st' := [.int (eI (xx)), .int (eI (pd yy)), .ref (q 0), .int (nI ((yy * (C + 1) + xx) + 1)), .int (nI (yy * (C + 1) + xx)), .ref (q 0)]) (by rw [eI_ne (show ¬ xx = 99 by omega)]) ?_
                                  refine j_vW (av := [.int (eI (pd yy)), .int (eI (xx))]) (k_cell l hfl D cI cJ cZ q R C hG (eN R C yy xx) lw8 hg8 n18 n28 en8 fp8 la8 cf8 cl8 (fun _ => 99) (pd yy) (xx) (by first | omega | exact pd_lt (by omega)) (by first | omega | exact pd_lt (by omega))) 0 rfl rfl mw2_185 mw2_187 msel8 mw1_4 mw2_188 rfl hd_X3_cell rfl ⟨rfl, rfl⟩ ⟨Nat.le_of_ble_eq_true rfl, Nat.le_of_ble_eq_true rfl⟩ ⟨Nat.le_of_ble_eq_true rfl, Nat.le_of_ble_eq_true rfl⟩ (Nat.le_of_ble_eq_true rfl) rfl dX3_init_350 ?_
                                  rintro _ _ ⟨rfl, rfl⟩
                                  refine j_st (st' := [.int (eI (ccell R C (pd yy) xx)), .int (nI ((yy * (C + 1) + xx) + 1)), .int (nI (yy * (C + 1) + xx)), .ref (q 0)]) rfl ?_
                                  refine j_aload_n dX3_init_353 rfl 2 rfl ?_
                                  refine j_iload dX3_init_354 1 rfl ?_
                                  refine j_iload dX3_init_356 0 rfl ?_
                                  refine j_st (st' := [.int (eI (xx)), .int (eI (yy)), .ref (q 0), .int (eI (ccell R C (pd yy) xx)), .int (nI ((yy * (C + 1) + xx) + 1)), .int (nI (yy * (C + 1) + xx)), .ref (q 0)]) (by rw [eI_ne (show ¬ xx = 99 by omega), eI_ne (show ¬ yy = 99 by omega)]) ?_
                                  refine j_vW (av := [.int (eI (yy)), .int (eI (xx))]) (k_cell l hfl D cI cJ cZ q R C hG (eN R C yy xx) lw8 hg8 n18 n28 en8 fp8 la8 cf8 cl8 (fun _ => 99) (yy) (xx) (by first | omega | exact pd_lt (by omega)) (by first | omega | exact pd_lt (by omega))) 0 rfl rfl mw2_185 mw2_187 msel8 mw1_4 mw2_188 rfl hd_X3_cell rfl ⟨rfl, rfl⟩ ⟨Nat.le_of_ble_eq_true rfl, Nat.le_of_ble_eq_true rfl⟩ ⟨Nat.le_of_ble_eq_true rfl, Nat.le_of_ble_eq_true rfl⟩ (Nat.le_of_ble_eq_true rfl) rfl dX3_init_358 ?_
                                  rintro _ _ ⟨rfl, rfl⟩
                                  refine j_st (st' := [.int (eI (ccell R C yy xx)), .int (eI (ccell R C (pd yy) xx)), .int (nI ((yy * (C + 1) + xx) + 1)), .int (nI (yy * (C + 1) + xx)), .ref (q 0)]) rfl ?_
                                  obtain ⟨b1, b2, b3, b4⟩ := (eN_t hG hyR hxC).1 c335
                                  obtain ⟨k1, k2, k3, k4⟩ := jn_r b1 b2 b3 b4
                                  refine j_st (st' := [.int (eI (mOther R C (eN R C yy xx))), .int (eI (mOne R C (eN R C yy xx))), .int (nI (mHigh R C (eN R C yy xx))), .int (nI (mLow R C (eN R C yy xx))), .ref (q 0)]) (by rw [k1, k2, k3, k4]) ?_
                                  refine j_vW (av := [.int (nI (mLow R C (eN R C yy xx))), .int (nI (mHigh R C (eN R C yy xx))), .int (eI (mOne R C (eN R C yy xx))), .int (eI (mOther R C (eN R C yy xx)))]) (k_join l hfl D cI cJ cZ q R C hG (eN R C yy xx) lw8 hg8 n18 n28 en8 fp8 la8 cf8 cl8 (fun _ => 99) b1 hT8) 0 rfl rfl mw2_189 mw2_191 msel9 mw1_4 mw2_192 rfl hd_X3_join rfl ⟨rfl, rfl⟩ ⟨Nat.le_of_ble_eq_true rfl, Nat.le_of_ble_eq_true rfl⟩ ⟨Nat.le_of_ble_eq_true rfl, Nat.le_of_ble_eq_true rfl⟩ (Nat.le_of_ble_eq_true rfl) rfl dX3_init_361 ?_
                                  rintro _ _ ⟨rfl, lwa, hga, naa, nba, ena, fpa, laa, cfa, cla, hTa, rfl⟩
                                  refine j_st (st' := []) rfl ?_
                                  refine j_iload dX3_init_364 1 rfl ?_
                                  refine j_aload_n dX3_init_366 rfl 2 rfl ?_
                                  refine gf_X3_72 0 rfl (rfl) dX3_init_367 ?_
                                  refine jn_icmp_ge (tgt := 404) (a := yy) (b := R) (by omega) (by omega) dX3_init_370 (by decide) (fun c370 => ?_) (fun c370 => ?_)
                                  · refine j_iinc (n0 := 3) (v := nI (yy * (C + 1) + xx + 1)) [(3, .int (nI (yy * (C + 1) + xx + 1))), (5, .int (nI (xx))), (4, .int (nI (yy))), (0, .ref (q 0))] dX3_init_404 rfl (by exact nI_add (yy * (C + 1) + xx) 1) (by decide) rfl ?_
                                    refine j_goto (tgt := 301) dX3_init_407 (by decide) ?_
                                    refine j_sub [3, 0] [(0, .ref (q 0)), (3, .int (nI (yy * (C + 1) + xx + 1)))] rfl ?_
                                    have hen := (eN_t hG hyR hxC).2.2.2
                                    have hen1 := hen.1
                                    rw [if_pos c335, if_neg (show ¬ yy < R by omega)] at hen1
                                    simp only [Nat.add_zero] at hen1
                                    rw [← hen1] at hTa ⊢
                                    exact ih301 yy (xx + 1) lwa hga naa nba ena fpa laa cfa cla (by omega) (by omega) (Or.inl hyR) hTa
                                  · refine j_aload_n dX3_init_373 rfl 2 rfl ?_
                                    refine j_iload_n dX3_init_374 rfl 3 rfl ?_
                                    refine j_iload_n dX3_init_375 rfl 3 rfl ?_
                                    refine j_aload_n dX3_init_376 rfl 2 rfl ?_
                                    refine gf_X3_76 0 rfl (rfl) dX3_init_377 ?_
                                    refine jn_iadd (v := (yy * (C + 1) + xx) + C) dX3_init_380 rfl ?_
                                    refine j_iconst (v := nI (1)) dX3_init_381 (by decide) ?_
                                    refine jn_iadd (v := ((yy * (C + 1) + xx) + C) + 1) dX3_init_382 rfl ?_
                                    refine j_aload_n dX3_init_383 rfl 2 rfl ?_
                                    refine j_iload dX3_init_384 1 rfl ?_
                                    refine j_iload dX3_init_386 0 rfl ?_
                                    refine j_iconst (v := nI (1)) dX3_init_388 (by decide) ?_
                                    refine j_isub dX3_init_389 rfl ?_
                                    refine j_topi (y := eI (pd xx)) (eI_pd (by omega)) ?_
                                    refine j_st (st' := [.int (eI (pd xx)), .int (eI (yy)), .ref (q 0), .int (nI (((yy * (C + 1) + xx) + C) + 1)), .int (nI (yy * (C + 1) + xx)), .ref (q 0)]) (by rw [eI_ne (show ¬ yy = 99 by omega)]) ?_
                                    refine j_vW (av := [.int (eI (yy)), .int (eI (pd xx))]) (k_cell l hfl D cI cJ cZ q R C hG (eN R C yy xx + 1) lwa hga naa nba ena fpa laa cfa cla (fun _ => 99) (yy) (pd xx) (by first | omega | exact pd_lt (by omega)) (by first | omega | exact pd_lt (by omega))) 0 rfl rfl mw2_185 mw2_187 msel8 mw1_4 mw2_188 rfl hd_X3_cell rfl ⟨rfl, rfl⟩ ⟨Nat.le_of_ble_eq_true rfl, Nat.le_of_ble_eq_true rfl⟩ ⟨Nat.le_of_ble_eq_true rfl, Nat.le_of_ble_eq_true rfl⟩ (Nat.le_of_ble_eq_true rfl) rfl dX3_init_390 ?_
                                    rintro _ _ ⟨rfl, rfl⟩
                                    refine j_st (st' := [.int (eI (ccell R C yy (pd xx))), .int (nI (((yy * (C + 1) + xx) + C) + 1)), .int (nI (yy * (C + 1) + xx)), .ref (q 0)]) rfl ?_
                                    refine j_aload_n dX3_init_393 rfl 2 rfl ?_
                                    refine j_iload dX3_init_394 1 rfl ?_
                                    refine j_iload dX3_init_396 0 rfl ?_
                                    refine j_st (st' := [.int (eI (xx)), .int (eI (yy)), .ref (q 0), .int (eI (ccell R C yy (pd xx))), .int (nI (((yy * (C + 1) + xx) + C) + 1)), .int (nI (yy * (C + 1) + xx)), .ref (q 0)]) (by rw [eI_ne (show ¬ xx = 99 by omega), eI_ne (show ¬ yy = 99 by omega)]) ?_
                                    refine j_vW (av := [.int (eI (yy)), .int (eI (xx))]) (k_cell l hfl D cI cJ cZ q R C hG (eN R C yy xx + 1) lwa hga naa nba ena fpa laa cfa cla (fun _ => 99) (yy) (xx) (by first | omega | exact pd_lt (by omega)) (by first | omega | exact pd_lt (by omega))) 0 rfl rfl mw2_185 mw2_187 msel8 mw1_4 mw2_188 rfl hd_X3_cell rfl ⟨rfl, rfl⟩ ⟨Nat.le_of_ble_eq_true rfl, Nat.le_of_ble_eq_true rfl⟩ ⟨Nat.le_of_ble_eq_true rfl, Nat.le_of_ble_eq_true rfl⟩ (Nat.le_of_ble_eq_true rfl) rfl dX3_init_398 ?_
                                    rintro _ _ ⟨rfl, rfl⟩
                                    refine j_st (st' := [.int (eI (ccell R C yy xx)), .int (eI (ccell R C yy (pd xx))), .int (nI (((yy * (C + 1) + xx) + C) + 1)), .int (nI (yy * (C + 1) + xx)), .ref (q 0)]) rfl ?_
                                    obtain ⟨d1, d2, d3, d4⟩ := (eN_t hG hyR hxC).2.1 c370 c335
                                    obtain ⟨m1, m2, m3, m4⟩ := jn_d d1 d2 d3 d4
                                    refine j_st (st' := [.int (eI (mOther R C (eN R C yy xx + 1))), .int (eI (mOne R C (eN R C yy xx + 1))), .int (nI (mHigh R C (eN R C yy xx + 1))), .int (nI (mLow R C (eN R C yy xx + 1))), .ref (q 0)]) (by rw [m1, m2, m3, m4]) ?_
                                    refine j_vW (av := [.int (nI (mLow R C (eN R C yy xx + 1))), .int (nI (mHigh R C (eN R C yy xx + 1))), .int (eI (mOne R C (eN R C yy xx + 1))), .int (eI (mOther R C (eN R C yy xx + 1)))]) (k_join l hfl D cI cJ cZ q R C hG (eN R C yy xx + 1) lwa hga naa nba ena fpa laa cfa cla (fun _ => 99) d1 hTa) 0 rfl rfl mw2_189 mw2_191 msel9 mw1_4 mw2_192 rfl hd_X3_join rfl ⟨rfl, rfl⟩ ⟨Nat.le_of_ble_eq_true rfl, Nat.le_of_ble_eq_true rfl⟩ ⟨Nat.le_of_ble_eq_true rfl, Nat.le_of_ble_eq_true rfl⟩ (Nat.le_of_ble_eq_true rfl) rfl dX3_init_401 ?_
                                    rintro _ _ ⟨rfl, lwb, hgb, nab, nbb, enb, fpb, lab, cfb, clb, hTb, rfl⟩
                                    refine j_st (st' := []) rfl ?_
                                    refine j_iinc (n0 := 3) (v := nI (yy * (C + 1) + xx + 1)) [(3, .int (nI (yy * (C + 1) + xx + 1))), (5, .int (nI (xx))), (4, .int (nI (yy))), (0, .ref (q 0))] dX3_init_404 rfl (by exact nI_add (yy * (C + 1) + xx) 1) (by decide) rfl ?_
                                    refine j_goto (tgt := 301) dX3_init_407 (by decide) ?_
                                    refine j_sub [3, 0] [(0, .ref (q 0)), (3, .int (nI (yy * (C + 1) + xx + 1)))] rfl ?_
                                    have hen := (eN_t hG hyR hxC).2.2.2
                                    have hen1 := hen.1
                                    rw [if_pos c335, if_pos c370] at hen1
                                    rw [← hen1] at hTb ⊢
                                    exact ih301 yy (xx + 1) lwb hgb nab nbb enb fpb lab cfb clb (by omega) (by omega) (Or.inl hyR) hTb
                          exact loop301 (nP R C + 2) 0 0 z0 z0 z0 z0 en1 fp1 z0 cf1 z0 (by omega) (by omega) (Or.inl (by omega)) hT0
                        · refine j_aload_n dX3_init_285 rfl 0 rfl ?_
                          refine gf_X3_25 0 rfl (rfl) dX3_init_286 ?_
                          refine j_iload_n dX3_init_289 rfl 1 rfl ?_
                          refine j_bipush (v := nI (99)) dX3_init_290 (by decide) ?_
                          refine jn_iastN (wK cI cJ cZ q R C 0 z0 z0 z0 z0 en1 (va_up fp1 i3 99) z0 cf1 z0 (fun _ => 99)) 6 0 rfl rfl (by omega) (by omega) rfl dX3_init_292 ?_
                          refine j_iinc (n0 := 1) (v := nI (i3 + 1)) [(3, .int (nI (i3 + 1))), (0, .ref (q 0))] dX3_init_293 rfl (by exact nI_add (i3) 1) (by decide) rfl ?_
                          refine j_goto (tgt := 277) dX3_init_296 (by decide) ?_
                          refine j_sub [1, 0] [(0, .ref (q 0)), (3, .int (nI (i3 + 1)))] rfl ?_
                          exact ih277 (i3 + 1) (va_up fp1 i3 99) (by omega) (by omega) (fun j h => if h2 : j = i3 then by rw [h2, va_up_self] else by rw [va_up_ne _ _ h2]; exact hz3 j (by omega)) (fun j h => by rw [va_up_ne _ _ (by omega)]; exact hy3 j (by omega))
                    exact loop277 (nP R C + 2) 0 z0 (by omega) (by omega) (fun j h => absurd h (by omega)) (fun j _ => rfl)
                  · refine j_aload_n dX3_init_262 rfl 0 rfl ?_
                    refine gf_X3_22 0 rfl (rfl) dX3_init_263 ?_
                    refine j_iload_n dX3_init_266 rfl 1 rfl ?_
                    refine j_iconst (v := (-1)) dX3_init_267 (by decide) ?_
                    refine j_st (st' := [.int (eI (99)), .int (nI (i2)), .ref (q 9)]) (by rfl) ?_
                    refine jn_iastE (wK cI cJ cZ q R C 0 z0 z0 z0 z0 (va_up en1 i2 99) z0 z0 cf1 z0 (fun _ => 99)) 5 0 rfl rfl (by omega) (by omega) rfl dX3_init_268 ?_
                    refine j_iinc (n0 := 1) (v := nI (i2 + 1)) [(3, .int (nI (i2 + 1))), (0, .ref (q 0))] dX3_init_269 rfl (by exact nI_add (i2) 1) (by decide) rfl ?_
                    refine j_goto (tgt := 256) dX3_init_272 (by decide) ?_
                    refine j_sub [1, 0] [(0, .ref (q 0)), (3, .int (nI (i2 + 1)))] rfl ?_
                    exact ih256 (i2 + 1) (va_up en1 i2 99) (by omega) (by omega) (fun j h => if h2 : j = i2 then by rw [h2, va_up_self] else by rw [va_up_ne _ _ h2]; exact hz2 j (by omega))
              exact loop256 82 0 z0 (by omega) (by omega) (fun j h => absurd h (by omega))
            · refine j_aload_n dX3_init_233 rfl 0 rfl ?_
              refine gf_X3_40 0 rfl (rfl) dX3_init_234 ?_
              refine j_iload_n dX3_init_237 rfl 1 rfl ?_
              refine j_iconst (v := (-1)) dX3_init_238 (by decide) ?_
              refine j_st (st' := [.int (eI (99)), .int (nI (i)), .ref (q 16)]) (by rfl) ?_
              refine jn_iastE (wK cI cJ cZ q R C 0 z0 z0 z0 z0 z0 z0 z0 cf1 z0 (va_up cu1 i 99)) 11 0 rfl rfl (by omega) (by omega) rfl dX3_init_239 ?_
              refine j_aload_n dX3_init_240 rfl 0 rfl ?_
              refine gf_X3_31 0 rfl (rfl) dX3_init_241 ?_
              refine j_iload_n dX3_init_244 rfl 1 rfl ?_
              refine j_bipush (v := nI (99)) dX3_init_245 (by decide) ?_
              refine jn_iastN (wK cI cJ cZ q R C 0 z0 z0 z0 z0 z0 z0 z0 (va_up cf1 i 99) z0 (va_up cu1 i 99)) 8 0 rfl rfl (by omega) (by omega) rfl dX3_init_247 ?_
              refine j_iinc (n0 := 1) (v := nI (i + 1)) [(3, .int (nI (i + 1))), (0, .ref (q 0))] dX3_init_248 rfl (by exact nI_add (i) 1) (by decide) rfl ?_
              refine j_goto (tgt := 227) dX3_init_251 (by decide) ?_
              refine j_sub [1, 0] [(0, .ref (q 0)), (3, .int (nI (i + 1)))] rfl ?_
              exact ih227 (i + 1) (va_up cf1 i 99) (va_up cu1 i 99) (by omega) (by omega) (fun j h => if h2 : j = i then by rw [h2, va_up_self, va_up_self]; exact ⟨rfl, rfl⟩ else by rw [va_up_ne _ _ h2, va_up_ne _ _ h2]; exact hz1 j (by omega))
        exact loop227 14 0 z0 z0 (by omega) (by omega) (fun j h => absurd h (by omega))
  · refine j_iload_n dX3_init_176 rfl 1 rfl ?_
    refine j_iconst (v := nI (4)) dX3_init_177 (by decide) ?_
    refine j_icmp_le (tgt := 185) dX3_init_178 (by decide) (fun c178 => ?_) (fun c178 => ?_)
    · refine j_iload_n dX3_init_185 rfl 1 rfl ?_
      have eR : x = nI R := szI_t (by decide) hxR c173 (fun h => by have h2 := Int32.lt_iff_toInt_lt.mp h; have h3 := Int32.le_iff_toInt_le.mp c178; omega)
      refine j_st (st' := [.int (nI (R)), .ref (mq)]) (by rw [eR]) ?_
      refine pf_X3_72 ([(mq, .inr (3, [.int (nI (0)), .int (nI (R)), .int (nI (0)), .int (nI (0)), .int (nI (0)), .ref (r5), .ref (r6), .ref (r7), .ref (r8), .ref (r9), .ref (r10), .ref (r11), .ref (r12), .ref (r13), .int (nI (0)), .ref (r15), .ref (r16), .int (nI (0)), .int (nI (0)), .ref (r19), .int (nI (0)), .ref (r21), .ref (r22), .int (nI (0)), .ref (r24), .int (nI (0)), .ref (r26), .ref (r27), .ref (r28), .int (nI (0)), .ref (r30), .ref (r31)])), (r5, .inl (cI, 31, .inl (fun jz => nI (z0 jz)))), (r6, .inl (cI, 31, .inl (fun jz => nI (z0 jz)))), (r7, .inl (cI, 31, .inl (fun jz => nI (z0 jz)))), (r8, .inl (cI, 31, .inl (fun jz => nI (z0 jz)))), (r9, .inl (cI, 80, .inl (fun jz => nI (z0 jz)))), (r10, .inl (cI, 20, .inl (fun jz => nI (z0 jz)))), (r11, .inl (cI, 20, .inl (fun jz => nI (z0 jz)))), (r12, .inl (cI, 12, .inl (fun jz => nI (z0 jz)))), (r13, .inl (cI, 12, .inl (fun jz => nI (z0 jz)))), (r15, .inl (cI, 1300, .inl (fun jz => nI (z0 jz)))), (r16, .inl (cI, 12, .inl (fun jz => nI (z0 jz)))), (r19, .inl (cI, 1300, .inl (fun jz => nI (z0 jz)))), (r21, .inl (cI, 32, .inl (fun jz => nI (z0 jz)))), (r22, .inl (cI, 32, .inl (fun jz => nI (z0 jz)))), (r24, .inl (cI, 2500, .inl (fun jz => nI (z0 jz)))), (r26, .inl (cI, 2500, .inl (fun jz => nI (z0 jz)))), (r27, .inl (cJ, 2500, .inr (.inl (zL)))), (r28, .inl (cI, 4096, .inl (fun jz => nI (z0 jz)))), (r30, .inl (cI, 20, .inl (fun jz => nI (z0 jz)))), (r31, .inl (cZ, 20, .inl (fun jz => bI (no0 jz))))]) 0 rfl (Nat.le_of_ble_eq_true rfl) rfl dX3_init_186 ?_
      refine j_aload_n dX3_init_189 rfl 0 rfl ?_
      refine j_iload_n dX3_init_190 rfl 2 rfl ?_
      refine j_iconst (v := nI (1)) dX3_init_191 (by decide) ?_
      refine j_icmp_lt (tgt := 200) dX3_init_192 (by decide) (fun c192 => ?_) (fun c192 => ?_)
      · refine j_iconst (v := nI (2)) dX3_init_200 (by decide) ?_
        refine j_goto (tgt := 205) dX3_init_201 (by decide) ?_
        have eC : C = 2 := szI_f (by decide) hyC (by first | exact Or.inl c192 | exact Or.inr (by rw [Int32.lt_iff_toInt_lt]; rw [Int32.le_iff_toInt_le] at c197; omega))
        refine j_st (st' := [.int (nI (C)), .ref (mq)]) (by rw [eC]) ?_
        refine pf_X3_76 ([(mq, .inr (3, [.int (nI (0)), .int (nI (R)), .int (nI (C)), .int (nI (0)), .int (nI (0)), .ref (r5), .ref (r6), .ref (r7), .ref (r8), .ref (r9), .ref (r10), .ref (r11), .ref (r12), .ref (r13), .int (nI (0)), .ref (r15), .ref (r16), .int (nI (0)), .int (nI (0)), .ref (r19), .int (nI (0)), .ref (r21), .ref (r22), .int (nI (0)), .ref (r24), .int (nI (0)), .ref (r26), .ref (r27), .ref (r28), .int (nI (0)), .ref (r30), .ref (r31)])), (r5, .inl (cI, 31, .inl (fun jz => nI (z0 jz)))), (r6, .inl (cI, 31, .inl (fun jz => nI (z0 jz)))), (r7, .inl (cI, 31, .inl (fun jz => nI (z0 jz)))), (r8, .inl (cI, 31, .inl (fun jz => nI (z0 jz)))), (r9, .inl (cI, 80, .inl (fun jz => nI (z0 jz)))), (r10, .inl (cI, 20, .inl (fun jz => nI (z0 jz)))), (r11, .inl (cI, 20, .inl (fun jz => nI (z0 jz)))), (r12, .inl (cI, 12, .inl (fun jz => nI (z0 jz)))), (r13, .inl (cI, 12, .inl (fun jz => nI (z0 jz)))), (r15, .inl (cI, 1300, .inl (fun jz => nI (z0 jz)))), (r16, .inl (cI, 12, .inl (fun jz => nI (z0 jz)))), (r19, .inl (cI, 1300, .inl (fun jz => nI (z0 jz)))), (r21, .inl (cI, 32, .inl (fun jz => nI (z0 jz)))), (r22, .inl (cI, 32, .inl (fun jz => nI (z0 jz)))), (r24, .inl (cI, 2500, .inl (fun jz => nI (z0 jz)))), (r26, .inl (cI, 2500, .inl (fun jz => nI (z0 jz)))), (r27, .inl (cJ, 2500, .inr (.inl (zL)))), (r28, .inl (cI, 4096, .inl (fun jz => nI (z0 jz)))), (r30, .inl (cI, 20, .inl (fun jz => nI (z0 jz)))), (r31, .inl (cZ, 20, .inl (fun jz => bI (no0 jz))))]) 0 rfl (Nat.le_of_ble_eq_true rfl) rfl dX3_init_205 ?_
        refine j_aload_n dX3_init_208 rfl 0 rfl ?_
        refine j_aload_n dX3_init_209 rfl 0 rfl ?_
        refine gf_X3_72 0 rfl (rfl) dX3_init_210 ?_
        refine j_iconst (v := nI (1)) dX3_init_213 (by decide) ?_
        refine jn_iadd (v := R + 1) dX3_init_214 rfl ?_
        refine j_aload_n dX3_init_215 rfl 0 rfl ?_
        refine gf_X3_76 0 rfl (rfl) dX3_init_216 ?_
        refine j_iconst (v := nI (1)) dX3_init_219 (by decide) ?_
        refine jn_iadd (v := C + 1) dX3_init_220 rfl ?_
        refine jn_imul (v := (R + 1) * (C + 1)) dX3_init_221 rfl ?_
        refine j_topi (y := nI (nP R C)) (by rfl) ?_
        refine pf_X3_79 ([(mq, .inr (3, [.int (nI (0)), .int (nI (R)), .int (nI (C)), .int (nI (nP R C)), .int (nI (0)), .ref (r5), .ref (r6), .ref (r7), .ref (r8), .ref (r9), .ref (r10), .ref (r11), .ref (r12), .ref (r13), .int (nI (0)), .ref (r15), .ref (r16), .int (nI (0)), .int (nI (0)), .ref (r19), .int (nI (0)), .ref (r21), .ref (r22), .int (nI (0)), .ref (r24), .int (nI (0)), .ref (r26), .ref (r27), .ref (r28), .int (nI (0)), .ref (r30), .ref (r31)])), (r5, .inl (cI, 31, .inl (fun jz => nI (z0 jz)))), (r6, .inl (cI, 31, .inl (fun jz => nI (z0 jz)))), (r7, .inl (cI, 31, .inl (fun jz => nI (z0 jz)))), (r8, .inl (cI, 31, .inl (fun jz => nI (z0 jz)))), (r9, .inl (cI, 80, .inl (fun jz => nI (z0 jz)))), (r10, .inl (cI, 20, .inl (fun jz => nI (z0 jz)))), (r11, .inl (cI, 20, .inl (fun jz => nI (z0 jz)))), (r12, .inl (cI, 12, .inl (fun jz => nI (z0 jz)))), (r13, .inl (cI, 12, .inl (fun jz => nI (z0 jz)))), (r15, .inl (cI, 1300, .inl (fun jz => nI (z0 jz)))), (r16, .inl (cI, 12, .inl (fun jz => nI (z0 jz)))), (r19, .inl (cI, 1300, .inl (fun jz => nI (z0 jz)))), (r21, .inl (cI, 32, .inl (fun jz => nI (z0 jz)))), (r22, .inl (cI, 32, .inl (fun jz => nI (z0 jz)))), (r24, .inl (cI, 2500, .inl (fun jz => nI (z0 jz)))), (r26, .inl (cI, 2500, .inl (fun jz => nI (z0 jz)))), (r27, .inl (cJ, 2500, .inr (.inl (zL)))), (r28, .inl (cI, 4096, .inl (fun jz => nI (z0 jz)))), (r30, .inl (cI, 20, .inl (fun jz => nI (z0 jz)))), (r31, .inl (cZ, 20, .inl (fun jz => bI (no0 jz))))]) 0 rfl (Nat.le_of_ble_eq_true rfl) rfl dX3_init_222 ?_
        refine j_iconst (v := nI (0)) dX3_init_225 (by decide) ?_
        refine j_istore_n [(3, .int (nI (0))), (0, .ref (mq)), (1, .int (x)), (2, .int (y))] dX3_init_226 rfl (by decide) rfl ?_
        obtain ⟨q, hq⟩ : ∃ q : Nat → Nat, q = mkQ [mq, 0, 0, 0, 0, r5, r6, r7, r8, r9, r10, r11, r12, r13, 0, r15, r16, 0, 0, r19, 0, r21, r22, 0, r24, 0, r26, r27, r28, 0, r30, r31] := ⟨_, rfl⟩
        refine j_world (w' := wK cI cJ cZ q R C 0 z0 z0 z0 z0 z0 z0 z0 z0 z0 z0) (by rw [hq]; rfl) ?_
        refine j_sub [1, 0] [(0, .ref (mq)), (3, .int (nI (0)))] rfl ?_
        refine j_lv (lv' := [(0, .ref (q 0)), (3, .int (nI (0)))]) (by rw [hq]; rfl) ?_
        have loop227 : ∀ (n : Nat) (i : Nat) (cf1 cu1 : Nat → Nat), (12 < i + n) → (i ≤ 12) → (∀ j, j < i → cf1 j = 99 ∧ cu1 j = 99) → V k l D (tys3 cI cJ cZ) ({ frames := 6, cells := 20, slots := 14580, locals := 137 } : Room) cX3_init 6 RX3 (wK cI cJ cZ q R C 0 z0 z0 z0 z0 z0 z0 z0 cf1 z0 cu1) (20) (14580) 227 [(0, .ref (q 0)), (3, .int (nI (i)))] [] := by
          intro n
          induction n with
          | zero => intro i cf1 cu1 hm1 hi1 hz1; exfalso; omega
          | succ n ih227 =>
            intro i cf1 cu1 hm1 hi1 hz1
            refine j_iload_n dX3_init_227 rfl 1 rfl ?_
            refine j_bipush (v := nI (12)) dX3_init_228 (by decide) ?_
            refine jn_icmp_ge (tgt := 254) (a := i) (b := 12) (by omega) (by omega) dX3_init_230 (by decide) (fun c230 => ?_) (fun c230 => ?_)
            · refine j_iconst (v := nI (0)) dX3_init_254 (by decide) ?_
              refine j_istore_n [(3, .int (nI (0))), (0, .ref (q 0))] dX3_init_255 rfl (by decide) rfl ?_
              refine j_wext (w2 := wK cI cJ cZ q R C 0 z0 z0 z0 z0 z0 z0 z0 cf1 z0 (fun _ => 99)) (wE_c rfl cE_rfl (wE_c rfl cE_rfl (wE_c rfl cE_rfl (wE_c rfl cE_rfl (wE_c rfl cE_rfl (wE_c rfl cE_rfl (wE_c rfl cE_rfl (wE_c rfl cE_rfl (wE_c rfl cE_rfl (wE_c rfl cE_rfl (wE_c rfl cE_rfl (wE_c rfl (cE_arr (fun j hj => by rw [(hz1 j (by omega)).2])) (wE_c rfl cE_rfl (wE_c rfl cE_rfl (wE_c rfl cE_rfl (wE_c rfl cE_rfl (wE_c rfl cE_rfl (wE_c rfl cE_rfl (wE_c rfl cE_rfl (wE_c rfl cE_rfl (wE_c rfl cE_rfl (wE_n)))))))))))))))))))))) ?_
              refine j_sub [1, 0] [(0, .ref (q 0)), (3, .int (nI (0)))] rfl ?_
              have loop256 : ∀ (n : Nat) (i2 : Nat) (en1 : Nat → Nat), (80 < i2 + n) → (i2 ≤ 80) → (∀ j, j < i2 → en1 j = 99) → V k l D (tys3 cI cJ cZ) ({ frames := 6, cells := 20, slots := 14580, locals := 137 } : Room) cX3_init 6 RX3 (wK cI cJ cZ q R C 0 z0 z0 z0 z0 en1 z0 z0 cf1 z0 (fun _ => 99)) (20) (14580) 256 [(0, .ref (q 0)), (3, .int (nI (i2)))] [] := by
                intro n
                induction n with
                | zero => intro i2 en1 hm2 hi2 hz2; exfalso; omega
                | succ n ih256 =>
                  intro i2 en1 hm2 hi2 hz2
                  refine j_iload_n dX3_init_256 rfl 1 rfl ?_
                  refine j_bipush (v := nI (80)) dX3_init_257 (by decide) ?_
                  refine jn_icmp_ge (tgt := 275) (a := i2) (b := 80) (by omega) (by omega) dX3_init_259 (by decide) (fun c259 => ?_) (fun c259 => ?_)
                  · refine j_iconst (v := nI (0)) dX3_init_275 (by decide) ?_
                    refine j_istore_n [(3, .int (nI (0))), (0, .ref (q 0))] dX3_init_276 rfl (by decide) rfl ?_
                    refine j_sub [1, 0] [(0, .ref (q 0)), (3, .int (nI (0)))] rfl ?_
                    have loop277 : ∀ (n : Nat) (i3 : Nat) (fp1 : Nat → Nat), (nP R C < i3 + n) → (i3 ≤ nP R C) → (∀ j, j < i3 → fp1 j = 99) → (∀ j, i3 ≤ j → fp1 j = 0) → V k l D (tys3 cI cJ cZ) ({ frames := 6, cells := 20, slots := 14580, locals := 137 } : Room) cX3_init 6 RX3 (wK cI cJ cZ q R C 0 z0 z0 z0 z0 en1 fp1 z0 cf1 z0 (fun _ => 99)) (20) (14580) 277 [(0, .ref (q 0)), (3, .int (nI (i3)))] [] := by
                      intro n
                      induction n with
                      | zero => intro i3 fp1 hm3 hi3 hz3 hy3; exfalso; omega
                      | succ n ih277 =>
                        intro i3 fp1 hm3 hi3 hz3 hy3
                        refine j_iload_n dX3_init_277 rfl 1 rfl ?_
                        refine j_aload_n dX3_init_278 rfl 0 rfl ?_
                        refine gf_X3_79 0 rfl (rfl) dX3_init_279 ?_
                        refine jn_icmp_ge (tgt := 299) (a := i3) (b := nP R C) (by omega) (by omega) dX3_init_282 (by decide) (fun c282 => ?_) (fun c282 => ?_)
                        · refine j_iconst (v := nI (0)) dX3_init_299 (by decide) ?_
                          refine j_istore_n [(3, .int (nI (0))), (0, .ref (q 0))] dX3_init_300 rfl (by decide) rfl ?_
                          have hT0 : TC R C (eN R C 0 0) z0 z0 z0 z0 en1 fp1 z0 cf1 z0 := by rw [eN_0 hG]; exact TC_0 (fun j hj => hz2 j (by omega)) (fun j hj => hz3 j (by omega)) (fun j hj => hy3 j (by omega)) (fun j hj => (hz1 j (by omega)).1)
                          refine j_world (w' := wK cI cJ cZ q R C (eN R C 0 0) z0 z0 z0 z0 en1 fp1 z0 cf1 z0 (fun _ => 99)) (by rw [eN_0 hG]) ?_
                          refine j_lv (lv' := [(3, .int (nI (0 * (C + 1) + 0))), (0, .ref (q 0))]) (by rw [Nat.zero_mul]) ?_
                          refine j_sub [1, 0] [(0, .ref (q 0)), (3, .int (nI (0 * (C + 1) + 0)))] rfl ?_
                          have loop301 : ∀ (n : Nat) (yy xx : Nat) (lw8 hg8 n18 n28 en8 fp8 la8 cf8 cl8 : Nat → Nat), (nP R C < yy * (C + 1) + xx + n) → (xx ≤ C) → (yy ≤ R ∨ (yy = R + 1 ∧ xx = 0)) → (TC R C (eN R C yy xx) lw8 hg8 n18 n28 en8 fp8 la8 cf8 cl8) → V k l D (tys3 cI cJ cZ) ({ frames := 6, cells := 20, slots := 14580, locals := 137 } : Room) cX3_init 6 RX3 (wK cI cJ cZ q R C (eN R C yy xx) lw8 hg8 n18 n28 en8 fp8 la8 cf8 cl8 (fun _ => 99)) (20) (14580) 301 [(0, .ref (q 0)), (3, .int (nI (yy * (C + 1) + xx)))] [] := by
                            intro n
                            induction n with
                            | zero => intro yy xx lw8 hg8 n18 n28 en8 fp8 la8 cf8 cl8 hm4 hxC hyx hT8; exfalso; have := pq_le hxC hyx; omega
                            | succ n ih301 =>
                              intro yy xx lw8 hg8 n18 n28 en8 fp8 la8 cf8 cl8 hm4 hxC hyx hT8
                              have hple := pq_le hxC hyx
                              refine j_iload_n dX3_init_301 rfl 1 rfl ?_
                              refine j_aload_n dX3_init_302 rfl 0 rfl ?_
                              refine gf_X3_79 0 rfl (rfl) dX3_init_303 ?_
                              refine jn_icmp_ge (tgt := 410) (a := yy * (C + 1) + xx) (b := nP R C) (by omega) (by omega) dX3_init_306 (by decide) (fun c306 => ?_) (fun c306 => ?_)
                              · have hxy : yy = R + 1 ∧ xx = 0 := by
                                  rcases hyx with h9 | h9
                                  · exact absurd (pq_lt h9 hxC) (by omega)
                                  · exact h9
                                obtain ⟨h9, h8⟩ := hxy
                                subst h9 h8
                                rw [eN_R] at hT8
                                obtain ⟨f1, f2, f3, f4, f5, f6, f7, f8, f9⟩ := TC_f hG hT8
                                refine j_world (w' := wK cI cJ cZ q R C (nE R C) lw8 hg8 n18 n28 en8 fp8 la8 cf8 cl8 (fun _ => 99)) (by rw [eN_R]) ?_
                                refine j_wext (w2 := wM cI cJ cZ q R C 0 false false 0 0 0 0 0 z0 (fun _ => 99) z0 z0 z0 z0 z0 zL z0 z0 no0) (wE_c rfl cE_rfl (wE_c rfl (cE_arr (fun j hj => by rw [f1])) (wE_c rfl (cE_arr (fun j hj => by rw [f2])) (wE_c rfl (cE_arr (fun j hj => by rw [f3])) (wE_c rfl (cE_arr (fun j hj => by rw [f4])) (wE_c rfl (cE_arr (fun j hj => by rw [f5 j hj])) (wE_c rfl (cE_arr (fun j hj => by rw [f6 j hj])) (wE_c rfl (cE_arr (fun j hj => by rw [f7 j hj])) (wE_c rfl (cE_arr (fun j hj => by rw [f8 j hj])) (wE_c rfl (cE_arr (fun j hj => by rw [f9 j hj])) (wE_c rfl cE_rfl (wE_c rfl cE_rfl (wE_c rfl cE_rfl (wE_c rfl cE_rfl (wE_c rfl cE_rfl (wE_c rfl cE_rfl (wE_c rfl cE_rfl (wE_c rfl cE_rfl (wE_c rfl cE_rfl (wE_c rfl cE_rfl (wE_c rfl cE_rfl (wE_n)))))))))))))))))))))) ?_
                                refine j_aload_n dX3_init_410 rfl 0 rfl ?_
                                refine j_vW (av := []) (c_findLoops l hfl D cI cJ cZ q R C hG 0 false false 0 0 0 0 0 z0 (fun _ => 99) z0 z0 z0 z0 z0 zL z0 z0 no0 (fun p _ => ⟨rfl, rfl⟩) hcap rfl) 0 rfl rfl mw2_201 mw2_203 msel12 mw1_4 mw2_204 rfl hd_X3_findLoops rfl ⟨rfl, rfl⟩ ⟨Nat.le_of_ble_eq_true rfl, Nat.le_of_ble_eq_true rfl⟩ ⟨Nat.le_of_ble_eq_true rfl, Nat.le_of_ble_eq_true rfl⟩ (Nat.le_of_ble_eq_true rfl) rfl dX3_init_411 ?_
                                rintro _ _ ⟨rfl, nl2, lp2, de2, se2, hL2, hJ2, rfl⟩
                                refine j_st (st' := []) rfl ?_
                                exact j_vret (tys' := []) rfl hR dX3_init_414 (⟨rfl, q, by rw [hq]; rfl, MW_of ⟨hL2, (fun h => nomatch h), (fun h => nomatch h), hJ2, by decide⟩⟩)
                              · have hyR : yy ≤ R := by
                                  rcases hyx with h9 | ⟨h9, h8⟩
                                  · exact h9
                                  · exfalso; subst h9 h8; unfold nP at c306; omega
                                refine j_iload_n dX3_init_309 rfl 1 rfl ?_
                                refine j_aload_n dX3_init_310 rfl 0 rfl ?_
                                refine gf_X3_76 0 rfl (rfl) dX3_init_311 ?_
                                refine j_iconst (v := nI (1)) dX3_init_314 (by decide) ?_
                                refine jn_iadd (v := C + 1) dX3_init_315 rfl ?_
                                refine j_idiv dX3_init_316 (fun h => absurd (nI_eq0 (by omega) h) (by omega)) rfl ?_
                                refine j_topi (y := nI (yy)) (by rw [pk_div (by have := pq_lt hyR hxC; omega) (by omega) (by omega), pt_div hxC]) ?_
                                refine j_istore [(4, .int (nI (yy))), (0, .ref (q 0)), (3, .int (nI (yy * (C + 1) + xx)))] dX3_init_317 (by decide) rfl ?_
                                refine j_iload_n dX3_init_319 rfl 2 rfl ?_
                                refine j_aload_n dX3_init_320 rfl 1 rfl ?_
                                refine gf_X3_76 0 rfl (rfl) dX3_init_321 ?_
                                refine j_iconst (v := nI (1)) dX3_init_324 (by decide) ?_
                                refine jn_iadd (v := C + 1) dX3_init_325 rfl ?_
                                refine j_irem dX3_init_326 (fun h => absurd (nI_eq0 (by omega) h) (by omega)) rfl ?_
                                refine j_topi (y := nI (xx)) (by rw [pk_rem (by have := pq_lt hyR hxC; omega) (by omega) (by omega), pt_mod hxC]) ?_
                                refine j_istore [(5, .int (nI (xx))), (4, .int (nI (yy))), (0, .ref (q 0)), (3, .int (nI (yy * (C + 1) + xx)))] dX3_init_327 (by decide) rfl ?_
                                refine j_iload dX3_init_329 0 rfl ?_
                                refine j_aload_n dX3_init_331 rfl 2 rfl ?_
                                refine gf_X3_76 0 rfl (rfl) dX3_init_332 ?_
                                refine jn_icmp_ge (tgt := 364) (a := xx) (b := C) (by omega) (by omega) dX3_init_335 (by decide) (fun c335 => ?_) (fun c335 => ?_)
                                · refine j_iload dX3_init_364 1 rfl ?_
                                  refine j_aload_n dX3_init_366 rfl 2 rfl ?_
                                  refine gf_X3_72 0 rfl (rfl) dX3_init_367 ?_
                                  refine jn_icmp_ge (tgt := 404) (a := yy) (b := R) (by omega) (by omega) dX3_init_370 (by decide) (fun c370 => ?_) (fun c370 => ?_)
                                  · refine j_iinc (n0 := 3) (v := nI (yy * (C + 1) + xx + 1)) [(3, .int (nI (yy * (C + 1) + xx + 1))), (5, .int (nI (xx))), (4, .int (nI (yy))), (0, .ref (q 0))] dX3_init_404 rfl (by exact nI_add (yy * (C + 1) + xx) 1) (by decide) rfl ?_
                                    refine j_goto (tgt := 301) dX3_init_407 (by decide) ?_
                                    refine j_sub [3, 0] [(0, .ref (q 0)), (3, .int (nI (yy * (C + 1) + xx + 1)))] rfl ?_
                                    have hen := (eN_t hG hyR hxC).2.2.2
                                    have hen1 := hen.1
                                    rw [if_neg (show ¬ xx < C by omega), if_neg (show ¬ yy < R by omega)] at hen1
                                    simp only [Nat.add_zero] at hen1
                                    have hxe : xx = C := by omega
                                    subst hxe
                                    rw [hen.2] at hen1
                                    rw [← hen1] at hT8 ⊢
                                    have hmul : (yy + 1) * (xx + 1) = yy * (xx + 1) + (xx + 1) := by rw [Nat.add_mul, Nat.one_mul]
                                    refine j_lv (lv' := [(0, .ref (q 0)), (3, .int (nI ((yy + 1) * (xx + 1) + 0)))]) (by rw [hmul]; rfl) ?_
                                    exact ih301 (yy + 1) 0 lw8 hg8 n18 n28 en8 fp8 la8 cf8 cl8 (by omega) (by omega) (by omega) hT8
                                  · refine j_aload_n dX3_init_373 rfl 2 rfl ?_
                                    refine j_iload_n dX3_init_374 rfl 3 rfl ?_
                                    refine j_iload_n dX3_init_375 rfl 3 rfl ?_
                                    refine j_aload_n dX3_init_376 rfl 2 rfl ?_
                                    refine gf_X3_76 0 rfl (rfl) dX3_init_377 ?_
                                    refine jn_iadd (v := (yy * (C + 1) + xx) + C) dX3_init_380 rfl ?_
                                    refine j_iconst (v := nI (1)) dX3_init_381 (by decide) ?_
                                    refine jn_iadd (v := ((yy * (C + 1) + xx) + C) + 1) dX3_init_382 rfl ?_
                                    refine j_aload_n dX3_init_383 rfl 2 rfl ?_
                                    refine j_iload dX3_init_384 1 rfl ?_
                                    refine j_iload dX3_init_386 0 rfl ?_
                                    refine j_iconst (v := nI (1)) dX3_init_388 (by decide) ?_
                                    refine j_isub dX3_init_389 rfl ?_
                                    refine j_topi (y := eI (pd xx)) (eI_pd (by omega)) ?_
                                    refine j_st (st' := [.int (eI (pd xx)), .int (eI (yy)), .ref (q 0), .int (nI (((yy * (C + 1) + xx) + C) + 1)), .int (nI (yy * (C + 1) + xx)), .ref (q 0)]) (by rw [eI_ne (show ¬ yy = 99 by omega)]) ?_
                                    refine j_vW (av := [.int (eI (yy)), .int (eI (pd xx))]) (k_cell l hfl D cI cJ cZ q R C hG (eN R C yy xx) lw8 hg8 n18 n28 en8 fp8 la8 cf8 cl8 (fun _ => 99) (yy) (pd xx) (by first | omega | exact pd_lt (by omega)) (by first | omega | exact pd_lt (by omega))) 0 rfl rfl mw2_185 mw2_187 msel8 mw1_4 mw2_188 rfl hd_X3_cell rfl ⟨rfl, rfl⟩ ⟨Nat.le_of_ble_eq_true rfl, Nat.le_of_ble_eq_true rfl⟩ ⟨Nat.le_of_ble_eq_true rfl, Nat.le_of_ble_eq_true rfl⟩ (Nat.le_of_ble_eq_true rfl) rfl dX3_init_390 ?_
                                    rintro _ _ ⟨rfl, rfl⟩
                                    refine j_st (st' := [.int (eI (ccell R C yy (pd xx))), .int (nI (((yy * (C + 1) + xx) + C) + 1)), .int (nI (yy * (C + 1) + xx)), .ref (q 0)]) rfl ?_
                                    refine j_aload_n dX3_init_393 rfl 2 rfl ?_
                                    refine j_iload dX3_init_394 1 rfl ?_
                                    refine j_iload dX3_init_396 0 rfl ?_
                                    refine j_st (st' := [.int (eI (xx)), .int (eI (yy)), .ref (q 0), .int (eI (ccell R C yy (pd xx))), .int (nI (((yy * (C + 1) + xx) + C) + 1)), .int (nI (yy * (C + 1) + xx)), .ref (q 0)]) (by rw [eI_ne (show ¬ xx = 99 by omega), eI_ne (show ¬ yy = 99 by omega)]) ?_
                                    refine j_vW (av := [.int (eI (yy)), .int (eI (xx))]) (k_cell l hfl D cI cJ cZ q R C hG (eN R C yy xx) lw8 hg8 n18 n28 en8 fp8 la8 cf8 cl8 (fun _ => 99) (yy) (xx) (by first | omega | exact pd_lt (by omega)) (by first | omega | exact pd_lt (by omega))) 0 rfl rfl mw2_185 mw2_187 msel8 mw1_4 mw2_188 rfl hd_X3_cell rfl ⟨rfl, rfl⟩ ⟨Nat.le_of_ble_eq_true rfl, Nat.le_of_ble_eq_true rfl⟩ ⟨Nat.le_of_ble_eq_true rfl, Nat.le_of_ble_eq_true rfl⟩ (Nat.le_of_ble_eq_true rfl) rfl dX3_init_398 ?_
                                    rintro _ _ ⟨rfl, rfl⟩
                                    refine j_st (st' := [.int (eI (ccell R C yy xx)), .int (eI (ccell R C yy (pd xx))), .int (nI (((yy * (C + 1) + xx) + C) + 1)), .int (nI (yy * (C + 1) + xx)), .ref (q 0)]) rfl ?_
                                    obtain ⟨d1, d2, d3, d4⟩ := (eN_t hG hyR hxC).2.2.1 c370 c335
                                    obtain ⟨m1, m2, m3, m4⟩ := jn_d d1 d2 d3 d4
                                    refine j_st (st' := [.int (eI (mOther R C (eN R C yy xx))), .int (eI (mOne R C (eN R C yy xx))), .int (nI (mHigh R C (eN R C yy xx))), .int (nI (mLow R C (eN R C yy xx))), .ref (q 0)]) (by rw [m1, m2, m3, m4]) ?_
                                    refine j_vW (av := [.int (nI (mLow R C (eN R C yy xx))), .int (nI (mHigh R C (eN R C yy xx))), .int (eI (mOne R C (eN R C yy xx))), .int (eI (mOther R C (eN R C yy xx)))]) (k_join l hfl D cI cJ cZ q R C hG (eN R C yy xx) lw8 hg8 n18 n28 en8 fp8 la8 cf8 cl8 (fun _ => 99) d1 hT8) 0 rfl rfl mw2_189 mw2_191 msel9 mw1_4 mw2_192 rfl hd_X3_join rfl ⟨rfl, rfl⟩ ⟨Nat.le_of_ble_eq_true rfl, Nat.le_of_ble_eq_true rfl⟩ ⟨Nat.le_of_ble_eq_true rfl, Nat.le_of_ble_eq_true rfl⟩ (Nat.le_of_ble_eq_true rfl) rfl dX3_init_401 ?_
                                    rintro _ _ ⟨rfl, lwb, hgb, nab, nbb, enb, fpb, lab, cfb, clb, hTb, rfl⟩
                                    refine j_st (st' := []) rfl ?_
                                    refine j_iinc (n0 := 3) (v := nI (yy * (C + 1) + xx + 1)) [(3, .int (nI (yy * (C + 1) + xx + 1))), (5, .int (nI (xx))), (4, .int (nI (yy))), (0, .ref (q 0))] dX3_init_404 rfl (by exact nI_add (yy * (C + 1) + xx) 1) (by decide) rfl ?_
                                    refine j_goto (tgt := 301) dX3_init_407 (by decide) ?_
                                    refine j_sub [3, 0] [(0, .ref (q 0)), (3, .int (nI (yy * (C + 1) + xx + 1)))] rfl ?_
                                    have hen := (eN_t hG hyR hxC).2.2.2
                                    have hen1 := hen.1
                                    rw [if_neg (show ¬ xx < C by omega), if_pos c370] at hen1
                                    simp only [Nat.add_zero] at hen1
                                    have hxe : xx = C := by omega
                                    subst hxe
                                    rw [hen.2] at hen1
                                    rw [← hen1] at hTb ⊢
                                    have hmul : (yy + 1) * (xx + 1) = yy * (xx + 1) + (xx + 1) := by rw [Nat.add_mul, Nat.one_mul]
                                    refine j_lv (lv' := [(0, .ref (q 0)), (3, .int (nI ((yy + 1) * (xx + 1) + 0)))]) (by rw [hmul]; rfl) ?_
                                    exact ih301 (yy + 1) 0 lwb hgb nab nbb enb fpb lab cfb clb (by omega) (by omega) (by omega) hTb
                                · refine j_aload_n dX3_init_338 rfl 2 rfl ?_
                                  refine j_iload_n dX3_init_339 rfl 3 rfl ?_
                                  refine j_iload_n dX3_init_340 rfl 3 rfl ?_
                                  refine j_iconst (v := nI (1)) dX3_init_341 (by decide) ?_
                                  refine jn_iadd (v := (yy * (C + 1) + xx) + 1) dX3_init_342 rfl ?_
                                  refine j_aload_n dX3_init_343 rfl 2 rfl ?_
                                  refine j_iload dX3_init_344 1 rfl ?_
                                  refine j_iconst (v := nI (1)) dX3_init_346 (by decide) ?_
                                  refine j_isub dX3_init_347 rfl ?_
                                  refine j_topi (y := eI (pd yy)) (eI_pd (by omega)) ?_
                                  refine j_iload dX3_init_348 0 rfl ?_
                                  refine j_st (st' := [.int (eI (xx)), .int (eI (pd yy)), .ref (q 0), .int (nI ((yy * (C + 1) + xx) + 1)), .int (nI (yy * (C + 1) + xx)), .ref (q 0)]) (by rw [eI_ne (show ¬ xx = 99 by omega)]) ?_
                                  refine j_vW (av := [.int (eI (pd yy)), .int (eI (xx))]) (k_cell l hfl D cI cJ cZ q R C hG (eN R C yy xx) lw8 hg8 n18 n28 en8 fp8 la8 cf8 cl8 (fun _ => 99) (pd yy) (xx) (by first | omega | exact pd_lt (by omega)) (by first | omega | exact pd_lt (by omega))) 0 rfl rfl mw2_185 mw2_187 msel8 mw1_4 mw2_188 rfl hd_X3_cell rfl ⟨rfl, rfl⟩ ⟨Nat.le_of_ble_eq_true rfl, Nat.le_of_ble_eq_true rfl⟩ ⟨Nat.le_of_ble_eq_true rfl, Nat.le_of_ble_eq_true rfl⟩ (Nat.le_of_ble_eq_true rfl) rfl dX3_init_350 ?_
                                  rintro _ _ ⟨rfl, rfl⟩
                                  refine j_st (st' := [.int (eI (ccell R C (pd yy) xx)), .int (nI ((yy * (C + 1) + xx) + 1)), .int (nI (yy * (C + 1) + xx)), .ref (q 0)]) rfl ?_
                                  refine j_aload_n dX3_init_353 rfl 2 rfl ?_
                                  refine j_iload dX3_init_354 1 rfl ?_
                                  refine j_iload dX3_init_356 0 rfl ?_
                                  refine j_st (st' := [.int (eI (xx)), .int (eI (yy)), .ref (q 0), .int (eI (ccell R C (pd yy) xx)), .int (nI ((yy * (C + 1) + xx) + 1)), .int (nI (yy * (C + 1) + xx)), .ref (q 0)]) (by rw [eI_ne (show ¬ xx = 99 by omega), eI_ne (show ¬ yy = 99 by omega)]) ?_
                                  refine j_vW (av := [.int (eI (yy)), .int (eI (xx))]) (k_cell l hfl D cI cJ cZ q R C hG (eN R C yy xx) lw8 hg8 n18 n28 en8 fp8 la8 cf8 cl8 (fun _ => 99) (yy) (xx) (by first | omega | exact pd_lt (by omega)) (by first | omega | exact pd_lt (by omega))) 0 rfl rfl mw2_185 mw2_187 msel8 mw1_4 mw2_188 rfl hd_X3_cell rfl ⟨rfl, rfl⟩ ⟨Nat.le_of_ble_eq_true rfl, Nat.le_of_ble_eq_true rfl⟩ ⟨Nat.le_of_ble_eq_true rfl, Nat.le_of_ble_eq_true rfl⟩ (Nat.le_of_ble_eq_true rfl) rfl dX3_init_358 ?_
                                  rintro _ _ ⟨rfl, rfl⟩
                                  refine j_st (st' := [.int (eI (ccell R C yy xx)), .int (eI (ccell R C (pd yy) xx)), .int (nI ((yy * (C + 1) + xx) + 1)), .int (nI (yy * (C + 1) + xx)), .ref (q 0)]) rfl ?_
                                  obtain ⟨b1, b2, b3, b4⟩ := (eN_t hG hyR hxC).1 c335
                                  obtain ⟨k1, k2, k3, k4⟩ := jn_r b1 b2 b3 b4
                                  refine j_st (st' := [.int (eI (mOther R C (eN R C yy xx))), .int (eI (mOne R C (eN R C yy xx))), .int (nI (mHigh R C (eN R C yy xx))), .int (nI (mLow R C (eN R C yy xx))), .ref (q 0)]) (by rw [k1, k2, k3, k4]) ?_
                                  refine j_vW (av := [.int (nI (mLow R C (eN R C yy xx))), .int (nI (mHigh R C (eN R C yy xx))), .int (eI (mOne R C (eN R C yy xx))), .int (eI (mOther R C (eN R C yy xx)))]) (k_join l hfl D cI cJ cZ q R C hG (eN R C yy xx) lw8 hg8 n18 n28 en8 fp8 la8 cf8 cl8 (fun _ => 99) b1 hT8) 0 rfl rfl mw2_189 mw2_191 msel9 mw1_4 mw2_192 rfl hd_X3_join rfl ⟨rfl, rfl⟩ ⟨Nat.le_of_ble_eq_true rfl, Nat.le_of_ble_eq_true rfl⟩ ⟨Nat.le_of_ble_eq_true rfl, Nat.le_of_ble_eq_true rfl⟩ (Nat.le_of_ble_eq_true rfl) rfl dX3_init_361 ?_
                                  rintro _ _ ⟨rfl, lwa, hga, naa, nba, ena, fpa, laa, cfa, cla, hTa, rfl⟩
                                  refine j_st (st' := []) rfl ?_
                                  refine j_iload dX3_init_364 1 rfl ?_
                                  refine j_aload_n dX3_init_366 rfl 2 rfl ?_
                                  refine gf_X3_72 0 rfl (rfl) dX3_init_367 ?_
                                  refine jn_icmp_ge (tgt := 404) (a := yy) (b := R) (by omega) (by omega) dX3_init_370 (by decide) (fun c370 => ?_) (fun c370 => ?_)
                                  · refine j_iinc (n0 := 3) (v := nI (yy * (C + 1) + xx + 1)) [(3, .int (nI (yy * (C + 1) + xx + 1))), (5, .int (nI (xx))), (4, .int (nI (yy))), (0, .ref (q 0))] dX3_init_404 rfl (by exact nI_add (yy * (C + 1) + xx) 1) (by decide) rfl ?_
                                    refine j_goto (tgt := 301) dX3_init_407 (by decide) ?_
                                    refine j_sub [3, 0] [(0, .ref (q 0)), (3, .int (nI (yy * (C + 1) + xx + 1)))] rfl ?_
                                    have hen := (eN_t hG hyR hxC).2.2.2
                                    have hen1 := hen.1
                                    rw [if_pos c335, if_neg (show ¬ yy < R by omega)] at hen1
                                    simp only [Nat.add_zero] at hen1
                                    rw [← hen1] at hTa ⊢
                                    exact ih301 yy (xx + 1) lwa hga naa nba ena fpa laa cfa cla (by omega) (by omega) (Or.inl hyR) hTa
                                  · refine j_aload_n dX3_init_373 rfl 2 rfl ?_
                                    refine j_iload_n dX3_init_374 rfl 3 rfl ?_
                                    refine j_iload_n dX3_init_375 rfl 3 rfl ?_
                                    refine j_aload_n dX3_init_376 rfl 2 rfl ?_
                                    refine gf_X3_76 0 rfl (rfl) dX3_init_377 ?_
                                    refine jn_iadd (v := (yy * (C + 1) + xx) + C) dX3_init_380 rfl ?_
                                    refine j_iconst (v := nI (1)) dX3_init_381 (by decide) ?_
                                    refine jn_iadd (v := ((yy * (C + 1) + xx) + C) + 1) dX3_init_382 rfl ?_
                                    refine j_aload_n dX3_init_383 rfl 2 rfl ?_
                                    refine j_iload dX3_init_384 1 rfl ?_
                                    refine j_iload dX3_init_386 0 rfl ?_
                                    refine j_iconst (v := nI (1)) dX3_init_388 (by decide) ?_
                                    refine j_isub dX3_init_389 rfl ?_
                                    refine j_topi (y := eI (pd xx)) (eI_pd (by omega)) ?_
                                    refine j_st (st' := [.int (eI (pd xx)), .int (eI (yy)), .ref (q 0), .int (nI (((yy * (C + 1) + xx) + C) + 1)), .int (nI (yy * (C + 1) + xx)), .ref (q 0)]) (by rw [eI_ne (show ¬ yy = 99 by omega)]) ?_
                                    refine j_vW (av := [.int (eI (yy)), .int (eI (pd xx))]) (k_cell l hfl D cI cJ cZ q R C hG (eN R C yy xx + 1) lwa hga naa nba ena fpa laa cfa cla (fun _ => 99) (yy) (pd xx) (by first | omega | exact pd_lt (by omega)) (by first | omega | exact pd_lt (by omega))) 0 rfl rfl mw2_185 mw2_187 msel8 mw1_4 mw2_188 rfl hd_X3_cell rfl ⟨rfl, rfl⟩ ⟨Nat.le_of_ble_eq_true rfl, Nat.le_of_ble_eq_true rfl⟩ ⟨Nat.le_of_ble_eq_true rfl, Nat.le_of_ble_eq_true rfl⟩ (Nat.le_of_ble_eq_true rfl) rfl dX3_init_390 ?_
                                    rintro _ _ ⟨rfl, rfl⟩
                                    refine j_st (st' := [.int (eI (ccell R C yy (pd xx))), .int (nI (((yy * (C + 1) + xx) + C) + 1)), .int (nI (yy * (C + 1) + xx)), .ref (q 0)]) rfl ?_
                                    refine j_aload_n dX3_init_393 rfl 2 rfl ?_
                                    refine j_iload dX3_init_394 1 rfl ?_
                                    refine j_iload dX3_init_396 0 rfl ?_
                                    refine j_st (st' := [.int (eI (xx)), .int (eI (yy)), .ref (q 0), .int (eI (ccell R C yy (pd xx))), .int (nI (((yy * (C + 1) + xx) + C) + 1)), .int (nI (yy * (C + 1) + xx)), .ref (q 0)]) (by rw [eI_ne (show ¬ xx = 99 by omega), eI_ne (show ¬ yy = 99 by omega)]) ?_
                                    refine j_vW (av := [.int (eI (yy)), .int (eI (xx))]) (k_cell l hfl D cI cJ cZ q R C hG (eN R C yy xx + 1) lwa hga naa nba ena fpa laa cfa cla (fun _ => 99) (yy) (xx) (by first | omega | exact pd_lt (by omega)) (by first | omega | exact pd_lt (by omega))) 0 rfl rfl mw2_185 mw2_187 msel8 mw1_4 mw2_188 rfl hd_X3_cell rfl ⟨rfl, rfl⟩ ⟨Nat.le_of_ble_eq_true rfl, Nat.le_of_ble_eq_true rfl⟩ ⟨Nat.le_of_ble_eq_true rfl, Nat.le_of_ble_eq_true rfl⟩ (Nat.le_of_ble_eq_true rfl) rfl dX3_init_398 ?_
                                    rintro _ _ ⟨rfl, rfl⟩
                                    refine j_st (st' := [.int (eI (ccell R C yy xx)), .int (eI (ccell R C yy (pd xx))), .int (nI (((yy * (C + 1) + xx) + C) + 1)), .int (nI (yy * (C + 1) + xx)), .ref (q 0)]) rfl ?_
                                    obtain ⟨d1, d2, d3, d4⟩ := (eN_t hG hyR hxC).2.1 c370 c335
                                    obtain ⟨m1, m2, m3, m4⟩ := jn_d d1 d2 d3 d4
                                    refine j_st (st' := [.int (eI (mOther R C (eN R C yy xx + 1))), .int (eI (mOne R C (eN R C yy xx + 1))), .int (nI (mHigh R C (eN R C yy xx + 1))), .int (nI (mLow R C (eN R C yy xx + 1))), .ref (q 0)]) (by rw [m1, m2, m3, m4]) ?_
                                    refine j_vW (av := [.int (nI (mLow R C (eN R C yy xx + 1))), .int (nI (mHigh R C (eN R C yy xx + 1))), .int (eI (mOne R C (eN R C yy xx + 1))), .int (eI (mOther R C (eN R C yy xx + 1)))]) (k_join l hfl D cI cJ cZ q R C hG (eN R C yy xx + 1) lwa hga naa nba ena fpa laa cfa cla (fun _ => 99) d1 hTa) 0 rfl rfl mw2_189 mw2_191 msel9 mw1_4 mw2_192 rfl hd_X3_join rfl ⟨rfl, rfl⟩ ⟨Nat.le_of_ble_eq_true rfl, Nat.le_of_ble_eq_true rfl⟩ ⟨Nat.le_of_ble_eq_true rfl, Nat.le_of_ble_eq_true rfl⟩ (Nat.le_of_ble_eq_true rfl) rfl dX3_init_401 ?_
                                    rintro _ _ ⟨rfl, lwb, hgb, nab, nbb, enb, fpb, lab, cfb, clb, hTb, rfl⟩
                                    refine j_st (st' := []) rfl ?_
                                    refine j_iinc (n0 := 3) (v := nI (yy * (C + 1) + xx + 1)) [(3, .int (nI (yy * (C + 1) + xx + 1))), (5, .int (nI (xx))), (4, .int (nI (yy))), (0, .ref (q 0))] dX3_init_404 rfl (by exact nI_add (yy * (C + 1) + xx) 1) (by decide) rfl ?_
                                    refine j_goto (tgt := 301) dX3_init_407 (by decide) ?_
                                    refine j_sub [3, 0] [(0, .ref (q 0)), (3, .int (nI (yy * (C + 1) + xx + 1)))] rfl ?_
                                    have hen := (eN_t hG hyR hxC).2.2.2
                                    have hen1 := hen.1
                                    rw [if_pos c335, if_pos c370] at hen1
                                    rw [← hen1] at hTb ⊢
                                    exact ih301 yy (xx + 1) lwb hgb nab nbb enb fpb lab cfb clb (by omega) (by omega) (Or.inl hyR) hTb
                          exact loop301 (nP R C + 2) 0 0 z0 z0 z0 z0 en1 fp1 z0 cf1 z0 (by omega) (by omega) (Or.inl (by omega)) hT0
                        · refine j_aload_n dX3_init_285 rfl 0 rfl ?_
                          refine gf_X3_25 0 rfl (rfl) dX3_init_286 ?_
                          refine j_iload_n dX3_init_289 rfl 1 rfl ?_
                          refine j_bipush (v := nI (99)) dX3_init_290 (by decide) ?_
                          refine jn_iastN (wK cI cJ cZ q R C 0 z0 z0 z0 z0 en1 (va_up fp1 i3 99) z0 cf1 z0 (fun _ => 99)) 6 0 rfl rfl (by omega) (by omega) rfl dX3_init_292 ?_
                          refine j_iinc (n0 := 1) (v := nI (i3 + 1)) [(3, .int (nI (i3 + 1))), (0, .ref (q 0))] dX3_init_293 rfl (by exact nI_add (i3) 1) (by decide) rfl ?_
                          refine j_goto (tgt := 277) dX3_init_296 (by decide) ?_
                          refine j_sub [1, 0] [(0, .ref (q 0)), (3, .int (nI (i3 + 1)))] rfl ?_
                          exact ih277 (i3 + 1) (va_up fp1 i3 99) (by omega) (by omega) (fun j h => if h2 : j = i3 then by rw [h2, va_up_self] else by rw [va_up_ne _ _ h2]; exact hz3 j (by omega)) (fun j h => by rw [va_up_ne _ _ (by omega)]; exact hy3 j (by omega))
                    exact loop277 (nP R C + 2) 0 z0 (by omega) (by omega) (fun j h => absurd h (by omega)) (fun j _ => rfl)
                  · refine j_aload_n dX3_init_262 rfl 0 rfl ?_
                    refine gf_X3_22 0 rfl (rfl) dX3_init_263 ?_
                    refine j_iload_n dX3_init_266 rfl 1 rfl ?_
                    refine j_iconst (v := (-1)) dX3_init_267 (by decide) ?_
                    refine j_st (st' := [.int (eI (99)), .int (nI (i2)), .ref (q 9)]) (by rfl) ?_
                    refine jn_iastE (wK cI cJ cZ q R C 0 z0 z0 z0 z0 (va_up en1 i2 99) z0 z0 cf1 z0 (fun _ => 99)) 5 0 rfl rfl (by omega) (by omega) rfl dX3_init_268 ?_
                    refine j_iinc (n0 := 1) (v := nI (i2 + 1)) [(3, .int (nI (i2 + 1))), (0, .ref (q 0))] dX3_init_269 rfl (by exact nI_add (i2) 1) (by decide) rfl ?_
                    refine j_goto (tgt := 256) dX3_init_272 (by decide) ?_
                    refine j_sub [1, 0] [(0, .ref (q 0)), (3, .int (nI (i2 + 1)))] rfl ?_
                    exact ih256 (i2 + 1) (va_up en1 i2 99) (by omega) (by omega) (fun j h => if h2 : j = i2 then by rw [h2, va_up_self] else by rw [va_up_ne _ _ h2]; exact hz2 j (by omega))
              exact loop256 82 0 z0 (by omega) (by omega) (fun j h => absurd h (by omega))
            · refine j_aload_n dX3_init_233 rfl 0 rfl ?_
              refine gf_X3_40 0 rfl (rfl) dX3_init_234 ?_
              refine j_iload_n dX3_init_237 rfl 1 rfl ?_
              refine j_iconst (v := (-1)) dX3_init_238 (by decide) ?_
              refine j_st (st' := [.int (eI (99)), .int (nI (i)), .ref (q 16)]) (by rfl) ?_
              refine jn_iastE (wK cI cJ cZ q R C 0 z0 z0 z0 z0 z0 z0 z0 cf1 z0 (va_up cu1 i 99)) 11 0 rfl rfl (by omega) (by omega) rfl dX3_init_239 ?_
              refine j_aload_n dX3_init_240 rfl 0 rfl ?_
              refine gf_X3_31 0 rfl (rfl) dX3_init_241 ?_
              refine j_iload_n dX3_init_244 rfl 1 rfl ?_
              refine j_bipush (v := nI (99)) dX3_init_245 (by decide) ?_
              refine jn_iastN (wK cI cJ cZ q R C 0 z0 z0 z0 z0 z0 z0 z0 (va_up cf1 i 99) z0 (va_up cu1 i 99)) 8 0 rfl rfl (by omega) (by omega) rfl dX3_init_247 ?_
              refine j_iinc (n0 := 1) (v := nI (i + 1)) [(3, .int (nI (i + 1))), (0, .ref (q 0))] dX3_init_248 rfl (by exact nI_add (i) 1) (by decide) rfl ?_
              refine j_goto (tgt := 227) dX3_init_251 (by decide) ?_
              refine j_sub [1, 0] [(0, .ref (q 0)), (3, .int (nI (i + 1)))] rfl ?_
              exact ih227 (i + 1) (va_up cf1 i 99) (va_up cu1 i 99) (by omega) (by omega) (fun j h => if h2 : j = i then by rw [h2, va_up_self, va_up_self]; exact ⟨rfl, rfl⟩ else by rw [va_up_ne _ _ h2, va_up_ne _ _ h2]; exact hz1 j (by omega))
        exact loop227 14 0 z0 z0 (by omega) (by omega) (fun j h => absurd h (by omega))
      · refine j_iload_n dX3_init_195 rfl 2 rfl ?_
        refine j_iconst (v := nI (3)) dX3_init_196 (by decide) ?_
        refine j_icmp_le (tgt := 204) dX3_init_197 (by decide) (fun c197 => ?_) (fun c197 => ?_)
        · refine j_iload_n dX3_init_204 rfl 2 rfl ?_
          have eC : y = nI C := szI_t (by decide) hyC c192 (fun h => by have h2 := Int32.lt_iff_toInt_lt.mp h; have h3 := Int32.le_iff_toInt_le.mp c197; omega)
          refine j_st (st' := [.int (nI (C)), .ref (mq)]) (by rw [eC]) ?_
          refine pf_X3_76 ([(mq, .inr (3, [.int (nI (0)), .int (nI (R)), .int (nI (C)), .int (nI (0)), .int (nI (0)), .ref (r5), .ref (r6), .ref (r7), .ref (r8), .ref (r9), .ref (r10), .ref (r11), .ref (r12), .ref (r13), .int (nI (0)), .ref (r15), .ref (r16), .int (nI (0)), .int (nI (0)), .ref (r19), .int (nI (0)), .ref (r21), .ref (r22), .int (nI (0)), .ref (r24), .int (nI (0)), .ref (r26), .ref (r27), .ref (r28), .int (nI (0)), .ref (r30), .ref (r31)])), (r5, .inl (cI, 31, .inl (fun jz => nI (z0 jz)))), (r6, .inl (cI, 31, .inl (fun jz => nI (z0 jz)))), (r7, .inl (cI, 31, .inl (fun jz => nI (z0 jz)))), (r8, .inl (cI, 31, .inl (fun jz => nI (z0 jz)))), (r9, .inl (cI, 80, .inl (fun jz => nI (z0 jz)))), (r10, .inl (cI, 20, .inl (fun jz => nI (z0 jz)))), (r11, .inl (cI, 20, .inl (fun jz => nI (z0 jz)))), (r12, .inl (cI, 12, .inl (fun jz => nI (z0 jz)))), (r13, .inl (cI, 12, .inl (fun jz => nI (z0 jz)))), (r15, .inl (cI, 1300, .inl (fun jz => nI (z0 jz)))), (r16, .inl (cI, 12, .inl (fun jz => nI (z0 jz)))), (r19, .inl (cI, 1300, .inl (fun jz => nI (z0 jz)))), (r21, .inl (cI, 32, .inl (fun jz => nI (z0 jz)))), (r22, .inl (cI, 32, .inl (fun jz => nI (z0 jz)))), (r24, .inl (cI, 2500, .inl (fun jz => nI (z0 jz)))), (r26, .inl (cI, 2500, .inl (fun jz => nI (z0 jz)))), (r27, .inl (cJ, 2500, .inr (.inl (zL)))), (r28, .inl (cI, 4096, .inl (fun jz => nI (z0 jz)))), (r30, .inl (cI, 20, .inl (fun jz => nI (z0 jz)))), (r31, .inl (cZ, 20, .inl (fun jz => bI (no0 jz))))]) 0 rfl (Nat.le_of_ble_eq_true rfl) rfl dX3_init_205 ?_
          refine j_aload_n dX3_init_208 rfl 0 rfl ?_
          refine j_aload_n dX3_init_209 rfl 0 rfl ?_
          refine gf_X3_72 0 rfl (rfl) dX3_init_210 ?_
          refine j_iconst (v := nI (1)) dX3_init_213 (by decide) ?_
          refine jn_iadd (v := R + 1) dX3_init_214 rfl ?_
          refine j_aload_n dX3_init_215 rfl 0 rfl ?_
          refine gf_X3_76 0 rfl (rfl) dX3_init_216 ?_
          refine j_iconst (v := nI (1)) dX3_init_219 (by decide) ?_
          refine jn_iadd (v := C + 1) dX3_init_220 rfl ?_
          refine jn_imul (v := (R + 1) * (C + 1)) dX3_init_221 rfl ?_
          refine j_topi (y := nI (nP R C)) (by rfl) ?_
          refine pf_X3_79 ([(mq, .inr (3, [.int (nI (0)), .int (nI (R)), .int (nI (C)), .int (nI (nP R C)), .int (nI (0)), .ref (r5), .ref (r6), .ref (r7), .ref (r8), .ref (r9), .ref (r10), .ref (r11), .ref (r12), .ref (r13), .int (nI (0)), .ref (r15), .ref (r16), .int (nI (0)), .int (nI (0)), .ref (r19), .int (nI (0)), .ref (r21), .ref (r22), .int (nI (0)), .ref (r24), .int (nI (0)), .ref (r26), .ref (r27), .ref (r28), .int (nI (0)), .ref (r30), .ref (r31)])), (r5, .inl (cI, 31, .inl (fun jz => nI (z0 jz)))), (r6, .inl (cI, 31, .inl (fun jz => nI (z0 jz)))), (r7, .inl (cI, 31, .inl (fun jz => nI (z0 jz)))), (r8, .inl (cI, 31, .inl (fun jz => nI (z0 jz)))), (r9, .inl (cI, 80, .inl (fun jz => nI (z0 jz)))), (r10, .inl (cI, 20, .inl (fun jz => nI (z0 jz)))), (r11, .inl (cI, 20, .inl (fun jz => nI (z0 jz)))), (r12, .inl (cI, 12, .inl (fun jz => nI (z0 jz)))), (r13, .inl (cI, 12, .inl (fun jz => nI (z0 jz)))), (r15, .inl (cI, 1300, .inl (fun jz => nI (z0 jz)))), (r16, .inl (cI, 12, .inl (fun jz => nI (z0 jz)))), (r19, .inl (cI, 1300, .inl (fun jz => nI (z0 jz)))), (r21, .inl (cI, 32, .inl (fun jz => nI (z0 jz)))), (r22, .inl (cI, 32, .inl (fun jz => nI (z0 jz)))), (r24, .inl (cI, 2500, .inl (fun jz => nI (z0 jz)))), (r26, .inl (cI, 2500, .inl (fun jz => nI (z0 jz)))), (r27, .inl (cJ, 2500, .inr (.inl (zL)))), (r28, .inl (cI, 4096, .inl (fun jz => nI (z0 jz)))), (r30, .inl (cI, 20, .inl (fun jz => nI (z0 jz)))), (r31, .inl (cZ, 20, .inl (fun jz => bI (no0 jz))))]) 0 rfl (Nat.le_of_ble_eq_true rfl) rfl dX3_init_222 ?_
          refine j_iconst (v := nI (0)) dX3_init_225 (by decide) ?_
          refine j_istore_n [(3, .int (nI (0))), (0, .ref (mq)), (1, .int (x)), (2, .int (y))] dX3_init_226 rfl (by decide) rfl ?_
          obtain ⟨q, hq⟩ : ∃ q : Nat → Nat, q = mkQ [mq, 0, 0, 0, 0, r5, r6, r7, r8, r9, r10, r11, r12, r13, 0, r15, r16, 0, 0, r19, 0, r21, r22, 0, r24, 0, r26, r27, r28, 0, r30, r31] := ⟨_, rfl⟩
          refine j_world (w' := wK cI cJ cZ q R C 0 z0 z0 z0 z0 z0 z0 z0 z0 z0 z0) (by rw [hq]; rfl) ?_
          refine j_sub [1, 0] [(0, .ref (mq)), (3, .int (nI (0)))] rfl ?_
          refine j_lv (lv' := [(0, .ref (q 0)), (3, .int (nI (0)))]) (by rw [hq]; rfl) ?_
          have loop227 : ∀ (n : Nat) (i : Nat) (cf1 cu1 : Nat → Nat), (12 < i + n) → (i ≤ 12) → (∀ j, j < i → cf1 j = 99 ∧ cu1 j = 99) → V k l D (tys3 cI cJ cZ) ({ frames := 6, cells := 20, slots := 14580, locals := 137 } : Room) cX3_init 6 RX3 (wK cI cJ cZ q R C 0 z0 z0 z0 z0 z0 z0 z0 cf1 z0 cu1) (20) (14580) 227 [(0, .ref (q 0)), (3, .int (nI (i)))] [] := by
            intro n
            induction n with
            | zero => intro i cf1 cu1 hm1 hi1 hz1; exfalso; omega
            | succ n ih227 =>
              intro i cf1 cu1 hm1 hi1 hz1
              refine j_iload_n dX3_init_227 rfl 1 rfl ?_
              refine j_bipush (v := nI (12)) dX3_init_228 (by decide) ?_
              refine jn_icmp_ge (tgt := 254) (a := i) (b := 12) (by omega) (by omega) dX3_init_230 (by decide) (fun c230 => ?_) (fun c230 => ?_)
              · refine j_iconst (v := nI (0)) dX3_init_254 (by decide) ?_
                refine j_istore_n [(3, .int (nI (0))), (0, .ref (q 0))] dX3_init_255 rfl (by decide) rfl ?_
                refine j_wext (w2 := wK cI cJ cZ q R C 0 z0 z0 z0 z0 z0 z0 z0 cf1 z0 (fun _ => 99)) (wE_c rfl cE_rfl (wE_c rfl cE_rfl (wE_c rfl cE_rfl (wE_c rfl cE_rfl (wE_c rfl cE_rfl (wE_c rfl cE_rfl (wE_c rfl cE_rfl (wE_c rfl cE_rfl (wE_c rfl cE_rfl (wE_c rfl cE_rfl (wE_c rfl cE_rfl (wE_c rfl (cE_arr (fun j hj => by rw [(hz1 j (by omega)).2])) (wE_c rfl cE_rfl (wE_c rfl cE_rfl (wE_c rfl cE_rfl (wE_c rfl cE_rfl (wE_c rfl cE_rfl (wE_c rfl cE_rfl (wE_c rfl cE_rfl (wE_c rfl cE_rfl (wE_c rfl cE_rfl (wE_n)))))))))))))))))))))) ?_
                refine j_sub [1, 0] [(0, .ref (q 0)), (3, .int (nI (0)))] rfl ?_
                have loop256 : ∀ (n : Nat) (i2 : Nat) (en1 : Nat → Nat), (80 < i2 + n) → (i2 ≤ 80) → (∀ j, j < i2 → en1 j = 99) → V k l D (tys3 cI cJ cZ) ({ frames := 6, cells := 20, slots := 14580, locals := 137 } : Room) cX3_init 6 RX3 (wK cI cJ cZ q R C 0 z0 z0 z0 z0 en1 z0 z0 cf1 z0 (fun _ => 99)) (20) (14580) 256 [(0, .ref (q 0)), (3, .int (nI (i2)))] [] := by
                  intro n
                  induction n with
                  | zero => intro i2 en1 hm2 hi2 hz2; exfalso; omega
                  | succ n ih256 =>
                    intro i2 en1 hm2 hi2 hz2
                    refine j_iload_n dX3_init_256 rfl 1 rfl ?_
                    refine j_bipush (v := nI (80)) dX3_init_257 (by decide) ?_
                    refine jn_icmp_ge (tgt := 275) (a := i2) (b := 80) (by omega) (by omega) dX3_init_259 (by decide) (fun c259 => ?_) (fun c259 => ?_)
                    · refine j_iconst (v := nI (0)) dX3_init_275 (by decide) ?_
                      refine j_istore_n [(3, .int (nI (0))), (0, .ref (q 0))] dX3_init_276 rfl (by decide) rfl ?_
                      refine j_sub [1, 0] [(0, .ref (q 0)), (3, .int (nI (0)))] rfl ?_
                      have loop277 : ∀ (n : Nat) (i3 : Nat) (fp1 : Nat → Nat), (nP R C < i3 + n) → (i3 ≤ nP R C) → (∀ j, j < i3 → fp1 j = 99) → (∀ j, i3 ≤ j → fp1 j = 0) → V k l D (tys3 cI cJ cZ) ({ frames := 6, cells := 20, slots := 14580, locals := 137 } : Room) cX3_init 6 RX3 (wK cI cJ cZ q R C 0 z0 z0 z0 z0 en1 fp1 z0 cf1 z0 (fun _ => 99)) (20) (14580) 277 [(0, .ref (q 0)), (3, .int (nI (i3)))] [] := by
                        intro n
                        induction n with
                        | zero => intro i3 fp1 hm3 hi3 hz3 hy3; exfalso; omega
                        | succ n ih277 =>
                          intro i3 fp1 hm3 hi3 hz3 hy3
                          refine j_iload_n dX3_init_277 rfl 1 rfl ?_
                          refine j_aload_n dX3_init_278 rfl 0 rfl ?_
                          refine gf_X3_79 0 rfl (rfl) dX3_init_279 ?_
                          refine jn_icmp_ge (tgt := 299) (a := i3) (b := nP R C) (by omega) (by omega) dX3_init_282 (by decide) (fun c282 => ?_) (fun c282 => ?_)
                          · refine j_iconst (v := nI (0)) dX3_init_299 (by decide) ?_
                            refine j_istore_n [(3, .int (nI (0))), (0, .ref (q 0))] dX3_init_300 rfl (by decide) rfl ?_
                            have hT0 : TC R C (eN R C 0 0) z0 z0 z0 z0 en1 fp1 z0 cf1 z0 := by rw [eN_0 hG]; exact TC_0 (fun j hj => hz2 j (by omega)) (fun j hj => hz3 j (by omega)) (fun j hj => hy3 j (by omega)) (fun j hj => (hz1 j (by omega)).1)
                            refine j_world (w' := wK cI cJ cZ q R C (eN R C 0 0) z0 z0 z0 z0 en1 fp1 z0 cf1 z0 (fun _ => 99)) (by rw [eN_0 hG]) ?_
                            refine j_lv (lv' := [(3, .int (nI (0 * (C + 1) + 0))), (0, .ref (q 0))]) (by rw [Nat.zero_mul]) ?_
                            refine j_sub [1, 0] [(0, .ref (q 0)), (3, .int (nI (0 * (C + 1) + 0)))] rfl ?_
                            have loop301 : ∀ (n : Nat) (yy xx : Nat) (lw8 hg8 n18 n28 en8 fp8 la8 cf8 cl8 : Nat → Nat), (nP R C < yy * (C + 1) + xx + n) → (xx ≤ C) → (yy ≤ R ∨ (yy = R + 1 ∧ xx = 0)) → (TC R C (eN R C yy xx) lw8 hg8 n18 n28 en8 fp8 la8 cf8 cl8) → V k l D (tys3 cI cJ cZ) ({ frames := 6, cells := 20, slots := 14580, locals := 137 } : Room) cX3_init 6 RX3 (wK cI cJ cZ q R C (eN R C yy xx) lw8 hg8 n18 n28 en8 fp8 la8 cf8 cl8 (fun _ => 99)) (20) (14580) 301 [(0, .ref (q 0)), (3, .int (nI (yy * (C + 1) + xx)))] [] := by
                              intro n
                              induction n with
                              | zero => intro yy xx lw8 hg8 n18 n28 en8 fp8 la8 cf8 cl8 hm4 hxC hyx hT8; exfalso; have := pq_le hxC hyx; omega
                              | succ n ih301 =>
                                intro yy xx lw8 hg8 n18 n28 en8 fp8 la8 cf8 cl8 hm4 hxC hyx hT8
                                have hple := pq_le hxC hyx
                                refine j_iload_n dX3_init_301 rfl 1 rfl ?_
                                refine j_aload_n dX3_init_302 rfl 0 rfl ?_
                                refine gf_X3_79 0 rfl (rfl) dX3_init_303 ?_
                                refine jn_icmp_ge (tgt := 410) (a := yy * (C + 1) + xx) (b := nP R C) (by omega) (by omega) dX3_init_306 (by decide) (fun c306 => ?_) (fun c306 => ?_)
                                · have hxy : yy = R + 1 ∧ xx = 0 := by
                                    rcases hyx with h9 | h9
                                    · exact absurd (pq_lt h9 hxC) (by omega)
                                    · exact h9
                                  obtain ⟨h9, h8⟩ := hxy
                                  subst h9 h8
                                  rw [eN_R] at hT8
                                  obtain ⟨f1, f2, f3, f4, f5, f6, f7, f8, f9⟩ := TC_f hG hT8
                                  refine j_world (w' := wK cI cJ cZ q R C (nE R C) lw8 hg8 n18 n28 en8 fp8 la8 cf8 cl8 (fun _ => 99)) (by rw [eN_R]) ?_
                                  refine j_wext (w2 := wM cI cJ cZ q R C 0 false false 0 0 0 0 0 z0 (fun _ => 99) z0 z0 z0 z0 z0 zL z0 z0 no0) (wE_c rfl cE_rfl (wE_c rfl (cE_arr (fun j hj => by rw [f1])) (wE_c rfl (cE_arr (fun j hj => by rw [f2])) (wE_c rfl (cE_arr (fun j hj => by rw [f3])) (wE_c rfl (cE_arr (fun j hj => by rw [f4])) (wE_c rfl (cE_arr (fun j hj => by rw [f5 j hj])) (wE_c rfl (cE_arr (fun j hj => by rw [f6 j hj])) (wE_c rfl (cE_arr (fun j hj => by rw [f7 j hj])) (wE_c rfl (cE_arr (fun j hj => by rw [f8 j hj])) (wE_c rfl (cE_arr (fun j hj => by rw [f9 j hj])) (wE_c rfl cE_rfl (wE_c rfl cE_rfl (wE_c rfl cE_rfl (wE_c rfl cE_rfl (wE_c rfl cE_rfl (wE_c rfl cE_rfl (wE_c rfl cE_rfl (wE_c rfl cE_rfl (wE_c rfl cE_rfl (wE_c rfl cE_rfl (wE_c rfl cE_rfl (wE_n)))))))))))))))))))))) ?_
                                  refine j_aload_n dX3_init_410 rfl 0 rfl ?_
                                  refine j_vW (av := []) (c_findLoops l hfl D cI cJ cZ q R C hG 0 false false 0 0 0 0 0 z0 (fun _ => 99) z0 z0 z0 z0 z0 zL z0 z0 no0 (fun p _ => ⟨rfl, rfl⟩) hcap rfl) 0 rfl rfl mw2_201 mw2_203 msel12 mw1_4 mw2_204 rfl hd_X3_findLoops rfl ⟨rfl, rfl⟩ ⟨Nat.le_of_ble_eq_true rfl, Nat.le_of_ble_eq_true rfl⟩ ⟨Nat.le_of_ble_eq_true rfl, Nat.le_of_ble_eq_true rfl⟩ (Nat.le_of_ble_eq_true rfl) rfl dX3_init_411 ?_
                                  rintro _ _ ⟨rfl, nl2, lp2, de2, se2, hL2, hJ2, rfl⟩
                                  refine j_st (st' := []) rfl ?_
                                  exact j_vret (tys' := []) rfl hR dX3_init_414 (⟨rfl, q, by rw [hq]; rfl, MW_of ⟨hL2, (fun h => nomatch h), (fun h => nomatch h), hJ2, by decide⟩⟩)
                                · have hyR : yy ≤ R := by
                                    rcases hyx with h9 | ⟨h9, h8⟩
                                    · exact h9
                                    · exfalso; subst h9 h8; unfold nP at c306; omega
                                  refine j_iload_n dX3_init_309 rfl 1 rfl ?_
                                  refine j_aload_n dX3_init_310 rfl 0 rfl ?_
                                  refine gf_X3_76 0 rfl (rfl) dX3_init_311 ?_
                                  refine j_iconst (v := nI (1)) dX3_init_314 (by decide) ?_
                                  refine jn_iadd (v := C + 1) dX3_init_315 rfl ?_
                                  refine j_idiv dX3_init_316 (fun h => absurd (nI_eq0 (by omega) h) (by omega)) rfl ?_
                                  refine j_topi (y := nI (yy)) (by rw [pk_div (by have := pq_lt hyR hxC; omega) (by omega) (by omega), pt_div hxC]) ?_
                                  refine j_istore [(4, .int (nI (yy))), (0, .ref (q 0)), (3, .int (nI (yy * (C + 1) + xx)))] dX3_init_317 (by decide) rfl ?_
                                  refine j_iload_n dX3_init_319 rfl 2 rfl ?_
                                  refine j_aload_n dX3_init_320 rfl 1 rfl ?_
                                  refine gf_X3_76 0 rfl (rfl) dX3_init_321 ?_
                                  refine j_iconst (v := nI (1)) dX3_init_324 (by decide) ?_
                                  refine jn_iadd (v := C + 1) dX3_init_325 rfl ?_
                                  refine j_irem dX3_init_326 (fun h => absurd (nI_eq0 (by omega) h) (by omega)) rfl ?_
                                  refine j_topi (y := nI (xx)) (by rw [pk_rem (by have := pq_lt hyR hxC; omega) (by omega) (by omega), pt_mod hxC]) ?_
                                  refine j_istore [(5, .int (nI (xx))), (4, .int (nI (yy))), (0, .ref (q 0)), (3, .int (nI (yy * (C + 1) + xx)))] dX3_init_327 (by decide) rfl ?_
                                  refine j_iload dX3_init_329 0 rfl ?_
                                  refine j_aload_n dX3_init_331 rfl 2 rfl ?_
                                  refine gf_X3_76 0 rfl (rfl) dX3_init_332 ?_
                                  refine jn_icmp_ge (tgt := 364) (a := xx) (b := C) (by omega) (by omega) dX3_init_335 (by decide) (fun c335 => ?_) (fun c335 => ?_)
                                  · refine j_iload dX3_init_364 1 rfl ?_
                                    refine j_aload_n dX3_init_366 rfl 2 rfl ?_
                                    refine gf_X3_72 0 rfl (rfl) dX3_init_367 ?_
                                    refine jn_icmp_ge (tgt := 404) (a := yy) (b := R) (by omega) (by omega) dX3_init_370 (by decide) (fun c370 => ?_) (fun c370 => ?_)
                                    · refine j_iinc (n0 := 3) (v := nI (yy * (C + 1) + xx + 1)) [(3, .int (nI (yy * (C + 1) + xx + 1))), (5, .int (nI (xx))), (4, .int (nI (yy))), (0, .ref (q 0))] dX3_init_404 rfl (by exact nI_add (yy * (C + 1) + xx) 1) (by decide) rfl ?_
                                      refine j_goto (tgt := 301) dX3_init_407 (by decide) ?_
                                      refine j_sub [3, 0] [(0, .ref (q 0)), (3, .int (nI (yy * (C + 1) + xx + 1)))] rfl ?_
                                      have hen := (eN_t hG hyR hxC).2.2.2
                                      have hen1 := hen.1
                                      rw [if_neg (show ¬ xx < C by omega), if_neg (show ¬ yy < R by omega)] at hen1
                                      simp only [Nat.add_zero] at hen1
                                      have hxe : xx = C := by omega
                                      subst hxe
                                      rw [hen.2] at hen1
                                      rw [← hen1] at hT8 ⊢
                                      have hmul : (yy + 1) * (xx + 1) = yy * (xx + 1) + (xx + 1) := by rw [Nat.add_mul, Nat.one_mul]
                                      refine j_lv (lv' := [(0, .ref (q 0)), (3, .int (nI ((yy + 1) * (xx + 1) + 0)))]) (by rw [hmul]; rfl) ?_
                                      exact ih301 (yy + 1) 0 lw8 hg8 n18 n28 en8 fp8 la8 cf8 cl8 (by omega) (by omega) (by omega) hT8
                                    · refine j_aload_n dX3_init_373 rfl 2 rfl ?_
                                      refine j_iload_n dX3_init_374 rfl 3 rfl ?_
                                      refine j_iload_n dX3_init_375 rfl 3 rfl ?_
                                      refine j_aload_n dX3_init_376 rfl 2 rfl ?_
                                      refine gf_X3_76 0 rfl (rfl) dX3_init_377 ?_
                                      refine jn_iadd (v := (yy * (C + 1) + xx) + C) dX3_init_380 rfl ?_
                                      refine j_iconst (v := nI (1)) dX3_init_381 (by decide) ?_
                                      refine jn_iadd (v := ((yy * (C + 1) + xx) + C) + 1) dX3_init_382 rfl ?_
                                      refine j_aload_n dX3_init_383 rfl 2 rfl ?_
                                      refine j_iload dX3_init_384 1 rfl ?_
                                      refine j_iload dX3_init_386 0 rfl ?_
                                      refine j_iconst (v := nI (1)) dX3_init_388 (by decide) ?_
                                      refine j_isub dX3_init_389 rfl ?_
                                      refine j_topi (y := eI (pd xx)) (eI_pd (by omega)) ?_
                                      refine j_st (st' := [.int (eI (pd xx)), .int (eI (yy)), .ref (q 0), .int (nI (((yy * (C + 1) + xx) + C) + 1)), .int (nI (yy * (C + 1) + xx)), .ref (q 0)]) (by rw [eI_ne (show ¬ yy = 99 by omega)]) ?_
                                      refine j_vW (av := [.int (eI (yy)), .int (eI (pd xx))]) (k_cell l hfl D cI cJ cZ q R C hG (eN R C yy xx) lw8 hg8 n18 n28 en8 fp8 la8 cf8 cl8 (fun _ => 99) (yy) (pd xx) (by first | omega | exact pd_lt (by omega)) (by first | omega | exact pd_lt (by omega))) 0 rfl rfl mw2_185 mw2_187 msel8 mw1_4 mw2_188 rfl hd_X3_cell rfl ⟨rfl, rfl⟩ ⟨Nat.le_of_ble_eq_true rfl, Nat.le_of_ble_eq_true rfl⟩ ⟨Nat.le_of_ble_eq_true rfl, Nat.le_of_ble_eq_true rfl⟩ (Nat.le_of_ble_eq_true rfl) rfl dX3_init_390 ?_
                                      rintro _ _ ⟨rfl, rfl⟩
                                      refine j_st (st' := [.int (eI (ccell R C yy (pd xx))), .int (nI (((yy * (C + 1) + xx) + C) + 1)), .int (nI (yy * (C + 1) + xx)), .ref (q 0)]) rfl ?_
                                      refine j_aload_n dX3_init_393 rfl 2 rfl ?_
                                      refine j_iload dX3_init_394 1 rfl ?_
                                      refine j_iload dX3_init_396 0 rfl ?_
                                      refine j_st (st' := [.int (eI (xx)), .int (eI (yy)), .ref (q 0), .int (eI (ccell R C yy (pd xx))), .int (nI (((yy * (C + 1) + xx) + C) + 1)), .int (nI (yy * (C + 1) + xx)), .ref (q 0)]) (by rw [eI_ne (show ¬ xx = 99 by omega), eI_ne (show ¬ yy = 99 by omega)]) ?_
                                      refine j_vW (av := [.int (eI (yy)), .int (eI (xx))]) (k_cell l hfl D cI cJ cZ q R C hG (eN R C yy xx) lw8 hg8 n18 n28 en8 fp8 la8 cf8 cl8 (fun _ => 99) (yy) (xx) (by first | omega | exact pd_lt (by omega)) (by first | omega | exact pd_lt (by omega))) 0 rfl rfl mw2_185 mw2_187 msel8 mw1_4 mw2_188 rfl hd_X3_cell rfl ⟨rfl, rfl⟩ ⟨Nat.le_of_ble_eq_true rfl, Nat.le_of_ble_eq_true rfl⟩ ⟨Nat.le_of_ble_eq_true rfl, Nat.le_of_ble_eq_true rfl⟩ (Nat.le_of_ble_eq_true rfl) rfl dX3_init_398 ?_
                                      rintro _ _ ⟨rfl, rfl⟩
                                      refine j_st (st' := [.int (eI (ccell R C yy xx)), .int (eI (ccell R C yy (pd xx))), .int (nI (((yy * (C + 1) + xx) + C) + 1)), .int (nI (yy * (C + 1) + xx)), .ref (q 0)]) rfl ?_
                                      obtain ⟨d1, d2, d3, d4⟩ := (eN_t hG hyR hxC).2.2.1 c370 c335
                                      obtain ⟨m1, m2, m3, m4⟩ := jn_d d1 d2 d3 d4
                                      refine j_st (st' := [.int (eI (mOther R C (eN R C yy xx))), .int (eI (mOne R C (eN R C yy xx))), .int (nI (mHigh R C (eN R C yy xx))), .int (nI (mLow R C (eN R C yy xx))), .ref (q 0)]) (by rw [m1, m2, m3, m4]) ?_
                                      refine j_vW (av := [.int (nI (mLow R C (eN R C yy xx))), .int (nI (mHigh R C (eN R C yy xx))), .int (eI (mOne R C (eN R C yy xx))), .int (eI (mOther R C (eN R C yy xx)))]) (k_join l hfl D cI cJ cZ q R C hG (eN R C yy xx) lw8 hg8 n18 n28 en8 fp8 la8 cf8 cl8 (fun _ => 99) d1 hT8) 0 rfl rfl mw2_189 mw2_191 msel9 mw1_4 mw2_192 rfl hd_X3_join rfl ⟨rfl, rfl⟩ ⟨Nat.le_of_ble_eq_true rfl, Nat.le_of_ble_eq_true rfl⟩ ⟨Nat.le_of_ble_eq_true rfl, Nat.le_of_ble_eq_true rfl⟩ (Nat.le_of_ble_eq_true rfl) rfl dX3_init_401 ?_
                                      rintro _ _ ⟨rfl, lwb, hgb, nab, nbb, enb, fpb, lab, cfb, clb, hTb, rfl⟩
                                      refine j_st (st' := []) rfl ?_
                                      refine j_iinc (n0 := 3) (v := nI (yy * (C + 1) + xx + 1)) [(3, .int (nI (yy * (C + 1) + xx + 1))), (5, .int (nI (xx))), (4, .int (nI (yy))), (0, .ref (q 0))] dX3_init_404 rfl (by exact nI_add (yy * (C + 1) + xx) 1) (by decide) rfl ?_
                                      refine j_goto (tgt := 301) dX3_init_407 (by decide) ?_
                                      refine j_sub [3, 0] [(0, .ref (q 0)), (3, .int (nI (yy * (C + 1) + xx + 1)))] rfl ?_
                                      have hen := (eN_t hG hyR hxC).2.2.2
                                      have hen1 := hen.1
                                      rw [if_neg (show ¬ xx < C by omega), if_pos c370] at hen1
                                      simp only [Nat.add_zero] at hen1
                                      have hxe : xx = C := by omega
                                      subst hxe
                                      rw [hen.2] at hen1
                                      rw [← hen1] at hTb ⊢
                                      have hmul : (yy + 1) * (xx + 1) = yy * (xx + 1) + (xx + 1) := by rw [Nat.add_mul, Nat.one_mul]
                                      refine j_lv (lv' := [(0, .ref (q 0)), (3, .int (nI ((yy + 1) * (xx + 1) + 0)))]) (by rw [hmul]; rfl) ?_
                                      exact ih301 (yy + 1) 0 lwb hgb nab nbb enb fpb lab cfb clb (by omega) (by omega) (by omega) hTb
                                  · refine j_aload_n dX3_init_338 rfl 2 rfl ?_
                                    refine j_iload_n dX3_init_339 rfl 3 rfl ?_
                                    refine j_iload_n dX3_init_340 rfl 3 rfl ?_
                                    refine j_iconst (v := nI (1)) dX3_init_341 (by decide) ?_
                                    refine jn_iadd (v := (yy * (C + 1) + xx) + 1) dX3_init_342 rfl ?_
                                    refine j_aload_n dX3_init_343 rfl 2 rfl ?_
                                    refine j_iload dX3_init_344 1 rfl ?_
                                    refine j_iconst (v := nI (1)) dX3_init_346 (by decide) ?_
                                    refine j_isub dX3_init_347 rfl ?_
                                    refine j_topi (y := eI (pd yy)) (eI_pd (by omega)) ?_
                                    refine j_iload dX3_init_348 0 rfl ?_
                                    refine j_st (st' := [.int (eI (xx)), .int (eI (pd yy)), .ref (q 0), .int (nI ((yy * (C + 1) + xx) + 1)), .int (nI (yy * (C + 1) + xx)), .ref (q 0)]) (by rw [eI_ne (show ¬ xx = 99 by omega)]) ?_
                                    refine j_vW (av := [.int (eI (pd yy)), .int (eI (xx))]) (k_cell l hfl D cI cJ cZ q R C hG (eN R C yy xx) lw8 hg8 n18 n28 en8 fp8 la8 cf8 cl8 (fun _ => 99) (pd yy) (xx) (by first | omega | exact pd_lt (by omega)) (by first | omega | exact pd_lt (by omega))) 0 rfl rfl mw2_185 mw2_187 msel8 mw1_4 mw2_188 rfl hd_X3_cell rfl ⟨rfl, rfl⟩ ⟨Nat.le_of_ble_eq_true rfl, Nat.le_of_ble_eq_true rfl⟩ ⟨Nat.le_of_ble_eq_true rfl, Nat.le_of_ble_eq_true rfl⟩ (Nat.le_of_ble_eq_true rfl) rfl dX3_init_350 ?_
                                    rintro _ _ ⟨rfl, rfl⟩
                                    refine j_st (st' := [.int (eI (ccell R C (pd yy) xx)), .int (nI ((yy * (C + 1) + xx) + 1)), .int (nI (yy * (C + 1) + xx)), .ref (q 0)]) rfl ?_
                                    refine j_aload_n dX3_init_353 rfl 2 rfl ?_
                                    refine j_iload dX3_init_354 1 rfl ?_
                                    refine j_iload dX3_init_356 0 rfl ?_
                                    refine j_st (st' := [.int (eI (xx)), .int (eI (yy)), .ref (q 0), .int (eI (ccell R C (pd yy) xx)), .int (nI ((yy * (C + 1) + xx) + 1)), .int (nI (yy * (C + 1) + xx)), .ref (q 0)]) (by rw [eI_ne (show ¬ xx = 99 by omega), eI_ne (show ¬ yy = 99 by omega)]) ?_
                                    refine j_vW (av := [.int (eI (yy)), .int (eI (xx))]) (k_cell l hfl D cI cJ cZ q R C hG (eN R C yy xx) lw8 hg8 n18 n28 en8 fp8 la8 cf8 cl8 (fun _ => 99) (yy) (xx) (by first | omega | exact pd_lt (by omega)) (by first | omega | exact pd_lt (by omega))) 0 rfl rfl mw2_185 mw2_187 msel8 mw1_4 mw2_188 rfl hd_X3_cell rfl ⟨rfl, rfl⟩ ⟨Nat.le_of_ble_eq_true rfl, Nat.le_of_ble_eq_true rfl⟩ ⟨Nat.le_of_ble_eq_true rfl, Nat.le_of_ble_eq_true rfl⟩ (Nat.le_of_ble_eq_true rfl) rfl dX3_init_358 ?_
                                    rintro _ _ ⟨rfl, rfl⟩
                                    refine j_st (st' := [.int (eI (ccell R C yy xx)), .int (eI (ccell R C (pd yy) xx)), .int (nI ((yy * (C + 1) + xx) + 1)), .int (nI (yy * (C + 1) + xx)), .ref (q 0)]) rfl ?_
                                    obtain ⟨b1, b2, b3, b4⟩ := (eN_t hG hyR hxC).1 c335
                                    obtain ⟨k1, k2, k3, k4⟩ := jn_r b1 b2 b3 b4
                                    refine j_st (st' := [.int (eI (mOther R C (eN R C yy xx))), .int (eI (mOne R C (eN R C yy xx))), .int (nI (mHigh R C (eN R C yy xx))), .int (nI (mLow R C (eN R C yy xx))), .ref (q 0)]) (by rw [k1, k2, k3, k4]) ?_
                                    refine j_vW (av := [.int (nI (mLow R C (eN R C yy xx))), .int (nI (mHigh R C (eN R C yy xx))), .int (eI (mOne R C (eN R C yy xx))), .int (eI (mOther R C (eN R C yy xx)))]) (k_join l hfl D cI cJ cZ q R C hG (eN R C yy xx) lw8 hg8 n18 n28 en8 fp8 la8 cf8 cl8 (fun _ => 99) b1 hT8) 0 rfl rfl mw2_189 mw2_191 msel9 mw1_4 mw2_192 rfl hd_X3_join rfl ⟨rfl, rfl⟩ ⟨Nat.le_of_ble_eq_true rfl, Nat.le_of_ble_eq_true rfl⟩ ⟨Nat.le_of_ble_eq_true rfl, Nat.le_of_ble_eq_true rfl⟩ (Nat.le_of_ble_eq_true rfl) rfl dX3_init_361 ?_
                                    rintro _ _ ⟨rfl, lwa, hga, naa, nba, ena, fpa, laa, cfa, cla, hTa, rfl⟩
                                    refine j_st (st' := []) rfl ?_
                                    refine j_iload dX3_init_364 1 rfl ?_
                                    refine j_aload_n dX3_init_366 rfl 2 rfl ?_
                                    refine gf_X3_72 0 rfl (rfl) dX3_init_367 ?_
                                    refine jn_icmp_ge (tgt := 404) (a := yy) (b := R) (by omega) (by omega) dX3_init_370 (by decide) (fun c370 => ?_) (fun c370 => ?_)
                                    · refine j_iinc (n0 := 3) (v := nI (yy * (C + 1) + xx + 1)) [(3, .int (nI (yy * (C + 1) + xx + 1))), (5, .int (nI (xx))), (4, .int (nI (yy))), (0, .ref (q 0))] dX3_init_404 rfl (by exact nI_add (yy * (C + 1) + xx) 1) (by decide) rfl ?_
                                      refine j_goto (tgt := 301) dX3_init_407 (by decide) ?_
                                      refine j_sub [3, 0] [(0, .ref (q 0)), (3, .int (nI (yy * (C + 1) + xx + 1)))] rfl ?_
                                      have hen := (eN_t hG hyR hxC).2.2.2
                                      have hen1 := hen.1
                                      rw [if_pos c335, if_neg (show ¬ yy < R by omega)] at hen1
                                      simp only [Nat.add_zero] at hen1
                                      rw [← hen1] at hTa ⊢
                                      exact ih301 yy (xx + 1) lwa hga naa nba ena fpa laa cfa cla (by omega) (by omega) (Or.inl hyR) hTa
                                    · refine j_aload_n dX3_init_373 rfl 2 rfl ?_
                                      refine j_iload_n dX3_init_374 rfl 3 rfl ?_
                                      refine j_iload_n dX3_init_375 rfl 3 rfl ?_
                                      refine j_aload_n dX3_init_376 rfl 2 rfl ?_
                                      refine gf_X3_76 0 rfl (rfl) dX3_init_377 ?_
                                      refine jn_iadd (v := (yy * (C + 1) + xx) + C) dX3_init_380 rfl ?_
                                      refine j_iconst (v := nI (1)) dX3_init_381 (by decide) ?_
                                      refine jn_iadd (v := ((yy * (C + 1) + xx) + C) + 1) dX3_init_382 rfl ?_
                                      refine j_aload_n dX3_init_383 rfl 2 rfl ?_
                                      refine j_iload dX3_init_384 1 rfl ?_
                                      refine j_iload dX3_init_386 0 rfl ?_
                                      refine j_iconst (v := nI (1)) dX3_init_388 (by decide) ?_
                                      refine j_isub dX3_init_389 rfl ?_
                                      refine j_topi (y := eI (pd xx)) (eI_pd (by omega)) ?_
                                      refine j_st (st' := [.int (eI (pd xx)), .int (eI (yy)), .ref (q 0), .int (nI (((yy * (C + 1) + xx) + C) + 1)), .int (nI (yy * (C + 1) + xx)), .ref (q 0)]) (by rw [eI_ne (show ¬ yy = 99 by omega)]) ?_
                                      refine j_vW (av := [.int (eI (yy)), .int (eI (pd xx))]) (k_cell l hfl D cI cJ cZ q R C hG (eN R C yy xx + 1) lwa hga naa nba ena fpa laa cfa cla (fun _ => 99) (yy) (pd xx) (by first | omega | exact pd_lt (by omega)) (by first | omega | exact pd_lt (by omega))) 0 rfl rfl mw2_185 mw2_187 msel8 mw1_4 mw2_188 rfl hd_X3_cell rfl ⟨rfl, rfl⟩ ⟨Nat.le_of_ble_eq_true rfl, Nat.le_of_ble_eq_true rfl⟩ ⟨Nat.le_of_ble_eq_true rfl, Nat.le_of_ble_eq_true rfl⟩ (Nat.le_of_ble_eq_true rfl) rfl dX3_init_390 ?_
                                      rintro _ _ ⟨rfl, rfl⟩
                                      refine j_st (st' := [.int (eI (ccell R C yy (pd xx))), .int (nI (((yy * (C + 1) + xx) + C) + 1)), .int (nI (yy * (C + 1) + xx)), .ref (q 0)]) rfl ?_
                                      refine j_aload_n dX3_init_393 rfl 2 rfl ?_
                                      refine j_iload dX3_init_394 1 rfl ?_
                                      refine j_iload dX3_init_396 0 rfl ?_
                                      refine j_st (st' := [.int (eI (xx)), .int (eI (yy)), .ref (q 0), .int (eI (ccell R C yy (pd xx))), .int (nI (((yy * (C + 1) + xx) + C) + 1)), .int (nI (yy * (C + 1) + xx)), .ref (q 0)]) (by rw [eI_ne (show ¬ xx = 99 by omega), eI_ne (show ¬ yy = 99 by omega)]) ?_
                                      refine j_vW (av := [.int (eI (yy)), .int (eI (xx))]) (k_cell l hfl D cI cJ cZ q R C hG (eN R C yy xx + 1) lwa hga naa nba ena fpa laa cfa cla (fun _ => 99) (yy) (xx) (by first | omega | exact pd_lt (by omega)) (by first | omega | exact pd_lt (by omega))) 0 rfl rfl mw2_185 mw2_187 msel8 mw1_4 mw2_188 rfl hd_X3_cell rfl ⟨rfl, rfl⟩ ⟨Nat.le_of_ble_eq_true rfl, Nat.le_of_ble_eq_true rfl⟩ ⟨Nat.le_of_ble_eq_true rfl, Nat.le_of_ble_eq_true rfl⟩ (Nat.le_of_ble_eq_true rfl) rfl dX3_init_398 ?_
                                      rintro _ _ ⟨rfl, rfl⟩
                                      refine j_st (st' := [.int (eI (ccell R C yy xx)), .int (eI (ccell R C yy (pd xx))), .int (nI (((yy * (C + 1) + xx) + C) + 1)), .int (nI (yy * (C + 1) + xx)), .ref (q 0)]) rfl ?_
                                      obtain ⟨d1, d2, d3, d4⟩ := (eN_t hG hyR hxC).2.1 c370 c335
                                      obtain ⟨m1, m2, m3, m4⟩ := jn_d d1 d2 d3 d4
                                      refine j_st (st' := [.int (eI (mOther R C (eN R C yy xx + 1))), .int (eI (mOne R C (eN R C yy xx + 1))), .int (nI (mHigh R C (eN R C yy xx + 1))), .int (nI (mLow R C (eN R C yy xx + 1))), .ref (q 0)]) (by rw [m1, m2, m3, m4]) ?_
                                      refine j_vW (av := [.int (nI (mLow R C (eN R C yy xx + 1))), .int (nI (mHigh R C (eN R C yy xx + 1))), .int (eI (mOne R C (eN R C yy xx + 1))), .int (eI (mOther R C (eN R C yy xx + 1)))]) (k_join l hfl D cI cJ cZ q R C hG (eN R C yy xx + 1) lwa hga naa nba ena fpa laa cfa cla (fun _ => 99) d1 hTa) 0 rfl rfl mw2_189 mw2_191 msel9 mw1_4 mw2_192 rfl hd_X3_join rfl ⟨rfl, rfl⟩ ⟨Nat.le_of_ble_eq_true rfl, Nat.le_of_ble_eq_true rfl⟩ ⟨Nat.le_of_ble_eq_true rfl, Nat.le_of_ble_eq_true rfl⟩ (Nat.le_of_ble_eq_true rfl) rfl dX3_init_401 ?_
                                      rintro _ _ ⟨rfl, lwb, hgb, nab, nbb, enb, fpb, lab, cfb, clb, hTb, rfl⟩
                                      refine j_st (st' := []) rfl ?_
                                      refine j_iinc (n0 := 3) (v := nI (yy * (C + 1) + xx + 1)) [(3, .int (nI (yy * (C + 1) + xx + 1))), (5, .int (nI (xx))), (4, .int (nI (yy))), (0, .ref (q 0))] dX3_init_404 rfl (by exact nI_add (yy * (C + 1) + xx) 1) (by decide) rfl ?_
                                      refine j_goto (tgt := 301) dX3_init_407 (by decide) ?_
                                      refine j_sub [3, 0] [(0, .ref (q 0)), (3, .int (nI (yy * (C + 1) + xx + 1)))] rfl ?_
                                      have hen := (eN_t hG hyR hxC).2.2.2
                                      have hen1 := hen.1
                                      rw [if_pos c335, if_pos c370] at hen1
                                      rw [← hen1] at hTb ⊢
                                      exact ih301 yy (xx + 1) lwb hgb nab nbb enb fpb lab cfb clb (by omega) (by omega) (Or.inl hyR) hTb
                            exact loop301 (nP R C + 2) 0 0 z0 z0 z0 z0 en1 fp1 z0 cf1 z0 (by omega) (by omega) (Or.inl (by omega)) hT0
                          · refine j_aload_n dX3_init_285 rfl 0 rfl ?_
                            refine gf_X3_25 0 rfl (rfl) dX3_init_286 ?_
                            refine j_iload_n dX3_init_289 rfl 1 rfl ?_
                            refine j_bipush (v := nI (99)) dX3_init_290 (by decide) ?_
                            refine jn_iastN (wK cI cJ cZ q R C 0 z0 z0 z0 z0 en1 (va_up fp1 i3 99) z0 cf1 z0 (fun _ => 99)) 6 0 rfl rfl (by omega) (by omega) rfl dX3_init_292 ?_
                            refine j_iinc (n0 := 1) (v := nI (i3 + 1)) [(3, .int (nI (i3 + 1))), (0, .ref (q 0))] dX3_init_293 rfl (by exact nI_add (i3) 1) (by decide) rfl ?_
                            refine j_goto (tgt := 277) dX3_init_296 (by decide) ?_
                            refine j_sub [1, 0] [(0, .ref (q 0)), (3, .int (nI (i3 + 1)))] rfl ?_
                            exact ih277 (i3 + 1) (va_up fp1 i3 99) (by omega) (by omega) (fun j h => if h2 : j = i3 then by rw [h2, va_up_self] else by rw [va_up_ne _ _ h2]; exact hz3 j (by omega)) (fun j h => by rw [va_up_ne _ _ (by omega)]; exact hy3 j (by omega))
                      exact loop277 (nP R C + 2) 0 z0 (by omega) (by omega) (fun j h => absurd h (by omega)) (fun j _ => rfl)
                    · refine j_aload_n dX3_init_262 rfl 0 rfl ?_
                      refine gf_X3_22 0 rfl (rfl) dX3_init_263 ?_
                      refine j_iload_n dX3_init_266 rfl 1 rfl ?_
                      refine j_iconst (v := (-1)) dX3_init_267 (by decide) ?_
                      refine j_st (st' := [.int (eI (99)), .int (nI (i2)), .ref (q 9)]) (by rfl) ?_
                      refine jn_iastE (wK cI cJ cZ q R C 0 z0 z0 z0 z0 (va_up en1 i2 99) z0 z0 cf1 z0 (fun _ => 99)) 5 0 rfl rfl (by omega) (by omega) rfl dX3_init_268 ?_
                      refine j_iinc (n0 := 1) (v := nI (i2 + 1)) [(3, .int (nI (i2 + 1))), (0, .ref (q 0))] dX3_init_269 rfl (by exact nI_add (i2) 1) (by decide) rfl ?_
                      refine j_goto (tgt := 256) dX3_init_272 (by decide) ?_
                      refine j_sub [1, 0] [(0, .ref (q 0)), (3, .int (nI (i2 + 1)))] rfl ?_
                      exact ih256 (i2 + 1) (va_up en1 i2 99) (by omega) (by omega) (fun j h => if h2 : j = i2 then by rw [h2, va_up_self] else by rw [va_up_ne _ _ h2]; exact hz2 j (by omega))
                exact loop256 82 0 z0 (by omega) (by omega) (fun j h => absurd h (by omega))
              · refine j_aload_n dX3_init_233 rfl 0 rfl ?_
                refine gf_X3_40 0 rfl (rfl) dX3_init_234 ?_
                refine j_iload_n dX3_init_237 rfl 1 rfl ?_
                refine j_iconst (v := (-1)) dX3_init_238 (by decide) ?_
                refine j_st (st' := [.int (eI (99)), .int (nI (i)), .ref (q 16)]) (by rfl) ?_
                refine jn_iastE (wK cI cJ cZ q R C 0 z0 z0 z0 z0 z0 z0 z0 cf1 z0 (va_up cu1 i 99)) 11 0 rfl rfl (by omega) (by omega) rfl dX3_init_239 ?_
                refine j_aload_n dX3_init_240 rfl 0 rfl ?_
                refine gf_X3_31 0 rfl (rfl) dX3_init_241 ?_
                refine j_iload_n dX3_init_244 rfl 1 rfl ?_
                refine j_bipush (v := nI (99)) dX3_init_245 (by decide) ?_
                refine jn_iastN (wK cI cJ cZ q R C 0 z0 z0 z0 z0 z0 z0 z0 (va_up cf1 i 99) z0 (va_up cu1 i 99)) 8 0 rfl rfl (by omega) (by omega) rfl dX3_init_247 ?_
                refine j_iinc (n0 := 1) (v := nI (i + 1)) [(3, .int (nI (i + 1))), (0, .ref (q 0))] dX3_init_248 rfl (by exact nI_add (i) 1) (by decide) rfl ?_
                refine j_goto (tgt := 227) dX3_init_251 (by decide) ?_
                refine j_sub [1, 0] [(0, .ref (q 0)), (3, .int (nI (i + 1)))] rfl ?_
                exact ih227 (i + 1) (va_up cf1 i 99) (va_up cu1 i 99) (by omega) (by omega) (fun j h => if h2 : j = i then by rw [h2, va_up_self, va_up_self]; exact ⟨rfl, rfl⟩ else by rw [va_up_ne _ _ h2, va_up_ne _ _ h2]; exact hz1 j (by omega))
          exact loop227 14 0 z0 z0 (by omega) (by omega) (fun j h => absurd h (by omega))
        · refine j_iconst (v := nI (2)) dX3_init_200 (by decide) ?_
          refine j_goto (tgt := 205) dX3_init_201 (by decide) ?_
          have eC : C = 2 := szI_f (by decide) hyC (by first | exact Or.inl c192 | exact Or.inr (by rw [Int32.lt_iff_toInt_lt]; rw [Int32.le_iff_toInt_le] at c197; omega))
          refine j_st (st' := [.int (nI (C)), .ref (mq)]) (by rw [eC]) ?_
          refine pf_X3_76 ([(mq, .inr (3, [.int (nI (0)), .int (nI (R)), .int (nI (C)), .int (nI (0)), .int (nI (0)), .ref (r5), .ref (r6), .ref (r7), .ref (r8), .ref (r9), .ref (r10), .ref (r11), .ref (r12), .ref (r13), .int (nI (0)), .ref (r15), .ref (r16), .int (nI (0)), .int (nI (0)), .ref (r19), .int (nI (0)), .ref (r21), .ref (r22), .int (nI (0)), .ref (r24), .int (nI (0)), .ref (r26), .ref (r27), .ref (r28), .int (nI (0)), .ref (r30), .ref (r31)])), (r5, .inl (cI, 31, .inl (fun jz => nI (z0 jz)))), (r6, .inl (cI, 31, .inl (fun jz => nI (z0 jz)))), (r7, .inl (cI, 31, .inl (fun jz => nI (z0 jz)))), (r8, .inl (cI, 31, .inl (fun jz => nI (z0 jz)))), (r9, .inl (cI, 80, .inl (fun jz => nI (z0 jz)))), (r10, .inl (cI, 20, .inl (fun jz => nI (z0 jz)))), (r11, .inl (cI, 20, .inl (fun jz => nI (z0 jz)))), (r12, .inl (cI, 12, .inl (fun jz => nI (z0 jz)))), (r13, .inl (cI, 12, .inl (fun jz => nI (z0 jz)))), (r15, .inl (cI, 1300, .inl (fun jz => nI (z0 jz)))), (r16, .inl (cI, 12, .inl (fun jz => nI (z0 jz)))), (r19, .inl (cI, 1300, .inl (fun jz => nI (z0 jz)))), (r21, .inl (cI, 32, .inl (fun jz => nI (z0 jz)))), (r22, .inl (cI, 32, .inl (fun jz => nI (z0 jz)))), (r24, .inl (cI, 2500, .inl (fun jz => nI (z0 jz)))), (r26, .inl (cI, 2500, .inl (fun jz => nI (z0 jz)))), (r27, .inl (cJ, 2500, .inr (.inl (zL)))), (r28, .inl (cI, 4096, .inl (fun jz => nI (z0 jz)))), (r30, .inl (cI, 20, .inl (fun jz => nI (z0 jz)))), (r31, .inl (cZ, 20, .inl (fun jz => bI (no0 jz))))]) 0 rfl (Nat.le_of_ble_eq_true rfl) rfl dX3_init_205 ?_
          refine j_aload_n dX3_init_208 rfl 0 rfl ?_
          refine j_aload_n dX3_init_209 rfl 0 rfl ?_
          refine gf_X3_72 0 rfl (rfl) dX3_init_210 ?_
          refine j_iconst (v := nI (1)) dX3_init_213 (by decide) ?_
          refine jn_iadd (v := R + 1) dX3_init_214 rfl ?_
          refine j_aload_n dX3_init_215 rfl 0 rfl ?_
          refine gf_X3_76 0 rfl (rfl) dX3_init_216 ?_
          refine j_iconst (v := nI (1)) dX3_init_219 (by decide) ?_
          refine jn_iadd (v := C + 1) dX3_init_220 rfl ?_
          refine jn_imul (v := (R + 1) * (C + 1)) dX3_init_221 rfl ?_
          refine j_topi (y := nI (nP R C)) (by rfl) ?_
          refine pf_X3_79 ([(mq, .inr (3, [.int (nI (0)), .int (nI (R)), .int (nI (C)), .int (nI (nP R C)), .int (nI (0)), .ref (r5), .ref (r6), .ref (r7), .ref (r8), .ref (r9), .ref (r10), .ref (r11), .ref (r12), .ref (r13), .int (nI (0)), .ref (r15), .ref (r16), .int (nI (0)), .int (nI (0)), .ref (r19), .int (nI (0)), .ref (r21), .ref (r22), .int (nI (0)), .ref (r24), .int (nI (0)), .ref (r26), .ref (r27), .ref (r28), .int (nI (0)), .ref (r30), .ref (r31)])), (r5, .inl (cI, 31, .inl (fun jz => nI (z0 jz)))), (r6, .inl (cI, 31, .inl (fun jz => nI (z0 jz)))), (r7, .inl (cI, 31, .inl (fun jz => nI (z0 jz)))), (r8, .inl (cI, 31, .inl (fun jz => nI (z0 jz)))), (r9, .inl (cI, 80, .inl (fun jz => nI (z0 jz)))), (r10, .inl (cI, 20, .inl (fun jz => nI (z0 jz)))), (r11, .inl (cI, 20, .inl (fun jz => nI (z0 jz)))), (r12, .inl (cI, 12, .inl (fun jz => nI (z0 jz)))), (r13, .inl (cI, 12, .inl (fun jz => nI (z0 jz)))), (r15, .inl (cI, 1300, .inl (fun jz => nI (z0 jz)))), (r16, .inl (cI, 12, .inl (fun jz => nI (z0 jz)))), (r19, .inl (cI, 1300, .inl (fun jz => nI (z0 jz)))), (r21, .inl (cI, 32, .inl (fun jz => nI (z0 jz)))), (r22, .inl (cI, 32, .inl (fun jz => nI (z0 jz)))), (r24, .inl (cI, 2500, .inl (fun jz => nI (z0 jz)))), (r26, .inl (cI, 2500, .inl (fun jz => nI (z0 jz)))), (r27, .inl (cJ, 2500, .inr (.inl (zL)))), (r28, .inl (cI, 4096, .inl (fun jz => nI (z0 jz)))), (r30, .inl (cI, 20, .inl (fun jz => nI (z0 jz)))), (r31, .inl (cZ, 20, .inl (fun jz => bI (no0 jz))))]) 0 rfl (Nat.le_of_ble_eq_true rfl) rfl dX3_init_222 ?_
          refine j_iconst (v := nI (0)) dX3_init_225 (by decide) ?_
          refine j_istore_n [(3, .int (nI (0))), (0, .ref (mq)), (1, .int (x)), (2, .int (y))] dX3_init_226 rfl (by decide) rfl ?_
          obtain ⟨q, hq⟩ : ∃ q : Nat → Nat, q = mkQ [mq, 0, 0, 0, 0, r5, r6, r7, r8, r9, r10, r11, r12, r13, 0, r15, r16, 0, 0, r19, 0, r21, r22, 0, r24, 0, r26, r27, r28, 0, r30, r31] := ⟨_, rfl⟩
          refine j_world (w' := wK cI cJ cZ q R C 0 z0 z0 z0 z0 z0 z0 z0 z0 z0 z0) (by rw [hq]; rfl) ?_
          refine j_sub [1, 0] [(0, .ref (mq)), (3, .int (nI (0)))] rfl ?_
          refine j_lv (lv' := [(0, .ref (q 0)), (3, .int (nI (0)))]) (by rw [hq]; rfl) ?_
          have loop227 : ∀ (n : Nat) (i : Nat) (cf1 cu1 : Nat → Nat), (12 < i + n) → (i ≤ 12) → (∀ j, j < i → cf1 j = 99 ∧ cu1 j = 99) → V k l D (tys3 cI cJ cZ) ({ frames := 6, cells := 20, slots := 14580, locals := 137 } : Room) cX3_init 6 RX3 (wK cI cJ cZ q R C 0 z0 z0 z0 z0 z0 z0 z0 cf1 z0 cu1) (20) (14580) 227 [(0, .ref (q 0)), (3, .int (nI (i)))] [] := by
            intro n
            induction n with
            | zero => intro i cf1 cu1 hm1 hi1 hz1; exfalso; omega
            | succ n ih227 =>
              intro i cf1 cu1 hm1 hi1 hz1
              refine j_iload_n dX3_init_227 rfl 1 rfl ?_
              refine j_bipush (v := nI (12)) dX3_init_228 (by decide) ?_
              refine jn_icmp_ge (tgt := 254) (a := i) (b := 12) (by omega) (by omega) dX3_init_230 (by decide) (fun c230 => ?_) (fun c230 => ?_)
              · refine j_iconst (v := nI (0)) dX3_init_254 (by decide) ?_
                refine j_istore_n [(3, .int (nI (0))), (0, .ref (q 0))] dX3_init_255 rfl (by decide) rfl ?_
                refine j_wext (w2 := wK cI cJ cZ q R C 0 z0 z0 z0 z0 z0 z0 z0 cf1 z0 (fun _ => 99)) (wE_c rfl cE_rfl (wE_c rfl cE_rfl (wE_c rfl cE_rfl (wE_c rfl cE_rfl (wE_c rfl cE_rfl (wE_c rfl cE_rfl (wE_c rfl cE_rfl (wE_c rfl cE_rfl (wE_c rfl cE_rfl (wE_c rfl cE_rfl (wE_c rfl cE_rfl (wE_c rfl (cE_arr (fun j hj => by rw [(hz1 j (by omega)).2])) (wE_c rfl cE_rfl (wE_c rfl cE_rfl (wE_c rfl cE_rfl (wE_c rfl cE_rfl (wE_c rfl cE_rfl (wE_c rfl cE_rfl (wE_c rfl cE_rfl (wE_c rfl cE_rfl (wE_c rfl cE_rfl (wE_n)))))))))))))))))))))) ?_
                refine j_sub [1, 0] [(0, .ref (q 0)), (3, .int (nI (0)))] rfl ?_
                have loop256 : ∀ (n : Nat) (i2 : Nat) (en1 : Nat → Nat), (80 < i2 + n) → (i2 ≤ 80) → (∀ j, j < i2 → en1 j = 99) → V k l D (tys3 cI cJ cZ) ({ frames := 6, cells := 20, slots := 14580, locals := 137 } : Room) cX3_init 6 RX3 (wK cI cJ cZ q R C 0 z0 z0 z0 z0 en1 z0 z0 cf1 z0 (fun _ => 99)) (20) (14580) 256 [(0, .ref (q 0)), (3, .int (nI (i2)))] [] := by
                  intro n
                  induction n with
                  | zero => intro i2 en1 hm2 hi2 hz2; exfalso; omega
                  | succ n ih256 =>
                    intro i2 en1 hm2 hi2 hz2
                    refine j_iload_n dX3_init_256 rfl 1 rfl ?_
                    refine j_bipush (v := nI (80)) dX3_init_257 (by decide) ?_
                    refine jn_icmp_ge (tgt := 275) (a := i2) (b := 80) (by omega) (by omega) dX3_init_259 (by decide) (fun c259 => ?_) (fun c259 => ?_)
                    · refine j_iconst (v := nI (0)) dX3_init_275 (by decide) ?_
                      refine j_istore_n [(3, .int (nI (0))), (0, .ref (q 0))] dX3_init_276 rfl (by decide) rfl ?_
                      refine j_sub [1, 0] [(0, .ref (q 0)), (3, .int (nI (0)))] rfl ?_
                      have loop277 : ∀ (n : Nat) (i3 : Nat) (fp1 : Nat → Nat), (nP R C < i3 + n) → (i3 ≤ nP R C) → (∀ j, j < i3 → fp1 j = 99) → (∀ j, i3 ≤ j → fp1 j = 0) → V k l D (tys3 cI cJ cZ) ({ frames := 6, cells := 20, slots := 14580, locals := 137 } : Room) cX3_init 6 RX3 (wK cI cJ cZ q R C 0 z0 z0 z0 z0 en1 fp1 z0 cf1 z0 (fun _ => 99)) (20) (14580) 277 [(0, .ref (q 0)), (3, .int (nI (i3)))] [] := by
                        intro n
                        induction n with
                        | zero => intro i3 fp1 hm3 hi3 hz3 hy3; exfalso; omega
                        | succ n ih277 =>
                          intro i3 fp1 hm3 hi3 hz3 hy3
                          refine j_iload_n dX3_init_277 rfl 1 rfl ?_
                          refine j_aload_n dX3_init_278 rfl 0 rfl ?_
                          refine gf_X3_79 0 rfl (rfl) dX3_init_279 ?_
                          refine jn_icmp_ge (tgt := 299) (a := i3) (b := nP R C) (by omega) (by omega) dX3_init_282 (by decide) (fun c282 => ?_) (fun c282 => ?_)
                          · refine j_iconst (v := nI (0)) dX3_init_299 (by decide) ?_
                            refine j_istore_n [(3, .int (nI (0))), (0, .ref (q 0))] dX3_init_300 rfl (by decide) rfl ?_
                            have hT0 : TC R C (eN R C 0 0) z0 z0 z0 z0 en1 fp1 z0 cf1 z0 := by rw [eN_0 hG]; exact TC_0 (fun j hj => hz2 j (by omega)) (fun j hj => hz3 j (by omega)) (fun j hj => hy3 j (by omega)) (fun j hj => (hz1 j (by omega)).1)
                            refine j_world (w' := wK cI cJ cZ q R C (eN R C 0 0) z0 z0 z0 z0 en1 fp1 z0 cf1 z0 (fun _ => 99)) (by rw [eN_0 hG]) ?_
                            refine j_lv (lv' := [(3, .int (nI (0 * (C + 1) + 0))), (0, .ref (q 0))]) (by rw [Nat.zero_mul]) ?_
                            refine j_sub [1, 0] [(0, .ref (q 0)), (3, .int (nI (0 * (C + 1) + 0)))] rfl ?_
                            have loop301 : ∀ (n : Nat) (yy xx : Nat) (lw8 hg8 n18 n28 en8 fp8 la8 cf8 cl8 : Nat → Nat), (nP R C < yy * (C + 1) + xx + n) → (xx ≤ C) → (yy ≤ R ∨ (yy = R + 1 ∧ xx = 0)) → (TC R C (eN R C yy xx) lw8 hg8 n18 n28 en8 fp8 la8 cf8 cl8) → V k l D (tys3 cI cJ cZ) ({ frames := 6, cells := 20, slots := 14580, locals := 137 } : Room) cX3_init 6 RX3 (wK cI cJ cZ q R C (eN R C yy xx) lw8 hg8 n18 n28 en8 fp8 la8 cf8 cl8 (fun _ => 99)) (20) (14580) 301 [(0, .ref (q 0)), (3, .int (nI (yy * (C + 1) + xx)))] [] := by
                              intro n
                              induction n with
                              | zero => intro yy xx lw8 hg8 n18 n28 en8 fp8 la8 cf8 cl8 hm4 hxC hyx hT8; exfalso; have := pq_le hxC hyx; omega
                              | succ n ih301 =>
                                intro yy xx lw8 hg8 n18 n28 en8 fp8 la8 cf8 cl8 hm4 hxC hyx hT8
                                have hple := pq_le hxC hyx
                                refine j_iload_n dX3_init_301 rfl 1 rfl ?_
                                refine j_aload_n dX3_init_302 rfl 0 rfl ?_
                                refine gf_X3_79 0 rfl (rfl) dX3_init_303 ?_
                                refine jn_icmp_ge (tgt := 410) (a := yy * (C + 1) + xx) (b := nP R C) (by omega) (by omega) dX3_init_306 (by decide) (fun c306 => ?_) (fun c306 => ?_)
                                · have hxy : yy = R + 1 ∧ xx = 0 := by
                                    rcases hyx with h9 | h9
                                    · exact absurd (pq_lt h9 hxC) (by omega)
                                    · exact h9
                                  obtain ⟨h9, h8⟩ := hxy
                                  subst h9 h8
                                  rw [eN_R] at hT8
                                  obtain ⟨f1, f2, f3, f4, f5, f6, f7, f8, f9⟩ := TC_f hG hT8
                                  refine j_world (w' := wK cI cJ cZ q R C (nE R C) lw8 hg8 n18 n28 en8 fp8 la8 cf8 cl8 (fun _ => 99)) (by rw [eN_R]) ?_
                                  refine j_wext (w2 := wM cI cJ cZ q R C 0 false false 0 0 0 0 0 z0 (fun _ => 99) z0 z0 z0 z0 z0 zL z0 z0 no0) (wE_c rfl cE_rfl (wE_c rfl (cE_arr (fun j hj => by rw [f1])) (wE_c rfl (cE_arr (fun j hj => by rw [f2])) (wE_c rfl (cE_arr (fun j hj => by rw [f3])) (wE_c rfl (cE_arr (fun j hj => by rw [f4])) (wE_c rfl (cE_arr (fun j hj => by rw [f5 j hj])) (wE_c rfl (cE_arr (fun j hj => by rw [f6 j hj])) (wE_c rfl (cE_arr (fun j hj => by rw [f7 j hj])) (wE_c rfl (cE_arr (fun j hj => by rw [f8 j hj])) (wE_c rfl (cE_arr (fun j hj => by rw [f9 j hj])) (wE_c rfl cE_rfl (wE_c rfl cE_rfl (wE_c rfl cE_rfl (wE_c rfl cE_rfl (wE_c rfl cE_rfl (wE_c rfl cE_rfl (wE_c rfl cE_rfl (wE_c rfl cE_rfl (wE_c rfl cE_rfl (wE_c rfl cE_rfl (wE_c rfl cE_rfl (wE_n)))))))))))))))))))))) ?_
                                  refine j_aload_n dX3_init_410 rfl 0 rfl ?_
                                  refine j_vW (av := []) (c_findLoops l hfl D cI cJ cZ q R C hG 0 false false 0 0 0 0 0 z0 (fun _ => 99) z0 z0 z0 z0 z0 zL z0 z0 no0 (fun p _ => ⟨rfl, rfl⟩) hcap rfl) 0 rfl rfl mw2_201 mw2_203 msel12 mw1_4 mw2_204 rfl hd_X3_findLoops rfl ⟨rfl, rfl⟩ ⟨Nat.le_of_ble_eq_true rfl, Nat.le_of_ble_eq_true rfl⟩ ⟨Nat.le_of_ble_eq_true rfl, Nat.le_of_ble_eq_true rfl⟩ (Nat.le_of_ble_eq_true rfl) rfl dX3_init_411 ?_
                                  rintro _ _ ⟨rfl, nl2, lp2, de2, se2, hL2, hJ2, rfl⟩
                                  refine j_st (st' := []) rfl ?_
                                  exact j_vret (tys' := []) rfl hR dX3_init_414 (⟨rfl, q, by rw [hq]; rfl, MW_of ⟨hL2, (fun h => nomatch h), (fun h => nomatch h), hJ2, by decide⟩⟩)
                                · have hyR : yy ≤ R := by
                                    rcases hyx with h9 | ⟨h9, h8⟩
                                    · exact h9
                                    · exfalso; subst h9 h8; unfold nP at c306; omega
                                  refine j_iload_n dX3_init_309 rfl 1 rfl ?_
                                  refine j_aload_n dX3_init_310 rfl 0 rfl ?_
                                  refine gf_X3_76 0 rfl (rfl) dX3_init_311 ?_
                                  refine j_iconst (v := nI (1)) dX3_init_314 (by decide) ?_
                                  refine jn_iadd (v := C + 1) dX3_init_315 rfl ?_
                                  refine j_idiv dX3_init_316 (fun h => absurd (nI_eq0 (by omega) h) (by omega)) rfl ?_
                                  refine j_topi (y := nI (yy)) (by rw [pk_div (by have := pq_lt hyR hxC; omega) (by omega) (by omega), pt_div hxC]) ?_
                                  refine j_istore [(4, .int (nI (yy))), (0, .ref (q 0)), (3, .int (nI (yy * (C + 1) + xx)))] dX3_init_317 (by decide) rfl ?_
                                  refine j_iload_n dX3_init_319 rfl 2 rfl ?_
                                  refine j_aload_n dX3_init_320 rfl 1 rfl ?_
                                  refine gf_X3_76 0 rfl (rfl) dX3_init_321 ?_
                                  refine j_iconst (v := nI (1)) dX3_init_324 (by decide) ?_
                                  refine jn_iadd (v := C + 1) dX3_init_325 rfl ?_
                                  refine j_irem dX3_init_326 (fun h => absurd (nI_eq0 (by omega) h) (by omega)) rfl ?_
                                  refine j_topi (y := nI (xx)) (by rw [pk_rem (by have := pq_lt hyR hxC; omega) (by omega) (by omega), pt_mod hxC]) ?_
                                  refine j_istore [(5, .int (nI (xx))), (4, .int (nI (yy))), (0, .ref (q 0)), (3, .int (nI (yy * (C + 1) + xx)))] dX3_init_327 (by decide) rfl ?_
                                  refine j_iload dX3_init_329 0 rfl ?_
                                  refine j_aload_n dX3_init_331 rfl 2 rfl ?_
                                  refine gf_X3_76 0 rfl (rfl) dX3_init_332 ?_
                                  refine jn_icmp_ge (tgt := 364) (a := xx) (b := C) (by omega) (by omega) dX3_init_335 (by decide) (fun c335 => ?_) (fun c335 => ?_)
                                  · refine j_iload dX3_init_364 1 rfl ?_
                                    refine j_aload_n dX3_init_366 rfl 2 rfl ?_
                                    refine gf_X3_72 0 rfl (rfl) dX3_init_367 ?_
                                    refine jn_icmp_ge (tgt := 404) (a := yy) (b := R) (by omega) (by omega) dX3_init_370 (by decide) (fun c370 => ?_) (fun c370 => ?_)
                                    · refine j_iinc (n0 := 3) (v := nI (yy * (C + 1) + xx + 1)) [(3, .int (nI (yy * (C + 1) + xx + 1))), (5, .int (nI (xx))), (4, .int (nI (yy))), (0, .ref (q 0))] dX3_init_404 rfl (by exact nI_add (yy * (C + 1) + xx) 1) (by decide) rfl ?_
                                      refine j_goto (tgt := 301) dX3_init_407 (by decide) ?_
                                      refine j_sub [3, 0] [(0, .ref (q 0)), (3, .int (nI (yy * (C + 1) + xx + 1)))] rfl ?_
                                      have hen := (eN_t hG hyR hxC).2.2.2
                                      have hen1 := hen.1
                                      rw [if_neg (show ¬ xx < C by omega), if_neg (show ¬ yy < R by omega)] at hen1
                                      simp only [Nat.add_zero] at hen1
                                      have hxe : xx = C := by omega
                                      subst hxe
                                      rw [hen.2] at hen1
                                      rw [← hen1] at hT8 ⊢
                                      have hmul : (yy + 1) * (xx + 1) = yy * (xx + 1) + (xx + 1) := by rw [Nat.add_mul, Nat.one_mul]
                                      refine j_lv (lv' := [(0, .ref (q 0)), (3, .int (nI ((yy + 1) * (xx + 1) + 0)))]) (by rw [hmul]; rfl) ?_
                                      exact ih301 (yy + 1) 0 lw8 hg8 n18 n28 en8 fp8 la8 cf8 cl8 (by omega) (by omega) (by omega) hT8
                                    · refine j_aload_n dX3_init_373 rfl 2 rfl ?_
                                      refine j_iload_n dX3_init_374 rfl 3 rfl ?_
                                      refine j_iload_n dX3_init_375 rfl 3 rfl ?_
                                      refine j_aload_n dX3_init_376 rfl 2 rfl ?_
                                      refine gf_X3_76 0 rfl (rfl) dX3_init_377 ?_
                                      refine jn_iadd (v := (yy * (C + 1) + xx) + C) dX3_init_380 rfl ?_
                                      refine j_iconst (v := nI (1)) dX3_init_381 (by decide) ?_
                                      refine jn_iadd (v := ((yy * (C + 1) + xx) + C) + 1) dX3_init_382 rfl ?_
                                      refine j_aload_n dX3_init_383 rfl 2 rfl ?_
                                      refine j_iload dX3_init_384 1 rfl ?_
                                      refine j_iload dX3_init_386 0 rfl ?_
                                      refine j_iconst (v := nI (1)) dX3_init_388 (by decide) ?_
                                      refine j_isub dX3_init_389 rfl ?_
                                      refine j_topi (y := eI (pd xx)) (eI_pd (by omega)) ?_
                                      refine j_st (st' := [.int (eI (pd xx)), .int (eI (yy)), .ref (q 0), .int (nI (((yy * (C + 1) + xx) + C) + 1)), .int (nI (yy * (C + 1) + xx)), .ref (q 0)]) (by rw [eI_ne (show ¬ yy = 99 by omega)]) ?_
                                      refine j_vW (av := [.int (eI (yy)), .int (eI (pd xx))]) (k_cell l hfl D cI cJ cZ q R C hG (eN R C yy xx) lw8 hg8 n18 n28 en8 fp8 la8 cf8 cl8 (fun _ => 99) (yy) (pd xx) (by first | omega | exact pd_lt (by omega)) (by first | omega | exact pd_lt (by omega))) 0 rfl rfl mw2_185 mw2_187 msel8 mw1_4 mw2_188 rfl hd_X3_cell rfl ⟨rfl, rfl⟩ ⟨Nat.le_of_ble_eq_true rfl, Nat.le_of_ble_eq_true rfl⟩ ⟨Nat.le_of_ble_eq_true rfl, Nat.le_of_ble_eq_true rfl⟩ (Nat.le_of_ble_eq_true rfl) rfl dX3_init_390 ?_
                                      rintro _ _ ⟨rfl, rfl⟩
                                      refine j_st (st' := [.int (eI (ccell R C yy (pd xx))), .int (nI (((yy * (C + 1) + xx) + C) + 1)), .int (nI (yy * (C + 1) + xx)), .ref (q 0)]) rfl ?_
                                      refine j_aload_n dX3_init_393 rfl 2 rfl ?_
                                      refine j_iload dX3_init_394 1 rfl ?_
                                      refine j_iload dX3_init_396 0 rfl ?_
                                      refine j_st (st' := [.int (eI (xx)), .int (eI (yy)), .ref (q 0), .int (eI (ccell R C yy (pd xx))), .int (nI (((yy * (C + 1) + xx) + C) + 1)), .int (nI (yy * (C + 1) + xx)), .ref (q 0)]) (by rw [eI_ne (show ¬ xx = 99 by omega), eI_ne (show ¬ yy = 99 by omega)]) ?_
                                      refine j_vW (av := [.int (eI (yy)), .int (eI (xx))]) (k_cell l hfl D cI cJ cZ q R C hG (eN R C yy xx) lw8 hg8 n18 n28 en8 fp8 la8 cf8 cl8 (fun _ => 99) (yy) (xx) (by first | omega | exact pd_lt (by omega)) (by first | omega | exact pd_lt (by omega))) 0 rfl rfl mw2_185 mw2_187 msel8 mw1_4 mw2_188 rfl hd_X3_cell rfl ⟨rfl, rfl⟩ ⟨Nat.le_of_ble_eq_true rfl, Nat.le_of_ble_eq_true rfl⟩ ⟨Nat.le_of_ble_eq_true rfl, Nat.le_of_ble_eq_true rfl⟩ (Nat.le_of_ble_eq_true rfl) rfl dX3_init_398 ?_
                                      rintro _ _ ⟨rfl, rfl⟩
                                      refine j_st (st' := [.int (eI (ccell R C yy xx)), .int (eI (ccell R C yy (pd xx))), .int (nI (((yy * (C + 1) + xx) + C) + 1)), .int (nI (yy * (C + 1) + xx)), .ref (q 0)]) rfl ?_
                                      obtain ⟨d1, d2, d3, d4⟩ := (eN_t hG hyR hxC).2.2.1 c370 c335
                                      obtain ⟨m1, m2, m3, m4⟩ := jn_d d1 d2 d3 d4
                                      refine j_st (st' := [.int (eI (mOther R C (eN R C yy xx))), .int (eI (mOne R C (eN R C yy xx))), .int (nI (mHigh R C (eN R C yy xx))), .int (nI (mLow R C (eN R C yy xx))), .ref (q 0)]) (by rw [m1, m2, m3, m4]) ?_
                                      refine j_vW (av := [.int (nI (mLow R C (eN R C yy xx))), .int (nI (mHigh R C (eN R C yy xx))), .int (eI (mOne R C (eN R C yy xx))), .int (eI (mOther R C (eN R C yy xx)))]) (k_join l hfl D cI cJ cZ q R C hG (eN R C yy xx) lw8 hg8 n18 n28 en8 fp8 la8 cf8 cl8 (fun _ => 99) d1 hT8) 0 rfl rfl mw2_189 mw2_191 msel9 mw1_4 mw2_192 rfl hd_X3_join rfl ⟨rfl, rfl⟩ ⟨Nat.le_of_ble_eq_true rfl, Nat.le_of_ble_eq_true rfl⟩ ⟨Nat.le_of_ble_eq_true rfl, Nat.le_of_ble_eq_true rfl⟩ (Nat.le_of_ble_eq_true rfl) rfl dX3_init_401 ?_
                                      rintro _ _ ⟨rfl, lwb, hgb, nab, nbb, enb, fpb, lab, cfb, clb, hTb, rfl⟩
                                      refine j_st (st' := []) rfl ?_
                                      refine j_iinc (n0 := 3) (v := nI (yy * (C + 1) + xx + 1)) [(3, .int (nI (yy * (C + 1) + xx + 1))), (5, .int (nI (xx))), (4, .int (nI (yy))), (0, .ref (q 0))] dX3_init_404 rfl (by exact nI_add (yy * (C + 1) + xx) 1) (by decide) rfl ?_
                                      refine j_goto (tgt := 301) dX3_init_407 (by decide) ?_
                                      refine j_sub [3, 0] [(0, .ref (q 0)), (3, .int (nI (yy * (C + 1) + xx + 1)))] rfl ?_
                                      have hen := (eN_t hG hyR hxC).2.2.2
                                      have hen1 := hen.1
                                      rw [if_neg (show ¬ xx < C by omega), if_pos c370] at hen1
                                      simp only [Nat.add_zero] at hen1
                                      have hxe : xx = C := by omega
                                      subst hxe
                                      rw [hen.2] at hen1
                                      rw [← hen1] at hTb ⊢
                                      have hmul : (yy + 1) * (xx + 1) = yy * (xx + 1) + (xx + 1) := by rw [Nat.add_mul, Nat.one_mul]
                                      refine j_lv (lv' := [(0, .ref (q 0)), (3, .int (nI ((yy + 1) * (xx + 1) + 0)))]) (by rw [hmul]; rfl) ?_
                                      exact ih301 (yy + 1) 0 lwb hgb nab nbb enb fpb lab cfb clb (by omega) (by omega) (by omega) hTb
                                  · refine j_aload_n dX3_init_338 rfl 2 rfl ?_
                                    refine j_iload_n dX3_init_339 rfl 3 rfl ?_
                                    refine j_iload_n dX3_init_340 rfl 3 rfl ?_
                                    refine j_iconst (v := nI (1)) dX3_init_341 (by decide) ?_
                                    refine jn_iadd (v := (yy * (C + 1) + xx) + 1) dX3_init_342 rfl ?_
                                    refine j_aload_n dX3_init_343 rfl 2 rfl ?_
                                    refine j_iload dX3_init_344 1 rfl ?_
                                    refine j_iconst (v := nI (1)) dX3_init_346 (by decide) ?_
                                    refine j_isub dX3_init_347 rfl ?_
                                    refine j_topi (y := eI (pd yy)) (eI_pd (by omega)) ?_
                                    refine j_iload dX3_init_348 0 rfl ?_
                                    refine j_st (st' := [.int (eI (xx)), .int (eI (pd yy)), .ref (q 0), .int (nI ((yy * (C + 1) + xx) + 1)), .int (nI (yy * (C + 1) + xx)), .ref (q 0)]) (by rw [eI_ne (show ¬ xx = 99 by omega)]) ?_
                                    refine j_vW (av := [.int (eI (pd yy)), .int (eI (xx))]) (k_cell l hfl D cI cJ cZ q R C hG (eN R C yy xx) lw8 hg8 n18 n28 en8 fp8 la8 cf8 cl8 (fun _ => 99) (pd yy) (xx) (by first | omega | exact pd_lt (by omega)) (by first | omega | exact pd_lt (by omega))) 0 rfl rfl mw2_185 mw2_187 msel8 mw1_4 mw2_188 rfl hd_X3_cell rfl ⟨rfl, rfl⟩ ⟨Nat.le_of_ble_eq_true rfl, Nat.le_of_ble_eq_true rfl⟩ ⟨Nat.le_of_ble_eq_true rfl, Nat.le_of_ble_eq_true rfl⟩ (Nat.le_of_ble_eq_true rfl) rfl dX3_init_350 ?_
                                    rintro _ _ ⟨rfl, rfl⟩
                                    refine j_st (st' := [.int (eI (ccell R C (pd yy) xx)), .int (nI ((yy * (C + 1) + xx) + 1)), .int (nI (yy * (C + 1) + xx)), .ref (q 0)]) rfl ?_
                                    refine j_aload_n dX3_init_353 rfl 2 rfl ?_
                                    refine j_iload dX3_init_354 1 rfl ?_
                                    refine j_iload dX3_init_356 0 rfl ?_
                                    refine j_st (st' := [.int (eI (xx)), .int (eI (yy)), .ref (q 0), .int (eI (ccell R C (pd yy) xx)), .int (nI ((yy * (C + 1) + xx) + 1)), .int (nI (yy * (C + 1) + xx)), .ref (q 0)]) (by rw [eI_ne (show ¬ xx = 99 by omega), eI_ne (show ¬ yy = 99 by omega)]) ?_
                                    refine j_vW (av := [.int (eI (yy)), .int (eI (xx))]) (k_cell l hfl D cI cJ cZ q R C hG (eN R C yy xx) lw8 hg8 n18 n28 en8 fp8 la8 cf8 cl8 (fun _ => 99) (yy) (xx) (by first | omega | exact pd_lt (by omega)) (by first | omega | exact pd_lt (by omega))) 0 rfl rfl mw2_185 mw2_187 msel8 mw1_4 mw2_188 rfl hd_X3_cell rfl ⟨rfl, rfl⟩ ⟨Nat.le_of_ble_eq_true rfl, Nat.le_of_ble_eq_true rfl⟩ ⟨Nat.le_of_ble_eq_true rfl, Nat.le_of_ble_eq_true rfl⟩ (Nat.le_of_ble_eq_true rfl) rfl dX3_init_358 ?_
                                    rintro _ _ ⟨rfl, rfl⟩
                                    refine j_st (st' := [.int (eI (ccell R C yy xx)), .int (eI (ccell R C (pd yy) xx)), .int (nI ((yy * (C + 1) + xx) + 1)), .int (nI (yy * (C + 1) + xx)), .ref (q 0)]) rfl ?_
                                    obtain ⟨b1, b2, b3, b4⟩ := (eN_t hG hyR hxC).1 c335
                                    obtain ⟨k1, k2, k3, k4⟩ := jn_r b1 b2 b3 b4
                                    refine j_st (st' := [.int (eI (mOther R C (eN R C yy xx))), .int (eI (mOne R C (eN R C yy xx))), .int (nI (mHigh R C (eN R C yy xx))), .int (nI (mLow R C (eN R C yy xx))), .ref (q 0)]) (by rw [k1, k2, k3, k4]) ?_
                                    refine j_vW (av := [.int (nI (mLow R C (eN R C yy xx))), .int (nI (mHigh R C (eN R C yy xx))), .int (eI (mOne R C (eN R C yy xx))), .int (eI (mOther R C (eN R C yy xx)))]) (k_join l hfl D cI cJ cZ q R C hG (eN R C yy xx) lw8 hg8 n18 n28 en8 fp8 la8 cf8 cl8 (fun _ => 99) b1 hT8) 0 rfl rfl mw2_189 mw2_191 msel9 mw1_4 mw2_192 rfl hd_X3_join rfl ⟨rfl, rfl⟩ ⟨Nat.le_of_ble_eq_true rfl, Nat.le_of_ble_eq_true rfl⟩ ⟨Nat.le_of_ble_eq_true rfl, Nat.le_of_ble_eq_true rfl⟩ (Nat.le_of_ble_eq_true rfl) rfl dX3_init_361 ?_
                                    rintro _ _ ⟨rfl, lwa, hga, naa, nba, ena, fpa, laa, cfa, cla, hTa, rfl⟩
                                    refine j_st (st' := []) rfl ?_
                                    refine j_iload dX3_init_364 1 rfl ?_
                                    refine j_aload_n dX3_init_366 rfl 2 rfl ?_
                                    refine gf_X3_72 0 rfl (rfl) dX3_init_367 ?_
                                    refine jn_icmp_ge (tgt := 404) (a := yy) (b := R) (by omega) (by omega) dX3_init_370 (by decide) (fun c370 => ?_) (fun c370 => ?_)
                                    · refine j_iinc (n0 := 3) (v := nI (yy * (C + 1) + xx + 1)) [(3, .int (nI (yy * (C + 1) + xx + 1))), (5, .int (nI (xx))), (4, .int (nI (yy))), (0, .ref (q 0))] dX3_init_404 rfl (by exact nI_add (yy * (C + 1) + xx) 1) (by decide) rfl ?_
                                      refine j_goto (tgt := 301) dX3_init_407 (by decide) ?_
                                      refine j_sub [3, 0] [(0, .ref (q 0)), (3, .int (nI (yy * (C + 1) + xx + 1)))] rfl ?_
                                      have hen := (eN_t hG hyR hxC).2.2.2
                                      have hen1 := hen.1
                                      rw [if_pos c335, if_neg (show ¬ yy < R by omega)] at hen1
                                      simp only [Nat.add_zero] at hen1
                                      rw [← hen1] at hTa ⊢
                                      exact ih301 yy (xx + 1) lwa hga naa nba ena fpa laa cfa cla (by omega) (by omega) (Or.inl hyR) hTa
                                    · refine j_aload_n dX3_init_373 rfl 2 rfl ?_
                                      refine j_iload_n dX3_init_374 rfl 3 rfl ?_
                                      refine j_iload_n dX3_init_375 rfl 3 rfl ?_
                                      refine j_aload_n dX3_init_376 rfl 2 rfl ?_
                                      refine gf_X3_76 0 rfl (rfl) dX3_init_377 ?_
                                      refine jn_iadd (v := (yy * (C + 1) + xx) + C) dX3_init_380 rfl ?_
                                      refine j_iconst (v := nI (1)) dX3_init_381 (by decide) ?_
                                      refine jn_iadd (v := ((yy * (C + 1) + xx) + C) + 1) dX3_init_382 rfl ?_
                                      refine j_aload_n dX3_init_383 rfl 2 rfl ?_
                                      refine j_iload dX3_init_384 1 rfl ?_
                                      refine j_iload dX3_init_386 0 rfl ?_
                                      refine j_iconst (v := nI (1)) dX3_init_388 (by decide) ?_
                                      refine j_isub dX3_init_389 rfl ?_
                                      refine j_topi (y := eI (pd xx)) (eI_pd (by omega)) ?_
                                      refine j_st (st' := [.int (eI (pd xx)), .int (eI (yy)), .ref (q 0), .int (nI (((yy * (C + 1) + xx) + C) + 1)), .int (nI (yy * (C + 1) + xx)), .ref (q 0)]) (by rw [eI_ne (show ¬ yy = 99 by omega)]) ?_
                                      refine j_vW (av := [.int (eI (yy)), .int (eI (pd xx))]) (k_cell l hfl D cI cJ cZ q R C hG (eN R C yy xx + 1) lwa hga naa nba ena fpa laa cfa cla (fun _ => 99) (yy) (pd xx) (by first | omega | exact pd_lt (by omega)) (by first | omega | exact pd_lt (by omega))) 0 rfl rfl mw2_185 mw2_187 msel8 mw1_4 mw2_188 rfl hd_X3_cell rfl ⟨rfl, rfl⟩ ⟨Nat.le_of_ble_eq_true rfl, Nat.le_of_ble_eq_true rfl⟩ ⟨Nat.le_of_ble_eq_true rfl, Nat.le_of_ble_eq_true rfl⟩ (Nat.le_of_ble_eq_true rfl) rfl dX3_init_390 ?_
                                      rintro _ _ ⟨rfl, rfl⟩
                                      refine j_st (st' := [.int (eI (ccell R C yy (pd xx))), .int (nI (((yy * (C + 1) + xx) + C) + 1)), .int (nI (yy * (C + 1) + xx)), .ref (q 0)]) rfl ?_
                                      refine j_aload_n dX3_init_393 rfl 2 rfl ?_
                                      refine j_iload dX3_init_394 1 rfl ?_
                                      refine j_iload dX3_init_396 0 rfl ?_
                                      refine j_st (st' := [.int (eI (xx)), .int (eI (yy)), .ref (q 0), .int (eI (ccell R C yy (pd xx))), .int (nI (((yy * (C + 1) + xx) + C) + 1)), .int (nI (yy * (C + 1) + xx)), .ref (q 0)]) (by rw [eI_ne (show ¬ xx = 99 by omega), eI_ne (show ¬ yy = 99 by omega)]) ?_
                                      refine j_vW (av := [.int (eI (yy)), .int (eI (xx))]) (k_cell l hfl D cI cJ cZ q R C hG (eN R C yy xx + 1) lwa hga naa nba ena fpa laa cfa cla (fun _ => 99) (yy) (xx) (by first | omega | exact pd_lt (by omega)) (by first | omega | exact pd_lt (by omega))) 0 rfl rfl mw2_185 mw2_187 msel8 mw1_4 mw2_188 rfl hd_X3_cell rfl ⟨rfl, rfl⟩ ⟨Nat.le_of_ble_eq_true rfl, Nat.le_of_ble_eq_true rfl⟩ ⟨Nat.le_of_ble_eq_true rfl, Nat.le_of_ble_eq_true rfl⟩ (Nat.le_of_ble_eq_true rfl) rfl dX3_init_398 ?_
                                      rintro _ _ ⟨rfl, rfl⟩
                                      refine j_st (st' := [.int (eI (ccell R C yy xx)), .int (eI (ccell R C yy (pd xx))), .int (nI (((yy * (C + 1) + xx) + C) + 1)), .int (nI (yy * (C + 1) + xx)), .ref (q 0)]) rfl ?_
                                      obtain ⟨d1, d2, d3, d4⟩ := (eN_t hG hyR hxC).2.1 c370 c335
                                      obtain ⟨m1, m2, m3, m4⟩ := jn_d d1 d2 d3 d4
                                      refine j_st (st' := [.int (eI (mOther R C (eN R C yy xx + 1))), .int (eI (mOne R C (eN R C yy xx + 1))), .int (nI (mHigh R C (eN R C yy xx + 1))), .int (nI (mLow R C (eN R C yy xx + 1))), .ref (q 0)]) (by rw [m1, m2, m3, m4]) ?_
                                      refine j_vW (av := [.int (nI (mLow R C (eN R C yy xx + 1))), .int (nI (mHigh R C (eN R C yy xx + 1))), .int (eI (mOne R C (eN R C yy xx + 1))), .int (eI (mOther R C (eN R C yy xx + 1)))]) (k_join l hfl D cI cJ cZ q R C hG (eN R C yy xx + 1) lwa hga naa nba ena fpa laa cfa cla (fun _ => 99) d1 hTa) 0 rfl rfl mw2_189 mw2_191 msel9 mw1_4 mw2_192 rfl hd_X3_join rfl ⟨rfl, rfl⟩ ⟨Nat.le_of_ble_eq_true rfl, Nat.le_of_ble_eq_true rfl⟩ ⟨Nat.le_of_ble_eq_true rfl, Nat.le_of_ble_eq_true rfl⟩ (Nat.le_of_ble_eq_true rfl) rfl dX3_init_401 ?_
                                      rintro _ _ ⟨rfl, lwb, hgb, nab, nbb, enb, fpb, lab, cfb, clb, hTb, rfl⟩
                                      refine j_st (st' := []) rfl ?_
                                      refine j_iinc (n0 := 3) (v := nI (yy * (C + 1) + xx + 1)) [(3, .int (nI (yy * (C + 1) + xx + 1))), (5, .int (nI (xx))), (4, .int (nI (yy))), (0, .ref (q 0))] dX3_init_404 rfl (by exact nI_add (yy * (C + 1) + xx) 1) (by decide) rfl ?_
                                      refine j_goto (tgt := 301) dX3_init_407 (by decide) ?_
                                      refine j_sub [3, 0] [(0, .ref (q 0)), (3, .int (nI (yy * (C + 1) + xx + 1)))] rfl ?_
                                      have hen := (eN_t hG hyR hxC).2.2.2
                                      have hen1 := hen.1
                                      rw [if_pos c335, if_pos c370] at hen1
                                      rw [← hen1] at hTb ⊢
                                      exact ih301 yy (xx + 1) lwb hgb nab nbb enb fpb lab cfb clb (by omega) (by omega) (Or.inl hyR) hTb
                            exact loop301 (nP R C + 2) 0 0 z0 z0 z0 z0 en1 fp1 z0 cf1 z0 (by omega) (by omega) (Or.inl (by omega)) hT0
                          · refine j_aload_n dX3_init_285 rfl 0 rfl ?_
                            refine gf_X3_25 0 rfl (rfl) dX3_init_286 ?_
                            refine j_iload_n dX3_init_289 rfl 1 rfl ?_
                            refine j_bipush (v := nI (99)) dX3_init_290 (by decide) ?_
                            refine jn_iastN (wK cI cJ cZ q R C 0 z0 z0 z0 z0 en1 (va_up fp1 i3 99) z0 cf1 z0 (fun _ => 99)) 6 0 rfl rfl (by omega) (by omega) rfl dX3_init_292 ?_
                            refine j_iinc (n0 := 1) (v := nI (i3 + 1)) [(3, .int (nI (i3 + 1))), (0, .ref (q 0))] dX3_init_293 rfl (by exact nI_add (i3) 1) (by decide) rfl ?_
                            refine j_goto (tgt := 277) dX3_init_296 (by decide) ?_
                            refine j_sub [1, 0] [(0, .ref (q 0)), (3, .int (nI (i3 + 1)))] rfl ?_
                            exact ih277 (i3 + 1) (va_up fp1 i3 99) (by omega) (by omega) (fun j h => if h2 : j = i3 then by rw [h2, va_up_self] else by rw [va_up_ne _ _ h2]; exact hz3 j (by omega)) (fun j h => by rw [va_up_ne _ _ (by omega)]; exact hy3 j (by omega))
                      exact loop277 (nP R C + 2) 0 z0 (by omega) (by omega) (fun j h => absurd h (by omega)) (fun j _ => rfl)
                    · refine j_aload_n dX3_init_262 rfl 0 rfl ?_
                      refine gf_X3_22 0 rfl (rfl) dX3_init_263 ?_
                      refine j_iload_n dX3_init_266 rfl 1 rfl ?_
                      refine j_iconst (v := (-1)) dX3_init_267 (by decide) ?_
                      refine j_st (st' := [.int (eI (99)), .int (nI (i2)), .ref (q 9)]) (by rfl) ?_
                      refine jn_iastE (wK cI cJ cZ q R C 0 z0 z0 z0 z0 (va_up en1 i2 99) z0 z0 cf1 z0 (fun _ => 99)) 5 0 rfl rfl (by omega) (by omega) rfl dX3_init_268 ?_
                      refine j_iinc (n0 := 1) (v := nI (i2 + 1)) [(3, .int (nI (i2 + 1))), (0, .ref (q 0))] dX3_init_269 rfl (by exact nI_add (i2) 1) (by decide) rfl ?_
                      refine j_goto (tgt := 256) dX3_init_272 (by decide) ?_
                      refine j_sub [1, 0] [(0, .ref (q 0)), (3, .int (nI (i2 + 1)))] rfl ?_
                      exact ih256 (i2 + 1) (va_up en1 i2 99) (by omega) (by omega) (fun j h => if h2 : j = i2 then by rw [h2, va_up_self] else by rw [va_up_ne _ _ h2]; exact hz2 j (by omega))
                exact loop256 82 0 z0 (by omega) (by omega) (fun j h => absurd h (by omega))
              · refine j_aload_n dX3_init_233 rfl 0 rfl ?_
                refine gf_X3_40 0 rfl (rfl) dX3_init_234 ?_
                refine j_iload_n dX3_init_237 rfl 1 rfl ?_
                refine j_iconst (v := (-1)) dX3_init_238 (by decide) ?_
                refine j_st (st' := [.int (eI (99)), .int (nI (i)), .ref (q 16)]) (by rfl) ?_
                refine jn_iastE (wK cI cJ cZ q R C 0 z0 z0 z0 z0 z0 z0 z0 cf1 z0 (va_up cu1 i 99)) 11 0 rfl rfl (by omega) (by omega) rfl dX3_init_239 ?_
                refine j_aload_n dX3_init_240 rfl 0 rfl ?_
                refine gf_X3_31 0 rfl (rfl) dX3_init_241 ?_
                refine j_iload_n dX3_init_244 rfl 1 rfl ?_
                refine j_bipush (v := nI (99)) dX3_init_245 (by decide) ?_
                refine jn_iastN (wK cI cJ cZ q R C 0 z0 z0 z0 z0 z0 z0 z0 (va_up cf1 i 99) z0 (va_up cu1 i 99)) 8 0 rfl rfl (by omega) (by omega) rfl dX3_init_247 ?_
                refine j_iinc (n0 := 1) (v := nI (i + 1)) [(3, .int (nI (i + 1))), (0, .ref (q 0))] dX3_init_248 rfl (by exact nI_add (i) 1) (by decide) rfl ?_
                refine j_goto (tgt := 227) dX3_init_251 (by decide) ?_
                refine j_sub [1, 0] [(0, .ref (q 0)), (3, .int (nI (i + 1)))] rfl ?_
                exact ih227 (i + 1) (va_up cf1 i 99) (va_up cu1 i 99) (by omega) (by omega) (fun j h => if h2 : j = i then by rw [h2, va_up_self, va_up_self]; exact ⟨rfl, rfl⟩ else by rw [va_up_ne _ _ h2, va_up_ne _ _ h2]; exact hz1 j (by omega))
          exact loop227 14 0 z0 z0 (by omega) (by omega) (fun j h => absurd h (by omega))
    · refine j_iconst (v := nI (2)) dX3_init_181 (by decide) ?_
      refine j_goto (tgt := 186) dX3_init_182 (by decide) ?_
      have eR : R = 2 := szI_f (by decide) hxR (by first | exact Or.inl c173 | exact Or.inr (by rw [Int32.lt_iff_toInt_lt]; rw [Int32.le_iff_toInt_le] at c178; omega))
      refine j_st (st' := [.int (nI (R)), .ref (mq)]) (by rw [eR]) ?_
      refine pf_X3_72 ([(mq, .inr (3, [.int (nI (0)), .int (nI (R)), .int (nI (0)), .int (nI (0)), .int (nI (0)), .ref (r5), .ref (r6), .ref (r7), .ref (r8), .ref (r9), .ref (r10), .ref (r11), .ref (r12), .ref (r13), .int (nI (0)), .ref (r15), .ref (r16), .int (nI (0)), .int (nI (0)), .ref (r19), .int (nI (0)), .ref (r21), .ref (r22), .int (nI (0)), .ref (r24), .int (nI (0)), .ref (r26), .ref (r27), .ref (r28), .int (nI (0)), .ref (r30), .ref (r31)])), (r5, .inl (cI, 31, .inl (fun jz => nI (z0 jz)))), (r6, .inl (cI, 31, .inl (fun jz => nI (z0 jz)))), (r7, .inl (cI, 31, .inl (fun jz => nI (z0 jz)))), (r8, .inl (cI, 31, .inl (fun jz => nI (z0 jz)))), (r9, .inl (cI, 80, .inl (fun jz => nI (z0 jz)))), (r10, .inl (cI, 20, .inl (fun jz => nI (z0 jz)))), (r11, .inl (cI, 20, .inl (fun jz => nI (z0 jz)))), (r12, .inl (cI, 12, .inl (fun jz => nI (z0 jz)))), (r13, .inl (cI, 12, .inl (fun jz => nI (z0 jz)))), (r15, .inl (cI, 1300, .inl (fun jz => nI (z0 jz)))), (r16, .inl (cI, 12, .inl (fun jz => nI (z0 jz)))), (r19, .inl (cI, 1300, .inl (fun jz => nI (z0 jz)))), (r21, .inl (cI, 32, .inl (fun jz => nI (z0 jz)))), (r22, .inl (cI, 32, .inl (fun jz => nI (z0 jz)))), (r24, .inl (cI, 2500, .inl (fun jz => nI (z0 jz)))), (r26, .inl (cI, 2500, .inl (fun jz => nI (z0 jz)))), (r27, .inl (cJ, 2500, .inr (.inl (zL)))), (r28, .inl (cI, 4096, .inl (fun jz => nI (z0 jz)))), (r30, .inl (cI, 20, .inl (fun jz => nI (z0 jz)))), (r31, .inl (cZ, 20, .inl (fun jz => bI (no0 jz))))]) 0 rfl (Nat.le_of_ble_eq_true rfl) rfl dX3_init_186 ?_
      refine j_aload_n dX3_init_189 rfl 0 rfl ?_
      refine j_iload_n dX3_init_190 rfl 2 rfl ?_
      refine j_iconst (v := nI (1)) dX3_init_191 (by decide) ?_
      refine j_icmp_lt (tgt := 200) dX3_init_192 (by decide) (fun c192 => ?_) (fun c192 => ?_)
      · refine j_iconst (v := nI (2)) dX3_init_200 (by decide) ?_
        refine j_goto (tgt := 205) dX3_init_201 (by decide) ?_
        have eC : C = 2 := szI_f (by decide) hyC (by first | exact Or.inl c192 | exact Or.inr (by rw [Int32.lt_iff_toInt_lt]; rw [Int32.le_iff_toInt_le] at c197; omega))
        refine j_st (st' := [.int (nI (C)), .ref (mq)]) (by rw [eC]) ?_
        refine pf_X3_76 ([(mq, .inr (3, [.int (nI (0)), .int (nI (R)), .int (nI (C)), .int (nI (0)), .int (nI (0)), .ref (r5), .ref (r6), .ref (r7), .ref (r8), .ref (r9), .ref (r10), .ref (r11), .ref (r12), .ref (r13), .int (nI (0)), .ref (r15), .ref (r16), .int (nI (0)), .int (nI (0)), .ref (r19), .int (nI (0)), .ref (r21), .ref (r22), .int (nI (0)), .ref (r24), .int (nI (0)), .ref (r26), .ref (r27), .ref (r28), .int (nI (0)), .ref (r30), .ref (r31)])), (r5, .inl (cI, 31, .inl (fun jz => nI (z0 jz)))), (r6, .inl (cI, 31, .inl (fun jz => nI (z0 jz)))), (r7, .inl (cI, 31, .inl (fun jz => nI (z0 jz)))), (r8, .inl (cI, 31, .inl (fun jz => nI (z0 jz)))), (r9, .inl (cI, 80, .inl (fun jz => nI (z0 jz)))), (r10, .inl (cI, 20, .inl (fun jz => nI (z0 jz)))), (r11, .inl (cI, 20, .inl (fun jz => nI (z0 jz)))), (r12, .inl (cI, 12, .inl (fun jz => nI (z0 jz)))), (r13, .inl (cI, 12, .inl (fun jz => nI (z0 jz)))), (r15, .inl (cI, 1300, .inl (fun jz => nI (z0 jz)))), (r16, .inl (cI, 12, .inl (fun jz => nI (z0 jz)))), (r19, .inl (cI, 1300, .inl (fun jz => nI (z0 jz)))), (r21, .inl (cI, 32, .inl (fun jz => nI (z0 jz)))), (r22, .inl (cI, 32, .inl (fun jz => nI (z0 jz)))), (r24, .inl (cI, 2500, .inl (fun jz => nI (z0 jz)))), (r26, .inl (cI, 2500, .inl (fun jz => nI (z0 jz)))), (r27, .inl (cJ, 2500, .inr (.inl (zL)))), (r28, .inl (cI, 4096, .inl (fun jz => nI (z0 jz)))), (r30, .inl (cI, 20, .inl (fun jz => nI (z0 jz)))), (r31, .inl (cZ, 20, .inl (fun jz => bI (no0 jz))))]) 0 rfl (Nat.le_of_ble_eq_true rfl) rfl dX3_init_205 ?_
        refine j_aload_n dX3_init_208 rfl 0 rfl ?_
        refine j_aload_n dX3_init_209 rfl 0 rfl ?_
        refine gf_X3_72 0 rfl (rfl) dX3_init_210 ?_
        refine j_iconst (v := nI (1)) dX3_init_213 (by decide) ?_
        refine jn_iadd (v := R + 1) dX3_init_214 rfl ?_
        refine j_aload_n dX3_init_215 rfl 0 rfl ?_
        refine gf_X3_76 0 rfl (rfl) dX3_init_216 ?_
        refine j_iconst (v := nI (1)) dX3_init_219 (by decide) ?_
        refine jn_iadd (v := C + 1) dX3_init_220 rfl ?_
        refine jn_imul (v := (R + 1) * (C + 1)) dX3_init_221 rfl ?_
        refine j_topi (y := nI (nP R C)) (by rfl) ?_
        refine pf_X3_79 ([(mq, .inr (3, [.int (nI (0)), .int (nI (R)), .int (nI (C)), .int (nI (nP R C)), .int (nI (0)), .ref (r5), .ref (r6), .ref (r7), .ref (r8), .ref (r9), .ref (r10), .ref (r11), .ref (r12), .ref (r13), .int (nI (0)), .ref (r15), .ref (r16), .int (nI (0)), .int (nI (0)), .ref (r19), .int (nI (0)), .ref (r21), .ref (r22), .int (nI (0)), .ref (r24), .int (nI (0)), .ref (r26), .ref (r27), .ref (r28), .int (nI (0)), .ref (r30), .ref (r31)])), (r5, .inl (cI, 31, .inl (fun jz => nI (z0 jz)))), (r6, .inl (cI, 31, .inl (fun jz => nI (z0 jz)))), (r7, .inl (cI, 31, .inl (fun jz => nI (z0 jz)))), (r8, .inl (cI, 31, .inl (fun jz => nI (z0 jz)))), (r9, .inl (cI, 80, .inl (fun jz => nI (z0 jz)))), (r10, .inl (cI, 20, .inl (fun jz => nI (z0 jz)))), (r11, .inl (cI, 20, .inl (fun jz => nI (z0 jz)))), (r12, .inl (cI, 12, .inl (fun jz => nI (z0 jz)))), (r13, .inl (cI, 12, .inl (fun jz => nI (z0 jz)))), (r15, .inl (cI, 1300, .inl (fun jz => nI (z0 jz)))), (r16, .inl (cI, 12, .inl (fun jz => nI (z0 jz)))), (r19, .inl (cI, 1300, .inl (fun jz => nI (z0 jz)))), (r21, .inl (cI, 32, .inl (fun jz => nI (z0 jz)))), (r22, .inl (cI, 32, .inl (fun jz => nI (z0 jz)))), (r24, .inl (cI, 2500, .inl (fun jz => nI (z0 jz)))), (r26, .inl (cI, 2500, .inl (fun jz => nI (z0 jz)))), (r27, .inl (cJ, 2500, .inr (.inl (zL)))), (r28, .inl (cI, 4096, .inl (fun jz => nI (z0 jz)))), (r30, .inl (cI, 20, .inl (fun jz => nI (z0 jz)))), (r31, .inl (cZ, 20, .inl (fun jz => bI (no0 jz))))]) 0 rfl (Nat.le_of_ble_eq_true rfl) rfl dX3_init_222 ?_
        refine j_iconst (v := nI (0)) dX3_init_225 (by decide) ?_
        refine j_istore_n [(3, .int (nI (0))), (0, .ref (mq)), (1, .int (x)), (2, .int (y))] dX3_init_226 rfl (by decide) rfl ?_
        obtain ⟨q, hq⟩ : ∃ q : Nat → Nat, q = mkQ [mq, 0, 0, 0, 0, r5, r6, r7, r8, r9, r10, r11, r12, r13, 0, r15, r16, 0, 0, r19, 0, r21, r22, 0, r24, 0, r26, r27, r28, 0, r30, r31] := ⟨_, rfl⟩
        refine j_world (w' := wK cI cJ cZ q R C 0 z0 z0 z0 z0 z0 z0 z0 z0 z0 z0) (by rw [hq]; rfl) ?_
        refine j_sub [1, 0] [(0, .ref (mq)), (3, .int (nI (0)))] rfl ?_
        refine j_lv (lv' := [(0, .ref (q 0)), (3, .int (nI (0)))]) (by rw [hq]; rfl) ?_
        have loop227 : ∀ (n : Nat) (i : Nat) (cf1 cu1 : Nat → Nat), (12 < i + n) → (i ≤ 12) → (∀ j, j < i → cf1 j = 99 ∧ cu1 j = 99) → V k l D (tys3 cI cJ cZ) ({ frames := 6, cells := 20, slots := 14580, locals := 137 } : Room) cX3_init 6 RX3 (wK cI cJ cZ q R C 0 z0 z0 z0 z0 z0 z0 z0 cf1 z0 cu1) (20) (14580) 227 [(0, .ref (q 0)), (3, .int (nI (i)))] [] := by
          intro n
          induction n with
          | zero => intro i cf1 cu1 hm1 hi1 hz1; exfalso; omega
          | succ n ih227 =>
            intro i cf1 cu1 hm1 hi1 hz1
            refine j_iload_n dX3_init_227 rfl 1 rfl ?_
            refine j_bipush (v := nI (12)) dX3_init_228 (by decide) ?_
            refine jn_icmp_ge (tgt := 254) (a := i) (b := 12) (by omega) (by omega) dX3_init_230 (by decide) (fun c230 => ?_) (fun c230 => ?_)
            · refine j_iconst (v := nI (0)) dX3_init_254 (by decide) ?_
              refine j_istore_n [(3, .int (nI (0))), (0, .ref (q 0))] dX3_init_255 rfl (by decide) rfl ?_
              refine j_wext (w2 := wK cI cJ cZ q R C 0 z0 z0 z0 z0 z0 z0 z0 cf1 z0 (fun _ => 99)) (wE_c rfl cE_rfl (wE_c rfl cE_rfl (wE_c rfl cE_rfl (wE_c rfl cE_rfl (wE_c rfl cE_rfl (wE_c rfl cE_rfl (wE_c rfl cE_rfl (wE_c rfl cE_rfl (wE_c rfl cE_rfl (wE_c rfl cE_rfl (wE_c rfl cE_rfl (wE_c rfl (cE_arr (fun j hj => by rw [(hz1 j (by omega)).2])) (wE_c rfl cE_rfl (wE_c rfl cE_rfl (wE_c rfl cE_rfl (wE_c rfl cE_rfl (wE_c rfl cE_rfl (wE_c rfl cE_rfl (wE_c rfl cE_rfl (wE_c rfl cE_rfl (wE_c rfl cE_rfl (wE_n)))))))))))))))))))))) ?_
              refine j_sub [1, 0] [(0, .ref (q 0)), (3, .int (nI (0)))] rfl ?_
              have loop256 : ∀ (n : Nat) (i2 : Nat) (en1 : Nat → Nat), (80 < i2 + n) → (i2 ≤ 80) → (∀ j, j < i2 → en1 j = 99) → V k l D (tys3 cI cJ cZ) ({ frames := 6, cells := 20, slots := 14580, locals := 137 } : Room) cX3_init 6 RX3 (wK cI cJ cZ q R C 0 z0 z0 z0 z0 en1 z0 z0 cf1 z0 (fun _ => 99)) (20) (14580) 256 [(0, .ref (q 0)), (3, .int (nI (i2)))] [] := by
                intro n
                induction n with
                | zero => intro i2 en1 hm2 hi2 hz2; exfalso; omega
                | succ n ih256 =>
                  intro i2 en1 hm2 hi2 hz2
                  refine j_iload_n dX3_init_256 rfl 1 rfl ?_
                  refine j_bipush (v := nI (80)) dX3_init_257 (by decide) ?_
                  refine jn_icmp_ge (tgt := 275) (a := i2) (b := 80) (by omega) (by omega) dX3_init_259 (by decide) (fun c259 => ?_) (fun c259 => ?_)
                  · refine j_iconst (v := nI (0)) dX3_init_275 (by decide) ?_
                    refine j_istore_n [(3, .int (nI (0))), (0, .ref (q 0))] dX3_init_276 rfl (by decide) rfl ?_
                    refine j_sub [1, 0] [(0, .ref (q 0)), (3, .int (nI (0)))] rfl ?_
                    have loop277 : ∀ (n : Nat) (i3 : Nat) (fp1 : Nat → Nat), (nP R C < i3 + n) → (i3 ≤ nP R C) → (∀ j, j < i3 → fp1 j = 99) → (∀ j, i3 ≤ j → fp1 j = 0) → V k l D (tys3 cI cJ cZ) ({ frames := 6, cells := 20, slots := 14580, locals := 137 } : Room) cX3_init 6 RX3 (wK cI cJ cZ q R C 0 z0 z0 z0 z0 en1 fp1 z0 cf1 z0 (fun _ => 99)) (20) (14580) 277 [(0, .ref (q 0)), (3, .int (nI (i3)))] [] := by
                      intro n
                      induction n with
                      | zero => intro i3 fp1 hm3 hi3 hz3 hy3; exfalso; omega
                      | succ n ih277 =>
                        intro i3 fp1 hm3 hi3 hz3 hy3
                        refine j_iload_n dX3_init_277 rfl 1 rfl ?_
                        refine j_aload_n dX3_init_278 rfl 0 rfl ?_
                        refine gf_X3_79 0 rfl (rfl) dX3_init_279 ?_
                        refine jn_icmp_ge (tgt := 299) (a := i3) (b := nP R C) (by omega) (by omega) dX3_init_282 (by decide) (fun c282 => ?_) (fun c282 => ?_)
                        · refine j_iconst (v := nI (0)) dX3_init_299 (by decide) ?_
                          refine j_istore_n [(3, .int (nI (0))), (0, .ref (q 0))] dX3_init_300 rfl (by decide) rfl ?_
                          have hT0 : TC R C (eN R C 0 0) z0 z0 z0 z0 en1 fp1 z0 cf1 z0 := by rw [eN_0 hG]; exact TC_0 (fun j hj => hz2 j (by omega)) (fun j hj => hz3 j (by omega)) (fun j hj => hy3 j (by omega)) (fun j hj => (hz1 j (by omega)).1)
                          refine j_world (w' := wK cI cJ cZ q R C (eN R C 0 0) z0 z0 z0 z0 en1 fp1 z0 cf1 z0 (fun _ => 99)) (by rw [eN_0 hG]) ?_
                          refine j_lv (lv' := [(3, .int (nI (0 * (C + 1) + 0))), (0, .ref (q 0))]) (by rw [Nat.zero_mul]) ?_
                          refine j_sub [1, 0] [(0, .ref (q 0)), (3, .int (nI (0 * (C + 1) + 0)))] rfl ?_
                          have loop301 : ∀ (n : Nat) (yy xx : Nat) (lw8 hg8 n18 n28 en8 fp8 la8 cf8 cl8 : Nat → Nat), (nP R C < yy * (C + 1) + xx + n) → (xx ≤ C) → (yy ≤ R ∨ (yy = R + 1 ∧ xx = 0)) → (TC R C (eN R C yy xx) lw8 hg8 n18 n28 en8 fp8 la8 cf8 cl8) → V k l D (tys3 cI cJ cZ) ({ frames := 6, cells := 20, slots := 14580, locals := 137 } : Room) cX3_init 6 RX3 (wK cI cJ cZ q R C (eN R C yy xx) lw8 hg8 n18 n28 en8 fp8 la8 cf8 cl8 (fun _ => 99)) (20) (14580) 301 [(0, .ref (q 0)), (3, .int (nI (yy * (C + 1) + xx)))] [] := by
                            intro n
                            induction n with
                            | zero => intro yy xx lw8 hg8 n18 n28 en8 fp8 la8 cf8 cl8 hm4 hxC hyx hT8; exfalso; have := pq_le hxC hyx; omega
                            | succ n ih301 =>
                              intro yy xx lw8 hg8 n18 n28 en8 fp8 la8 cf8 cl8 hm4 hxC hyx hT8
                              have hple := pq_le hxC hyx
                              refine j_iload_n dX3_init_301 rfl 1 rfl ?_
                              refine j_aload_n dX3_init_302 rfl 0 rfl ?_
                              refine gf_X3_79 0 rfl (rfl) dX3_init_303 ?_
                              refine jn_icmp_ge (tgt := 410) (a := yy * (C + 1) + xx) (b := nP R C) (by omega) (by omega) dX3_init_306 (by decide) (fun c306 => ?_) (fun c306 => ?_)
                              · have hxy : yy = R + 1 ∧ xx = 0 := by
                                  rcases hyx with h9 | h9
                                  · exact absurd (pq_lt h9 hxC) (by omega)
                                  · exact h9
                                obtain ⟨h9, h8⟩ := hxy
                                subst h9 h8
                                rw [eN_R] at hT8
                                obtain ⟨f1, f2, f3, f4, f5, f6, f7, f8, f9⟩ := TC_f hG hT8
                                refine j_world (w' := wK cI cJ cZ q R C (nE R C) lw8 hg8 n18 n28 en8 fp8 la8 cf8 cl8 (fun _ => 99)) (by rw [eN_R]) ?_
                                refine j_wext (w2 := wM cI cJ cZ q R C 0 false false 0 0 0 0 0 z0 (fun _ => 99) z0 z0 z0 z0 z0 zL z0 z0 no0) (wE_c rfl cE_rfl (wE_c rfl (cE_arr (fun j hj => by rw [f1])) (wE_c rfl (cE_arr (fun j hj => by rw [f2])) (wE_c rfl (cE_arr (fun j hj => by rw [f3])) (wE_c rfl (cE_arr (fun j hj => by rw [f4])) (wE_c rfl (cE_arr (fun j hj => by rw [f5 j hj])) (wE_c rfl (cE_arr (fun j hj => by rw [f6 j hj])) (wE_c rfl (cE_arr (fun j hj => by rw [f7 j hj])) (wE_c rfl (cE_arr (fun j hj => by rw [f8 j hj])) (wE_c rfl (cE_arr (fun j hj => by rw [f9 j hj])) (wE_c rfl cE_rfl (wE_c rfl cE_rfl (wE_c rfl cE_rfl (wE_c rfl cE_rfl (wE_c rfl cE_rfl (wE_c rfl cE_rfl (wE_c rfl cE_rfl (wE_c rfl cE_rfl (wE_c rfl cE_rfl (wE_c rfl cE_rfl (wE_c rfl cE_rfl (wE_n)))))))))))))))))))))) ?_
                                refine j_aload_n dX3_init_410 rfl 0 rfl ?_
                                refine j_vW (av := []) (c_findLoops l hfl D cI cJ cZ q R C hG 0 false false 0 0 0 0 0 z0 (fun _ => 99) z0 z0 z0 z0 z0 zL z0 z0 no0 (fun p _ => ⟨rfl, rfl⟩) hcap rfl) 0 rfl rfl mw2_201 mw2_203 msel12 mw1_4 mw2_204 rfl hd_X3_findLoops rfl ⟨rfl, rfl⟩ ⟨Nat.le_of_ble_eq_true rfl, Nat.le_of_ble_eq_true rfl⟩ ⟨Nat.le_of_ble_eq_true rfl, Nat.le_of_ble_eq_true rfl⟩ (Nat.le_of_ble_eq_true rfl) rfl dX3_init_411 ?_
                                rintro _ _ ⟨rfl, nl2, lp2, de2, se2, hL2, hJ2, rfl⟩
                                refine j_st (st' := []) rfl ?_
                                exact j_vret (tys' := []) rfl hR dX3_init_414 (⟨rfl, q, by rw [hq]; rfl, MW_of ⟨hL2, (fun h => nomatch h), (fun h => nomatch h), hJ2, by decide⟩⟩)
                              · have hyR : yy ≤ R := by
                                  rcases hyx with h9 | ⟨h9, h8⟩
                                  · exact h9
                                  · exfalso; subst h9 h8; unfold nP at c306; omega
                                refine j_iload_n dX3_init_309 rfl 1 rfl ?_
                                refine j_aload_n dX3_init_310 rfl 0 rfl ?_
                                refine gf_X3_76 0 rfl (rfl) dX3_init_311 ?_
                                refine j_iconst (v := nI (1)) dX3_init_314 (by decide) ?_
                                refine jn_iadd (v := C + 1) dX3_init_315 rfl ?_
                                refine j_idiv dX3_init_316 (fun h => absurd (nI_eq0 (by omega) h) (by omega)) rfl ?_
                                refine j_topi (y := nI (yy)) (by rw [pk_div (by have := pq_lt hyR hxC; omega) (by omega) (by omega), pt_div hxC]) ?_
                                refine j_istore [(4, .int (nI (yy))), (0, .ref (q 0)), (3, .int (nI (yy * (C + 1) + xx)))] dX3_init_317 (by decide) rfl ?_
                                refine j_iload_n dX3_init_319 rfl 2 rfl ?_
                                refine j_aload_n dX3_init_320 rfl 1 rfl ?_
                                refine gf_X3_76 0 rfl (rfl) dX3_init_321 ?_
                                refine j_iconst (v := nI (1)) dX3_init_324 (by decide) ?_
                                refine jn_iadd (v := C + 1) dX3_init_325 rfl ?_
                                refine j_irem dX3_init_326 (fun h => absurd (nI_eq0 (by omega) h) (by omega)) rfl ?_
                                refine j_topi (y := nI (xx)) (by rw [pk_rem (by have := pq_lt hyR hxC; omega) (by omega) (by omega), pt_mod hxC]) ?_
                                refine j_istore [(5, .int (nI (xx))), (4, .int (nI (yy))), (0, .ref (q 0)), (3, .int (nI (yy * (C + 1) + xx)))] dX3_init_327 (by decide) rfl ?_
                                refine j_iload dX3_init_329 0 rfl ?_
                                refine j_aload_n dX3_init_331 rfl 2 rfl ?_
                                refine gf_X3_76 0 rfl (rfl) dX3_init_332 ?_
                                refine jn_icmp_ge (tgt := 364) (a := xx) (b := C) (by omega) (by omega) dX3_init_335 (by decide) (fun c335 => ?_) (fun c335 => ?_)
                                · refine j_iload dX3_init_364 1 rfl ?_
                                  refine j_aload_n dX3_init_366 rfl 2 rfl ?_
                                  refine gf_X3_72 0 rfl (rfl) dX3_init_367 ?_
                                  refine jn_icmp_ge (tgt := 404) (a := yy) (b := R) (by omega) (by omega) dX3_init_370 (by decide) (fun c370 => ?_) (fun c370 => ?_)
                                  · refine j_iinc (n0 := 3) (v := nI (yy * (C + 1) + xx + 1)) [(3, .int (nI (yy * (C + 1) + xx + 1))), (5, .int (nI (xx))), (4, .int (nI (yy))), (0, .ref (q 0))] dX3_init_404 rfl (by exact nI_add (yy * (C + 1) + xx) 1) (by decide) rfl ?_
                                    refine j_goto (tgt := 301) dX3_init_407 (by decide) ?_
                                    refine j_sub [3, 0] [(0, .ref (q 0)), (3, .int (nI (yy * (C + 1) + xx + 1)))] rfl ?_
                                    have hen := (eN_t hG hyR hxC).2.2.2
                                    have hen1 := hen.1
                                    rw [if_neg (show ¬ xx < C by omega), if_neg (show ¬ yy < R by omega)] at hen1
                                    simp only [Nat.add_zero] at hen1
                                    have hxe : xx = C := by omega
                                    subst hxe
                                    rw [hen.2] at hen1
                                    rw [← hen1] at hT8 ⊢
                                    have hmul : (yy + 1) * (xx + 1) = yy * (xx + 1) + (xx + 1) := by rw [Nat.add_mul, Nat.one_mul]
                                    refine j_lv (lv' := [(0, .ref (q 0)), (3, .int (nI ((yy + 1) * (xx + 1) + 0)))]) (by rw [hmul]; rfl) ?_
                                    exact ih301 (yy + 1) 0 lw8 hg8 n18 n28 en8 fp8 la8 cf8 cl8 (by omega) (by omega) (by omega) hT8
                                  · refine j_aload_n dX3_init_373 rfl 2 rfl ?_
                                    refine j_iload_n dX3_init_374 rfl 3 rfl ?_
                                    refine j_iload_n dX3_init_375 rfl 3 rfl ?_
                                    refine j_aload_n dX3_init_376 rfl 2 rfl ?_
                                    refine gf_X3_76 0 rfl (rfl) dX3_init_377 ?_
                                    refine jn_iadd (v := (yy * (C + 1) + xx) + C) dX3_init_380 rfl ?_
                                    refine j_iconst (v := nI (1)) dX3_init_381 (by decide) ?_
                                    refine jn_iadd (v := ((yy * (C + 1) + xx) + C) + 1) dX3_init_382 rfl ?_
                                    refine j_aload_n dX3_init_383 rfl 2 rfl ?_
                                    refine j_iload dX3_init_384 1 rfl ?_
                                    refine j_iload dX3_init_386 0 rfl ?_
                                    refine j_iconst (v := nI (1)) dX3_init_388 (by decide) ?_
                                    refine j_isub dX3_init_389 rfl ?_
                                    refine j_topi (y := eI (pd xx)) (eI_pd (by omega)) ?_
                                    refine j_st (st' := [.int (eI (pd xx)), .int (eI (yy)), .ref (q 0), .int (nI (((yy * (C + 1) + xx) + C) + 1)), .int (nI (yy * (C + 1) + xx)), .ref (q 0)]) (by rw [eI_ne (show ¬ yy = 99 by omega)]) ?_
                                    refine j_vW (av := [.int (eI (yy)), .int (eI (pd xx))]) (k_cell l hfl D cI cJ cZ q R C hG (eN R C yy xx) lw8 hg8 n18 n28 en8 fp8 la8 cf8 cl8 (fun _ => 99) (yy) (pd xx) (by first | omega | exact pd_lt (by omega)) (by first | omega | exact pd_lt (by omega))) 0 rfl rfl mw2_185 mw2_187 msel8 mw1_4 mw2_188 rfl hd_X3_cell rfl ⟨rfl, rfl⟩ ⟨Nat.le_of_ble_eq_true rfl, Nat.le_of_ble_eq_true rfl⟩ ⟨Nat.le_of_ble_eq_true rfl, Nat.le_of_ble_eq_true rfl⟩ (Nat.le_of_ble_eq_true rfl) rfl dX3_init_390 ?_
                                    rintro _ _ ⟨rfl, rfl⟩
                                    refine j_st (st' := [.int (eI (ccell R C yy (pd xx))), .int (nI (((yy * (C + 1) + xx) + C) + 1)), .int (nI (yy * (C + 1) + xx)), .ref (q 0)]) rfl ?_
                                    refine j_aload_n dX3_init_393 rfl 2 rfl ?_
                                    refine j_iload dX3_init_394 1 rfl ?_
                                    refine j_iload dX3_init_396 0 rfl ?_
                                    refine j_st (st' := [.int (eI (xx)), .int (eI (yy)), .ref (q 0), .int (eI (ccell R C yy (pd xx))), .int (nI (((yy * (C + 1) + xx) + C) + 1)), .int (nI (yy * (C + 1) + xx)), .ref (q 0)]) (by rw [eI_ne (show ¬ xx = 99 by omega), eI_ne (show ¬ yy = 99 by omega)]) ?_
                                    refine j_vW (av := [.int (eI (yy)), .int (eI (xx))]) (k_cell l hfl D cI cJ cZ q R C hG (eN R C yy xx) lw8 hg8 n18 n28 en8 fp8 la8 cf8 cl8 (fun _ => 99) (yy) (xx) (by first | omega | exact pd_lt (by omega)) (by first | omega | exact pd_lt (by omega))) 0 rfl rfl mw2_185 mw2_187 msel8 mw1_4 mw2_188 rfl hd_X3_cell rfl ⟨rfl, rfl⟩ ⟨Nat.le_of_ble_eq_true rfl, Nat.le_of_ble_eq_true rfl⟩ ⟨Nat.le_of_ble_eq_true rfl, Nat.le_of_ble_eq_true rfl⟩ (Nat.le_of_ble_eq_true rfl) rfl dX3_init_398 ?_
                                    rintro _ _ ⟨rfl, rfl⟩
                                    refine j_st (st' := [.int (eI (ccell R C yy xx)), .int (eI (ccell R C yy (pd xx))), .int (nI (((yy * (C + 1) + xx) + C) + 1)), .int (nI (yy * (C + 1) + xx)), .ref (q 0)]) rfl ?_
                                    obtain ⟨d1, d2, d3, d4⟩ := (eN_t hG hyR hxC).2.2.1 c370 c335
                                    obtain ⟨m1, m2, m3, m4⟩ := jn_d d1 d2 d3 d4
                                    refine j_st (st' := [.int (eI (mOther R C (eN R C yy xx))), .int (eI (mOne R C (eN R C yy xx))), .int (nI (mHigh R C (eN R C yy xx))), .int (nI (mLow R C (eN R C yy xx))), .ref (q 0)]) (by rw [m1, m2, m3, m4]) ?_
                                    refine j_vW (av := [.int (nI (mLow R C (eN R C yy xx))), .int (nI (mHigh R C (eN R C yy xx))), .int (eI (mOne R C (eN R C yy xx))), .int (eI (mOther R C (eN R C yy xx)))]) (k_join l hfl D cI cJ cZ q R C hG (eN R C yy xx) lw8 hg8 n18 n28 en8 fp8 la8 cf8 cl8 (fun _ => 99) d1 hT8) 0 rfl rfl mw2_189 mw2_191 msel9 mw1_4 mw2_192 rfl hd_X3_join rfl ⟨rfl, rfl⟩ ⟨Nat.le_of_ble_eq_true rfl, Nat.le_of_ble_eq_true rfl⟩ ⟨Nat.le_of_ble_eq_true rfl, Nat.le_of_ble_eq_true rfl⟩ (Nat.le_of_ble_eq_true rfl) rfl dX3_init_401 ?_
                                    rintro _ _ ⟨rfl, lwb, hgb, nab, nbb, enb, fpb, lab, cfb, clb, hTb, rfl⟩
                                    refine j_st (st' := []) rfl ?_
                                    refine j_iinc (n0 := 3) (v := nI (yy * (C + 1) + xx + 1)) [(3, .int (nI (yy * (C + 1) + xx + 1))), (5, .int (nI (xx))), (4, .int (nI (yy))), (0, .ref (q 0))] dX3_init_404 rfl (by exact nI_add (yy * (C + 1) + xx) 1) (by decide) rfl ?_
                                    refine j_goto (tgt := 301) dX3_init_407 (by decide) ?_
                                    refine j_sub [3, 0] [(0, .ref (q 0)), (3, .int (nI (yy * (C + 1) + xx + 1)))] rfl ?_
                                    have hen := (eN_t hG hyR hxC).2.2.2
                                    have hen1 := hen.1
                                    rw [if_neg (show ¬ xx < C by omega), if_pos c370] at hen1
                                    simp only [Nat.add_zero] at hen1
                                    have hxe : xx = C := by omega
                                    subst hxe
                                    rw [hen.2] at hen1
                                    rw [← hen1] at hTb ⊢
                                    have hmul : (yy + 1) * (xx + 1) = yy * (xx + 1) + (xx + 1) := by rw [Nat.add_mul, Nat.one_mul]
                                    refine j_lv (lv' := [(0, .ref (q 0)), (3, .int (nI ((yy + 1) * (xx + 1) + 0)))]) (by rw [hmul]; rfl) ?_
                                    exact ih301 (yy + 1) 0 lwb hgb nab nbb enb fpb lab cfb clb (by omega) (by omega) (by omega) hTb
                                · refine j_aload_n dX3_init_338 rfl 2 rfl ?_
                                  refine j_iload_n dX3_init_339 rfl 3 rfl ?_
                                  refine j_iload_n dX3_init_340 rfl 3 rfl ?_
                                  refine j_iconst (v := nI (1)) dX3_init_341 (by decide) ?_
                                  refine jn_iadd (v := (yy * (C + 1) + xx) + 1) dX3_init_342 rfl ?_
                                  refine j_aload_n dX3_init_343 rfl 2 rfl ?_
                                  refine j_iload dX3_init_344 1 rfl ?_
                                  refine j_iconst (v := nI (1)) dX3_init_346 (by decide) ?_
                                  refine j_isub dX3_init_347 rfl ?_
                                  refine j_topi (y := eI (pd yy)) (eI_pd (by omega)) ?_
                                  refine j_iload dX3_init_348 0 rfl ?_
                                  refine j_st (st' := [.int (eI (xx)), .int (eI (pd yy)), .ref (q 0), .int (nI ((yy * (C + 1) + xx) + 1)), .int (nI (yy * (C + 1) + xx)), .ref (q 0)]) (by rw [eI_ne (show ¬ xx = 99 by omega)]) ?_
                                  refine j_vW (av := [.int (eI (pd yy)), .int (eI (xx))]) (k_cell l hfl D cI cJ cZ q R C hG (eN R C yy xx) lw8 hg8 n18 n28 en8 fp8 la8 cf8 cl8 (fun _ => 99) (pd yy) (xx) (by first | omega | exact pd_lt (by omega)) (by first | omega | exact pd_lt (by omega))) 0 rfl rfl mw2_185 mw2_187 msel8 mw1_4 mw2_188 rfl hd_X3_cell rfl ⟨rfl, rfl⟩ ⟨Nat.le_of_ble_eq_true rfl, Nat.le_of_ble_eq_true rfl⟩ ⟨Nat.le_of_ble_eq_true rfl, Nat.le_of_ble_eq_true rfl⟩ (Nat.le_of_ble_eq_true rfl) rfl dX3_init_350 ?_
                                  rintro _ _ ⟨rfl, rfl⟩
                                  refine j_st (st' := [.int (eI (ccell R C (pd yy) xx)), .int (nI ((yy * (C + 1) + xx) + 1)), .int (nI (yy * (C + 1) + xx)), .ref (q 0)]) rfl ?_
                                  refine j_aload_n dX3_init_353 rfl 2 rfl ?_
                                  refine j_iload dX3_init_354 1 rfl ?_
                                  refine j_iload dX3_init_356 0 rfl ?_
                                  refine j_st (st' := [.int (eI (xx)), .int (eI (yy)), .ref (q 0), .int (eI (ccell R C (pd yy) xx)), .int (nI ((yy * (C + 1) + xx) + 1)), .int (nI (yy * (C + 1) + xx)), .ref (q 0)]) (by rw [eI_ne (show ¬ xx = 99 by omega), eI_ne (show ¬ yy = 99 by omega)]) ?_
                                  refine j_vW (av := [.int (eI (yy)), .int (eI (xx))]) (k_cell l hfl D cI cJ cZ q R C hG (eN R C yy xx) lw8 hg8 n18 n28 en8 fp8 la8 cf8 cl8 (fun _ => 99) (yy) (xx) (by first | omega | exact pd_lt (by omega)) (by first | omega | exact pd_lt (by omega))) 0 rfl rfl mw2_185 mw2_187 msel8 mw1_4 mw2_188 rfl hd_X3_cell rfl ⟨rfl, rfl⟩ ⟨Nat.le_of_ble_eq_true rfl, Nat.le_of_ble_eq_true rfl⟩ ⟨Nat.le_of_ble_eq_true rfl, Nat.le_of_ble_eq_true rfl⟩ (Nat.le_of_ble_eq_true rfl) rfl dX3_init_358 ?_
                                  rintro _ _ ⟨rfl, rfl⟩
                                  refine j_st (st' := [.int (eI (ccell R C yy xx)), .int (eI (ccell R C (pd yy) xx)), .int (nI ((yy * (C + 1) + xx) + 1)), .int (nI (yy * (C + 1) + xx)), .ref (q 0)]) rfl ?_
                                  obtain ⟨b1, b2, b3, b4⟩ := (eN_t hG hyR hxC).1 c335
                                  obtain ⟨k1, k2, k3, k4⟩ := jn_r b1 b2 b3 b4
                                  refine j_st (st' := [.int (eI (mOther R C (eN R C yy xx))), .int (eI (mOne R C (eN R C yy xx))), .int (nI (mHigh R C (eN R C yy xx))), .int (nI (mLow R C (eN R C yy xx))), .ref (q 0)]) (by rw [k1, k2, k3, k4]) ?_
                                  refine j_vW (av := [.int (nI (mLow R C (eN R C yy xx))), .int (nI (mHigh R C (eN R C yy xx))), .int (eI (mOne R C (eN R C yy xx))), .int (eI (mOther R C (eN R C yy xx)))]) (k_join l hfl D cI cJ cZ q R C hG (eN R C yy xx) lw8 hg8 n18 n28 en8 fp8 la8 cf8 cl8 (fun _ => 99) b1 hT8) 0 rfl rfl mw2_189 mw2_191 msel9 mw1_4 mw2_192 rfl hd_X3_join rfl ⟨rfl, rfl⟩ ⟨Nat.le_of_ble_eq_true rfl, Nat.le_of_ble_eq_true rfl⟩ ⟨Nat.le_of_ble_eq_true rfl, Nat.le_of_ble_eq_true rfl⟩ (Nat.le_of_ble_eq_true rfl) rfl dX3_init_361 ?_
                                  rintro _ _ ⟨rfl, lwa, hga, naa, nba, ena, fpa, laa, cfa, cla, hTa, rfl⟩
                                  refine j_st (st' := []) rfl ?_
                                  refine j_iload dX3_init_364 1 rfl ?_
                                  refine j_aload_n dX3_init_366 rfl 2 rfl ?_
                                  refine gf_X3_72 0 rfl (rfl) dX3_init_367 ?_
                                  refine jn_icmp_ge (tgt := 404) (a := yy) (b := R) (by omega) (by omega) dX3_init_370 (by decide) (fun c370 => ?_) (fun c370 => ?_)
                                  · refine j_iinc (n0 := 3) (v := nI (yy * (C + 1) + xx + 1)) [(3, .int (nI (yy * (C + 1) + xx + 1))), (5, .int (nI (xx))), (4, .int (nI (yy))), (0, .ref (q 0))] dX3_init_404 rfl (by exact nI_add (yy * (C + 1) + xx) 1) (by decide) rfl ?_
                                    refine j_goto (tgt := 301) dX3_init_407 (by decide) ?_
                                    refine j_sub [3, 0] [(0, .ref (q 0)), (3, .int (nI (yy * (C + 1) + xx + 1)))] rfl ?_
                                    have hen := (eN_t hG hyR hxC).2.2.2
                                    have hen1 := hen.1
                                    rw [if_pos c335, if_neg (show ¬ yy < R by omega)] at hen1
                                    simp only [Nat.add_zero] at hen1
                                    rw [← hen1] at hTa ⊢
                                    exact ih301 yy (xx + 1) lwa hga naa nba ena fpa laa cfa cla (by omega) (by omega) (Or.inl hyR) hTa
                                  · refine j_aload_n dX3_init_373 rfl 2 rfl ?_
                                    refine j_iload_n dX3_init_374 rfl 3 rfl ?_
                                    refine j_iload_n dX3_init_375 rfl 3 rfl ?_
                                    refine j_aload_n dX3_init_376 rfl 2 rfl ?_
                                    refine gf_X3_76 0 rfl (rfl) dX3_init_377 ?_
                                    refine jn_iadd (v := (yy * (C + 1) + xx) + C) dX3_init_380 rfl ?_
                                    refine j_iconst (v := nI (1)) dX3_init_381 (by decide) ?_
                                    refine jn_iadd (v := ((yy * (C + 1) + xx) + C) + 1) dX3_init_382 rfl ?_
                                    refine j_aload_n dX3_init_383 rfl 2 rfl ?_
                                    refine j_iload dX3_init_384 1 rfl ?_
                                    refine j_iload dX3_init_386 0 rfl ?_
                                    refine j_iconst (v := nI (1)) dX3_init_388 (by decide) ?_
                                    refine j_isub dX3_init_389 rfl ?_
                                    refine j_topi (y := eI (pd xx)) (eI_pd (by omega)) ?_
                                    refine j_st (st' := [.int (eI (pd xx)), .int (eI (yy)), .ref (q 0), .int (nI (((yy * (C + 1) + xx) + C) + 1)), .int (nI (yy * (C + 1) + xx)), .ref (q 0)]) (by rw [eI_ne (show ¬ yy = 99 by omega)]) ?_
                                    refine j_vW (av := [.int (eI (yy)), .int (eI (pd xx))]) (k_cell l hfl D cI cJ cZ q R C hG (eN R C yy xx + 1) lwa hga naa nba ena fpa laa cfa cla (fun _ => 99) (yy) (pd xx) (by first | omega | exact pd_lt (by omega)) (by first | omega | exact pd_lt (by omega))) 0 rfl rfl mw2_185 mw2_187 msel8 mw1_4 mw2_188 rfl hd_X3_cell rfl ⟨rfl, rfl⟩ ⟨Nat.le_of_ble_eq_true rfl, Nat.le_of_ble_eq_true rfl⟩ ⟨Nat.le_of_ble_eq_true rfl, Nat.le_of_ble_eq_true rfl⟩ (Nat.le_of_ble_eq_true rfl) rfl dX3_init_390 ?_
                                    rintro _ _ ⟨rfl, rfl⟩
                                    refine j_st (st' := [.int (eI (ccell R C yy (pd xx))), .int (nI (((yy * (C + 1) + xx) + C) + 1)), .int (nI (yy * (C + 1) + xx)), .ref (q 0)]) rfl ?_
                                    refine j_aload_n dX3_init_393 rfl 2 rfl ?_
                                    refine j_iload dX3_init_394 1 rfl ?_
                                    refine j_iload dX3_init_396 0 rfl ?_
                                    refine j_st (st' := [.int (eI (xx)), .int (eI (yy)), .ref (q 0), .int (eI (ccell R C yy (pd xx))), .int (nI (((yy * (C + 1) + xx) + C) + 1)), .int (nI (yy * (C + 1) + xx)), .ref (q 0)]) (by rw [eI_ne (show ¬ xx = 99 by omega), eI_ne (show ¬ yy = 99 by omega)]) ?_
                                    refine j_vW (av := [.int (eI (yy)), .int (eI (xx))]) (k_cell l hfl D cI cJ cZ q R C hG (eN R C yy xx + 1) lwa hga naa nba ena fpa laa cfa cla (fun _ => 99) (yy) (xx) (by first | omega | exact pd_lt (by omega)) (by first | omega | exact pd_lt (by omega))) 0 rfl rfl mw2_185 mw2_187 msel8 mw1_4 mw2_188 rfl hd_X3_cell rfl ⟨rfl, rfl⟩ ⟨Nat.le_of_ble_eq_true rfl, Nat.le_of_ble_eq_true rfl⟩ ⟨Nat.le_of_ble_eq_true rfl, Nat.le_of_ble_eq_true rfl⟩ (Nat.le_of_ble_eq_true rfl) rfl dX3_init_398 ?_
                                    rintro _ _ ⟨rfl, rfl⟩
                                    refine j_st (st' := [.int (eI (ccell R C yy xx)), .int (eI (ccell R C yy (pd xx))), .int (nI (((yy * (C + 1) + xx) + C) + 1)), .int (nI (yy * (C + 1) + xx)), .ref (q 0)]) rfl ?_
                                    obtain ⟨d1, d2, d3, d4⟩ := (eN_t hG hyR hxC).2.1 c370 c335
                                    obtain ⟨m1, m2, m3, m4⟩ := jn_d d1 d2 d3 d4
                                    refine j_st (st' := [.int (eI (mOther R C (eN R C yy xx + 1))), .int (eI (mOne R C (eN R C yy xx + 1))), .int (nI (mHigh R C (eN R C yy xx + 1))), .int (nI (mLow R C (eN R C yy xx + 1))), .ref (q 0)]) (by rw [m1, m2, m3, m4]) ?_
                                    refine j_vW (av := [.int (nI (mLow R C (eN R C yy xx + 1))), .int (nI (mHigh R C (eN R C yy xx + 1))), .int (eI (mOne R C (eN R C yy xx + 1))), .int (eI (mOther R C (eN R C yy xx + 1)))]) (k_join l hfl D cI cJ cZ q R C hG (eN R C yy xx + 1) lwa hga naa nba ena fpa laa cfa cla (fun _ => 99) d1 hTa) 0 rfl rfl mw2_189 mw2_191 msel9 mw1_4 mw2_192 rfl hd_X3_join rfl ⟨rfl, rfl⟩ ⟨Nat.le_of_ble_eq_true rfl, Nat.le_of_ble_eq_true rfl⟩ ⟨Nat.le_of_ble_eq_true rfl, Nat.le_of_ble_eq_true rfl⟩ (Nat.le_of_ble_eq_true rfl) rfl dX3_init_401 ?_
                                    rintro _ _ ⟨rfl, lwb, hgb, nab, nbb, enb, fpb, lab, cfb, clb, hTb, rfl⟩
                                    refine j_st (st' := []) rfl ?_
                                    refine j_iinc (n0 := 3) (v := nI (yy * (C + 1) + xx + 1)) [(3, .int (nI (yy * (C + 1) + xx + 1))), (5, .int (nI (xx))), (4, .int (nI (yy))), (0, .ref (q 0))] dX3_init_404 rfl (by exact nI_add (yy * (C + 1) + xx) 1) (by decide) rfl ?_
                                    refine j_goto (tgt := 301) dX3_init_407 (by decide) ?_
                                    refine j_sub [3, 0] [(0, .ref (q 0)), (3, .int (nI (yy * (C + 1) + xx + 1)))] rfl ?_
                                    have hen := (eN_t hG hyR hxC).2.2.2
                                    have hen1 := hen.1
                                    rw [if_pos c335, if_pos c370] at hen1
                                    rw [← hen1] at hTb ⊢
                                    exact ih301 yy (xx + 1) lwb hgb nab nbb enb fpb lab cfb clb (by omega) (by omega) (Or.inl hyR) hTb
                          exact loop301 (nP R C + 2) 0 0 z0 z0 z0 z0 en1 fp1 z0 cf1 z0 (by omega) (by omega) (Or.inl (by omega)) hT0
                        · refine j_aload_n dX3_init_285 rfl 0 rfl ?_
                          refine gf_X3_25 0 rfl (rfl) dX3_init_286 ?_
                          refine j_iload_n dX3_init_289 rfl 1 rfl ?_
                          refine j_bipush (v := nI (99)) dX3_init_290 (by decide) ?_
                          refine jn_iastN (wK cI cJ cZ q R C 0 z0 z0 z0 z0 en1 (va_up fp1 i3 99) z0 cf1 z0 (fun _ => 99)) 6 0 rfl rfl (by omega) (by omega) rfl dX3_init_292 ?_
                          refine j_iinc (n0 := 1) (v := nI (i3 + 1)) [(3, .int (nI (i3 + 1))), (0, .ref (q 0))] dX3_init_293 rfl (by exact nI_add (i3) 1) (by decide) rfl ?_
                          refine j_goto (tgt := 277) dX3_init_296 (by decide) ?_
                          refine j_sub [1, 0] [(0, .ref (q 0)), (3, .int (nI (i3 + 1)))] rfl ?_
                          exact ih277 (i3 + 1) (va_up fp1 i3 99) (by omega) (by omega) (fun j h => if h2 : j = i3 then by rw [h2, va_up_self] else by rw [va_up_ne _ _ h2]; exact hz3 j (by omega)) (fun j h => by rw [va_up_ne _ _ (by omega)]; exact hy3 j (by omega))
                    exact loop277 (nP R C + 2) 0 z0 (by omega) (by omega) (fun j h => absurd h (by omega)) (fun j _ => rfl)
                  · refine j_aload_n dX3_init_262 rfl 0 rfl ?_
                    refine gf_X3_22 0 rfl (rfl) dX3_init_263 ?_
                    refine j_iload_n dX3_init_266 rfl 1 rfl ?_
                    refine j_iconst (v := (-1)) dX3_init_267 (by decide) ?_
                    refine j_st (st' := [.int (eI (99)), .int (nI (i2)), .ref (q 9)]) (by rfl) ?_
                    refine jn_iastE (wK cI cJ cZ q R C 0 z0 z0 z0 z0 (va_up en1 i2 99) z0 z0 cf1 z0 (fun _ => 99)) 5 0 rfl rfl (by omega) (by omega) rfl dX3_init_268 ?_
                    refine j_iinc (n0 := 1) (v := nI (i2 + 1)) [(3, .int (nI (i2 + 1))), (0, .ref (q 0))] dX3_init_269 rfl (by exact nI_add (i2) 1) (by decide) rfl ?_
                    refine j_goto (tgt := 256) dX3_init_272 (by decide) ?_
                    refine j_sub [1, 0] [(0, .ref (q 0)), (3, .int (nI (i2 + 1)))] rfl ?_
                    exact ih256 (i2 + 1) (va_up en1 i2 99) (by omega) (by omega) (fun j h => if h2 : j = i2 then by rw [h2, va_up_self] else by rw [va_up_ne _ _ h2]; exact hz2 j (by omega))
              exact loop256 82 0 z0 (by omega) (by omega) (fun j h => absurd h (by omega))
            · refine j_aload_n dX3_init_233 rfl 0 rfl ?_
              refine gf_X3_40 0 rfl (rfl) dX3_init_234 ?_
              refine j_iload_n dX3_init_237 rfl 1 rfl ?_
              refine j_iconst (v := (-1)) dX3_init_238 (by decide) ?_
              refine j_st (st' := [.int (eI (99)), .int (nI (i)), .ref (q 16)]) (by rfl) ?_
              refine jn_iastE (wK cI cJ cZ q R C 0 z0 z0 z0 z0 z0 z0 z0 cf1 z0 (va_up cu1 i 99)) 11 0 rfl rfl (by omega) (by omega) rfl dX3_init_239 ?_
              refine j_aload_n dX3_init_240 rfl 0 rfl ?_
              refine gf_X3_31 0 rfl (rfl) dX3_init_241 ?_
              refine j_iload_n dX3_init_244 rfl 1 rfl ?_
              refine j_bipush (v := nI (99)) dX3_init_245 (by decide) ?_
              refine jn_iastN (wK cI cJ cZ q R C 0 z0 z0 z0 z0 z0 z0 z0 (va_up cf1 i 99) z0 (va_up cu1 i 99)) 8 0 rfl rfl (by omega) (by omega) rfl dX3_init_247 ?_
              refine j_iinc (n0 := 1) (v := nI (i + 1)) [(3, .int (nI (i + 1))), (0, .ref (q 0))] dX3_init_248 rfl (by exact nI_add (i) 1) (by decide) rfl ?_
              refine j_goto (tgt := 227) dX3_init_251 (by decide) ?_
              refine j_sub [1, 0] [(0, .ref (q 0)), (3, .int (nI (i + 1)))] rfl ?_
              exact ih227 (i + 1) (va_up cf1 i 99) (va_up cu1 i 99) (by omega) (by omega) (fun j h => if h2 : j = i then by rw [h2, va_up_self, va_up_self]; exact ⟨rfl, rfl⟩ else by rw [va_up_ne _ _ h2, va_up_ne _ _ h2]; exact hz1 j (by omega))
        exact loop227 14 0 z0 z0 (by omega) (by omega) (fun j h => absurd h (by omega))
      · refine j_iload_n dX3_init_195 rfl 2 rfl ?_
        refine j_iconst (v := nI (3)) dX3_init_196 (by decide) ?_
        refine j_icmp_le (tgt := 204) dX3_init_197 (by decide) (fun c197 => ?_) (fun c197 => ?_)
        · refine j_iload_n dX3_init_204 rfl 2 rfl ?_
          have eC : y = nI C := szI_t (by decide) hyC c192 (fun h => by have h2 := Int32.lt_iff_toInt_lt.mp h; have h3 := Int32.le_iff_toInt_le.mp c197; omega)
          refine j_st (st' := [.int (nI (C)), .ref (mq)]) (by rw [eC]) ?_
          refine pf_X3_76 ([(mq, .inr (3, [.int (nI (0)), .int (nI (R)), .int (nI (C)), .int (nI (0)), .int (nI (0)), .ref (r5), .ref (r6), .ref (r7), .ref (r8), .ref (r9), .ref (r10), .ref (r11), .ref (r12), .ref (r13), .int (nI (0)), .ref (r15), .ref (r16), .int (nI (0)), .int (nI (0)), .ref (r19), .int (nI (0)), .ref (r21), .ref (r22), .int (nI (0)), .ref (r24), .int (nI (0)), .ref (r26), .ref (r27), .ref (r28), .int (nI (0)), .ref (r30), .ref (r31)])), (r5, .inl (cI, 31, .inl (fun jz => nI (z0 jz)))), (r6, .inl (cI, 31, .inl (fun jz => nI (z0 jz)))), (r7, .inl (cI, 31, .inl (fun jz => nI (z0 jz)))), (r8, .inl (cI, 31, .inl (fun jz => nI (z0 jz)))), (r9, .inl (cI, 80, .inl (fun jz => nI (z0 jz)))), (r10, .inl (cI, 20, .inl (fun jz => nI (z0 jz)))), (r11, .inl (cI, 20, .inl (fun jz => nI (z0 jz)))), (r12, .inl (cI, 12, .inl (fun jz => nI (z0 jz)))), (r13, .inl (cI, 12, .inl (fun jz => nI (z0 jz)))), (r15, .inl (cI, 1300, .inl (fun jz => nI (z0 jz)))), (r16, .inl (cI, 12, .inl (fun jz => nI (z0 jz)))), (r19, .inl (cI, 1300, .inl (fun jz => nI (z0 jz)))), (r21, .inl (cI, 32, .inl (fun jz => nI (z0 jz)))), (r22, .inl (cI, 32, .inl (fun jz => nI (z0 jz)))), (r24, .inl (cI, 2500, .inl (fun jz => nI (z0 jz)))), (r26, .inl (cI, 2500, .inl (fun jz => nI (z0 jz)))), (r27, .inl (cJ, 2500, .inr (.inl (zL)))), (r28, .inl (cI, 4096, .inl (fun jz => nI (z0 jz)))), (r30, .inl (cI, 20, .inl (fun jz => nI (z0 jz)))), (r31, .inl (cZ, 20, .inl (fun jz => bI (no0 jz))))]) 0 rfl (Nat.le_of_ble_eq_true rfl) rfl dX3_init_205 ?_
          refine j_aload_n dX3_init_208 rfl 0 rfl ?_
          refine j_aload_n dX3_init_209 rfl 0 rfl ?_
          refine gf_X3_72 0 rfl (rfl) dX3_init_210 ?_
          refine j_iconst (v := nI (1)) dX3_init_213 (by decide) ?_
          refine jn_iadd (v := R + 1) dX3_init_214 rfl ?_
          refine j_aload_n dX3_init_215 rfl 0 rfl ?_
          refine gf_X3_76 0 rfl (rfl) dX3_init_216 ?_
          refine j_iconst (v := nI (1)) dX3_init_219 (by decide) ?_
          refine jn_iadd (v := C + 1) dX3_init_220 rfl ?_
          refine jn_imul (v := (R + 1) * (C + 1)) dX3_init_221 rfl ?_
          refine j_topi (y := nI (nP R C)) (by rfl) ?_
          refine pf_X3_79 ([(mq, .inr (3, [.int (nI (0)), .int (nI (R)), .int (nI (C)), .int (nI (nP R C)), .int (nI (0)), .ref (r5), .ref (r6), .ref (r7), .ref (r8), .ref (r9), .ref (r10), .ref (r11), .ref (r12), .ref (r13), .int (nI (0)), .ref (r15), .ref (r16), .int (nI (0)), .int (nI (0)), .ref (r19), .int (nI (0)), .ref (r21), .ref (r22), .int (nI (0)), .ref (r24), .int (nI (0)), .ref (r26), .ref (r27), .ref (r28), .int (nI (0)), .ref (r30), .ref (r31)])), (r5, .inl (cI, 31, .inl (fun jz => nI (z0 jz)))), (r6, .inl (cI, 31, .inl (fun jz => nI (z0 jz)))), (r7, .inl (cI, 31, .inl (fun jz => nI (z0 jz)))), (r8, .inl (cI, 31, .inl (fun jz => nI (z0 jz)))), (r9, .inl (cI, 80, .inl (fun jz => nI (z0 jz)))), (r10, .inl (cI, 20, .inl (fun jz => nI (z0 jz)))), (r11, .inl (cI, 20, .inl (fun jz => nI (z0 jz)))), (r12, .inl (cI, 12, .inl (fun jz => nI (z0 jz)))), (r13, .inl (cI, 12, .inl (fun jz => nI (z0 jz)))), (r15, .inl (cI, 1300, .inl (fun jz => nI (z0 jz)))), (r16, .inl (cI, 12, .inl (fun jz => nI (z0 jz)))), (r19, .inl (cI, 1300, .inl (fun jz => nI (z0 jz)))), (r21, .inl (cI, 32, .inl (fun jz => nI (z0 jz)))), (r22, .inl (cI, 32, .inl (fun jz => nI (z0 jz)))), (r24, .inl (cI, 2500, .inl (fun jz => nI (z0 jz)))), (r26, .inl (cI, 2500, .inl (fun jz => nI (z0 jz)))), (r27, .inl (cJ, 2500, .inr (.inl (zL)))), (r28, .inl (cI, 4096, .inl (fun jz => nI (z0 jz)))), (r30, .inl (cI, 20, .inl (fun jz => nI (z0 jz)))), (r31, .inl (cZ, 20, .inl (fun jz => bI (no0 jz))))]) 0 rfl (Nat.le_of_ble_eq_true rfl) rfl dX3_init_222 ?_
          refine j_iconst (v := nI (0)) dX3_init_225 (by decide) ?_
          refine j_istore_n [(3, .int (nI (0))), (0, .ref (mq)), (1, .int (x)), (2, .int (y))] dX3_init_226 rfl (by decide) rfl ?_
          obtain ⟨q, hq⟩ : ∃ q : Nat → Nat, q = mkQ [mq, 0, 0, 0, 0, r5, r6, r7, r8, r9, r10, r11, r12, r13, 0, r15, r16, 0, 0, r19, 0, r21, r22, 0, r24, 0, r26, r27, r28, 0, r30, r31] := ⟨_, rfl⟩
          refine j_world (w' := wK cI cJ cZ q R C 0 z0 z0 z0 z0 z0 z0 z0 z0 z0 z0) (by rw [hq]; rfl) ?_
          refine j_sub [1, 0] [(0, .ref (mq)), (3, .int (nI (0)))] rfl ?_
          refine j_lv (lv' := [(0, .ref (q 0)), (3, .int (nI (0)))]) (by rw [hq]; rfl) ?_
          have loop227 : ∀ (n : Nat) (i : Nat) (cf1 cu1 : Nat → Nat), (12 < i + n) → (i ≤ 12) → (∀ j, j < i → cf1 j = 99 ∧ cu1 j = 99) → V k l D (tys3 cI cJ cZ) ({ frames := 6, cells := 20, slots := 14580, locals := 137 } : Room) cX3_init 6 RX3 (wK cI cJ cZ q R C 0 z0 z0 z0 z0 z0 z0 z0 cf1 z0 cu1) (20) (14580) 227 [(0, .ref (q 0)), (3, .int (nI (i)))] [] := by
            intro n
            induction n with
            | zero => intro i cf1 cu1 hm1 hi1 hz1; exfalso; omega
            | succ n ih227 =>
              intro i cf1 cu1 hm1 hi1 hz1
              refine j_iload_n dX3_init_227 rfl 1 rfl ?_
              refine j_bipush (v := nI (12)) dX3_init_228 (by decide) ?_
              refine jn_icmp_ge (tgt := 254) (a := i) (b := 12) (by omega) (by omega) dX3_init_230 (by decide) (fun c230 => ?_) (fun c230 => ?_)
              · refine j_iconst (v := nI (0)) dX3_init_254 (by decide) ?_
                refine j_istore_n [(3, .int (nI (0))), (0, .ref (q 0))] dX3_init_255 rfl (by decide) rfl ?_
                refine j_wext (w2 := wK cI cJ cZ q R C 0 z0 z0 z0 z0 z0 z0 z0 cf1 z0 (fun _ => 99)) (wE_c rfl cE_rfl (wE_c rfl cE_rfl (wE_c rfl cE_rfl (wE_c rfl cE_rfl (wE_c rfl cE_rfl (wE_c rfl cE_rfl (wE_c rfl cE_rfl (wE_c rfl cE_rfl (wE_c rfl cE_rfl (wE_c rfl cE_rfl (wE_c rfl cE_rfl (wE_c rfl (cE_arr (fun j hj => by rw [(hz1 j (by omega)).2])) (wE_c rfl cE_rfl (wE_c rfl cE_rfl (wE_c rfl cE_rfl (wE_c rfl cE_rfl (wE_c rfl cE_rfl (wE_c rfl cE_rfl (wE_c rfl cE_rfl (wE_c rfl cE_rfl (wE_c rfl cE_rfl (wE_n)))))))))))))))))))))) ?_
                refine j_sub [1, 0] [(0, .ref (q 0)), (3, .int (nI (0)))] rfl ?_
                have loop256 : ∀ (n : Nat) (i2 : Nat) (en1 : Nat → Nat), (80 < i2 + n) → (i2 ≤ 80) → (∀ j, j < i2 → en1 j = 99) → V k l D (tys3 cI cJ cZ) ({ frames := 6, cells := 20, slots := 14580, locals := 137 } : Room) cX3_init 6 RX3 (wK cI cJ cZ q R C 0 z0 z0 z0 z0 en1 z0 z0 cf1 z0 (fun _ => 99)) (20) (14580) 256 [(0, .ref (q 0)), (3, .int (nI (i2)))] [] := by
                  intro n
                  induction n with
                  | zero => intro i2 en1 hm2 hi2 hz2; exfalso; omega
                  | succ n ih256 =>
                    intro i2 en1 hm2 hi2 hz2
                    refine j_iload_n dX3_init_256 rfl 1 rfl ?_
                    refine j_bipush (v := nI (80)) dX3_init_257 (by decide) ?_
                    refine jn_icmp_ge (tgt := 275) (a := i2) (b := 80) (by omega) (by omega) dX3_init_259 (by decide) (fun c259 => ?_) (fun c259 => ?_)
                    · refine j_iconst (v := nI (0)) dX3_init_275 (by decide) ?_
                      refine j_istore_n [(3, .int (nI (0))), (0, .ref (q 0))] dX3_init_276 rfl (by decide) rfl ?_
                      refine j_sub [1, 0] [(0, .ref (q 0)), (3, .int (nI (0)))] rfl ?_
                      have loop277 : ∀ (n : Nat) (i3 : Nat) (fp1 : Nat → Nat), (nP R C < i3 + n) → (i3 ≤ nP R C) → (∀ j, j < i3 → fp1 j = 99) → (∀ j, i3 ≤ j → fp1 j = 0) → V k l D (tys3 cI cJ cZ) ({ frames := 6, cells := 20, slots := 14580, locals := 137 } : Room) cX3_init 6 RX3 (wK cI cJ cZ q R C 0 z0 z0 z0 z0 en1 fp1 z0 cf1 z0 (fun _ => 99)) (20) (14580) 277 [(0, .ref (q 0)), (3, .int (nI (i3)))] [] := by
                        intro n
                        induction n with
                        | zero => intro i3 fp1 hm3 hi3 hz3 hy3; exfalso; omega
                        | succ n ih277 =>
                          intro i3 fp1 hm3 hi3 hz3 hy3
                          refine j_iload_n dX3_init_277 rfl 1 rfl ?_
                          refine j_aload_n dX3_init_278 rfl 0 rfl ?_
                          refine gf_X3_79 0 rfl (rfl) dX3_init_279 ?_
                          refine jn_icmp_ge (tgt := 299) (a := i3) (b := nP R C) (by omega) (by omega) dX3_init_282 (by decide) (fun c282 => ?_) (fun c282 => ?_)
                          · refine j_iconst (v := nI (0)) dX3_init_299 (by decide) ?_
                            refine j_istore_n [(3, .int (nI (0))), (0, .ref (q 0))] dX3_init_300 rfl (by decide) rfl ?_
                            have hT0 : TC R C (eN R C 0 0) z0 z0 z0 z0 en1 fp1 z0 cf1 z0 := by rw [eN_0 hG]; exact TC_0 (fun j hj => hz2 j (by omega)) (fun j hj => hz3 j (by omega)) (fun j hj => hy3 j (by omega)) (fun j hj => (hz1 j (by omega)).1)
                            refine j_world (w' := wK cI cJ cZ q R C (eN R C 0 0) z0 z0 z0 z0 en1 fp1 z0 cf1 z0 (fun _ => 99)) (by rw [eN_0 hG]) ?_
                            refine j_lv (lv' := [(3, .int (nI (0 * (C + 1) + 0))), (0, .ref (q 0))]) (by rw [Nat.zero_mul]) ?_
                            refine j_sub [1, 0] [(0, .ref (q 0)), (3, .int (nI (0 * (C + 1) + 0)))] rfl ?_
                            have loop301 : ∀ (n : Nat) (yy xx : Nat) (lw8 hg8 n18 n28 en8 fp8 la8 cf8 cl8 : Nat → Nat), (nP R C < yy * (C + 1) + xx + n) → (xx ≤ C) → (yy ≤ R ∨ (yy = R + 1 ∧ xx = 0)) → (TC R C (eN R C yy xx) lw8 hg8 n18 n28 en8 fp8 la8 cf8 cl8) → V k l D (tys3 cI cJ cZ) ({ frames := 6, cells := 20, slots := 14580, locals := 137 } : Room) cX3_init 6 RX3 (wK cI cJ cZ q R C (eN R C yy xx) lw8 hg8 n18 n28 en8 fp8 la8 cf8 cl8 (fun _ => 99)) (20) (14580) 301 [(0, .ref (q 0)), (3, .int (nI (yy * (C + 1) + xx)))] [] := by
                              intro n
                              induction n with
                              | zero => intro yy xx lw8 hg8 n18 n28 en8 fp8 la8 cf8 cl8 hm4 hxC hyx hT8; exfalso; have := pq_le hxC hyx; omega
                              | succ n ih301 =>
                                intro yy xx lw8 hg8 n18 n28 en8 fp8 la8 cf8 cl8 hm4 hxC hyx hT8
                                have hple := pq_le hxC hyx
                                refine j_iload_n dX3_init_301 rfl 1 rfl ?_
                                refine j_aload_n dX3_init_302 rfl 0 rfl ?_
                                refine gf_X3_79 0 rfl (rfl) dX3_init_303 ?_
                                refine jn_icmp_ge (tgt := 410) (a := yy * (C + 1) + xx) (b := nP R C) (by omega) (by omega) dX3_init_306 (by decide) (fun c306 => ?_) (fun c306 => ?_)
                                · have hxy : yy = R + 1 ∧ xx = 0 := by
                                    rcases hyx with h9 | h9
                                    · exact absurd (pq_lt h9 hxC) (by omega)
                                    · exact h9
                                  obtain ⟨h9, h8⟩ := hxy
                                  subst h9 h8
                                  rw [eN_R] at hT8
                                  obtain ⟨f1, f2, f3, f4, f5, f6, f7, f8, f9⟩ := TC_f hG hT8
                                  refine j_world (w' := wK cI cJ cZ q R C (nE R C) lw8 hg8 n18 n28 en8 fp8 la8 cf8 cl8 (fun _ => 99)) (by rw [eN_R]) ?_
                                  refine j_wext (w2 := wM cI cJ cZ q R C 0 false false 0 0 0 0 0 z0 (fun _ => 99) z0 z0 z0 z0 z0 zL z0 z0 no0) (wE_c rfl cE_rfl (wE_c rfl (cE_arr (fun j hj => by rw [f1])) (wE_c rfl (cE_arr (fun j hj => by rw [f2])) (wE_c rfl (cE_arr (fun j hj => by rw [f3])) (wE_c rfl (cE_arr (fun j hj => by rw [f4])) (wE_c rfl (cE_arr (fun j hj => by rw [f5 j hj])) (wE_c rfl (cE_arr (fun j hj => by rw [f6 j hj])) (wE_c rfl (cE_arr (fun j hj => by rw [f7 j hj])) (wE_c rfl (cE_arr (fun j hj => by rw [f8 j hj])) (wE_c rfl (cE_arr (fun j hj => by rw [f9 j hj])) (wE_c rfl cE_rfl (wE_c rfl cE_rfl (wE_c rfl cE_rfl (wE_c rfl cE_rfl (wE_c rfl cE_rfl (wE_c rfl cE_rfl (wE_c rfl cE_rfl (wE_c rfl cE_rfl (wE_c rfl cE_rfl (wE_c rfl cE_rfl (wE_c rfl cE_rfl (wE_n)))))))))))))))))))))) ?_
                                  refine j_aload_n dX3_init_410 rfl 0 rfl ?_
                                  refine j_vW (av := []) (c_findLoops l hfl D cI cJ cZ q R C hG 0 false false 0 0 0 0 0 z0 (fun _ => 99) z0 z0 z0 z0 z0 zL z0 z0 no0 (fun p _ => ⟨rfl, rfl⟩) hcap rfl) 0 rfl rfl mw2_201 mw2_203 msel12 mw1_4 mw2_204 rfl hd_X3_findLoops rfl ⟨rfl, rfl⟩ ⟨Nat.le_of_ble_eq_true rfl, Nat.le_of_ble_eq_true rfl⟩ ⟨Nat.le_of_ble_eq_true rfl, Nat.le_of_ble_eq_true rfl⟩ (Nat.le_of_ble_eq_true rfl) rfl dX3_init_411 ?_
                                  rintro _ _ ⟨rfl, nl2, lp2, de2, se2, hL2, hJ2, rfl⟩
                                  refine j_st (st' := []) rfl ?_
                                  exact j_vret (tys' := []) rfl hR dX3_init_414 (⟨rfl, q, by rw [hq]; rfl, MW_of ⟨hL2, (fun h => nomatch h), (fun h => nomatch h), hJ2, by decide⟩⟩)
                                · have hyR : yy ≤ R := by
                                    rcases hyx with h9 | ⟨h9, h8⟩
                                    · exact h9
                                    · exfalso; subst h9 h8; unfold nP at c306; omega
                                  refine j_iload_n dX3_init_309 rfl 1 rfl ?_
                                  refine j_aload_n dX3_init_310 rfl 0 rfl ?_
                                  refine gf_X3_76 0 rfl (rfl) dX3_init_311 ?_
                                  refine j_iconst (v := nI (1)) dX3_init_314 (by decide) ?_
                                  refine jn_iadd (v := C + 1) dX3_init_315 rfl ?_
                                  refine j_idiv dX3_init_316 (fun h => absurd (nI_eq0 (by omega) h) (by omega)) rfl ?_
                                  refine j_topi (y := nI (yy)) (by rw [pk_div (by have := pq_lt hyR hxC; omega) (by omega) (by omega), pt_div hxC]) ?_
                                  refine j_istore [(4, .int (nI (yy))), (0, .ref (q 0)), (3, .int (nI (yy * (C + 1) + xx)))] dX3_init_317 (by decide) rfl ?_
                                  refine j_iload_n dX3_init_319 rfl 2 rfl ?_
                                  refine j_aload_n dX3_init_320 rfl 1 rfl ?_
                                  refine gf_X3_76 0 rfl (rfl) dX3_init_321 ?_
                                  refine j_iconst (v := nI (1)) dX3_init_324 (by decide) ?_
                                  refine jn_iadd (v := C + 1) dX3_init_325 rfl ?_
                                  refine j_irem dX3_init_326 (fun h => absurd (nI_eq0 (by omega) h) (by omega)) rfl ?_
                                  refine j_topi (y := nI (xx)) (by rw [pk_rem (by have := pq_lt hyR hxC; omega) (by omega) (by omega), pt_mod hxC]) ?_
                                  refine j_istore [(5, .int (nI (xx))), (4, .int (nI (yy))), (0, .ref (q 0)), (3, .int (nI (yy * (C + 1) + xx)))] dX3_init_327 (by decide) rfl ?_
                                  refine j_iload dX3_init_329 0 rfl ?_
                                  refine j_aload_n dX3_init_331 rfl 2 rfl ?_
                                  refine gf_X3_76 0 rfl (rfl) dX3_init_332 ?_
                                  refine jn_icmp_ge (tgt := 364) (a := xx) (b := C) (by omega) (by omega) dX3_init_335 (by decide) (fun c335 => ?_) (fun c335 => ?_)
                                  · refine j_iload dX3_init_364 1 rfl ?_
                                    refine j_aload_n dX3_init_366 rfl 2 rfl ?_
                                    refine gf_X3_72 0 rfl (rfl) dX3_init_367 ?_
                                    refine jn_icmp_ge (tgt := 404) (a := yy) (b := R) (by omega) (by omega) dX3_init_370 (by decide) (fun c370 => ?_) (fun c370 => ?_)
                                    · refine j_iinc (n0 := 3) (v := nI (yy * (C + 1) + xx + 1)) [(3, .int (nI (yy * (C + 1) + xx + 1))), (5, .int (nI (xx))), (4, .int (nI (yy))), (0, .ref (q 0))] dX3_init_404 rfl (by exact nI_add (yy * (C + 1) + xx) 1) (by decide) rfl ?_
                                      refine j_goto (tgt := 301) dX3_init_407 (by decide) ?_
                                      refine j_sub [3, 0] [(0, .ref (q 0)), (3, .int (nI (yy * (C + 1) + xx + 1)))] rfl ?_
                                      have hen := (eN_t hG hyR hxC).2.2.2
                                      have hen1 := hen.1
                                      rw [if_neg (show ¬ xx < C by omega), if_neg (show ¬ yy < R by omega)] at hen1
                                      simp only [Nat.add_zero] at hen1
                                      have hxe : xx = C := by omega
                                      subst hxe
                                      rw [hen.2] at hen1
                                      rw [← hen1] at hT8 ⊢
                                      have hmul : (yy + 1) * (xx + 1) = yy * (xx + 1) + (xx + 1) := by rw [Nat.add_mul, Nat.one_mul]
                                      refine j_lv (lv' := [(0, .ref (q 0)), (3, .int (nI ((yy + 1) * (xx + 1) + 0)))]) (by rw [hmul]; rfl) ?_
                                      exact ih301 (yy + 1) 0 lw8 hg8 n18 n28 en8 fp8 la8 cf8 cl8 (by omega) (by omega) (by omega) hT8
                                    · refine j_aload_n dX3_init_373 rfl 2 rfl ?_
                                      refine j_iload_n dX3_init_374 rfl 3 rfl ?_
                                      refine j_iload_n dX3_init_375 rfl 3 rfl ?_
                                      refine j_aload_n dX3_init_376 rfl 2 rfl ?_
                                      refine gf_X3_76 0 rfl (rfl) dX3_init_377 ?_
                                      refine jn_iadd (v := (yy * (C + 1) + xx) + C) dX3_init_380 rfl ?_
                                      refine j_iconst (v := nI (1)) dX3_init_381 (by decide) ?_
                                      refine jn_iadd (v := ((yy * (C + 1) + xx) + C) + 1) dX3_init_382 rfl ?_
                                      refine j_aload_n dX3_init_383 rfl 2 rfl ?_
                                      refine j_iload dX3_init_384 1 rfl ?_
                                      refine j_iload dX3_init_386 0 rfl ?_
                                      refine j_iconst (v := nI (1)) dX3_init_388 (by decide) ?_
                                      refine j_isub dX3_init_389 rfl ?_
                                      refine j_topi (y := eI (pd xx)) (eI_pd (by omega)) ?_
                                      refine j_st (st' := [.int (eI (pd xx)), .int (eI (yy)), .ref (q 0), .int (nI (((yy * (C + 1) + xx) + C) + 1)), .int (nI (yy * (C + 1) + xx)), .ref (q 0)]) (by rw [eI_ne (show ¬ yy = 99 by omega)]) ?_
                                      refine j_vW (av := [.int (eI (yy)), .int (eI (pd xx))]) (k_cell l hfl D cI cJ cZ q R C hG (eN R C yy xx) lw8 hg8 n18 n28 en8 fp8 la8 cf8 cl8 (fun _ => 99) (yy) (pd xx) (by first | omega | exact pd_lt (by omega)) (by first | omega | exact pd_lt (by omega))) 0 rfl rfl mw2_185 mw2_187 msel8 mw1_4 mw2_188 rfl hd_X3_cell rfl ⟨rfl, rfl⟩ ⟨Nat.le_of_ble_eq_true rfl, Nat.le_of_ble_eq_true rfl⟩ ⟨Nat.le_of_ble_eq_true rfl, Nat.le_of_ble_eq_true rfl⟩ (Nat.le_of_ble_eq_true rfl) rfl dX3_init_390 ?_
                                      rintro _ _ ⟨rfl, rfl⟩
                                      refine j_st (st' := [.int (eI (ccell R C yy (pd xx))), .int (nI (((yy * (C + 1) + xx) + C) + 1)), .int (nI (yy * (C + 1) + xx)), .ref (q 0)]) rfl ?_
                                      refine j_aload_n dX3_init_393 rfl 2 rfl ?_
                                      refine j_iload dX3_init_394 1 rfl ?_
                                      refine j_iload dX3_init_396 0 rfl ?_
                                      refine j_st (st' := [.int (eI (xx)), .int (eI (yy)), .ref (q 0), .int (eI (ccell R C yy (pd xx))), .int (nI (((yy * (C + 1) + xx) + C) + 1)), .int (nI (yy * (C + 1) + xx)), .ref (q 0)]) (by rw [eI_ne (show ¬ xx = 99 by omega), eI_ne (show ¬ yy = 99 by omega)]) ?_
                                      refine j_vW (av := [.int (eI (yy)), .int (eI (xx))]) (k_cell l hfl D cI cJ cZ q R C hG (eN R C yy xx) lw8 hg8 n18 n28 en8 fp8 la8 cf8 cl8 (fun _ => 99) (yy) (xx) (by first | omega | exact pd_lt (by omega)) (by first | omega | exact pd_lt (by omega))) 0 rfl rfl mw2_185 mw2_187 msel8 mw1_4 mw2_188 rfl hd_X3_cell rfl ⟨rfl, rfl⟩ ⟨Nat.le_of_ble_eq_true rfl, Nat.le_of_ble_eq_true rfl⟩ ⟨Nat.le_of_ble_eq_true rfl, Nat.le_of_ble_eq_true rfl⟩ (Nat.le_of_ble_eq_true rfl) rfl dX3_init_398 ?_
                                      rintro _ _ ⟨rfl, rfl⟩
                                      refine j_st (st' := [.int (eI (ccell R C yy xx)), .int (eI (ccell R C yy (pd xx))), .int (nI (((yy * (C + 1) + xx) + C) + 1)), .int (nI (yy * (C + 1) + xx)), .ref (q 0)]) rfl ?_
                                      obtain ⟨d1, d2, d3, d4⟩ := (eN_t hG hyR hxC).2.2.1 c370 c335
                                      obtain ⟨m1, m2, m3, m4⟩ := jn_d d1 d2 d3 d4
                                      refine j_st (st' := [.int (eI (mOther R C (eN R C yy xx))), .int (eI (mOne R C (eN R C yy xx))), .int (nI (mHigh R C (eN R C yy xx))), .int (nI (mLow R C (eN R C yy xx))), .ref (q 0)]) (by rw [m1, m2, m3, m4]) ?_
                                      refine j_vW (av := [.int (nI (mLow R C (eN R C yy xx))), .int (nI (mHigh R C (eN R C yy xx))), .int (eI (mOne R C (eN R C yy xx))), .int (eI (mOther R C (eN R C yy xx)))]) (k_join l hfl D cI cJ cZ q R C hG (eN R C yy xx) lw8 hg8 n18 n28 en8 fp8 la8 cf8 cl8 (fun _ => 99) d1 hT8) 0 rfl rfl mw2_189 mw2_191 msel9 mw1_4 mw2_192 rfl hd_X3_join rfl ⟨rfl, rfl⟩ ⟨Nat.le_of_ble_eq_true rfl, Nat.le_of_ble_eq_true rfl⟩ ⟨Nat.le_of_ble_eq_true rfl, Nat.le_of_ble_eq_true rfl⟩ (Nat.le_of_ble_eq_true rfl) rfl dX3_init_401 ?_
                                      rintro _ _ ⟨rfl, lwb, hgb, nab, nbb, enb, fpb, lab, cfb, clb, hTb, rfl⟩
                                      refine j_st (st' := []) rfl ?_
                                      refine j_iinc (n0 := 3) (v := nI (yy * (C + 1) + xx + 1)) [(3, .int (nI (yy * (C + 1) + xx + 1))), (5, .int (nI (xx))), (4, .int (nI (yy))), (0, .ref (q 0))] dX3_init_404 rfl (by exact nI_add (yy * (C + 1) + xx) 1) (by decide) rfl ?_
                                      refine j_goto (tgt := 301) dX3_init_407 (by decide) ?_
                                      refine j_sub [3, 0] [(0, .ref (q 0)), (3, .int (nI (yy * (C + 1) + xx + 1)))] rfl ?_
                                      have hen := (eN_t hG hyR hxC).2.2.2
                                      have hen1 := hen.1
                                      rw [if_neg (show ¬ xx < C by omega), if_pos c370] at hen1
                                      simp only [Nat.add_zero] at hen1
                                      have hxe : xx = C := by omega
                                      subst hxe
                                      rw [hen.2] at hen1
                                      rw [← hen1] at hTb ⊢
                                      have hmul : (yy + 1) * (xx + 1) = yy * (xx + 1) + (xx + 1) := by rw [Nat.add_mul, Nat.one_mul]
                                      refine j_lv (lv' := [(0, .ref (q 0)), (3, .int (nI ((yy + 1) * (xx + 1) + 0)))]) (by rw [hmul]; rfl) ?_
                                      exact ih301 (yy + 1) 0 lwb hgb nab nbb enb fpb lab cfb clb (by omega) (by omega) (by omega) hTb
                                  · refine j_aload_n dX3_init_338 rfl 2 rfl ?_
                                    refine j_iload_n dX3_init_339 rfl 3 rfl ?_
                                    refine j_iload_n dX3_init_340 rfl 3 rfl ?_
                                    refine j_iconst (v := nI (1)) dX3_init_341 (by decide) ?_
                                    refine jn_iadd (v := (yy * (C + 1) + xx) + 1) dX3_init_342 rfl ?_
                                    refine j_aload_n dX3_init_343 rfl 2 rfl ?_
                                    refine j_iload dX3_init_344 1 rfl ?_
                                    refine j_iconst (v := nI (1)) dX3_init_346 (by decide) ?_
                                    refine j_isub dX3_init_347 rfl ?_
                                    refine j_topi (y := eI (pd yy)) (eI_pd (by omega)) ?_
                                    refine j_iload dX3_init_348 0 rfl ?_
                                    refine j_st (st' := [.int (eI (xx)), .int (eI (pd yy)), .ref (q 0), .int (nI ((yy * (C + 1) + xx) + 1)), .int (nI (yy * (C + 1) + xx)), .ref (q 0)]) (by rw [eI_ne (show ¬ xx = 99 by omega)]) ?_
                                    refine j_vW (av := [.int (eI (pd yy)), .int (eI (xx))]) (k_cell l hfl D cI cJ cZ q R C hG (eN R C yy xx) lw8 hg8 n18 n28 en8 fp8 la8 cf8 cl8 (fun _ => 99) (pd yy) (xx) (by first | omega | exact pd_lt (by omega)) (by first | omega | exact pd_lt (by omega))) 0 rfl rfl mw2_185 mw2_187 msel8 mw1_4 mw2_188 rfl hd_X3_cell rfl ⟨rfl, rfl⟩ ⟨Nat.le_of_ble_eq_true rfl, Nat.le_of_ble_eq_true rfl⟩ ⟨Nat.le_of_ble_eq_true rfl, Nat.le_of_ble_eq_true rfl⟩ (Nat.le_of_ble_eq_true rfl) rfl dX3_init_350 ?_
                                    rintro _ _ ⟨rfl, rfl⟩
                                    refine j_st (st' := [.int (eI (ccell R C (pd yy) xx)), .int (nI ((yy * (C + 1) + xx) + 1)), .int (nI (yy * (C + 1) + xx)), .ref (q 0)]) rfl ?_
                                    refine j_aload_n dX3_init_353 rfl 2 rfl ?_
                                    refine j_iload dX3_init_354 1 rfl ?_
                                    refine j_iload dX3_init_356 0 rfl ?_
                                    refine j_st (st' := [.int (eI (xx)), .int (eI (yy)), .ref (q 0), .int (eI (ccell R C (pd yy) xx)), .int (nI ((yy * (C + 1) + xx) + 1)), .int (nI (yy * (C + 1) + xx)), .ref (q 0)]) (by rw [eI_ne (show ¬ xx = 99 by omega), eI_ne (show ¬ yy = 99 by omega)]) ?_
                                    refine j_vW (av := [.int (eI (yy)), .int (eI (xx))]) (k_cell l hfl D cI cJ cZ q R C hG (eN R C yy xx) lw8 hg8 n18 n28 en8 fp8 la8 cf8 cl8 (fun _ => 99) (yy) (xx) (by first | omega | exact pd_lt (by omega)) (by first | omega | exact pd_lt (by omega))) 0 rfl rfl mw2_185 mw2_187 msel8 mw1_4 mw2_188 rfl hd_X3_cell rfl ⟨rfl, rfl⟩ ⟨Nat.le_of_ble_eq_true rfl, Nat.le_of_ble_eq_true rfl⟩ ⟨Nat.le_of_ble_eq_true rfl, Nat.le_of_ble_eq_true rfl⟩ (Nat.le_of_ble_eq_true rfl) rfl dX3_init_358 ?_
                                    rintro _ _ ⟨rfl, rfl⟩
                                    refine j_st (st' := [.int (eI (ccell R C yy xx)), .int (eI (ccell R C (pd yy) xx)), .int (nI ((yy * (C + 1) + xx) + 1)), .int (nI (yy * (C + 1) + xx)), .ref (q 0)]) rfl ?_
                                    obtain ⟨b1, b2, b3, b4⟩ := (eN_t hG hyR hxC).1 c335
                                    obtain ⟨k1, k2, k3, k4⟩ := jn_r b1 b2 b3 b4
                                    refine j_st (st' := [.int (eI (mOther R C (eN R C yy xx))), .int (eI (mOne R C (eN R C yy xx))), .int (nI (mHigh R C (eN R C yy xx))), .int (nI (mLow R C (eN R C yy xx))), .ref (q 0)]) (by rw [k1, k2, k3, k4]) ?_
                                    refine j_vW (av := [.int (nI (mLow R C (eN R C yy xx))), .int (nI (mHigh R C (eN R C yy xx))), .int (eI (mOne R C (eN R C yy xx))), .int (eI (mOther R C (eN R C yy xx)))]) (k_join l hfl D cI cJ cZ q R C hG (eN R C yy xx) lw8 hg8 n18 n28 en8 fp8 la8 cf8 cl8 (fun _ => 99) b1 hT8) 0 rfl rfl mw2_189 mw2_191 msel9 mw1_4 mw2_192 rfl hd_X3_join rfl ⟨rfl, rfl⟩ ⟨Nat.le_of_ble_eq_true rfl, Nat.le_of_ble_eq_true rfl⟩ ⟨Nat.le_of_ble_eq_true rfl, Nat.le_of_ble_eq_true rfl⟩ (Nat.le_of_ble_eq_true rfl) rfl dX3_init_361 ?_
                                    rintro _ _ ⟨rfl, lwa, hga, naa, nba, ena, fpa, laa, cfa, cla, hTa, rfl⟩
                                    refine j_st (st' := []) rfl ?_
                                    refine j_iload dX3_init_364 1 rfl ?_
                                    refine j_aload_n dX3_init_366 rfl 2 rfl ?_
                                    refine gf_X3_72 0 rfl (rfl) dX3_init_367 ?_
                                    refine jn_icmp_ge (tgt := 404) (a := yy) (b := R) (by omega) (by omega) dX3_init_370 (by decide) (fun c370 => ?_) (fun c370 => ?_)
                                    · refine j_iinc (n0 := 3) (v := nI (yy * (C + 1) + xx + 1)) [(3, .int (nI (yy * (C + 1) + xx + 1))), (5, .int (nI (xx))), (4, .int (nI (yy))), (0, .ref (q 0))] dX3_init_404 rfl (by exact nI_add (yy * (C + 1) + xx) 1) (by decide) rfl ?_
                                      refine j_goto (tgt := 301) dX3_init_407 (by decide) ?_
                                      refine j_sub [3, 0] [(0, .ref (q 0)), (3, .int (nI (yy * (C + 1) + xx + 1)))] rfl ?_
                                      have hen := (eN_t hG hyR hxC).2.2.2
                                      have hen1 := hen.1
                                      rw [if_pos c335, if_neg (show ¬ yy < R by omega)] at hen1
                                      simp only [Nat.add_zero] at hen1
                                      rw [← hen1] at hTa ⊢
                                      exact ih301 yy (xx + 1) lwa hga naa nba ena fpa laa cfa cla (by omega) (by omega) (Or.inl hyR) hTa
                                    · refine j_aload_n dX3_init_373 rfl 2 rfl ?_
                                      refine j_iload_n dX3_init_374 rfl 3 rfl ?_
                                      refine j_iload_n dX3_init_375 rfl 3 rfl ?_
                                      refine j_aload_n dX3_init_376 rfl 2 rfl ?_
                                      refine gf_X3_76 0 rfl (rfl) dX3_init_377 ?_
                                      refine jn_iadd (v := (yy * (C + 1) + xx) + C) dX3_init_380 rfl ?_
                                      refine j_iconst (v := nI (1)) dX3_init_381 (by decide) ?_
                                      refine jn_iadd (v := ((yy * (C + 1) + xx) + C) + 1) dX3_init_382 rfl ?_
                                      refine j_aload_n dX3_init_383 rfl 2 rfl ?_
                                      refine j_iload dX3_init_384 1 rfl ?_
                                      refine j_iload dX3_init_386 0 rfl ?_
                                      refine j_iconst (v := nI (1)) dX3_init_388 (by decide) ?_
                                      refine j_isub dX3_init_389 rfl ?_
                                      refine j_topi (y := eI (pd xx)) (eI_pd (by omega)) ?_
                                      refine j_st (st' := [.int (eI (pd xx)), .int (eI (yy)), .ref (q 0), .int (nI (((yy * (C + 1) + xx) + C) + 1)), .int (nI (yy * (C + 1) + xx)), .ref (q 0)]) (by rw [eI_ne (show ¬ yy = 99 by omega)]) ?_
                                      refine j_vW (av := [.int (eI (yy)), .int (eI (pd xx))]) (k_cell l hfl D cI cJ cZ q R C hG (eN R C yy xx + 1) lwa hga naa nba ena fpa laa cfa cla (fun _ => 99) (yy) (pd xx) (by first | omega | exact pd_lt (by omega)) (by first | omega | exact pd_lt (by omega))) 0 rfl rfl mw2_185 mw2_187 msel8 mw1_4 mw2_188 rfl hd_X3_cell rfl ⟨rfl, rfl⟩ ⟨Nat.le_of_ble_eq_true rfl, Nat.le_of_ble_eq_true rfl⟩ ⟨Nat.le_of_ble_eq_true rfl, Nat.le_of_ble_eq_true rfl⟩ (Nat.le_of_ble_eq_true rfl) rfl dX3_init_390 ?_
                                      rintro _ _ ⟨rfl, rfl⟩
                                      refine j_st (st' := [.int (eI (ccell R C yy (pd xx))), .int (nI (((yy * (C + 1) + xx) + C) + 1)), .int (nI (yy * (C + 1) + xx)), .ref (q 0)]) rfl ?_
                                      refine j_aload_n dX3_init_393 rfl 2 rfl ?_
                                      refine j_iload dX3_init_394 1 rfl ?_
                                      refine j_iload dX3_init_396 0 rfl ?_
                                      refine j_st (st' := [.int (eI (xx)), .int (eI (yy)), .ref (q 0), .int (eI (ccell R C yy (pd xx))), .int (nI (((yy * (C + 1) + xx) + C) + 1)), .int (nI (yy * (C + 1) + xx)), .ref (q 0)]) (by rw [eI_ne (show ¬ xx = 99 by omega), eI_ne (show ¬ yy = 99 by omega)]) ?_
                                      refine j_vW (av := [.int (eI (yy)), .int (eI (xx))]) (k_cell l hfl D cI cJ cZ q R C hG (eN R C yy xx + 1) lwa hga naa nba ena fpa laa cfa cla (fun _ => 99) (yy) (xx) (by first | omega | exact pd_lt (by omega)) (by first | omega | exact pd_lt (by omega))) 0 rfl rfl mw2_185 mw2_187 msel8 mw1_4 mw2_188 rfl hd_X3_cell rfl ⟨rfl, rfl⟩ ⟨Nat.le_of_ble_eq_true rfl, Nat.le_of_ble_eq_true rfl⟩ ⟨Nat.le_of_ble_eq_true rfl, Nat.le_of_ble_eq_true rfl⟩ (Nat.le_of_ble_eq_true rfl) rfl dX3_init_398 ?_
                                      rintro _ _ ⟨rfl, rfl⟩
                                      refine j_st (st' := [.int (eI (ccell R C yy xx)), .int (eI (ccell R C yy (pd xx))), .int (nI (((yy * (C + 1) + xx) + C) + 1)), .int (nI (yy * (C + 1) + xx)), .ref (q 0)]) rfl ?_
                                      obtain ⟨d1, d2, d3, d4⟩ := (eN_t hG hyR hxC).2.1 c370 c335
                                      obtain ⟨m1, m2, m3, m4⟩ := jn_d d1 d2 d3 d4
                                      refine j_st (st' := [.int (eI (mOther R C (eN R C yy xx + 1))), .int (eI (mOne R C (eN R C yy xx + 1))), .int (nI (mHigh R C (eN R C yy xx + 1))), .int (nI (mLow R C (eN R C yy xx + 1))), .ref (q 0)]) (by rw [m1, m2, m3, m4]) ?_
                                      refine j_vW (av := [.int (nI (mLow R C (eN R C yy xx + 1))), .int (nI (mHigh R C (eN R C yy xx + 1))), .int (eI (mOne R C (eN R C yy xx + 1))), .int (eI (mOther R C (eN R C yy xx + 1)))]) (k_join l hfl D cI cJ cZ q R C hG (eN R C yy xx + 1) lwa hga naa nba ena fpa laa cfa cla (fun _ => 99) d1 hTa) 0 rfl rfl mw2_189 mw2_191 msel9 mw1_4 mw2_192 rfl hd_X3_join rfl ⟨rfl, rfl⟩ ⟨Nat.le_of_ble_eq_true rfl, Nat.le_of_ble_eq_true rfl⟩ ⟨Nat.le_of_ble_eq_true rfl, Nat.le_of_ble_eq_true rfl⟩ (Nat.le_of_ble_eq_true rfl) rfl dX3_init_401 ?_
                                      rintro _ _ ⟨rfl, lwb, hgb, nab, nbb, enb, fpb, lab, cfb, clb, hTb, rfl⟩
                                      refine j_st (st' := []) rfl ?_
                                      refine j_iinc (n0 := 3) (v := nI (yy * (C + 1) + xx + 1)) [(3, .int (nI (yy * (C + 1) + xx + 1))), (5, .int (nI (xx))), (4, .int (nI (yy))), (0, .ref (q 0))] dX3_init_404 rfl (by exact nI_add (yy * (C + 1) + xx) 1) (by decide) rfl ?_
                                      refine j_goto (tgt := 301) dX3_init_407 (by decide) ?_
                                      refine j_sub [3, 0] [(0, .ref (q 0)), (3, .int (nI (yy * (C + 1) + xx + 1)))] rfl ?_
                                      have hen := (eN_t hG hyR hxC).2.2.2
                                      have hen1 := hen.1
                                      rw [if_pos c335, if_pos c370] at hen1
                                      rw [← hen1] at hTb ⊢
                                      exact ih301 yy (xx + 1) lwb hgb nab nbb enb fpb lab cfb clb (by omega) (by omega) (Or.inl hyR) hTb
                            exact loop301 (nP R C + 2) 0 0 z0 z0 z0 z0 en1 fp1 z0 cf1 z0 (by omega) (by omega) (Or.inl (by omega)) hT0
                          · refine j_aload_n dX3_init_285 rfl 0 rfl ?_
                            refine gf_X3_25 0 rfl (rfl) dX3_init_286 ?_
                            refine j_iload_n dX3_init_289 rfl 1 rfl ?_
                            refine j_bipush (v := nI (99)) dX3_init_290 (by decide) ?_
                            refine jn_iastN (wK cI cJ cZ q R C 0 z0 z0 z0 z0 en1 (va_up fp1 i3 99) z0 cf1 z0 (fun _ => 99)) 6 0 rfl rfl (by omega) (by omega) rfl dX3_init_292 ?_
                            refine j_iinc (n0 := 1) (v := nI (i3 + 1)) [(3, .int (nI (i3 + 1))), (0, .ref (q 0))] dX3_init_293 rfl (by exact nI_add (i3) 1) (by decide) rfl ?_
                            refine j_goto (tgt := 277) dX3_init_296 (by decide) ?_
                            refine j_sub [1, 0] [(0, .ref (q 0)), (3, .int (nI (i3 + 1)))] rfl ?_
                            exact ih277 (i3 + 1) (va_up fp1 i3 99) (by omega) (by omega) (fun j h => if h2 : j = i3 then by rw [h2, va_up_self] else by rw [va_up_ne _ _ h2]; exact hz3 j (by omega)) (fun j h => by rw [va_up_ne _ _ (by omega)]; exact hy3 j (by omega))
                      exact loop277 (nP R C + 2) 0 z0 (by omega) (by omega) (fun j h => absurd h (by omega)) (fun j _ => rfl)
                    · refine j_aload_n dX3_init_262 rfl 0 rfl ?_
                      refine gf_X3_22 0 rfl (rfl) dX3_init_263 ?_
                      refine j_iload_n dX3_init_266 rfl 1 rfl ?_
                      refine j_iconst (v := (-1)) dX3_init_267 (by decide) ?_
                      refine j_st (st' := [.int (eI (99)), .int (nI (i2)), .ref (q 9)]) (by rfl) ?_
                      refine jn_iastE (wK cI cJ cZ q R C 0 z0 z0 z0 z0 (va_up en1 i2 99) z0 z0 cf1 z0 (fun _ => 99)) 5 0 rfl rfl (by omega) (by omega) rfl dX3_init_268 ?_
                      refine j_iinc (n0 := 1) (v := nI (i2 + 1)) [(3, .int (nI (i2 + 1))), (0, .ref (q 0))] dX3_init_269 rfl (by exact nI_add (i2) 1) (by decide) rfl ?_
                      refine j_goto (tgt := 256) dX3_init_272 (by decide) ?_
                      refine j_sub [1, 0] [(0, .ref (q 0)), (3, .int (nI (i2 + 1)))] rfl ?_
                      exact ih256 (i2 + 1) (va_up en1 i2 99) (by omega) (by omega) (fun j h => if h2 : j = i2 then by rw [h2, va_up_self] else by rw [va_up_ne _ _ h2]; exact hz2 j (by omega))
                exact loop256 82 0 z0 (by omega) (by omega) (fun j h => absurd h (by omega))
              · refine j_aload_n dX3_init_233 rfl 0 rfl ?_
                refine gf_X3_40 0 rfl (rfl) dX3_init_234 ?_
                refine j_iload_n dX3_init_237 rfl 1 rfl ?_
                refine j_iconst (v := (-1)) dX3_init_238 (by decide) ?_
                refine j_st (st' := [.int (eI (99)), .int (nI (i)), .ref (q 16)]) (by rfl) ?_
                refine jn_iastE (wK cI cJ cZ q R C 0 z0 z0 z0 z0 z0 z0 z0 cf1 z0 (va_up cu1 i 99)) 11 0 rfl rfl (by omega) (by omega) rfl dX3_init_239 ?_
                refine j_aload_n dX3_init_240 rfl 0 rfl ?_
                refine gf_X3_31 0 rfl (rfl) dX3_init_241 ?_
                refine j_iload_n dX3_init_244 rfl 1 rfl ?_
                refine j_bipush (v := nI (99)) dX3_init_245 (by decide) ?_
                refine jn_iastN (wK cI cJ cZ q R C 0 z0 z0 z0 z0 z0 z0 z0 (va_up cf1 i 99) z0 (va_up cu1 i 99)) 8 0 rfl rfl (by omega) (by omega) rfl dX3_init_247 ?_
                refine j_iinc (n0 := 1) (v := nI (i + 1)) [(3, .int (nI (i + 1))), (0, .ref (q 0))] dX3_init_248 rfl (by exact nI_add (i) 1) (by decide) rfl ?_
                refine j_goto (tgt := 227) dX3_init_251 (by decide) ?_
                refine j_sub [1, 0] [(0, .ref (q 0)), (3, .int (nI (i + 1)))] rfl ?_
                exact ih227 (i + 1) (va_up cf1 i 99) (va_up cu1 i 99) (by omega) (by omega) (fun j h => if h2 : j = i then by rw [h2, va_up_self, va_up_self]; exact ⟨rfl, rfl⟩ else by rw [va_up_ne _ _ h2, va_up_ne _ _ h2]; exact hz1 j (by omega))
          exact loop227 14 0 z0 z0 (by omega) (by omega) (fun j h => absurd h (by omega))
        · refine j_iconst (v := nI (2)) dX3_init_200 (by decide) ?_
          refine j_goto (tgt := 205) dX3_init_201 (by decide) ?_
          have eC : C = 2 := szI_f (by decide) hyC (by first | exact Or.inl c192 | exact Or.inr (by rw [Int32.lt_iff_toInt_lt]; rw [Int32.le_iff_toInt_le] at c197; omega))
          refine j_st (st' := [.int (nI (C)), .ref (mq)]) (by rw [eC]) ?_
          refine pf_X3_76 ([(mq, .inr (3, [.int (nI (0)), .int (nI (R)), .int (nI (C)), .int (nI (0)), .int (nI (0)), .ref (r5), .ref (r6), .ref (r7), .ref (r8), .ref (r9), .ref (r10), .ref (r11), .ref (r12), .ref (r13), .int (nI (0)), .ref (r15), .ref (r16), .int (nI (0)), .int (nI (0)), .ref (r19), .int (nI (0)), .ref (r21), .ref (r22), .int (nI (0)), .ref (r24), .int (nI (0)), .ref (r26), .ref (r27), .ref (r28), .int (nI (0)), .ref (r30), .ref (r31)])), (r5, .inl (cI, 31, .inl (fun jz => nI (z0 jz)))), (r6, .inl (cI, 31, .inl (fun jz => nI (z0 jz)))), (r7, .inl (cI, 31, .inl (fun jz => nI (z0 jz)))), (r8, .inl (cI, 31, .inl (fun jz => nI (z0 jz)))), (r9, .inl (cI, 80, .inl (fun jz => nI (z0 jz)))), (r10, .inl (cI, 20, .inl (fun jz => nI (z0 jz)))), (r11, .inl (cI, 20, .inl (fun jz => nI (z0 jz)))), (r12, .inl (cI, 12, .inl (fun jz => nI (z0 jz)))), (r13, .inl (cI, 12, .inl (fun jz => nI (z0 jz)))), (r15, .inl (cI, 1300, .inl (fun jz => nI (z0 jz)))), (r16, .inl (cI, 12, .inl (fun jz => nI (z0 jz)))), (r19, .inl (cI, 1300, .inl (fun jz => nI (z0 jz)))), (r21, .inl (cI, 32, .inl (fun jz => nI (z0 jz)))), (r22, .inl (cI, 32, .inl (fun jz => nI (z0 jz)))), (r24, .inl (cI, 2500, .inl (fun jz => nI (z0 jz)))), (r26, .inl (cI, 2500, .inl (fun jz => nI (z0 jz)))), (r27, .inl (cJ, 2500, .inr (.inl (zL)))), (r28, .inl (cI, 4096, .inl (fun jz => nI (z0 jz)))), (r30, .inl (cI, 20, .inl (fun jz => nI (z0 jz)))), (r31, .inl (cZ, 20, .inl (fun jz => bI (no0 jz))))]) 0 rfl (Nat.le_of_ble_eq_true rfl) rfl dX3_init_205 ?_
          refine j_aload_n dX3_init_208 rfl 0 rfl ?_
          refine j_aload_n dX3_init_209 rfl 0 rfl ?_
          refine gf_X3_72 0 rfl (rfl) dX3_init_210 ?_
          refine j_iconst (v := nI (1)) dX3_init_213 (by decide) ?_
          refine jn_iadd (v := R + 1) dX3_init_214 rfl ?_
          refine j_aload_n dX3_init_215 rfl 0 rfl ?_
          refine gf_X3_76 0 rfl (rfl) dX3_init_216 ?_
          refine j_iconst (v := nI (1)) dX3_init_219 (by decide) ?_
          refine jn_iadd (v := C + 1) dX3_init_220 rfl ?_
          refine jn_imul (v := (R + 1) * (C + 1)) dX3_init_221 rfl ?_
          refine j_topi (y := nI (nP R C)) (by rfl) ?_
          refine pf_X3_79 ([(mq, .inr (3, [.int (nI (0)), .int (nI (R)), .int (nI (C)), .int (nI (nP R C)), .int (nI (0)), .ref (r5), .ref (r6), .ref (r7), .ref (r8), .ref (r9), .ref (r10), .ref (r11), .ref (r12), .ref (r13), .int (nI (0)), .ref (r15), .ref (r16), .int (nI (0)), .int (nI (0)), .ref (r19), .int (nI (0)), .ref (r21), .ref (r22), .int (nI (0)), .ref (r24), .int (nI (0)), .ref (r26), .ref (r27), .ref (r28), .int (nI (0)), .ref (r30), .ref (r31)])), (r5, .inl (cI, 31, .inl (fun jz => nI (z0 jz)))), (r6, .inl (cI, 31, .inl (fun jz => nI (z0 jz)))), (r7, .inl (cI, 31, .inl (fun jz => nI (z0 jz)))), (r8, .inl (cI, 31, .inl (fun jz => nI (z0 jz)))), (r9, .inl (cI, 80, .inl (fun jz => nI (z0 jz)))), (r10, .inl (cI, 20, .inl (fun jz => nI (z0 jz)))), (r11, .inl (cI, 20, .inl (fun jz => nI (z0 jz)))), (r12, .inl (cI, 12, .inl (fun jz => nI (z0 jz)))), (r13, .inl (cI, 12, .inl (fun jz => nI (z0 jz)))), (r15, .inl (cI, 1300, .inl (fun jz => nI (z0 jz)))), (r16, .inl (cI, 12, .inl (fun jz => nI (z0 jz)))), (r19, .inl (cI, 1300, .inl (fun jz => nI (z0 jz)))), (r21, .inl (cI, 32, .inl (fun jz => nI (z0 jz)))), (r22, .inl (cI, 32, .inl (fun jz => nI (z0 jz)))), (r24, .inl (cI, 2500, .inl (fun jz => nI (z0 jz)))), (r26, .inl (cI, 2500, .inl (fun jz => nI (z0 jz)))), (r27, .inl (cJ, 2500, .inr (.inl (zL)))), (r28, .inl (cI, 4096, .inl (fun jz => nI (z0 jz)))), (r30, .inl (cI, 20, .inl (fun jz => nI (z0 jz)))), (r31, .inl (cZ, 20, .inl (fun jz => bI (no0 jz))))]) 0 rfl (Nat.le_of_ble_eq_true rfl) rfl dX3_init_222 ?_
          refine j_iconst (v := nI (0)) dX3_init_225 (by decide) ?_
          refine j_istore_n [(3, .int (nI (0))), (0, .ref (mq)), (1, .int (x)), (2, .int (y))] dX3_init_226 rfl (by decide) rfl ?_
          obtain ⟨q, hq⟩ : ∃ q : Nat → Nat, q = mkQ [mq, 0, 0, 0, 0, r5, r6, r7, r8, r9, r10, r11, r12, r13, 0, r15, r16, 0, 0, r19, 0, r21, r22, 0, r24, 0, r26, r27, r28, 0, r30, r31] := ⟨_, rfl⟩
          refine j_world (w' := wK cI cJ cZ q R C 0 z0 z0 z0 z0 z0 z0 z0 z0 z0 z0) (by rw [hq]; rfl) ?_
          refine j_sub [1, 0] [(0, .ref (mq)), (3, .int (nI (0)))] rfl ?_
          refine j_lv (lv' := [(0, .ref (q 0)), (3, .int (nI (0)))]) (by rw [hq]; rfl) ?_
          have loop227 : ∀ (n : Nat) (i : Nat) (cf1 cu1 : Nat → Nat), (12 < i + n) → (i ≤ 12) → (∀ j, j < i → cf1 j = 99 ∧ cu1 j = 99) → V k l D (tys3 cI cJ cZ) ({ frames := 6, cells := 20, slots := 14580, locals := 137 } : Room) cX3_init 6 RX3 (wK cI cJ cZ q R C 0 z0 z0 z0 z0 z0 z0 z0 cf1 z0 cu1) (20) (14580) 227 [(0, .ref (q 0)), (3, .int (nI (i)))] [] := by
            intro n
            induction n with
            | zero => intro i cf1 cu1 hm1 hi1 hz1; exfalso; omega
            | succ n ih227 =>
              intro i cf1 cu1 hm1 hi1 hz1
              refine j_iload_n dX3_init_227 rfl 1 rfl ?_
              refine j_bipush (v := nI (12)) dX3_init_228 (by decide) ?_
              refine jn_icmp_ge (tgt := 254) (a := i) (b := 12) (by omega) (by omega) dX3_init_230 (by decide) (fun c230 => ?_) (fun c230 => ?_)
              · refine j_iconst (v := nI (0)) dX3_init_254 (by decide) ?_
                refine j_istore_n [(3, .int (nI (0))), (0, .ref (q 0))] dX3_init_255 rfl (by decide) rfl ?_
                refine j_wext (w2 := wK cI cJ cZ q R C 0 z0 z0 z0 z0 z0 z0 z0 cf1 z0 (fun _ => 99)) (wE_c rfl cE_rfl (wE_c rfl cE_rfl (wE_c rfl cE_rfl (wE_c rfl cE_rfl (wE_c rfl cE_rfl (wE_c rfl cE_rfl (wE_c rfl cE_rfl (wE_c rfl cE_rfl (wE_c rfl cE_rfl (wE_c rfl cE_rfl (wE_c rfl cE_rfl (wE_c rfl (cE_arr (fun j hj => by rw [(hz1 j (by omega)).2])) (wE_c rfl cE_rfl (wE_c rfl cE_rfl (wE_c rfl cE_rfl (wE_c rfl cE_rfl (wE_c rfl cE_rfl (wE_c rfl cE_rfl (wE_c rfl cE_rfl (wE_c rfl cE_rfl (wE_c rfl cE_rfl (wE_n)))))))))))))))))))))) ?_
                refine j_sub [1, 0] [(0, .ref (q 0)), (3, .int (nI (0)))] rfl ?_
                have loop256 : ∀ (n : Nat) (i2 : Nat) (en1 : Nat → Nat), (80 < i2 + n) → (i2 ≤ 80) → (∀ j, j < i2 → en1 j = 99) → V k l D (tys3 cI cJ cZ) ({ frames := 6, cells := 20, slots := 14580, locals := 137 } : Room) cX3_init 6 RX3 (wK cI cJ cZ q R C 0 z0 z0 z0 z0 en1 z0 z0 cf1 z0 (fun _ => 99)) (20) (14580) 256 [(0, .ref (q 0)), (3, .int (nI (i2)))] [] := by
                  intro n
                  induction n with
                  | zero => intro i2 en1 hm2 hi2 hz2; exfalso; omega
                  | succ n ih256 =>
                    intro i2 en1 hm2 hi2 hz2
                    refine j_iload_n dX3_init_256 rfl 1 rfl ?_
                    refine j_bipush (v := nI (80)) dX3_init_257 (by decide) ?_
                    refine jn_icmp_ge (tgt := 275) (a := i2) (b := 80) (by omega) (by omega) dX3_init_259 (by decide) (fun c259 => ?_) (fun c259 => ?_)
                    · refine j_iconst (v := nI (0)) dX3_init_275 (by decide) ?_
                      refine j_istore_n [(3, .int (nI (0))), (0, .ref (q 0))] dX3_init_276 rfl (by decide) rfl ?_
                      refine j_sub [1, 0] [(0, .ref (q 0)), (3, .int (nI (0)))] rfl ?_
                      have loop277 : ∀ (n : Nat) (i3 : Nat) (fp1 : Nat → Nat), (nP R C < i3 + n) → (i3 ≤ nP R C) → (∀ j, j < i3 → fp1 j = 99) → (∀ j, i3 ≤ j → fp1 j = 0) → V k l D (tys3 cI cJ cZ) ({ frames := 6, cells := 20, slots := 14580, locals := 137 } : Room) cX3_init 6 RX3 (wK cI cJ cZ q R C 0 z0 z0 z0 z0 en1 fp1 z0 cf1 z0 (fun _ => 99)) (20) (14580) 277 [(0, .ref (q 0)), (3, .int (nI (i3)))] [] := by
                        intro n
                        induction n with
                        | zero => intro i3 fp1 hm3 hi3 hz3 hy3; exfalso; omega
                        | succ n ih277 =>
                          intro i3 fp1 hm3 hi3 hz3 hy3
                          refine j_iload_n dX3_init_277 rfl 1 rfl ?_
                          refine j_aload_n dX3_init_278 rfl 0 rfl ?_
                          refine gf_X3_79 0 rfl (rfl) dX3_init_279 ?_
                          refine jn_icmp_ge (tgt := 299) (a := i3) (b := nP R C) (by omega) (by omega) dX3_init_282 (by decide) (fun c282 => ?_) (fun c282 => ?_)
                          · refine j_iconst (v := nI (0)) dX3_init_299 (by decide) ?_
                            refine j_istore_n [(3, .int (nI (0))), (0, .ref (q 0))] dX3_init_300 rfl (by decide) rfl ?_
                            have hT0 : TC R C (eN R C 0 0) z0 z0 z0 z0 en1 fp1 z0 cf1 z0 := by rw [eN_0 hG]; exact TC_0 (fun j hj => hz2 j (by omega)) (fun j hj => hz3 j (by omega)) (fun j hj => hy3 j (by omega)) (fun j hj => (hz1 j (by omega)).1)
                            refine j_world (w' := wK cI cJ cZ q R C (eN R C 0 0) z0 z0 z0 z0 en1 fp1 z0 cf1 z0 (fun _ => 99)) (by rw [eN_0 hG]) ?_
                            refine j_lv (lv' := [(3, .int (nI (0 * (C + 1) + 0))), (0, .ref (q 0))]) (by rw [Nat.zero_mul]) ?_
                            refine j_sub [1, 0] [(0, .ref (q 0)), (3, .int (nI (0 * (C + 1) + 0)))] rfl ?_
                            have loop301 : ∀ (n : Nat) (yy xx : Nat) (lw8 hg8 n18 n28 en8 fp8 la8 cf8 cl8 : Nat → Nat), (nP R C < yy * (C + 1) + xx + n) → (xx ≤ C) → (yy ≤ R ∨ (yy = R + 1 ∧ xx = 0)) → (TC R C (eN R C yy xx) lw8 hg8 n18 n28 en8 fp8 la8 cf8 cl8) → V k l D (tys3 cI cJ cZ) ({ frames := 6, cells := 20, slots := 14580, locals := 137 } : Room) cX3_init 6 RX3 (wK cI cJ cZ q R C (eN R C yy xx) lw8 hg8 n18 n28 en8 fp8 la8 cf8 cl8 (fun _ => 99)) (20) (14580) 301 [(0, .ref (q 0)), (3, .int (nI (yy * (C + 1) + xx)))] [] := by
                              intro n
                              induction n with
                              | zero => intro yy xx lw8 hg8 n18 n28 en8 fp8 la8 cf8 cl8 hm4 hxC hyx hT8; exfalso; have := pq_le hxC hyx; omega
                              | succ n ih301 =>
                                intro yy xx lw8 hg8 n18 n28 en8 fp8 la8 cf8 cl8 hm4 hxC hyx hT8
                                have hple := pq_le hxC hyx
                                refine j_iload_n dX3_init_301 rfl 1 rfl ?_
                                refine j_aload_n dX3_init_302 rfl 0 rfl ?_
                                refine gf_X3_79 0 rfl (rfl) dX3_init_303 ?_
                                refine jn_icmp_ge (tgt := 410) (a := yy * (C + 1) + xx) (b := nP R C) (by omega) (by omega) dX3_init_306 (by decide) (fun c306 => ?_) (fun c306 => ?_)
                                · have hxy : yy = R + 1 ∧ xx = 0 := by
                                    rcases hyx with h9 | h9
                                    · exact absurd (pq_lt h9 hxC) (by omega)
                                    · exact h9
                                  obtain ⟨h9, h8⟩ := hxy
                                  subst h9 h8
                                  rw [eN_R] at hT8
                                  obtain ⟨f1, f2, f3, f4, f5, f6, f7, f8, f9⟩ := TC_f hG hT8
                                  refine j_world (w' := wK cI cJ cZ q R C (nE R C) lw8 hg8 n18 n28 en8 fp8 la8 cf8 cl8 (fun _ => 99)) (by rw [eN_R]) ?_
                                  refine j_wext (w2 := wM cI cJ cZ q R C 0 false false 0 0 0 0 0 z0 (fun _ => 99) z0 z0 z0 z0 z0 zL z0 z0 no0) (wE_c rfl cE_rfl (wE_c rfl (cE_arr (fun j hj => by rw [f1])) (wE_c rfl (cE_arr (fun j hj => by rw [f2])) (wE_c rfl (cE_arr (fun j hj => by rw [f3])) (wE_c rfl (cE_arr (fun j hj => by rw [f4])) (wE_c rfl (cE_arr (fun j hj => by rw [f5 j hj])) (wE_c rfl (cE_arr (fun j hj => by rw [f6 j hj])) (wE_c rfl (cE_arr (fun j hj => by rw [f7 j hj])) (wE_c rfl (cE_arr (fun j hj => by rw [f8 j hj])) (wE_c rfl (cE_arr (fun j hj => by rw [f9 j hj])) (wE_c rfl cE_rfl (wE_c rfl cE_rfl (wE_c rfl cE_rfl (wE_c rfl cE_rfl (wE_c rfl cE_rfl (wE_c rfl cE_rfl (wE_c rfl cE_rfl (wE_c rfl cE_rfl (wE_c rfl cE_rfl (wE_c rfl cE_rfl (wE_c rfl cE_rfl (wE_n)))))))))))))))))))))) ?_
                                  refine j_aload_n dX3_init_410 rfl 0 rfl ?_
                                  refine j_vW (av := []) (c_findLoops l hfl D cI cJ cZ q R C hG 0 false false 0 0 0 0 0 z0 (fun _ => 99) z0 z0 z0 z0 z0 zL z0 z0 no0 (fun p _ => ⟨rfl, rfl⟩) hcap rfl) 0 rfl rfl mw2_201 mw2_203 msel12 mw1_4 mw2_204 rfl hd_X3_findLoops rfl ⟨rfl, rfl⟩ ⟨Nat.le_of_ble_eq_true rfl, Nat.le_of_ble_eq_true rfl⟩ ⟨Nat.le_of_ble_eq_true rfl, Nat.le_of_ble_eq_true rfl⟩ (Nat.le_of_ble_eq_true rfl) rfl dX3_init_411 ?_
                                  rintro _ _ ⟨rfl, nl2, lp2, de2, se2, hL2, hJ2, rfl⟩
                                  refine j_st (st' := []) rfl ?_
                                  exact j_vret (tys' := []) rfl hR dX3_init_414 (⟨rfl, q, by rw [hq]; rfl, MW_of ⟨hL2, (fun h => nomatch h), (fun h => nomatch h), hJ2, by decide⟩⟩)
                                · have hyR : yy ≤ R := by
                                    rcases hyx with h9 | ⟨h9, h8⟩
                                    · exact h9
                                    · exfalso; subst h9 h8; unfold nP at c306; omega
                                  refine j_iload_n dX3_init_309 rfl 1 rfl ?_
                                  refine j_aload_n dX3_init_310 rfl 0 rfl ?_
                                  refine gf_X3_76 0 rfl (rfl) dX3_init_311 ?_
                                  refine j_iconst (v := nI (1)) dX3_init_314 (by decide) ?_
                                  refine jn_iadd (v := C + 1) dX3_init_315 rfl ?_
                                  refine j_idiv dX3_init_316 (fun h => absurd (nI_eq0 (by omega) h) (by omega)) rfl ?_
                                  refine j_topi (y := nI (yy)) (by rw [pk_div (by have := pq_lt hyR hxC; omega) (by omega) (by omega), pt_div hxC]) ?_
                                  refine j_istore [(4, .int (nI (yy))), (0, .ref (q 0)), (3, .int (nI (yy * (C + 1) + xx)))] dX3_init_317 (by decide) rfl ?_
                                  refine j_iload_n dX3_init_319 rfl 2 rfl ?_
                                  refine j_aload_n dX3_init_320 rfl 1 rfl ?_
                                  refine gf_X3_76 0 rfl (rfl) dX3_init_321 ?_
                                  refine j_iconst (v := nI (1)) dX3_init_324 (by decide) ?_
                                  refine jn_iadd (v := C + 1) dX3_init_325 rfl ?_
                                  refine j_irem dX3_init_326 (fun h => absurd (nI_eq0 (by omega) h) (by omega)) rfl ?_
                                  refine j_topi (y := nI (xx)) (by rw [pk_rem (by have := pq_lt hyR hxC; omega) (by omega) (by omega), pt_mod hxC]) ?_
                                  refine j_istore [(5, .int (nI (xx))), (4, .int (nI (yy))), (0, .ref (q 0)), (3, .int (nI (yy * (C + 1) + xx)))] dX3_init_327 (by decide) rfl ?_
                                  refine j_iload dX3_init_329 0 rfl ?_
                                  refine j_aload_n dX3_init_331 rfl 2 rfl ?_
                                  refine gf_X3_76 0 rfl (rfl) dX3_init_332 ?_
                                  refine jn_icmp_ge (tgt := 364) (a := xx) (b := C) (by omega) (by omega) dX3_init_335 (by decide) (fun c335 => ?_) (fun c335 => ?_)
                                  · refine j_iload dX3_init_364 1 rfl ?_
                                    refine j_aload_n dX3_init_366 rfl 2 rfl ?_
                                    refine gf_X3_72 0 rfl (rfl) dX3_init_367 ?_
                                    refine jn_icmp_ge (tgt := 404) (a := yy) (b := R) (by omega) (by omega) dX3_init_370 (by decide) (fun c370 => ?_) (fun c370 => ?_)
                                    · refine j_iinc (n0 := 3) (v := nI (yy * (C + 1) + xx + 1)) [(3, .int (nI (yy * (C + 1) + xx + 1))), (5, .int (nI (xx))), (4, .int (nI (yy))), (0, .ref (q 0))] dX3_init_404 rfl (by exact nI_add (yy * (C + 1) + xx) 1) (by decide) rfl ?_
                                      refine j_goto (tgt := 301) dX3_init_407 (by decide) ?_
                                      refine j_sub [3, 0] [(0, .ref (q 0)), (3, .int (nI (yy * (C + 1) + xx + 1)))] rfl ?_
                                      have hen := (eN_t hG hyR hxC).2.2.2
                                      have hen1 := hen.1
                                      rw [if_neg (show ¬ xx < C by omega), if_neg (show ¬ yy < R by omega)] at hen1
                                      simp only [Nat.add_zero] at hen1
                                      have hxe : xx = C := by omega
                                      subst hxe
                                      rw [hen.2] at hen1
                                      rw [← hen1] at hT8 ⊢
                                      have hmul : (yy + 1) * (xx + 1) = yy * (xx + 1) + (xx + 1) := by rw [Nat.add_mul, Nat.one_mul]
                                      refine j_lv (lv' := [(0, .ref (q 0)), (3, .int (nI ((yy + 1) * (xx + 1) + 0)))]) (by rw [hmul]; rfl) ?_
                                      exact ih301 (yy + 1) 0 lw8 hg8 n18 n28 en8 fp8 la8 cf8 cl8 (by omega) (by omega) (by omega) hT8
                                    · refine j_aload_n dX3_init_373 rfl 2 rfl ?_
                                      refine j_iload_n dX3_init_374 rfl 3 rfl ?_
                                      refine j_iload_n dX3_init_375 rfl 3 rfl ?_
                                      refine j_aload_n dX3_init_376 rfl 2 rfl ?_
                                      refine gf_X3_76 0 rfl (rfl) dX3_init_377 ?_
                                      refine jn_iadd (v := (yy * (C + 1) + xx) + C) dX3_init_380 rfl ?_
                                      refine j_iconst (v := nI (1)) dX3_init_381 (by decide) ?_
                                      refine jn_iadd (v := ((yy * (C + 1) + xx) + C) + 1) dX3_init_382 rfl ?_
                                      refine j_aload_n dX3_init_383 rfl 2 rfl ?_
                                      refine j_iload dX3_init_384 1 rfl ?_
                                      refine j_iload dX3_init_386 0 rfl ?_
                                      refine j_iconst (v := nI (1)) dX3_init_388 (by decide) ?_
                                      refine j_isub dX3_init_389 rfl ?_
                                      refine j_topi (y := eI (pd xx)) (eI_pd (by omega)) ?_
                                      refine j_st (st' := [.int (eI (pd xx)), .int (eI (yy)), .ref (q 0), .int (nI (((yy * (C + 1) + xx) + C) + 1)), .int (nI (yy * (C + 1) + xx)), .ref (q 0)]) (by rw [eI_ne (show ¬ yy = 99 by omega)]) ?_
                                      refine j_vW (av := [.int (eI (yy)), .int (eI (pd xx))]) (k_cell l hfl D cI cJ cZ q R C hG (eN R C yy xx) lw8 hg8 n18 n28 en8 fp8 la8 cf8 cl8 (fun _ => 99) (yy) (pd xx) (by first | omega | exact pd_lt (by omega)) (by first | omega | exact pd_lt (by omega))) 0 rfl rfl mw2_185 mw2_187 msel8 mw1_4 mw2_188 rfl hd_X3_cell rfl ⟨rfl, rfl⟩ ⟨Nat.le_of_ble_eq_true rfl, Nat.le_of_ble_eq_true rfl⟩ ⟨Nat.le_of_ble_eq_true rfl, Nat.le_of_ble_eq_true rfl⟩ (Nat.le_of_ble_eq_true rfl) rfl dX3_init_390 ?_
                                      rintro _ _ ⟨rfl, rfl⟩
                                      refine j_st (st' := [.int (eI (ccell R C yy (pd xx))), .int (nI (((yy * (C + 1) + xx) + C) + 1)), .int (nI (yy * (C + 1) + xx)), .ref (q 0)]) rfl ?_
                                      refine j_aload_n dX3_init_393 rfl 2 rfl ?_
                                      refine j_iload dX3_init_394 1 rfl ?_
                                      refine j_iload dX3_init_396 0 rfl ?_
                                      refine j_st (st' := [.int (eI (xx)), .int (eI (yy)), .ref (q 0), .int (eI (ccell R C yy (pd xx))), .int (nI (((yy * (C + 1) + xx) + C) + 1)), .int (nI (yy * (C + 1) + xx)), .ref (q 0)]) (by rw [eI_ne (show ¬ xx = 99 by omega), eI_ne (show ¬ yy = 99 by omega)]) ?_
                                      refine j_vW (av := [.int (eI (yy)), .int (eI (xx))]) (k_cell l hfl D cI cJ cZ q R C hG (eN R C yy xx) lw8 hg8 n18 n28 en8 fp8 la8 cf8 cl8 (fun _ => 99) (yy) (xx) (by first | omega | exact pd_lt (by omega)) (by first | omega | exact pd_lt (by omega))) 0 rfl rfl mw2_185 mw2_187 msel8 mw1_4 mw2_188 rfl hd_X3_cell rfl ⟨rfl, rfl⟩ ⟨Nat.le_of_ble_eq_true rfl, Nat.le_of_ble_eq_true rfl⟩ ⟨Nat.le_of_ble_eq_true rfl, Nat.le_of_ble_eq_true rfl⟩ (Nat.le_of_ble_eq_true rfl) rfl dX3_init_398 ?_
                                      rintro _ _ ⟨rfl, rfl⟩
                                      refine j_st (st' := [.int (eI (ccell R C yy xx)), .int (eI (ccell R C yy (pd xx))), .int (nI (((yy * (C + 1) + xx) + C) + 1)), .int (nI (yy * (C + 1) + xx)), .ref (q 0)]) rfl ?_
                                      obtain ⟨d1, d2, d3, d4⟩ := (eN_t hG hyR hxC).2.2.1 c370 c335
                                      obtain ⟨m1, m2, m3, m4⟩ := jn_d d1 d2 d3 d4
                                      refine j_st (st' := [.int (eI (mOther R C (eN R C yy xx))), .int (eI (mOne R C (eN R C yy xx))), .int (nI (mHigh R C (eN R C yy xx))), .int (nI (mLow R C (eN R C yy xx))), .ref (q 0)]) (by rw [m1, m2, m3, m4]) ?_
                                      refine j_vW (av := [.int (nI (mLow R C (eN R C yy xx))), .int (nI (mHigh R C (eN R C yy xx))), .int (eI (mOne R C (eN R C yy xx))), .int (eI (mOther R C (eN R C yy xx)))]) (k_join l hfl D cI cJ cZ q R C hG (eN R C yy xx) lw8 hg8 n18 n28 en8 fp8 la8 cf8 cl8 (fun _ => 99) d1 hT8) 0 rfl rfl mw2_189 mw2_191 msel9 mw1_4 mw2_192 rfl hd_X3_join rfl ⟨rfl, rfl⟩ ⟨Nat.le_of_ble_eq_true rfl, Nat.le_of_ble_eq_true rfl⟩ ⟨Nat.le_of_ble_eq_true rfl, Nat.le_of_ble_eq_true rfl⟩ (Nat.le_of_ble_eq_true rfl) rfl dX3_init_401 ?_
                                      rintro _ _ ⟨rfl, lwb, hgb, nab, nbb, enb, fpb, lab, cfb, clb, hTb, rfl⟩
                                      refine j_st (st' := []) rfl ?_
                                      refine j_iinc (n0 := 3) (v := nI (yy * (C + 1) + xx + 1)) [(3, .int (nI (yy * (C + 1) + xx + 1))), (5, .int (nI (xx))), (4, .int (nI (yy))), (0, .ref (q 0))] dX3_init_404 rfl (by exact nI_add (yy * (C + 1) + xx) 1) (by decide) rfl ?_
                                      refine j_goto (tgt := 301) dX3_init_407 (by decide) ?_
                                      refine j_sub [3, 0] [(0, .ref (q 0)), (3, .int (nI (yy * (C + 1) + xx + 1)))] rfl ?_
                                      have hen := (eN_t hG hyR hxC).2.2.2
                                      have hen1 := hen.1
                                      rw [if_neg (show ¬ xx < C by omega), if_pos c370] at hen1
                                      simp only [Nat.add_zero] at hen1
                                      have hxe : xx = C := by omega
                                      subst hxe
                                      rw [hen.2] at hen1
                                      rw [← hen1] at hTb ⊢
                                      have hmul : (yy + 1) * (xx + 1) = yy * (xx + 1) + (xx + 1) := by rw [Nat.add_mul, Nat.one_mul]
                                      refine j_lv (lv' := [(0, .ref (q 0)), (3, .int (nI ((yy + 1) * (xx + 1) + 0)))]) (by rw [hmul]; rfl) ?_
                                      exact ih301 (yy + 1) 0 lwb hgb nab nbb enb fpb lab cfb clb (by omega) (by omega) (by omega) hTb
                                  · refine j_aload_n dX3_init_338 rfl 2 rfl ?_
                                    refine j_iload_n dX3_init_339 rfl 3 rfl ?_
                                    refine j_iload_n dX3_init_340 rfl 3 rfl ?_
                                    refine j_iconst (v := nI (1)) dX3_init_341 (by decide) ?_
                                    refine jn_iadd (v := (yy * (C + 1) + xx) + 1) dX3_init_342 rfl ?_
                                    refine j_aload_n dX3_init_343 rfl 2 rfl ?_
                                    refine j_iload dX3_init_344 1 rfl ?_
                                    refine j_iconst (v := nI (1)) dX3_init_346 (by decide) ?_
                                    refine j_isub dX3_init_347 rfl ?_
                                    refine j_topi (y := eI (pd yy)) (eI_pd (by omega)) ?_
                                    refine j_iload dX3_init_348 0 rfl ?_
                                    refine j_st (st' := [.int (eI (xx)), .int (eI (pd yy)), .ref (q 0), .int (nI ((yy * (C + 1) + xx) + 1)), .int (nI (yy * (C + 1) + xx)), .ref (q 0)]) (by rw [eI_ne (show ¬ xx = 99 by omega)]) ?_
                                    refine j_vW (av := [.int (eI (pd yy)), .int (eI (xx))]) (k_cell l hfl D cI cJ cZ q R C hG (eN R C yy xx) lw8 hg8 n18 n28 en8 fp8 la8 cf8 cl8 (fun _ => 99) (pd yy) (xx) (by first | omega | exact pd_lt (by omega)) (by first | omega | exact pd_lt (by omega))) 0 rfl rfl mw2_185 mw2_187 msel8 mw1_4 mw2_188 rfl hd_X3_cell rfl ⟨rfl, rfl⟩ ⟨Nat.le_of_ble_eq_true rfl, Nat.le_of_ble_eq_true rfl⟩ ⟨Nat.le_of_ble_eq_true rfl, Nat.le_of_ble_eq_true rfl⟩ (Nat.le_of_ble_eq_true rfl) rfl dX3_init_350 ?_
                                    rintro _ _ ⟨rfl, rfl⟩
                                    refine j_st (st' := [.int (eI (ccell R C (pd yy) xx)), .int (nI ((yy * (C + 1) + xx) + 1)), .int (nI (yy * (C + 1) + xx)), .ref (q 0)]) rfl ?_
                                    refine j_aload_n dX3_init_353 rfl 2 rfl ?_
                                    refine j_iload dX3_init_354 1 rfl ?_
                                    refine j_iload dX3_init_356 0 rfl ?_
                                    refine j_st (st' := [.int (eI (xx)), .int (eI (yy)), .ref (q 0), .int (eI (ccell R C (pd yy) xx)), .int (nI ((yy * (C + 1) + xx) + 1)), .int (nI (yy * (C + 1) + xx)), .ref (q 0)]) (by rw [eI_ne (show ¬ xx = 99 by omega), eI_ne (show ¬ yy = 99 by omega)]) ?_
                                    refine j_vW (av := [.int (eI (yy)), .int (eI (xx))]) (k_cell l hfl D cI cJ cZ q R C hG (eN R C yy xx) lw8 hg8 n18 n28 en8 fp8 la8 cf8 cl8 (fun _ => 99) (yy) (xx) (by first | omega | exact pd_lt (by omega)) (by first | omega | exact pd_lt (by omega))) 0 rfl rfl mw2_185 mw2_187 msel8 mw1_4 mw2_188 rfl hd_X3_cell rfl ⟨rfl, rfl⟩ ⟨Nat.le_of_ble_eq_true rfl, Nat.le_of_ble_eq_true rfl⟩ ⟨Nat.le_of_ble_eq_true rfl, Nat.le_of_ble_eq_true rfl⟩ (Nat.le_of_ble_eq_true rfl) rfl dX3_init_358 ?_
                                    rintro _ _ ⟨rfl, rfl⟩
                                    refine j_st (st' := [.int (eI (ccell R C yy xx)), .int (eI (ccell R C (pd yy) xx)), .int (nI ((yy * (C + 1) + xx) + 1)), .int (nI (yy * (C + 1) + xx)), .ref (q 0)]) rfl ?_
                                    obtain ⟨b1, b2, b3, b4⟩ := (eN_t hG hyR hxC).1 c335
                                    obtain ⟨k1, k2, k3, k4⟩ := jn_r b1 b2 b3 b4
                                    refine j_st (st' := [.int (eI (mOther R C (eN R C yy xx))), .int (eI (mOne R C (eN R C yy xx))), .int (nI (mHigh R C (eN R C yy xx))), .int (nI (mLow R C (eN R C yy xx))), .ref (q 0)]) (by rw [k1, k2, k3, k4]) ?_
                                    refine j_vW (av := [.int (nI (mLow R C (eN R C yy xx))), .int (nI (mHigh R C (eN R C yy xx))), .int (eI (mOne R C (eN R C yy xx))), .int (eI (mOther R C (eN R C yy xx)))]) (k_join l hfl D cI cJ cZ q R C hG (eN R C yy xx) lw8 hg8 n18 n28 en8 fp8 la8 cf8 cl8 (fun _ => 99) b1 hT8) 0 rfl rfl mw2_189 mw2_191 msel9 mw1_4 mw2_192 rfl hd_X3_join rfl ⟨rfl, rfl⟩ ⟨Nat.le_of_ble_eq_true rfl, Nat.le_of_ble_eq_true rfl⟩ ⟨Nat.le_of_ble_eq_true rfl, Nat.le_of_ble_eq_true rfl⟩ (Nat.le_of_ble_eq_true rfl) rfl dX3_init_361 ?_
                                    rintro _ _ ⟨rfl, lwa, hga, naa, nba, ena, fpa, laa, cfa, cla, hTa, rfl⟩
                                    refine j_st (st' := []) rfl ?_
                                    refine j_iload dX3_init_364 1 rfl ?_
                                    refine j_aload_n dX3_init_366 rfl 2 rfl ?_
                                    refine gf_X3_72 0 rfl (rfl) dX3_init_367 ?_
                                    refine jn_icmp_ge (tgt := 404) (a := yy) (b := R) (by omega) (by omega) dX3_init_370 (by decide) (fun c370 => ?_) (fun c370 => ?_)
                                    · refine j_iinc (n0 := 3) (v := nI (yy * (C + 1) + xx + 1)) [(3, .int (nI (yy * (C + 1) + xx + 1))), (5, .int (nI (xx))), (4, .int (nI (yy))), (0, .ref (q 0))] dX3_init_404 rfl (by exact nI_add (yy * (C + 1) + xx) 1) (by decide) rfl ?_
                                      refine j_goto (tgt := 301) dX3_init_407 (by decide) ?_
                                      refine j_sub [3, 0] [(0, .ref (q 0)), (3, .int (nI (yy * (C + 1) + xx + 1)))] rfl ?_
                                      have hen := (eN_t hG hyR hxC).2.2.2
                                      have hen1 := hen.1
                                      rw [if_pos c335, if_neg (show ¬ yy < R by omega)] at hen1
                                      simp only [Nat.add_zero] at hen1
                                      rw [← hen1] at hTa ⊢
                                      exact ih301 yy (xx + 1) lwa hga naa nba ena fpa laa cfa cla (by omega) (by omega) (Or.inl hyR) hTa
                                    · refine j_aload_n dX3_init_373 rfl 2 rfl ?_
                                      refine j_iload_n dX3_init_374 rfl 3 rfl ?_
                                      refine j_iload_n dX3_init_375 rfl 3 rfl ?_
                                      refine j_aload_n dX3_init_376 rfl 2 rfl ?_
                                      refine gf_X3_76 0 rfl (rfl) dX3_init_377 ?_
                                      refine jn_iadd (v := (yy * (C + 1) + xx) + C) dX3_init_380 rfl ?_
                                      refine j_iconst (v := nI (1)) dX3_init_381 (by decide) ?_
                                      refine jn_iadd (v := ((yy * (C + 1) + xx) + C) + 1) dX3_init_382 rfl ?_
                                      refine j_aload_n dX3_init_383 rfl 2 rfl ?_
                                      refine j_iload dX3_init_384 1 rfl ?_
                                      refine j_iload dX3_init_386 0 rfl ?_
                                      refine j_iconst (v := nI (1)) dX3_init_388 (by decide) ?_
                                      refine j_isub dX3_init_389 rfl ?_
                                      refine j_topi (y := eI (pd xx)) (eI_pd (by omega)) ?_
                                      refine j_st (st' := [.int (eI (pd xx)), .int (eI (yy)), .ref (q 0), .int (nI (((yy * (C + 1) + xx) + C) + 1)), .int (nI (yy * (C + 1) + xx)), .ref (q 0)]) (by rw [eI_ne (show ¬ yy = 99 by omega)]) ?_
                                      refine j_vW (av := [.int (eI (yy)), .int (eI (pd xx))]) (k_cell l hfl D cI cJ cZ q R C hG (eN R C yy xx + 1) lwa hga naa nba ena fpa laa cfa cla (fun _ => 99) (yy) (pd xx) (by first | omega | exact pd_lt (by omega)) (by first | omega | exact pd_lt (by omega))) 0 rfl rfl mw2_185 mw2_187 msel8 mw1_4 mw2_188 rfl hd_X3_cell rfl ⟨rfl, rfl⟩ ⟨Nat.le_of_ble_eq_true rfl, Nat.le_of_ble_eq_true rfl⟩ ⟨Nat.le_of_ble_eq_true rfl, Nat.le_of_ble_eq_true rfl⟩ (Nat.le_of_ble_eq_true rfl) rfl dX3_init_390 ?_
                                      rintro _ _ ⟨rfl, rfl⟩
                                      refine j_st (st' := [.int (eI (ccell R C yy (pd xx))), .int (nI (((yy * (C + 1) + xx) + C) + 1)), .int (nI (yy * (C + 1) + xx)), .ref (q 0)]) rfl ?_
                                      refine j_aload_n dX3_init_393 rfl 2 rfl ?_
                                      refine j_iload dX3_init_394 1 rfl ?_
                                      refine j_iload dX3_init_396 0 rfl ?_
                                      refine j_st (st' := [.int (eI (xx)), .int (eI (yy)), .ref (q 0), .int (eI (ccell R C yy (pd xx))), .int (nI (((yy * (C + 1) + xx) + C) + 1)), .int (nI (yy * (C + 1) + xx)), .ref (q 0)]) (by rw [eI_ne (show ¬ xx = 99 by omega), eI_ne (show ¬ yy = 99 by omega)]) ?_
                                      refine j_vW (av := [.int (eI (yy)), .int (eI (xx))]) (k_cell l hfl D cI cJ cZ q R C hG (eN R C yy xx + 1) lwa hga naa nba ena fpa laa cfa cla (fun _ => 99) (yy) (xx) (by first | omega | exact pd_lt (by omega)) (by first | omega | exact pd_lt (by omega))) 0 rfl rfl mw2_185 mw2_187 msel8 mw1_4 mw2_188 rfl hd_X3_cell rfl ⟨rfl, rfl⟩ ⟨Nat.le_of_ble_eq_true rfl, Nat.le_of_ble_eq_true rfl⟩ ⟨Nat.le_of_ble_eq_true rfl, Nat.le_of_ble_eq_true rfl⟩ (Nat.le_of_ble_eq_true rfl) rfl dX3_init_398 ?_
                                      rintro _ _ ⟨rfl, rfl⟩
                                      refine j_st (st' := [.int (eI (ccell R C yy xx)), .int (eI (ccell R C yy (pd xx))), .int (nI (((yy * (C + 1) + xx) + C) + 1)), .int (nI (yy * (C + 1) + xx)), .ref (q 0)]) rfl ?_
                                      obtain ⟨d1, d2, d3, d4⟩ := (eN_t hG hyR hxC).2.1 c370 c335
                                      obtain ⟨m1, m2, m3, m4⟩ := jn_d d1 d2 d3 d4
                                      refine j_st (st' := [.int (eI (mOther R C (eN R C yy xx + 1))), .int (eI (mOne R C (eN R C yy xx + 1))), .int (nI (mHigh R C (eN R C yy xx + 1))), .int (nI (mLow R C (eN R C yy xx + 1))), .ref (q 0)]) (by rw [m1, m2, m3, m4]) ?_
                                      refine j_vW (av := [.int (nI (mLow R C (eN R C yy xx + 1))), .int (nI (mHigh R C (eN R C yy xx + 1))), .int (eI (mOne R C (eN R C yy xx + 1))), .int (eI (mOther R C (eN R C yy xx + 1)))]) (k_join l hfl D cI cJ cZ q R C hG (eN R C yy xx + 1) lwa hga naa nba ena fpa laa cfa cla (fun _ => 99) d1 hTa) 0 rfl rfl mw2_189 mw2_191 msel9 mw1_4 mw2_192 rfl hd_X3_join rfl ⟨rfl, rfl⟩ ⟨Nat.le_of_ble_eq_true rfl, Nat.le_of_ble_eq_true rfl⟩ ⟨Nat.le_of_ble_eq_true rfl, Nat.le_of_ble_eq_true rfl⟩ (Nat.le_of_ble_eq_true rfl) rfl dX3_init_401 ?_
                                      rintro _ _ ⟨rfl, lwb, hgb, nab, nbb, enb, fpb, lab, cfb, clb, hTb, rfl⟩
                                      refine j_st (st' := []) rfl ?_
                                      refine j_iinc (n0 := 3) (v := nI (yy * (C + 1) + xx + 1)) [(3, .int (nI (yy * (C + 1) + xx + 1))), (5, .int (nI (xx))), (4, .int (nI (yy))), (0, .ref (q 0))] dX3_init_404 rfl (by exact nI_add (yy * (C + 1) + xx) 1) (by decide) rfl ?_
                                      refine j_goto (tgt := 301) dX3_init_407 (by decide) ?_
                                      refine j_sub [3, 0] [(0, .ref (q 0)), (3, .int (nI (yy * (C + 1) + xx + 1)))] rfl ?_
                                      have hen := (eN_t hG hyR hxC).2.2.2
                                      have hen1 := hen.1
                                      rw [if_pos c335, if_pos c370] at hen1
                                      rw [← hen1] at hTb ⊢
                                      exact ih301 yy (xx + 1) lwb hgb nab nbb enb fpb lab cfb clb (by omega) (by omega) (Or.inl hyR) hTb
                            exact loop301 (nP R C + 2) 0 0 z0 z0 z0 z0 en1 fp1 z0 cf1 z0 (by omega) (by omega) (Or.inl (by omega)) hT0
                          · refine j_aload_n dX3_init_285 rfl 0 rfl ?_
                            refine gf_X3_25 0 rfl (rfl) dX3_init_286 ?_
                            refine j_iload_n dX3_init_289 rfl 1 rfl ?_
                            refine j_bipush (v := nI (99)) dX3_init_290 (by decide) ?_
                            refine jn_iastN (wK cI cJ cZ q R C 0 z0 z0 z0 z0 en1 (va_up fp1 i3 99) z0 cf1 z0 (fun _ => 99)) 6 0 rfl rfl (by omega) (by omega) rfl dX3_init_292 ?_
                            refine j_iinc (n0 := 1) (v := nI (i3 + 1)) [(3, .int (nI (i3 + 1))), (0, .ref (q 0))] dX3_init_293 rfl (by exact nI_add (i3) 1) (by decide) rfl ?_
                            refine j_goto (tgt := 277) dX3_init_296 (by decide) ?_
                            refine j_sub [1, 0] [(0, .ref (q 0)), (3, .int (nI (i3 + 1)))] rfl ?_
                            exact ih277 (i3 + 1) (va_up fp1 i3 99) (by omega) (by omega) (fun j h => if h2 : j = i3 then by rw [h2, va_up_self] else by rw [va_up_ne _ _ h2]; exact hz3 j (by omega)) (fun j h => by rw [va_up_ne _ _ (by omega)]; exact hy3 j (by omega))
                      exact loop277 (nP R C + 2) 0 z0 (by omega) (by omega) (fun j h => absurd h (by omega)) (fun j _ => rfl)
                    · refine j_aload_n dX3_init_262 rfl 0 rfl ?_
                      refine gf_X3_22 0 rfl (rfl) dX3_init_263 ?_
                      refine j_iload_n dX3_init_266 rfl 1 rfl ?_
                      refine j_iconst (v := (-1)) dX3_init_267 (by decide) ?_
                      refine j_st (st' := [.int (eI (99)), .int (nI (i2)), .ref (q 9)]) (by rfl) ?_
                      refine jn_iastE (wK cI cJ cZ q R C 0 z0 z0 z0 z0 (va_up en1 i2 99) z0 z0 cf1 z0 (fun _ => 99)) 5 0 rfl rfl (by omega) (by omega) rfl dX3_init_268 ?_
                      refine j_iinc (n0 := 1) (v := nI (i2 + 1)) [(3, .int (nI (i2 + 1))), (0, .ref (q 0))] dX3_init_269 rfl (by exact nI_add (i2) 1) (by decide) rfl ?_
                      refine j_goto (tgt := 256) dX3_init_272 (by decide) ?_
                      refine j_sub [1, 0] [(0, .ref (q 0)), (3, .int (nI (i2 + 1)))] rfl ?_
                      exact ih256 (i2 + 1) (va_up en1 i2 99) (by omega) (by omega) (fun j h => if h2 : j = i2 then by rw [h2, va_up_self] else by rw [va_up_ne _ _ h2]; exact hz2 j (by omega))
                exact loop256 82 0 z0 (by omega) (by omega) (fun j h => absurd h (by omega))
              · refine j_aload_n dX3_init_233 rfl 0 rfl ?_
                refine gf_X3_40 0 rfl (rfl) dX3_init_234 ?_
                refine j_iload_n dX3_init_237 rfl 1 rfl ?_
                refine j_iconst (v := (-1)) dX3_init_238 (by decide) ?_
                refine j_st (st' := [.int (eI (99)), .int (nI (i)), .ref (q 16)]) (by rfl) ?_
                refine jn_iastE (wK cI cJ cZ q R C 0 z0 z0 z0 z0 z0 z0 z0 cf1 z0 (va_up cu1 i 99)) 11 0 rfl rfl (by omega) (by omega) rfl dX3_init_239 ?_
                refine j_aload_n dX3_init_240 rfl 0 rfl ?_
                refine gf_X3_31 0 rfl (rfl) dX3_init_241 ?_
                refine j_iload_n dX3_init_244 rfl 1 rfl ?_
                refine j_bipush (v := nI (99)) dX3_init_245 (by decide) ?_
                refine jn_iastN (wK cI cJ cZ q R C 0 z0 z0 z0 z0 z0 z0 z0 (va_up cf1 i 99) z0 (va_up cu1 i 99)) 8 0 rfl rfl (by omega) (by omega) rfl dX3_init_247 ?_
                refine j_iinc (n0 := 1) (v := nI (i + 1)) [(3, .int (nI (i + 1))), (0, .ref (q 0))] dX3_init_248 rfl (by exact nI_add (i) 1) (by decide) rfl ?_
                refine j_goto (tgt := 227) dX3_init_251 (by decide) ?_
                refine j_sub [1, 0] [(0, .ref (q 0)), (3, .int (nI (i + 1)))] rfl ?_
                exact ih227 (i + 1) (va_up cf1 i 99) (va_up cu1 i 99) (by omega) (by omega) (fun j h => if h2 : j = i then by rw [h2, va_up_self, va_up_self]; exact ⟨rfl, rfl⟩ else by rw [va_up_ne _ _ h2, va_up_ne _ _ h2]; exact hz1 j (by omega))
          exact loop227 14 0 z0 z0 (by omega) (by omega) (fun j h => absurd h (by omega))

