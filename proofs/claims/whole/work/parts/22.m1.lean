/-! the model's methods on sets of edges -/
theorem in_run {S e : Nat} (hS : S < 2 ^ 31) (he : e < 31) : (nI S >>> (nI (30 - e) &&& 31)) &&& nI 1 = nI (if isI S e then 1 else 0) := nb_bit hS (by omega)
set_option maxHeartbeats 4000000 in
set_option maxRecDepth 100000 in
theorem c_isIn (l : Launch) (hfl : l.flags = flags0) (D : va_G) (tys : List (ClassId × FieldType)) (S e : Nat) (hS : S < 2 ^ 31) (he : e < 31) : Ct l yX3_isIn cX3_isIn 2 (Option.some FieldType.boolean) ({ frames := 0, cells := 0, slots := 0, locals := 0 } : Room) D tys tys ([]) [.int (nI (S)), .int (nI (e))] (fun r u => r = some (.int (bI ((isI S e)))) ∧ u = []) 0 0 := by
  refine Ct.of hfl (by decide) (Nat.le_of_ble_eq_true rfl) ?_
  intro k hR _
  show V k l D tys ({ frames := 0, cells := 0, slots := 0, locals := 0 } : Room) cX3_isIn 2 RX3 ([]) 0 0 0 [(0, .int (nI (S))), (1, .int (nI (e)))] []
  refine j_iload_n dX3_isIn_0 rfl 0 rfl ?_
  refine j_bipush (v := nI (30)) dX3_isIn_1 (by decide) ?_
  refine j_iload_n dX3_isIn_3 rfl 1 rfl ?_
  refine jn_isub dX3_isIn_4 (by omega) rfl ?_
  refine j_ishr dX3_isIn_5 rfl ?_
  refine j_iconst (v := nI (1)) dX3_isIn_6 (by decide) ?_
  refine j_iand dX3_isIn_7 rfl ?_
  refine j_topi (y := nI (if isI S e then 1 else 0)) (in_run hS he) ?_
  refine j_iconst (v := nI (1)) dX3_isIn_8 (by decide) ?_
  refine jn_icmp_ne (tgt := 16) (a := if isI S e then 1 else 0) (b := 1) (by split <;> omega) (by omega) dX3_isIn_9 (by decide) (fun c9 => ?_) (fun c9 => ?_)
  · refine j_iconst (v := nI (0)) dX3_isIn_16 (by decide) ?_
    refine j_st (st' := [.int (bI (false))]) (by rfl) ?_
    exact j_zretB (tys' := []) rfl hR dX3_isIn_17 (⟨by have : isI S e = false := (by revert c9; cases isI S e <;> simp); rw [this], rfl⟩)
  · refine j_iconst (v := nI (1)) dX3_isIn_12 (by decide) ?_
    refine j_goto (tgt := 17) dX3_isIn_13 (by decide) ?_
    refine j_st (st' := [.int (bI (true))]) (by rfl) ?_
    exact j_zretB (tys' := []) rfl hR dX3_isIn_17 (⟨by have : isI S e = true := (by revert c9; cases isI S e <;> simp); rw [this], rfl⟩)

set_option maxHeartbeats 4000000 in
set_option maxRecDepth 100000 in
theorem c_bit (l : Launch) (hfl : l.flags = flags0) (D : va_G) (tys : List (ClassId × FieldType)) (e : Nat) (he : e < 31) : Ct l yX3_bit cX3_bit 1 (Option.some FieldType.int) ({ frames := 0, cells := 0, slots := 0, locals := 0 } : Room) D tys tys ([]) [.int (nI (e))] (fun r u => r = some (.int (nI (2 ^ (30 - e)))) ∧ u = []) 0 0 := by
  refine Ct.of hfl (by decide) (Nat.le_of_ble_eq_true rfl) ?_
  intro k hR _
  show V k l D tys ({ frames := 0, cells := 0, slots := 0, locals := 0 } : Room) cX3_bit 1 RX3 ([]) 0 0 0 [(0, .int (nI (e)))] []
  refine j_iconst (v := nI (1)) dX3_bit_0 (by decide) ?_
  refine j_bipush (v := nI (30)) dX3_bit_1 (by decide) ?_
  refine j_iload_n dX3_bit_3 rfl 0 rfl ?_
  refine jn_isub dX3_bit_4 (by omega) rfl ?_
  refine j_ishl dX3_bit_5 rfl ?_
  refine j_topi (y := nI (2 ^ (30 - e))) (by rw [nb_shl (by have := Nat.pow_lt_pow_right (a := 2) (by decide) (show 30 - e < 31 by omega); omega) (by omega), Nat.one_mul]) ?_
  exact j_iret (tys' := []) rfl hR dX3_bit_6 (⟨rfl, rfl⟩)

set_option maxHeartbeats 4000000 in
set_option maxRecDepth 100000 in
theorem c_size (l : Launch) (hfl : l.flags = flags0) (D : va_G) (cI cJ cZ : ClassId) (q : Nat → Nat) (R C : Nat) (hG : GS R C) (th : Nat) (kn me : Bool) (ns he nx dr nl : Nat) (lp cu so wi us ho nh : Nat → Nat) (ke : Nat → Int64) (ta de : Nat → Nat) (se : Nat → Bool) (S : Nat) (hS : S < 2 ^ 31) : Ct l yX3_size cX3_size 4 (Option.some FieldType.int) ({ frames := 1, cells := 0, slots := 0, locals := 21 } : Room) D (tys3 cI cJ cZ) (tys3 cI cJ cZ) (wM cI cJ cZ q R C th kn me ns he nx dr nl lp cu so wi us ho nh ke ta de se) [.ref (q 0), .int (nI (S))] (fun r u => r = some (.int (nI (szA S (nE R C)))) ∧ u = wM cI cJ cZ q R C th kn me ns he nx dr nl lp cu so wi us ho nh ke ta de se) 0 0 := by
  refine Ct.of hfl (by decide) (Nat.le_of_ble_eq_true rfl) ?_
  intro k hR _
  have hR4 := hG.2.1
  have hC3 := hG.2.2.2
  have hR1 := hG.1
  have hC1 := hG.2.2.1
  have hE := hG.E
  have hRC := hG.RC
  have hE4 := hG.E4
  have hP := hG.P
  show V k l D (tys3 cI cJ cZ) ({ frames := 1, cells := 0, slots := 0, locals := 21 } : Room) cX3_size 4 RX3 (wM cI cJ cZ q R C th kn me ns he nx dr nl lp cu so wi us ho nh ke ta de se) 0 0 0 [(0, .ref (q 0)), (1, .int (nI (S)))] []
  refine j_iconst (v := nI (0)) dX3_size_0 (by decide) ?_
  refine j_istore_n [(2, .int (nI (0))), (0, .ref (q 0)), (1, .int (nI (S)))] dX3_size_1 rfl (by decide) rfl ?_
  refine j_iconst (v := nI (0)) dX3_size_2 (by decide) ?_
  refine j_istore_n [(3, .int (nI (0))), (2, .int (nI (0))), (0, .ref (q 0)), (1, .int (nI (S)))] dX3_size_3 rfl (by decide) rfl ?_
  refine j_lv (lv' := [(3, .int (nI (0))), (2, .int (nI (szA S 0))), (0, .ref (q 0)), (1, .int (nI (S)))]) (by rfl) ?_
  refine j_sub [2, 3, 1, 0] [(0, .ref (q 0)), (1, .int (nI (S))), (2, .int (nI (szA S 0))), (3, .int (nI (0)))] rfl ?_
  have loop4 : ∀ (n : Nat) (i : Nat), (nE R C < i + n) → (i ≤ nE R C) → V k l D (tys3 cI cJ cZ) ({ frames := 1, cells := 0, slots := 0, locals := 21 } : Room) cX3_size 4 RX3 (wM cI cJ cZ q R C th kn me ns he nx dr nl lp cu so wi us ho nh ke ta de se) 0 0 4 [(0, .ref (q 0)), (1, .int (nI (S))), (2, .int (nI (szA S i))), (3, .int (nI (i)))] [] := by
    intro n
    induction n with
    | zero => intro i hm hi; exfalso; omega
    | succ n ih4 =>
      intro i hm hi
      refine j_iload_n dX3_size_4 rfl 3 rfl ?_
      refine j_aload_n dX3_size_5 rfl 0 rfl ?_
      refine gf_X3_93 0 rfl (rfl) dX3_size_6 ?_
      refine jn_icmp_ge (tgt := 34) (a := i) (b := nE R C) (by omega) (by omega) dX3_size_9 (by decide) (fun c9 => ?_) (fun c9 => ?_)
      · refine j_iload_n dX3_size_34 rfl 2 rfl ?_
        exact j_iret (tys' := []) rfl hR dX3_size_35 (⟨by rw [show i = nE R C by omega], rfl⟩)
      · refine j_iload_n dX3_size_12 rfl 1 rfl ?_
        refine j_iload_n dX3_size_13 rfl 3 rfl ?_
        refine j_s0 (av := [.int (nI (S)), .int (nI (i))]) (r0 := .int (bI ((isI S i)))) (c_isIn l hfl D (tys3 cI cJ cZ) (S) (i) (by omega) (by omega)) mw2_220 mw2_221 mw1_4 mw2_222 hd_X3_isIn rfl ⟨rfl, rfl⟩ ⟨Nat.le_of_ble_eq_true rfl, Nat.le_of_ble_eq_true rfl⟩ ⟨Nat.zero_le _, Nat.zero_le _⟩ (Nat.le_of_ble_eq_true rfl) rfl dX3_size_14 ?_
        refine jb_if_eq (tgt := 26) (b := (isI S i)) dX3_size_17 (by decide) (fun c17 => ?_) (fun c17 => ?_)
        · refine j_iload_n dX3_size_26 rfl 2 rfl ?_
          refine j_topi (y := nI (szA S (i + 1))) (by rw [show szA S (i + 1) = szA S i from by simp [szA, c17]]) ?_
          refine j_istore_n [(2, .int (nI (szA S (i + 1)))), (0, .ref (q 0)), (1, .int (nI (S))), (3, .int (nI (i)))] dX3_size_27 rfl (by decide) rfl ?_
          refine j_iinc (n0 := 3) (v := nI (i + 1)) [(3, .int (nI (i + 1))), (2, .int (nI (szA S (i + 1)))), (0, .ref (q 0)), (1, .int (nI (S)))] dX3_size_28 rfl (by exact nI_add (i) 1) (by decide) rfl ?_
          refine j_goto (tgt := 4) dX3_size_31 (by decide) ?_
          refine j_sub [2, 3, 1, 0] [(0, .ref (q 0)), (1, .int (nI (S))), (2, .int (nI (szA S (i + 1)))), (3, .int (nI (i + 1)))] rfl ?_
          exact ih4 (i + 1) (by omega) (by omega)
        · refine j_iload_n dX3_size_20 rfl 2 rfl ?_
          refine j_iconst (v := nI (1)) dX3_size_21 (by decide) ?_
          refine jn_iadd (v := (szA S i) + 1) dX3_size_22 rfl ?_
          refine j_goto (tgt := 27) dX3_size_23 (by decide) ?_
          refine j_topi (y := nI (szA S (i + 1))) (by rw [show szA S (i + 1) = (szA S i) + 1 from by simp [szA, c17]]) ?_
          refine j_istore_n [(2, .int (nI (szA S (i + 1)))), (0, .ref (q 0)), (1, .int (nI (S))), (3, .int (nI (i)))] dX3_size_27 rfl (by decide) rfl ?_
          refine j_iinc (n0 := 3) (v := nI (i + 1)) [(3, .int (nI (i + 1))), (2, .int (nI (szA S (i + 1)))), (0, .ref (q 0)), (1, .int (nI (S)))] dX3_size_28 rfl (by exact nI_add (i) 1) (by decide) rfl ?_
          refine j_goto (tgt := 4) dX3_size_31 (by decide) ?_
          refine j_sub [2, 3, 1, 0] [(0, .ref (q 0)), (1, .int (nI (S))), (2, .int (nI (szA S (i + 1)))), (3, .int (nI (i + 1)))] rfl ?_
          exact ih4 (i + 1) (by omega) (by omega)
  exact loop4 (nE R C + 2) 0 (by omega) (by omega)

theorem inc2 (f : Nat → Nat) (x y : Nat) : va_up (va_up f x (f x + 1)) y (va_up f x (f x + 1) y + 1) = fun p => f p + (if x = p then 1 else 0) + (if y = p then 1 else 0) := by
  funext p
  simp only [va_up]
  by_cases h1 : p = y
  · subst h1
    by_cases h2 : p = x
    · subst h2; simp
    · have : ¬ x = p := fun e => h2 e.symm
      simp [h2, this]
  · have h3 : ¬ y = p := fun e => h1 e.symm
    by_cases h2 : p = x
    · subst h2; simp [h1, h3]
    · have : ¬ x = p := fun e => h2 e.symm
      simp [h1, h2, h3, this]
set_option maxHeartbeats 4000000 in
set_option maxRecDepth 100000 in
theorem c_measure (l : Launch) (hfl : l.flags = flags0) (D : va_G) (cI cJ cZ : ClassId) (q : Nat → Nat) (R C : Nat) (hG : GS R C) (th : Nat) (kn me : Bool) (ns he nx dr nl : Nat) (lp cu so wi us ho nh : Nat → Nat) (ke : Nat → Int64) (ta de : Nat → Nat) (se : Nat → Bool) (hJ : MJ R C de se) (S : Nat) (hS : S < 2 ^ 31) : Ct l yX3_measure cX3_measure 3 none ({ frames := 1, cells := 0, slots := 0, locals := 21 } : Room) D (tys3 cI cJ cZ) (tys3 cI cJ cZ) (wM cI cJ cZ q R C th kn me ns he nx dr nl lp cu so wi us ho nh ke ta de se) [.ref (q 0), .int (nI (S))] (fun r u => r = none ∧ u = wM cI cJ cZ q R C th kn me ns he nx dr nl lp cu so wi us ho nh ke ta (deg R C S) no0) 0 0 := by
  refine Ct.of hfl (by decide) (Nat.le_of_ble_eq_true rfl) ?_
  intro k hR _
  have hR4 := hG.2.1
  have hC3 := hG.2.2.2
  have hR1 := hG.1
  have hC1 := hG.2.2.1
  have hE := hG.E
  have hRC := hG.RC
  have hE4 := hG.E4
  have hP := hG.P
  show V k l D (tys3 cI cJ cZ) ({ frames := 1, cells := 0, slots := 0, locals := 21 } : Room) cX3_measure 3 RX3 (wM cI cJ cZ q R C th kn me ns he nx dr nl lp cu so wi us ho nh ke ta de se) 0 0 0 [(0, .ref (q 0)), (1, .int (nI (S)))] []
  refine j_iconst (v := nI (0)) dX3_measure_0 (by decide) ?_
  refine j_istore_n [(2, .int (nI (0))), (0, .ref (q 0)), (1, .int (nI (S)))] dX3_measure_1 rfl (by decide) rfl ?_
  refine j_sub [1, 2, 0] [(0, .ref (q 0)), (1, .int (nI (S))), (2, .int (nI (0)))] rfl ?_
  have loop2 : ∀ (n : Nat) (i : Nat) (d1 : Nat → Nat) (s1 : Nat → Bool), (nP R C < i + n) → (i ≤ nP R C) → (∀ j, j < i → d1 j = 0 ∧ s1 j = false) → (MJ R C d1 s1) → V k l D (tys3 cI cJ cZ) ({ frames := 1, cells := 0, slots := 0, locals := 21 } : Room) cX3_measure 3 RX3 (wM cI cJ cZ q R C th kn me ns he nx dr nl lp cu so wi us ho nh ke ta d1 s1) 0 0 2 [(0, .ref (q 0)), (1, .int (nI (S))), (2, .int (nI (i)))] [] := by
    intro n
    induction n with
    | zero => intro i d1 s1 hm hi hz hoJ; exfalso; omega
    | succ n ih2 =>
      intro i d1 s1 hm hi hz hoJ
      refine j_iload_n dX3_measure_2 rfl 2 rfl ?_
      refine j_aload_n dX3_measure_3 rfl 0 rfl ?_
      refine gf_X3_79 0 rfl (rfl) dX3_measure_4 ?_
      refine jn_icmp_ge (tgt := 30) (a := i) (b := nP R C) (by omega) (by omega) dX3_measure_7 (by decide) (fun c7 => ?_) (fun c7 => ?_)
      · refine j_iconst (v := nI (0)) dX3_measure_30 (by decide) ?_
        refine j_istore_n [(2, .int (nI (0))), (0, .ref (q 0)), (1, .int (nI (S)))] dX3_measure_31 rfl (by decide) rfl ?_
        have e1 : d1 = dgA R C S 0 := by
          funext j
          rcases Nat.lt_or_ge j i with h | h
          · exact (hz j h).1
          · exact (hoJ j (by omega)).1
        have e2 : s1 = no0 := by
          funext j
          rcases Nat.lt_or_ge j i with h | h
          · exact (hz j h).2
          · exact (hoJ j (by omega)).2
        rw [e1, e2]
        refine j_sub [1, 2, 0] [(0, .ref (q 0)), (1, .int (nI (S))), (2, .int (nI (0)))] rfl ?_
        have loop32 : ∀ (n : Nat) (e : Nat), (nE R C < e + n) → (e ≤ nE R C) → V k l D (tys3 cI cJ cZ) ({ frames := 1, cells := 0, slots := 0, locals := 21 } : Room) cX3_measure 3 RX3 (wM cI cJ cZ q R C th kn me ns he nx dr nl lp cu so wi us ho nh ke ta (dgA R C S e) no0) 0 0 32 [(0, .ref (q 0)), (1, .int (nI (S))), (2, .int (nI (e)))] [] := by
          intro n
          induction n with
          | zero => intro e hm2 hel; exfalso; omega
          | succ n ih32 =>
            intro e hm2 hel
            refine j_iload_n dX3_measure_32 rfl 2 rfl ?_
            refine j_aload_n dX3_measure_33 rfl 0 rfl ?_
            refine gf_X3_93 0 rfl (rfl) dX3_measure_34 ?_
            refine jn_icmp_ge (tgt := 84) (a := e) (b := nE R C) (by omega) (by omega) dX3_measure_37 (by decide) (fun c37 => ?_) (fun c37 => ?_)
            · exact j_vret (tys' := []) rfl hR dX3_measure_84 (⟨rfl, by rw [show e = nE R C by omega]; rfl⟩)
            · have hl := hG.lo (show e < nE R C by omega)
              have hh := hG.hi (show e < nE R C by omega)
              refine j_iload_n dX3_measure_40 rfl 1 rfl ?_
              refine j_iload_n dX3_measure_41 rfl 2 rfl ?_
              refine j_s0 (av := [.int (nI (S)), .int (nI (e))]) (r0 := .int (bI ((isI S e)))) (c_isIn l hfl D (tys3 cI cJ cZ) (S) (e) (by omega) (by omega)) mw2_220 mw2_221 mw1_4 mw2_222 hd_X3_isIn rfl ⟨rfl, rfl⟩ ⟨Nat.le_of_ble_eq_true rfl, Nat.le_of_ble_eq_true rfl⟩ ⟨Nat.zero_le _, Nat.zero_le _⟩ (Nat.le_of_ble_eq_true rfl) rfl dX3_measure_42 ?_
              refine jb_if_eq (tgt := 78) (b := (isI S e)) dX3_measure_45 (by decide) (fun c45 => ?_) (fun c45 => ?_)
              · refine j_iinc (n0 := 2) (v := nI (e + 1)) [(2, .int (nI (e + 1))), (0, .ref (q 0)), (1, .int (nI (S)))] dX3_measure_78 rfl (by exact nI_add (e) 1) (by decide) rfl ?_
                refine j_goto (tgt := 32) dX3_measure_81 (by decide) ?_
                refine j_sub [1, 2, 0] [(0, .ref (q 0)), (1, .int (nI (S))), (2, .int (nI (e + 1)))] rfl ?_
                refine j_world (w' := wM cI cJ cZ q R C th kn me ns he nx dr nl lp cu so wi us ho nh ke ta (dgA R C S (e + 1)) no0) (by rw [show dgA R C S (e + 1) = dgA R C S e from by funext p; simp [dgA, c45]]) ?_
                exact ih32 (e + 1) (by omega) (by omega)
              · refine j_aload_n dX3_measure_48 rfl 0 rfl ?_
                refine gf_X3_65 0 rfl (rfl) dX3_measure_49 ?_
                refine j_aload_n dX3_measure_52 rfl 0 rfl ?_
                refine gf_X3_7 0 rfl (rfl) dX3_measure_53 ?_
                refine j_iload_n dX3_measure_56 rfl 2 rfl ?_
                refine jn_iald (v := nI (mLow R C e)) 1 0 rfl rfl (by omega) (by omega) (rfl) dX3_measure_57 ?_
                refine j_dup2 dX3_measure_58 rfl rfl ?_
                refine jn_iald (v := nI ((dgA R C S e) (mLow R C e))) 19 0 rfl rfl (by omega) (by omega) (rfl) dX3_measure_59 ?_
                refine j_iconst (v := nI (1)) dX3_measure_60 (by decide) ?_
                refine jn_iadd (v := ((dgA R C S e) (mLow R C e)) + 1) dX3_measure_61 rfl ?_
                refine jn_iastN (wM cI cJ cZ q R C th kn me ns he nx dr nl lp cu so wi us ho nh ke ta (va_up (dgA R C S e) (mLow R C e) (((dgA R C S e) (mLow R C e)) + 1)) no0) 19 0 rfl rfl (by omega) (by omega) rfl dX3_measure_62 ?_
                refine j_aload_n dX3_measure_63 rfl 0 rfl ?_
                refine gf_X3_65 0 rfl (rfl) dX3_measure_64 ?_
                refine j_aload_n dX3_measure_67 rfl 0 rfl ?_
                refine gf_X3_13 0 rfl (rfl) dX3_measure_68 ?_
                refine j_iload_n dX3_measure_71 rfl 2 rfl ?_
                refine jn_iald (v := nI (mHigh R C e)) 2 0 rfl rfl (by omega) (by omega) (rfl) dX3_measure_72 ?_
                refine j_dup2 dX3_measure_73 rfl rfl ?_
                refine jn_iald (v := nI ((va_up (dgA R C S e) (mLow R C e) (((dgA R C S e) (mLow R C e)) + 1)) (mHigh R C e))) 19 0 rfl rfl (by omega) (by omega) (rfl) dX3_measure_74 ?_
                refine j_iconst (v := nI (1)) dX3_measure_75 (by decide) ?_
                refine jn_iadd (v := ((va_up (dgA R C S e) (mLow R C e) (((dgA R C S e) (mLow R C e)) + 1)) (mHigh R C e)) + 1) dX3_measure_76 rfl ?_
                refine jn_iastN (wM cI cJ cZ q R C th kn me ns he nx dr nl lp cu so wi us ho nh ke ta (va_up (va_up (dgA R C S e) (mLow R C e) (((dgA R C S e) (mLow R C e)) + 1)) (mHigh R C e) (((va_up (dgA R C S e) (mLow R C e) (((dgA R C S e) (mLow R C e)) + 1)) (mHigh R C e)) + 1)) no0) 19 0 rfl rfl (by omega) (by omega) rfl dX3_measure_77 ?_
                refine j_iinc (n0 := 2) (v := nI (e + 1)) [(2, .int (nI (e + 1))), (0, .ref (q 0)), (1, .int (nI (S)))] dX3_measure_78 rfl (by exact nI_add (e) 1) (by decide) rfl ?_
                refine j_goto (tgt := 32) dX3_measure_81 (by decide) ?_
                refine j_sub [1, 2, 0] [(0, .ref (q 0)), (1, .int (nI (S))), (2, .int (nI (e + 1)))] rfl ?_
                refine j_world (w' := wM cI cJ cZ q R C th kn me ns he nx dr nl lp cu so wi us ho nh ke ta (dgA R C S (e + 1)) no0) (by rw [show dgA R C S (e + 1) = va_up (va_up (dgA R C S e) (mLow R C e) (((dgA R C S e) (mLow R C e)) + 1)) (mHigh R C e) (((va_up (dgA R C S e) (mLow R C e) (((dgA R C S e) (mLow R C e)) + 1)) (mHigh R C e)) + 1) from by rw [inc2]; funext p; simp [dgA, c45]]) ?_
                exact ih32 (e + 1) (by omega) (by omega)
        exact loop32 (nE R C + 2) 0 (by omega) (by omega)
      · refine j_aload_n dX3_measure_10 rfl 0 rfl ?_
        refine gf_X3_65 0 rfl (rfl) dX3_measure_11 ?_
        refine j_iload_n dX3_measure_14 rfl 2 rfl ?_
        refine j_iconst (v := nI (0)) dX3_measure_15 (by decide) ?_
        refine jn_iastN (wM cI cJ cZ q R C th kn me ns he nx dr nl lp cu so wi us ho nh ke ta (va_up d1 i 0) s1) 19 0 rfl rfl (by omega) (by omega) rfl dX3_measure_16 ?_
        refine j_aload_n dX3_measure_17 rfl 0 rfl ?_
        refine gf_X3_68 0 rfl (rfl) dX3_measure_18 ?_
        refine j_iload_n dX3_measure_21 rfl 2 rfl ?_
        refine j_iconst (v := nI (0)) dX3_measure_22 (by decide) ?_
        refine j_st (st' := [.int (bI (false)), .int (nI (i)), .ref (q 31)]) (by rfl) ?_
        refine jn_zastB (wM cI cJ cZ q R C th kn me ns he nx dr nl lp cu so wi us ho nh ke ta (va_up d1 i 0) (va_up s1 i false)) 20 2 rfl rfl (by omega) (by omega) rfl dX3_measure_23 ?_
        refine j_iinc (n0 := 2) (v := nI (i + 1)) [(2, .int (nI (i + 1))), (0, .ref (q 0)), (1, .int (nI (S)))] dX3_measure_24 rfl (by exact nI_add (i) 1) (by decide) rfl ?_
        refine j_goto (tgt := 2) dX3_measure_27 (by decide) ?_
        refine j_sub [1, 2, 0] [(0, .ref (q 0)), (1, .int (nI (S))), (2, .int (nI (i + 1)))] rfl ?_
        exact ih2 (i + 1) (va_up d1 i 0) (va_up s1 i false) (by omega) (by omega) (fun j h => if h2 : j = i then by rw [h2, va_up_self, va_up_self]; exact ⟨rfl, rfl⟩ else by rw [va_up_ne _ _ h2, va_up_ne _ _ h2]; exact hz j (by omega)) (fun p hp => by rw [va_up_ne _ _ (by omega), va_up_ne _ _ (by omega)]; exact hoJ p hp)
  exact loop2 (nP R C + 2) 0 de se (by omega) (by omega) (fun j h => absurd h (by omega)) hJ

set_option maxHeartbeats 4000000 in
set_option maxRecDepth 100000 in
theorem c_onward (l : Launch) (hfl : l.flags = flags0) (D : va_G) (cI cJ cZ : ClassId) (q : Nat → Nat) (R C : Nat) (hG : GS R C) (th : Nat) (kn me : Bool) (ns he nx dr nl : Nat) (lp cu so wi us ho nh : Nat → Nat) (ke : Nat → Int64) (ta de : Nat → Nat) (se : Nat → Bool) (S p bY : Nat) (hS : S < 2 ^ 31) (hp : p < nP R C) (hb : bY < 100) : Ct l yX3_onward cX3_onward 5 (Option.some FieldType.int) ({ frames := 1, cells := 0, slots := 0, locals := 21 } : Room) D (tys3 cI cJ cZ) (tys3 cI cJ cZ) (wM cI cJ cZ q R C th kn me ns he nx dr nl lp cu so wi us ho nh ke ta de se) [.ref (q 0), .int (nI (S)), .int (nI (p)), .int (eI (bY))] (fun r u => r = some (.int (eI (onw R C S p bY))) ∧ u = wM cI cJ cZ q R C th kn me ns he nx dr nl lp cu so wi us ho nh ke ta de se) 0 0 := by
  refine Ct.of hfl (by decide) (Nat.le_of_ble_eq_true rfl) ?_
  intro k hR _
  have hR4 := hG.2.1
  have hC3 := hG.2.2.2
  have hR1 := hG.1
  have hC1 := hG.2.2.1
  have hE := hG.E
  have hRC := hG.RC
  have hE4 := hG.E4
  have hP := hG.P
  show V k l D (tys3 cI cJ cZ) ({ frames := 1, cells := 0, slots := 0, locals := 21 } : Room) cX3_onward 5 RX3 (wM cI cJ cZ q R C th kn me ns he nx dr nl lp cu so wi us ho nh ke ta de se) 0 0 0 [(0, .ref (q 0)), (1, .int (nI (S))), (2, .int (nI (p))), (3, .int (eI (bY)))] []
  refine j_iconst (v := nI (4)) dX3_onward_0 (by decide) ?_
  refine j_iload_n dX3_onward_1 rfl 2 rfl ?_
  refine jn_imul (v := 4 * p) dX3_onward_2 rfl ?_
  refine j_istore [(4, .int (nI (4 * p))), (0, .ref (q 0)), (1, .int (nI (S))), (2, .int (nI (p))), (3, .int (eI (bY)))] dX3_onward_3 (by decide) rfl ?_
  refine j_sub [1, 2, 3, 4, 0] [(0, .ref (q 0)), (1, .int (nI (S))), (2, .int (nI (p))), (3, .int (eI (bY))), (4, .int (nI (4 * p)))] rfl ?_
  have loop5 : ∀ (n : Nat) (kk : Nat), (4 * p + 4 < kk + n) → (4 * p ≤ kk) → (kk ≤ 4 * p + 4) → (onA R C S bY (4 * p + 4 - kk) kk = onw R C S p bY) → V k l D (tys3 cI cJ cZ) ({ frames := 1, cells := 0, slots := 0, locals := 21 } : Room) cX3_onward 5 RX3 (wM cI cJ cZ q R C th kn me ns he nx dr nl lp cu so wi us ho nh ke ta de se) 0 0 5 [(0, .ref (q 0)), (1, .int (nI (S))), (2, .int (nI (p))), (3, .int (eI (bY))), (4, .int (nI (kk)))] [] := by
    intro n
    induction n with
    | zero => intro kk hm h1 h2 hr; exfalso; omega
    | succ n ih5 =>
      intro kk hm h1 h2 hr
      refine j_iload dX3_onward_5 4 rfl ?_
      refine j_iconst (v := nI (4)) dX3_onward_7 (by decide) ?_
      refine j_iload_n dX3_onward_8 rfl 2 rfl ?_
      refine jn_imul (v := 4 * p) dX3_onward_9 rfl ?_
      refine j_iconst (v := nI (4)) dX3_onward_10 (by decide) ?_
      refine jn_iadd (v := (4 * p) + 4) dX3_onward_11 rfl ?_
      refine jn_icmp_ge (tgt := 64) (a := kk) (b := (4 * p) + 4) (by omega) (by omega) dX3_onward_12 (by decide) (fun c12 => ?_) (fun c12 => ?_)
      · refine j_iconst (v := (-1)) dX3_onward_64 (by decide) ?_
        exact j_iret (tys' := []) rfl hR dX3_onward_65 (⟨by rw [← hr, show 4 * p + 4 - kk = 0 by omega]; rfl, rfl⟩)
      · have h4 : 4 * p + 4 - kk = (4 * p + 4 - (kk + 1)) + 1 := by omega
        have hen := hG.en (show kk < 4 * nP R C by omega)
        refine j_aload_n dX3_onward_15 rfl 0 rfl ?_
        refine gf_X3_22 0 rfl (rfl) dX3_onward_16 ?_
        refine j_iload dX3_onward_19 4 rfl ?_
        refine jn_iald (v := eI (mEnds R C kk)) 5 0 rfl rfl (by omega) (by omega) (rfl) dX3_onward_21 ?_
        refine je_if_lt (tgt := 58) (x := mEnds R C kk) (by omega) dX3_onward_22 (by decide) (fun c22 => ?_) (fun c22 => ?_)
        · refine j_iinc (n0 := 4) (v := nI (kk + 1)) [(4, .int (nI (kk + 1))), (0, .ref (q 0)), (1, .int (nI (S))), (2, .int (nI (p))), (3, .int (eI (bY)))] dX3_onward_58 rfl (by exact nI_add (kk) 1) (by decide) rfl ?_
          refine j_goto (tgt := 5) dX3_onward_61 (by decide) ?_
          refine j_sub [1, 2, 3, 4, 0] [(0, .ref (q 0)), (1, .int (nI (S))), (2, .int (nI (p))), (3, .int (eI (bY))), (4, .int (nI (kk + 1)))] rfl ?_
          have hr2 : onA R C S bY (4 * p + 4 - (kk + 1)) (kk + 1) = onw R C S p bY := by rw [← hr, h4]; simp [onA, c22]
          exact ih5 (kk + 1) (by omega) (by omega) (by omega) hr2
        · refine j_aload_n dX3_onward_25 rfl 0 rfl ?_
          refine gf_X3_22 0 rfl (rfl) dX3_onward_26 ?_
          refine j_iload dX3_onward_29 4 rfl ?_
          refine jn_iald (v := eI (mEnds R C kk)) 5 0 rfl rfl (by omega) (by omega) (rfl) dX3_onward_31 ?_
          refine j_iload_n dX3_onward_32 rfl 3 rfl ?_
          refine je_icmp_eq (tgt := 58) (x := mEnds R C kk) (y := bY) (by omega) (by omega) dX3_onward_33 (by decide) (fun c33 => ?_) (fun c33 => ?_)
          · refine j_iinc (n0 := 4) (v := nI (kk + 1)) [(4, .int (nI (kk + 1))), (0, .ref (q 0)), (1, .int (nI (S))), (2, .int (nI (p))), (3, .int (eI (bY)))] dX3_onward_58 rfl (by exact nI_add (kk) 1) (by decide) rfl ?_
            refine j_goto (tgt := 5) dX3_onward_61 (by decide) ?_
            refine j_sub [1, 2, 3, 4, 0] [(0, .ref (q 0)), (1, .int (nI (S))), (2, .int (nI (p))), (3, .int (eI (bY))), (4, .int (nI (kk + 1)))] rfl ?_
            have hr2 : onA R C S bY (4 * p + 4 - (kk + 1)) (kk + 1) = onw R C S p bY := by rw [← hr, h4]; simp [onA, c22, eq_true c33]
            exact ih5 (kk + 1) (by omega) (by omega) (by omega) hr2
          · refine j_iload_n dX3_onward_36 rfl 1 rfl ?_
            refine j_aload_n dX3_onward_37 rfl 0 rfl ?_
            refine gf_X3_22 0 rfl (rfl) dX3_onward_38 ?_
            refine j_iload dX3_onward_41 4 rfl ?_
            refine jn_iald (v := nI (mEnds R C kk)) 5 0 rfl rfl (by omega) (by omega) (eI_ne c22) dX3_onward_43 ?_
            refine j_s0 (av := [.int (nI (S)), .int (nI (mEnds R C kk))]) (r0 := .int (bI ((isI S (mEnds R C kk))))) (c_isIn l hfl D (tys3 cI cJ cZ) (S) (mEnds R C kk) (by omega) (by omega)) mw2_220 mw2_221 mw1_4 mw2_222 hd_X3_isIn rfl ⟨rfl, rfl⟩ ⟨Nat.le_of_ble_eq_true rfl, Nat.le_of_ble_eq_true rfl⟩ ⟨Nat.zero_le _, Nat.zero_le _⟩ (Nat.le_of_ble_eq_true rfl) rfl dX3_onward_44 ?_
            refine jb_if_eq (tgt := 58) (b := (isI S (mEnds R C kk))) dX3_onward_47 (by decide) (fun c47 => ?_) (fun c47 => ?_)
            · refine j_iinc (n0 := 4) (v := nI (kk + 1)) [(4, .int (nI (kk + 1))), (0, .ref (q 0)), (1, .int (nI (S))), (2, .int (nI (p))), (3, .int (eI (bY)))] dX3_onward_58 rfl (by exact nI_add (kk) 1) (by decide) rfl ?_
              refine j_goto (tgt := 5) dX3_onward_61 (by decide) ?_
              refine j_sub [1, 2, 3, 4, 0] [(0, .ref (q 0)), (1, .int (nI (S))), (2, .int (nI (p))), (3, .int (eI (bY))), (4, .int (nI (kk + 1)))] rfl ?_
              have hr2 : onA R C S bY (4 * p + 4 - (kk + 1)) (kk + 1) = onw R C S p bY := by rw [← hr, h4]; simp [onA, c22, c33, c47]
              exact ih5 (kk + 1) (by omega) (by omega) (by omega) hr2
            · refine j_aload_n dX3_onward_50 rfl 0 rfl ?_
              refine gf_X3_22 0 rfl (rfl) dX3_onward_51 ?_
              refine j_iload dX3_onward_54 4 rfl ?_
              refine jn_iald (v := eI (mEnds R C kk)) 5 0 rfl rfl (by omega) (by omega) (rfl) dX3_onward_56 ?_
              exact j_iret (tys' := []) rfl hR dX3_onward_57 (⟨by rw [← hr, h4]; simp [onA, c22, c33, c47], rfl⟩)
  exact loop5 6 (4 * p) (by omega) (by omega) (by omega) (by rw [Nat.add_sub_cancel_left]; rfl)

theorem onA_lt {R C S bY : Nat} (hG : GS R C) : ∀ (n k : Nat), k + n ≤ 4 * nP R C → onA R C S bY n k = 99 ∨ onA R C S bY n k < nE R C
  | 0, _, _ => Or.inl rfl
  | n + 1, k, h => by
    have h1 := hG.en (show k < 4 * nP R C by omega)
    have ih := onA_lt (S := S) (bY := bY) hG n (k + 1) (by omega)
    simp only [onA]
    split
    · exact ih
    · split
      · exact ih
      · split
        · rename_i h2 _ _
          exact Or.inr (h1.resolve_left h2)
        · exact ih
theorem onw_lt {R C S p bY : Nat} (hG : GS R C) (hp : p < nP R C) : onw R C S p bY = 99 ∨ onw R C S p bY < nE R C := onA_lt hG 4 (4 * p) (by omega)
theorem othr_lt {R C p e : Nat} (hG : GS R C) (he : e < nE R C) : othr R C p e < nP R C := by
  unfold othr
  split
  · exact hG.hi he
  · exact hG.lo he
set_option maxHeartbeats 4000000 in
set_option maxRecDepth 100000 in
theorem c_walk (l : Launch) (hfl : l.flags = flags0) (D : va_G) (cI cJ cZ : ClassId) (q : Nat → Nat) (R C : Nat) (hG : GS R C) (th : Nat) (kn me : Bool) (ns he nx dr nl : Nat) (lp cu so wi us ho nh : Nat → Nat) (ke : Nat → Int64) (ta de : Nat → Nat) (se : Nat → Bool) (S p : Nat) (hS : S < 2 ^ 31) (hp : p < nP R C) : Ct l yX3_walk cX3_walk 6 (Option.some FieldType.int) ({ frames := 2, cells := 0, slots := 0, locals := 45 } : Room) D (tys3 cI cJ cZ) (tys3 cI cJ cZ) (wM cI cJ cZ q R C th kn me ns he nx dr nl lp cu so wi us ho nh ke ta de se) [.ref (q 0), .int (nI (S)), .int (nI (p))] (fun r u => r = some (.int (nI (wlk R C S p se).1)) ∧ u = wM cI cJ cZ q R C th kn me ns he nx dr nl lp cu so wi us ho nh ke ta de ((wlk R C S p se).2)) 0 0 := by
  refine Ct.of hfl (by decide) (Nat.le_of_ble_eq_true rfl) ?_
  intro k hR _
  have hR4 := hG.2.1
  have hC3 := hG.2.2.2
  have hR1 := hG.1
  have hC1 := hG.2.2.1
  have hE := hG.E
  have hRC := hG.RC
  have hE4 := hG.E4
  have hP := hG.P
  show V k l D (tys3 cI cJ cZ) ({ frames := 2, cells := 0, slots := 0, locals := 45 } : Room) cX3_walk 6 RX3 (wM cI cJ cZ q R C th kn me ns he nx dr nl lp cu so wi us ho nh ke ta de se) 0 0 0 [(0, .ref (q 0)), (1, .int (nI (S))), (2, .int (nI (p)))] []
  refine j_iload_n dX3_walk_0 rfl 2 rfl ?_
  refine j_istore_n [(3, .int (nI (p))), (0, .ref (q 0)), (1, .int (nI (S))), (2, .int (nI (p)))] dX3_walk_1 rfl (by decide) rfl ?_
  refine j_iconst (v := (-1)) dX3_walk_2 (by decide) ?_
  refine j_topi (y := eI (99)) (by rfl) ?_
  refine j_istore [(4, .int (eI (99))), (3, .int (nI (p))), (0, .ref (q 0)), (1, .int (nI (S))), (2, .int (nI (p)))] dX3_walk_3 (by decide) rfl ?_
  refine j_aload_n dX3_walk_5 rfl 2 rfl ?_
  refine gf_X3_68 0 rfl (rfl) dX3_walk_6 ?_
  refine j_iload_n dX3_walk_9 rfl 1 rfl ?_
  refine j_iconst (v := nI (1)) dX3_walk_10 (by decide) ?_
  refine j_st (st' := [.int (bI (true)), .int (nI (p)), .ref (q 31)]) (by rfl) ?_
  refine jn_zastB (wM cI cJ cZ q R C th kn me ns he nx dr nl lp cu so wi us ho nh ke ta de (va_up se p true)) 20 2 rfl rfl (by omega) (by omega) rfl dX3_walk_11 ?_
  refine j_aload_n dX3_walk_12 rfl 2 rfl ?_
  refine j_iload_n dX3_walk_13 rfl 3 rfl ?_
  refine j_iload_n dX3_walk_14 rfl 1 rfl ?_
  refine j_iload dX3_walk_15 0 rfl ?_
  refine j_vW (av := [.int (nI (S)), .int (nI (p)), .int (eI (99))]) (c_onward l hfl D cI cJ cZ q R C hG th kn me ns he nx dr nl lp cu so wi us ho nh ke ta de (va_up se p true) (S) (p) (99) (by omega) (hp) (by omega)) 0 rfl rfl mw3_3 mw3_5 msel21 mw1_4 mw3_6 rfl hd_X3_onward rfl ⟨rfl, rfl⟩ ⟨Nat.le_of_ble_eq_true rfl, Nat.le_of_ble_eq_true rfl⟩ ⟨Nat.zero_le _, Nat.zero_le _⟩ (Nat.le_of_ble_eq_true rfl) rfl dX3_walk_17 ?_
  rintro _ _ ⟨rfl, rfl⟩
  refine j_st (st' := [.int (eI (onw R C S p 99))]) rfl ?_
  refine j_istore [(5, .int (eI (onw R C S p 99))), (4, .int (eI (99))), (3, .int (nI (p))), (0, .ref (q 0)), (1, .int (nI (S))), (2, .int (nI (p)))] dX3_walk_20 (by decide) rfl ?_
  have hse0 : (va_up se p true) p = true := va_up_self _ _ _
  refine j_sub [3, 4, 5, 2, 1, 0] [(0, .ref (q 0)), (1, .int (nI (S))), (2, .int (nI (p))), (3, .int (nI (p))), (4, .int (eI (99))), (5, .int (eI (onw R C S p 99)))] rfl ?_
  have loop22 : ∀ (n : Nat) (p2 bY e : Nat) (s2 : Nat → Bool), (unc R C s2 < n) → (p2 < nP R C) → (bY < 100) → (e = 99 ∨ e < nE R C) → (wkA R C S n p2 e s2 = wlk R C S p se) → V k l D (tys3 cI cJ cZ) ({ frames := 2, cells := 0, slots := 0, locals := 45 } : Room) cX3_walk 6 RX3 (wM cI cJ cZ q R C th kn me ns he nx dr nl lp cu so wi us ho nh ke ta de s2) 0 0 22 [(0, .ref (q 0)), (1, .int (nI (S))), (2, .int (nI (p))), (3, .int (nI (p2))), (4, .int (eI (bY))), (5, .int (eI (e)))] [] := by
    intro n
    induction n with
    | zero => intro p2 bY e s2 hm hp2 hb2 hev hr; exfalso; omega
    | succ n ih22 =>
      intro p2 bY e s2 hm hp2 hb2 hev hr
      refine j_iload dX3_walk_22 5 rfl ?_
      refine je_if_lt (tgt := 91) (x := e) (by omega) dX3_walk_24 (by decide) (fun c24 => ?_) (fun c24 => ?_)
      · refine j_iload_n dX3_walk_91 rfl 3 rfl ?_
        exact j_iret (tys' := []) rfl hR dX3_walk_92 (⟨by rw [← hr]; simp [wkA, c24], by rw [← hr]; simp [wkA, c24]⟩)
      · refine j_lv (lv' := [(0, .ref (q 0)), (1, .int (nI (S))), (2, .int (nI (p))), (3, .int (nI (p2))), (4, .int (eI (bY))), (5, .int (nI (e)))]) (by rw [eI_ne c24]) ?_
        have he2 : e < nE R C := hev.resolve_left c24
        have ho1 := othr_lt (p := p2) hG he2
        have hlo := hG.lo he2
        have hhi := hG.hi he2
        refine j_aload_n dX3_walk_27 rfl 0 rfl ?_
        refine gf_X3_7 0 rfl (rfl) dX3_walk_28 ?_
        refine j_iload dX3_walk_31 5 rfl ?_
        refine jn_iald (v := nI (mLow R C e)) 1 0 rfl rfl (by omega) (by omega) (rfl) dX3_walk_33 ?_
        refine j_iload_n dX3_walk_34 rfl 3 rfl ?_
        refine jn_icmp_ne (tgt := 48) (a := mLow R C e) (b := p2) (by omega) (by omega) dX3_walk_35 (by decide) (fun c35 => ?_) (fun c35 => ?_)
        · refine j_aload_n dX3_walk_48 rfl 0 rfl ?_
          refine gf_X3_7 0 rfl (rfl) dX3_walk_49 ?_
          refine j_iload dX3_walk_52 5 rfl ?_
          refine jn_iald (v := nI (mLow R C e)) 1 0 rfl rfl (by omega) (by omega) (rfl) dX3_walk_54 ?_
          refine j_topi (y := nI (othr R C p2 e)) (by rw [show othr R C p2 e = mLow R C e from by simp [othr, c35]]) ?_
          refine j_istore_n [(3, .int (nI (othr R C p2 e))), (0, .ref (q 0)), (1, .int (nI (S))), (2, .int (nI (p))), (4, .int (eI (bY))), (5, .int (nI (e)))] dX3_walk_55 rfl (by decide) rfl ?_
          refine j_iload dX3_walk_56 5 rfl ?_
          refine j_istore [(4, .int (nI (e))), (3, .int (nI (othr R C p2 e))), (0, .ref (q 0)), (1, .int (nI (S))), (2, .int (nI (p))), (5, .int (nI (e)))] dX3_walk_58 (by decide) rfl ?_
          refine j_lv (lv' := [(4, .int (eI (e))), (3, .int (nI (othr R C p2 e))), (0, .ref (q 0)), (1, .int (nI (S))), (2, .int (nI (p))), (5, .int (nI (e)))]) (by rw [eI_ne c24]) ?_
          refine j_aload_n dX3_walk_60 rfl 2 rfl ?_
          refine gf_X3_68 0 rfl (rfl) dX3_walk_61 ?_
          refine j_iload_n dX3_walk_64 rfl 1 rfl ?_
          refine jn_zald (v := bI (s2 (othr R C p2 e))) 20 2 rfl rfl (by omega) (by omega) (rfl) dX3_walk_65 ?_
          refine jb_if_eq (tgt := 71) (b := s2 (othr R C p2 e)) dX3_walk_66 (by decide) (fun c66 => ?_) (fun c66 => ?_)
          · refine j_aload_n dX3_walk_71 rfl 2 rfl ?_
            refine gf_X3_68 0 rfl (rfl) dX3_walk_72 ?_
            refine j_iload_n dX3_walk_75 rfl 1 rfl ?_
            refine j_iconst (v := nI (1)) dX3_walk_76 (by decide) ?_
            refine j_st (st' := [.int (bI (true)), .int (nI (othr R C p2 e)), .ref (q 31)]) (by rfl) ?_
            refine jn_zastB (wM cI cJ cZ q R C th kn me ns he nx dr nl lp cu so wi us ho nh ke ta de (va_up s2 (othr R C p2 e) true)) 20 2 rfl rfl (by omega) (by omega) rfl dX3_walk_77 ?_
            refine j_aload_n dX3_walk_78 rfl 2 rfl ?_
            refine j_iload_n dX3_walk_79 rfl 3 rfl ?_
            refine j_iload_n dX3_walk_80 rfl 1 rfl ?_
            refine j_iload dX3_walk_81 0 rfl ?_
            refine j_vW (av := [.int (nI (S)), .int (nI (othr R C p2 e)), .int (eI (e))]) (c_onward l hfl D cI cJ cZ q R C hG th kn me ns he nx dr nl lp cu so wi us ho nh ke ta de (va_up s2 (othr R C p2 e) true) (S) (othr R C p2 e) (e) (by omega) (ho1) (by omega)) 0 rfl rfl mw3_3 mw3_5 msel21 mw1_4 mw3_6 rfl hd_X3_onward rfl ⟨rfl, rfl⟩ ⟨Nat.le_of_ble_eq_true rfl, Nat.le_of_ble_eq_true rfl⟩ ⟨Nat.zero_le _, Nat.zero_le _⟩ (Nat.le_of_ble_eq_true rfl) rfl dX3_walk_83 ?_
            rintro _ _ ⟨rfl, rfl⟩
            refine j_st (st' := [.int (eI (onw R C S (othr R C p2 e) e))]) rfl ?_
            refine j_istore [(5, .int (eI (onw R C S (othr R C p2 e) e))), (4, .int (eI (e))), (3, .int (nI (othr R C p2 e))), (0, .ref (q 0)), (1, .int (nI (S))), (2, .int (nI (p)))] dX3_walk_86 (by decide) rfl ?_
            refine j_goto (tgt := 22) dX3_walk_88 (by decide) ?_
            refine j_sub [3, 4, 5, 2, 1, 0] [(0, .ref (q 0)), (1, .int (nI (S))), (2, .int (nI (p))), (3, .int (nI (othr R C p2 e))), (4, .int (eI (e))), (5, .int (eI (onw R C S (othr R C p2 e) e)))] rfl ?_
            have hun := unc_up ho1 c66
            exact ih22 (othr R C p2 e) e (onw R C S (othr R C p2 e) e) (va_up s2 (othr R C p2 e) true) (by omega) ho1 (by omega) (onw_lt hG ho1) (by rw [← hr]; simp [wkA, c24, c66])
          · refine j_iload_n dX3_walk_69 rfl 1 rfl ?_
            exact j_iret (tys' := []) rfl hR dX3_walk_70 (⟨by rw [← hr]; simp [wkA, c24, c66], by rw [← hr]; simp [wkA, c24, c66]⟩)
        · refine j_aload_n dX3_walk_38 rfl 0 rfl ?_
          refine gf_X3_13 0 rfl (rfl) dX3_walk_39 ?_
          refine j_iload dX3_walk_42 5 rfl ?_
          refine jn_iald (v := nI (mHigh R C e)) 2 0 rfl rfl (by omega) (by omega) (rfl) dX3_walk_44 ?_
          refine j_goto (tgt := 55) dX3_walk_45 (by decide) ?_
          refine j_topi (y := nI (othr R C p2 e)) (by rw [show othr R C p2 e = mHigh R C e from by simp [othr, c35]]) ?_
          refine j_istore_n [(3, .int (nI (othr R C p2 e))), (0, .ref (q 0)), (1, .int (nI (S))), (2, .int (nI (p))), (4, .int (eI (bY))), (5, .int (nI (e)))] dX3_walk_55 rfl (by decide) rfl ?_
          refine j_iload dX3_walk_56 5 rfl ?_
          refine j_istore [(4, .int (nI (e))), (3, .int (nI (othr R C p2 e))), (0, .ref (q 0)), (1, .int (nI (S))), (2, .int (nI (p))), (5, .int (nI (e)))] dX3_walk_58 (by decide) rfl ?_
          refine j_lv (lv' := [(4, .int (eI (e))), (3, .int (nI (othr R C p2 e))), (0, .ref (q 0)), (1, .int (nI (S))), (2, .int (nI (p))), (5, .int (nI (e)))]) (by rw [eI_ne c24]) ?_
          refine j_aload_n dX3_walk_60 rfl 2 rfl ?_
          refine gf_X3_68 0 rfl (rfl) dX3_walk_61 ?_
          refine j_iload_n dX3_walk_64 rfl 1 rfl ?_
          refine jn_zald (v := bI (s2 (othr R C p2 e))) 20 2 rfl rfl (by omega) (by omega) (rfl) dX3_walk_65 ?_
          refine jb_if_eq (tgt := 71) (b := s2 (othr R C p2 e)) dX3_walk_66 (by decide) (fun c66 => ?_) (fun c66 => ?_)
          · refine j_aload_n dX3_walk_71 rfl 2 rfl ?_
            refine gf_X3_68 0 rfl (rfl) dX3_walk_72 ?_
            refine j_iload_n dX3_walk_75 rfl 1 rfl ?_
            refine j_iconst (v := nI (1)) dX3_walk_76 (by decide) ?_
            refine j_st (st' := [.int (bI (true)), .int (nI (othr R C p2 e)), .ref (q 31)]) (by rfl) ?_
            refine jn_zastB (wM cI cJ cZ q R C th kn me ns he nx dr nl lp cu so wi us ho nh ke ta de (va_up s2 (othr R C p2 e) true)) 20 2 rfl rfl (by omega) (by omega) rfl dX3_walk_77 ?_
            refine j_aload_n dX3_walk_78 rfl 2 rfl ?_
            refine j_iload_n dX3_walk_79 rfl 3 rfl ?_
            refine j_iload_n dX3_walk_80 rfl 1 rfl ?_
            refine j_iload dX3_walk_81 0 rfl ?_
            refine j_vW (av := [.int (nI (S)), .int (nI (othr R C p2 e)), .int (eI (e))]) (c_onward l hfl D cI cJ cZ q R C hG th kn me ns he nx dr nl lp cu so wi us ho nh ke ta de (va_up s2 (othr R C p2 e) true) (S) (othr R C p2 e) (e) (by omega) (ho1) (by omega)) 0 rfl rfl mw3_3 mw3_5 msel21 mw1_4 mw3_6 rfl hd_X3_onward rfl ⟨rfl, rfl⟩ ⟨Nat.le_of_ble_eq_true rfl, Nat.le_of_ble_eq_true rfl⟩ ⟨Nat.zero_le _, Nat.zero_le _⟩ (Nat.le_of_ble_eq_true rfl) rfl dX3_walk_83 ?_
            rintro _ _ ⟨rfl, rfl⟩
            refine j_st (st' := [.int (eI (onw R C S (othr R C p2 e) e))]) rfl ?_
            refine j_istore [(5, .int (eI (onw R C S (othr R C p2 e) e))), (4, .int (eI (e))), (3, .int (nI (othr R C p2 e))), (0, .ref (q 0)), (1, .int (nI (S))), (2, .int (nI (p)))] dX3_walk_86 (by decide) rfl ?_
            refine j_goto (tgt := 22) dX3_walk_88 (by decide) ?_
            refine j_sub [3, 4, 5, 2, 1, 0] [(0, .ref (q 0)), (1, .int (nI (S))), (2, .int (nI (p))), (3, .int (nI (othr R C p2 e))), (4, .int (eI (e))), (5, .int (eI (onw R C S (othr R C p2 e) e)))] rfl ?_
            have hun := unc_up ho1 c66
            exact ih22 (othr R C p2 e) e (onw R C S (othr R C p2 e) e) (va_up s2 (othr R C p2 e) true) (by omega) ho1 (by omega) (onw_lt hG ho1) (by rw [← hr]; simp [wkA, c24, c66])
          · refine j_iload_n dX3_walk_69 rfl 1 rfl ?_
            exact j_iret (tys' := []) rfl hR dX3_walk_70 (⟨by rw [← hr]; simp [wkA, c24, c66], by rw [← hr]; simp [wkA, c24, c66]⟩)
  exact loop22 21 p 99 (onw R C S p 99) (va_up se p true) (Nat.lt_of_le_of_lt (unc_le R C _) (by omega)) hp (by omega) (onw_lt hG hp) rfl

set_option maxHeartbeats 4000000 in
set_option maxRecDepth 100000 in
theorem c_isThin (l : Launch) (hfl : l.flags = flags0) (D : va_G) (cI cJ cZ : ClassId) (q : Nat → Nat) (R C : Nat) (hG : GS R C) (th : Nat) (kn me : Bool) (ns he nx dr nl : Nat) (lp cu so wi us ho nh : Nat → Nat) (ke : Nat → Int64) (ta de : Nat → Nat) (se : Nat → Bool) (hde : ∀ p, p < nP R C → de p < 2 ^ 31) : Ct l yX3_isThin cX3_isThin 3 (Option.some FieldType.boolean) ({ frames := 0, cells := 0, slots := 0, locals := 0 } : Room) D (tys3 cI cJ cZ) (tys3 cI cJ cZ) (wM cI cJ cZ q R C th kn me ns he nx dr nl lp cu so wi us ho nh ke ta de se) [.ref (q 0)] (fun r u => r = some (.int (bI ((thA de (nP R C))))) ∧ u = wM cI cJ cZ q R C th kn me ns he nx dr nl lp cu so wi us ho nh ke ta de se) 0 0 := by
  refine Ct.of hfl (by decide) (Nat.le_of_ble_eq_true rfl) ?_
  intro k hR _
  have hR4 := hG.2.1
  have hC3 := hG.2.2.2
  have hR1 := hG.1
  have hC1 := hG.2.2.1
  have hE := hG.E
  have hRC := hG.RC
  have hE4 := hG.E4
  have hP := hG.P
  show V k l D (tys3 cI cJ cZ) ({ frames := 0, cells := 0, slots := 0, locals := 0 } : Room) cX3_isThin 3 RX3 (wM cI cJ cZ q R C th kn me ns he nx dr nl lp cu so wi us ho nh ke ta de se) 0 0 0 [(0, .ref (q 0))] []
  refine j_iconst (v := nI (1)) dX3_isThin_0 (by decide) ?_
  refine j_istore_n [(1, .int (nI (1))), (0, .ref (q 0))] dX3_isThin_1 rfl (by decide) rfl ?_
  refine j_iconst (v := nI (0)) dX3_isThin_2 (by decide) ?_
  refine j_istore_n [(2, .int (nI (0))), (1, .int (nI (1))), (0, .ref (q 0))] dX3_isThin_3 rfl (by decide) rfl ?_
  refine j_lv (lv' := [(2, .int (nI (0))), (1, .int (bI ((thA de 0)))), (0, .ref (q 0))]) (by rfl) ?_
  refine j_sub [2, 1, 0] [(0, .ref (q 0)), (1, .int (bI ((thA de 0)))), (2, .int (nI (0)))] rfl ?_
  have loop4 : ∀ (n : Nat) (i : Nat), (nP R C < i + n) → (i ≤ nP R C) → V k l D (tys3 cI cJ cZ) ({ frames := 0, cells := 0, slots := 0, locals := 0 } : Room) cX3_isThin 3 RX3 (wM cI cJ cZ q R C th kn me ns he nx dr nl lp cu so wi us ho nh ke ta de se) 0 0 4 [(0, .ref (q 0)), (1, .int (bI ((thA de i)))), (2, .int (nI (i)))] [] := by
    intro n
    induction n with
    | zero => intro i hm hi; exfalso; omega
    | succ n ih4 =>
      intro i hm hi
      refine j_iload_n dX3_isThin_4 rfl 2 rfl ?_
      refine j_aload_n dX3_isThin_5 rfl 0 rfl ?_
      refine gf_X3_79 0 rfl (rfl) dX3_isThin_6 ?_
      refine jn_icmp_ge (tgt := 38) (a := i) (b := nP R C) (by omega) (by omega) dX3_isThin_9 (by decide) (fun c9 => ?_) (fun c9 => ?_)
      · refine j_iload_n dX3_isThin_38 rfl 1 rfl ?_
        exact j_zretB (tys' := []) rfl hR dX3_isThin_39 (⟨by rw [show i = nP R C by omega], rfl⟩)
      · refine j_iload_n dX3_isThin_12 rfl 1 rfl ?_
        refine jb_if_eq (tgt := 30) (b := (thA de i)) dX3_isThin_13 (by decide) (fun c13 => ?_) (fun c13 => ?_)
        · refine j_iconst (v := nI (0)) dX3_isThin_30 (by decide) ?_
          refine j_topi (y := bI ((thA de (i + 1)))) (by rw [show thA de (i + 1) = false from by first | (simp [thA, *]; done) | (simp [thA, *] <;> omega)]; rfl) ?_
          refine j_istore_n [(1, .int (bI ((thA de (i + 1))))), (0, .ref (q 0)), (2, .int (nI (i)))] dX3_isThin_31 rfl (by decide) rfl ?_
          refine j_iinc (n0 := 2) (v := nI (i + 1)) [(2, .int (nI (i + 1))), (1, .int (bI ((thA de (i + 1))))), (0, .ref (q 0))] dX3_isThin_32 rfl (by exact nI_add (i) 1) (by decide) rfl ?_
          refine j_goto (tgt := 4) dX3_isThin_35 (by decide) ?_
          refine j_sub [2, 1, 0] [(0, .ref (q 0)), (1, .int (bI ((thA de (i + 1))))), (2, .int (nI (i + 1)))] rfl ?_
          exact ih4 (i + 1) (by omega) (by omega)
        · refine j_aload_n dX3_isThin_16 rfl 0 rfl ?_
          refine gf_X3_65 0 rfl (rfl) dX3_isThin_17 ?_
          refine j_iload_n dX3_isThin_20 rfl 2 rfl ?_
          refine jn_iald (v := nI (de i)) 19 0 rfl rfl (by omega) (by omega) (rfl) dX3_isThin_21 ?_
          refine j_iconst (v := nI (3)) dX3_isThin_22 (by decide) ?_
          refine jn_icmp_ge (tgt := 30) (a := de i) (b := 3) (hde i (by omega)) (by omega) dX3_isThin_23 (by decide) (fun c23 => ?_) (fun c23 => ?_)
          · refine j_iconst (v := nI (0)) dX3_isThin_30 (by decide) ?_
            refine j_topi (y := bI ((thA de (i + 1)))) (by rw [show thA de (i + 1) = false from by first | (simp [thA, *]; done) | (simp [thA, *] <;> omega)]; rfl) ?_
            refine j_istore_n [(1, .int (bI ((thA de (i + 1))))), (0, .ref (q 0)), (2, .int (nI (i)))] dX3_isThin_31 rfl (by decide) rfl ?_
            refine j_iinc (n0 := 2) (v := nI (i + 1)) [(2, .int (nI (i + 1))), (1, .int (bI ((thA de (i + 1))))), (0, .ref (q 0))] dX3_isThin_32 rfl (by exact nI_add (i) 1) (by decide) rfl ?_
            refine j_goto (tgt := 4) dX3_isThin_35 (by decide) ?_
            refine j_sub [2, 1, 0] [(0, .ref (q 0)), (1, .int (bI ((thA de (i + 1))))), (2, .int (nI (i + 1)))] rfl ?_
            exact ih4 (i + 1) (by omega) (by omega)
          · refine j_iconst (v := nI (1)) dX3_isThin_26 (by decide) ?_
            refine j_goto (tgt := 31) dX3_isThin_27 (by decide) ?_
            refine j_topi (y := bI ((thA de (i + 1)))) (by rw [show thA de (i + 1) = true from by first | (simp [thA, *]; done) | (simp [thA, *] <;> omega)]; rfl) ?_
            refine j_istore_n [(1, .int (bI ((thA de (i + 1))))), (0, .ref (q 0)), (2, .int (nI (i)))] dX3_isThin_31 rfl (by decide) rfl ?_
            refine j_iinc (n0 := 2) (v := nI (i + 1)) [(2, .int (nI (i + 1))), (1, .int (bI ((thA de (i + 1))))), (0, .ref (q 0))] dX3_isThin_32 rfl (by exact nI_add (i) 1) (by decide) rfl ?_
            refine j_goto (tgt := 4) dX3_isThin_35 (by decide) ?_
            refine j_sub [2, 1, 0] [(0, .ref (q 0)), (1, .int (bI ((thA de (i + 1))))), (2, .int (nI (i + 1)))] rfl ?_
            exact ih4 (i + 1) (by omega) (by omega)
  exact loop4 (nP R C + 2) 0 (by omega) (by omega)

set_option maxHeartbeats 4000000 in
set_option maxRecDepth 100000 in
theorem c_hasEnds (l : Launch) (hfl : l.flags = flags0) (D : va_G) (cI cJ cZ : ClassId) (q : Nat → Nat) (R C : Nat) (hG : GS R C) (th : Nat) (kn me : Bool) (ns he nx dr nl : Nat) (lp cu so wi us ho nh : Nat → Nat) (ke : Nat → Int64) (ta de : Nat → Nat) (se : Nat → Bool) (hde : ∀ p, p < nP R C → de p < 2 ^ 31) : Ct l yX3_hasEnds cX3_hasEnds 3 (Option.some FieldType.boolean) ({ frames := 0, cells := 0, slots := 0, locals := 0 } : Room) D (tys3 cI cJ cZ) (tys3 cI cJ cZ) (wM cI cJ cZ q R C th kn me ns he nx dr nl lp cu so wi us ho nh ke ta de se) [.ref (q 0)] (fun r u => r = some (.int (bI ((heA de (nP R C))))) ∧ u = wM cI cJ cZ q R C th kn me ns he nx dr nl lp cu so wi us ho nh ke ta de se) 0 0 := by
  refine Ct.of hfl (by decide) (Nat.le_of_ble_eq_true rfl) ?_
  intro k hR _
  have hR4 := hG.2.1
  have hC3 := hG.2.2.2
  have hR1 := hG.1
  have hC1 := hG.2.2.1
  have hE := hG.E
  have hRC := hG.RC
  have hE4 := hG.E4
  have hP := hG.P
  show V k l D (tys3 cI cJ cZ) ({ frames := 0, cells := 0, slots := 0, locals := 0 } : Room) cX3_hasEnds 3 RX3 (wM cI cJ cZ q R C th kn me ns he nx dr nl lp cu so wi us ho nh ke ta de se) 0 0 0 [(0, .ref (q 0))] []
  refine j_iconst (v := nI (0)) dX3_hasEnds_0 (by decide) ?_
  refine j_istore_n [(1, .int (nI (0))), (0, .ref (q 0))] dX3_hasEnds_1 rfl (by decide) rfl ?_
  refine j_iconst (v := nI (0)) dX3_hasEnds_2 (by decide) ?_
  refine j_istore_n [(2, .int (nI (0))), (1, .int (nI (0))), (0, .ref (q 0))] dX3_hasEnds_3 rfl (by decide) rfl ?_
  refine j_lv (lv' := [(2, .int (nI (0))), (1, .int (bI ((heA de 0)))), (0, .ref (q 0))]) (by rfl) ?_
  refine j_sub [2, 1, 0] [(0, .ref (q 0)), (1, .int (bI ((heA de 0)))), (2, .int (nI (0)))] rfl ?_
  have loop4 : ∀ (n : Nat) (i : Nat), (nP R C < i + n) → (i ≤ nP R C) → V k l D (tys3 cI cJ cZ) ({ frames := 0, cells := 0, slots := 0, locals := 0 } : Room) cX3_hasEnds 3 RX3 (wM cI cJ cZ q R C th kn me ns he nx dr nl lp cu so wi us ho nh ke ta de se) 0 0 4 [(0, .ref (q 0)), (1, .int (bI ((heA de i)))), (2, .int (nI (i)))] [] := by
    intro n
    induction n with
    | zero => intro i hm hi; exfalso; omega
    | succ n ih4 =>
      intro i hm hi
      refine j_iload_n dX3_hasEnds_4 rfl 2 rfl ?_
      refine j_aload_n dX3_hasEnds_5 rfl 0 rfl ?_
      refine gf_X3_79 0 rfl (rfl) dX3_hasEnds_6 ?_
      refine jn_icmp_ge (tgt := 38) (a := i) (b := nP R C) (by omega) (by omega) dX3_hasEnds_9 (by decide) (fun c9 => ?_) (fun c9 => ?_)
      · refine j_iload_n dX3_hasEnds_38 rfl 1 rfl ?_
        exact j_zretB (tys' := []) rfl hR dX3_hasEnds_39 (⟨by rw [show i = nP R C by omega], rfl⟩)
      · refine j_iload_n dX3_hasEnds_12 rfl 1 rfl ?_
        refine jb_if_ne (tgt := 26) (b := (heA de i)) dX3_hasEnds_13 (by decide) (fun c13 => ?_) (fun c13 => ?_)
        · refine j_iconst (v := nI (1)) dX3_hasEnds_26 (by decide) ?_
          refine j_goto (tgt := 31) dX3_hasEnds_27 (by decide) ?_
          refine j_topi (y := bI ((heA de (i + 1)))) (by rw [show heA de (i + 1) = true from by first | (simp [heA, *]; done) | (simp [heA, *] <;> omega)]; rfl) ?_
          refine j_istore_n [(1, .int (bI ((heA de (i + 1))))), (0, .ref (q 0)), (2, .int (nI (i)))] dX3_hasEnds_31 rfl (by decide) rfl ?_
          refine j_iinc (n0 := 2) (v := nI (i + 1)) [(2, .int (nI (i + 1))), (1, .int (bI ((heA de (i + 1))))), (0, .ref (q 0))] dX3_hasEnds_32 rfl (by exact nI_add (i) 1) (by decide) rfl ?_
          refine j_goto (tgt := 4) dX3_hasEnds_35 (by decide) ?_
          refine j_sub [2, 1, 0] [(0, .ref (q 0)), (1, .int (bI ((heA de (i + 1))))), (2, .int (nI (i + 1)))] rfl ?_
          exact ih4 (i + 1) (by omega) (by omega)
        · refine j_aload_n dX3_hasEnds_16 rfl 0 rfl ?_
          refine gf_X3_65 0 rfl (rfl) dX3_hasEnds_17 ?_
          refine j_iload_n dX3_hasEnds_20 rfl 2 rfl ?_
          refine jn_iald (v := nI (de i)) 19 0 rfl rfl (by omega) (by omega) (rfl) dX3_hasEnds_21 ?_
          refine j_iconst (v := nI (1)) dX3_hasEnds_22 (by decide) ?_
          refine jn_icmp_ne (tgt := 30) (a := de i) (b := 1) (hde i (by omega)) (by omega) dX3_hasEnds_23 (by decide) (fun c23 => ?_) (fun c23 => ?_)
          · refine j_iconst (v := nI (0)) dX3_hasEnds_30 (by decide) ?_
            refine j_topi (y := bI ((heA de (i + 1)))) (by rw [show heA de (i + 1) = false from by first | (simp [heA, *]; done) | (simp [heA, *] <;> omega)]; rfl) ?_
            refine j_istore_n [(1, .int (bI ((heA de (i + 1))))), (0, .ref (q 0)), (2, .int (nI (i)))] dX3_hasEnds_31 rfl (by decide) rfl ?_
            refine j_iinc (n0 := 2) (v := nI (i + 1)) [(2, .int (nI (i + 1))), (1, .int (bI ((heA de (i + 1))))), (0, .ref (q 0))] dX3_hasEnds_32 rfl (by exact nI_add (i) 1) (by decide) rfl ?_
            refine j_goto (tgt := 4) dX3_hasEnds_35 (by decide) ?_
            refine j_sub [2, 1, 0] [(0, .ref (q 0)), (1, .int (bI ((heA de (i + 1))))), (2, .int (nI (i + 1)))] rfl ?_
            exact ih4 (i + 1) (by omega) (by omega)
          · refine j_iconst (v := nI (1)) dX3_hasEnds_26 (by decide) ?_
            refine j_goto (tgt := 31) dX3_hasEnds_27 (by decide) ?_
            refine j_topi (y := bI ((heA de (i + 1)))) (by rw [show heA de (i + 1) = true from by first | (simp [heA, *]; done) | (simp [heA, *] <;> omega)]; rfl) ?_
            refine j_istore_n [(1, .int (bI ((heA de (i + 1))))), (0, .ref (q 0)), (2, .int (nI (i)))] dX3_hasEnds_31 rfl (by decide) rfl ?_
            refine j_iinc (n0 := 2) (v := nI (i + 1)) [(2, .int (nI (i + 1))), (1, .int (bI ((heA de (i + 1))))), (0, .ref (q 0))] dX3_hasEnds_32 rfl (by exact nI_add (i) 1) (by decide) rfl ?_
            refine j_goto (tgt := 4) dX3_hasEnds_35 (by decide) ?_
            refine j_sub [2, 1, 0] [(0, .ref (q 0)), (1, .int (bI ((heA de (i + 1))))), (2, .int (nI (i + 1)))] rfl ?_
            exact ih4 (i + 1) (by omega) (by omega)
  exact loop4 (nP R C + 2) 0 (by omega) (by omega)

set_option maxHeartbeats 4000000 in
set_option maxRecDepth 100000 in
theorem c_unseen (l : Launch) (hfl : l.flags = flags0) (D : va_G) (cI cJ cZ : ClassId) (q : Nat → Nat) (R C : Nat) (hG : GS R C) (th : Nat) (kn me : Bool) (ns he nx dr nl : Nat) (lp cu so wi us ho nh : Nat → Nat) (ke : Nat → Int64) (ta de : Nat → Nat) (se : Nat → Bool) (hde : ∀ p, p < nP R C → de p < 2 ^ 31) : Ct l yX3_unseen cX3_unseen 2 (Option.some FieldType.int) ({ frames := 0, cells := 0, slots := 0, locals := 0 } : Room) D (tys3 cI cJ cZ) (tys3 cI cJ cZ) (wM cI cJ cZ q R C th kn me ns he nx dr nl lp cu so wi us ho nh ke ta de se) [.ref (q 0)] (fun r u => r = some (.int (eI (uns R C de se))) ∧ u = wM cI cJ cZ q R C th kn me ns he nx dr nl lp cu so wi us ho nh ke ta de se) 0 0 := by
  refine Ct.of hfl (by decide) (Nat.le_of_ble_eq_true rfl) ?_
  intro k hR _
  have hR4 := hG.2.1
  have hC3 := hG.2.2.2
  have hR1 := hG.1
  have hC1 := hG.2.2.1
  have hE := hG.E
  have hRC := hG.RC
  have hE4 := hG.E4
  have hP := hG.P
  show V k l D (tys3 cI cJ cZ) ({ frames := 0, cells := 0, slots := 0, locals := 0 } : Room) cX3_unseen 2 RX3 (wM cI cJ cZ q R C th kn me ns he nx dr nl lp cu so wi us ho nh ke ta de se) 0 0 0 [(0, .ref (q 0))] []
  refine j_iconst (v := nI (0)) dX3_unseen_0 (by decide) ?_
  refine j_istore_n [(1, .int (nI (0))), (0, .ref (q 0))] dX3_unseen_1 rfl (by decide) rfl ?_
  refine j_sub [1, 0] [(0, .ref (q 0)), (1, .int (nI (0)))] rfl ?_
  have loop2 : ∀ (n : Nat) (i : Nat), (nP R C < i + n) → (i ≤ nP R C) → (unA de se (nP R C - i) i = uns R C de se) → V k l D (tys3 cI cJ cZ) ({ frames := 0, cells := 0, slots := 0, locals := 0 } : Room) cX3_unseen 2 RX3 (wM cI cJ cZ q R C th kn me ns he nx dr nl lp cu so wi us ho nh ke ta de se) 0 0 2 [(0, .ref (q 0)), (1, .int (nI (i)))] [] := by
    intro n
    induction n with
    | zero => intro i hm hi hr; exfalso; omega
    | succ n ih2 =>
      intro i hm hi hr
      refine j_iload_n dX3_unseen_2 rfl 1 rfl ?_
      refine j_aload_n dX3_unseen_3 rfl 0 rfl ?_
      refine gf_X3_79 0 rfl (rfl) dX3_unseen_4 ?_
      refine jn_icmp_ge (tgt := 36) (a := i) (b := nP R C) (by omega) (by omega) dX3_unseen_7 (by decide) (fun c7 => ?_) (fun c7 => ?_)
      · refine j_iconst (v := (-1)) dX3_unseen_36 (by decide) ?_
        exact j_iret (tys' := []) rfl hR dX3_unseen_37 (⟨by rw [← hr, show nP R C - i = 0 by omega]; rfl, rfl⟩)
      · have h4 : nP R C - i = (nP R C - (i + 1)) + 1 := by omega
        refine j_aload_n dX3_unseen_10 rfl 0 rfl ?_
        refine gf_X3_65 0 rfl (rfl) dX3_unseen_11 ?_
        refine j_iload_n dX3_unseen_14 rfl 1 rfl ?_
        refine jn_iald (v := nI (de i)) 19 0 rfl rfl (by omega) (by omega) (rfl) dX3_unseen_15 ?_
        refine jn_if_le (tgt := 30) (a := de i) (hde i (by omega)) dX3_unseen_16 (by decide) (fun c16 => ?_) (fun c16 => ?_)
        · refine j_iinc (n0 := 1) (v := nI (i + 1)) [(1, .int (nI (i + 1))), (0, .ref (q 0))] dX3_unseen_30 rfl (by exact nI_add (i) 1) (by decide) rfl ?_
          refine j_goto (tgt := 2) dX3_unseen_33 (by decide) ?_
          refine j_sub [1, 0] [(0, .ref (q 0)), (1, .int (nI (i + 1)))] rfl ?_
          have hr2 : unA de se (nP R C - (i + 1)) (i + 1) = uns R C de se := by rw [← hr, h4]; simp [unA, c16]
          exact ih2 (i + 1) (by omega) (by omega) hr2
        · refine j_aload_n dX3_unseen_19 rfl 0 rfl ?_
          refine gf_X3_68 0 rfl (rfl) dX3_unseen_20 ?_
          refine j_iload_n dX3_unseen_23 rfl 1 rfl ?_
          refine jn_zald (v := bI (se i)) 20 2 rfl rfl (by omega) (by omega) (rfl) dX3_unseen_24 ?_
          refine jb_if_ne (tgt := 30) (b := se i) dX3_unseen_25 (by decide) (fun c25 => ?_) (fun c25 => ?_)
          · refine j_iinc (n0 := 1) (v := nI (i + 1)) [(1, .int (nI (i + 1))), (0, .ref (q 0))] dX3_unseen_30 rfl (by exact nI_add (i) 1) (by decide) rfl ?_
            refine j_goto (tgt := 2) dX3_unseen_33 (by decide) ?_
            refine j_sub [1, 0] [(0, .ref (q 0)), (1, .int (nI (i + 1)))] rfl ?_
            have hr2 : unA de se (nP R C - (i + 1)) (i + 1) = uns R C de se := by rw [← hr, h4]; simp [unA, c16, c25]
            exact ih2 (i + 1) (by omega) (by omega) hr2
          · refine j_iload_n dX3_unseen_28 rfl 1 rfl ?_
            exact j_iret (tys' := []) rfl hR dX3_unseen_29 (⟨by rw [← hr, h4]; simp [unA, c16, c25]; rw [eI_ne (by omega)], rfl⟩)
  exact loop2 (nP R C + 2) 0 (by omega) (by omega) rfl

theorem unA_lt (de : Nat → Nat) (se : Nat → Bool) : ∀ (n p : Nat), unA de se n p = 99 ∨ unA de se n p < p + n
  | 0, _ => Or.inl rfl
  | n + 1, p => by
    have ih := unA_lt de se n (p + 1)
    simp only [unA]
    split
    · split
      · rcases ih with h | h
        · exact Or.inl h
        · exact Or.inr (by omega)
      · exact Or.inr (by omega)
    · rcases ih with h | h
      · exact Or.inl h
      · exact Or.inr (by omega)
theorem uns_lt (R C : Nat) (de : Nat → Nat) (se : Nat → Bool) : uns R C de se = 99 ∨ uns R C de se < nP R C := by
  have := unA_lt de se (nP R C) 0
  rw [Nat.zero_add] at this
  exact this
theorem dgA_le (R C S p : Nat) : ∀ i, dgA R C S i p ≤ 2 * i
  | 0 => Nat.le_refl _
  | i + 1 => by
    have ih := dgA_le R C S p i
    simp only [dgA]
    split
    · split <;> split <;> omega
    · omega
theorem deg_lt {R C S p : Nat} (hG : GS R C) : deg R C S p < 2 ^ 31 := by
  have := dgA_le R C S p (nE R C)
  have := hG.E
  show dgA R C S (nE R C) p < 2 ^ 31
  omega
set_option maxHeartbeats 4000000 in
set_option maxRecDepth 100000 in
theorem c_isRing (l : Launch) (hfl : l.flags = flags0) (D : va_G) (cI cJ cZ : ClassId) (q : Nat → Nat) (R C : Nat) (hG : GS R C) (th : Nat) (kn me : Bool) (ns he nx dr nl : Nat) (lp cu so wi us ho nh : Nat → Nat) (ke : Nat → Int64) (ta de : Nat → Nat) (se : Nat → Bool) (hde : ∀ p, p < nP R C → de p < 2 ^ 31) (S : Nat) (hS : S < 2 ^ 31) : Ct l yX3_isRing cX3_isRing 3 (Option.some FieldType.boolean) ({ frames := 3, cells := 0, slots := 0, locals := 70 } : Room) D (tys3 cI cJ cZ) (tys3 cI cJ cZ) (wM cI cJ cZ q R C th kn me ns he nx dr nl lp cu so wi us ho nh ke ta de se) [.ref (q 0), .int (nI (S))] (fun r u => r = some (.int (bI (rgF R C S de se).1)) ∧ u = wM cI cJ cZ q R C th kn me ns he nx dr nl lp cu so wi us ho nh ke ta de ((rgF R C S de se).2)) 0 0 := by
  refine Ct.of hfl (by decide) (Nat.le_of_ble_eq_true rfl) ?_
  intro k hR _
  have hR4 := hG.2.1
  have hC3 := hG.2.2.2
  have hR1 := hG.1
  have hC1 := hG.2.2.1
  have hE := hG.E
  have hRC := hG.RC
  have hE4 := hG.E4
  have hP := hG.P
  have hu := uns_lt R C de se
  show V k l D (tys3 cI cJ cZ) ({ frames := 3, cells := 0, slots := 0, locals := 70 } : Room) cX3_isRing 3 RX3 (wM cI cJ cZ q R C th kn me ns he nx dr nl lp cu so wi us ho nh ke ta de se) 0 0 0 [(0, .ref (q 0)), (1, .int (nI (S)))] []
  refine j_aload_n dX3_isRing_0 rfl 0 rfl ?_
  refine j_vW (av := []) (c_unseen l hfl D cI cJ cZ q R C hG th kn me ns he nx dr nl lp cu so wi us ho nh ke ta de se  (hde)) 0 rfl rfl mw2_227 mw2_229 msel17 mw1_4 mw2_230 rfl hd_X3_unseen rfl ⟨rfl, rfl⟩ ⟨Nat.le_of_ble_eq_true rfl, Nat.le_of_ble_eq_true rfl⟩ ⟨Nat.zero_le _, Nat.zero_le _⟩ (Nat.le_of_ble_eq_true rfl) rfl dX3_isRing_1 ?_
  rintro _ _ ⟨rfl, rfl⟩
  refine j_st (st' := [.int (eI (uns R C de se))]) rfl ?_
  refine j_istore_n [(2, .int (eI (uns R C de se))), (0, .ref (q 0)), (1, .int (nI (S)))] dX3_isRing_4 rfl (by decide) rfl ?_
  refine j_iload_n dX3_isRing_5 rfl 0 rfl ?_
  refine je_if_lt (tgt := 23) (x := uns R C de se) (by omega) dX3_isRing_6 (by decide) (fun c6 => ?_) (fun c6 => ?_)
  · refine j_iconst (v := nI (0)) dX3_isRing_23 (by decide) ?_
    refine j_st (st' := [.int (bI (false))]) (by rfl) ?_
    exact j_zretB (tys' := []) rfl hR dX3_isRing_24 (⟨by rw [show (rgF R C S de se).1 = false from by simp [rgF, c6]], by rw [show (rgF R C S de se).2 = se from by simp [rgF, c6]]⟩)
  · refine j_aload_n dX3_isRing_9 rfl 1 rfl ?_
    refine j_vW (av := []) (c_isThin l hfl D cI cJ cZ q R C hG th kn me ns he nx dr nl lp cu so wi us ho nh ke ta de se  (hde)) 0 rfl rfl mw2_231 mw2_233 msel18 mw1_4 mw2_234 rfl hd_X3_isThin rfl ⟨rfl, rfl⟩ ⟨Nat.le_of_ble_eq_true rfl, Nat.le_of_ble_eq_true rfl⟩ ⟨Nat.zero_le _, Nat.zero_le _⟩ (Nat.le_of_ble_eq_true rfl) rfl dX3_isRing_10 ?_
    rintro _ _ ⟨rfl, rfl⟩
    refine j_st (st' := [.int (bI ((thA de (nP R C))))]) rfl ?_
    refine jb_if_eq (tgt := 23) (b := (thA de (nP R C))) dX3_isRing_13 (by decide) (fun c13 => ?_) (fun c13 => ?_)
    · refine j_iconst (v := nI (0)) dX3_isRing_23 (by decide) ?_
      refine j_st (st' := [.int (bI (false))]) (by rfl) ?_
      exact j_zretB (tys' := []) rfl hR dX3_isRing_24 (⟨by rw [show (rgF R C S de se).1 = false from by simp [rgF, c6, c13]], by rw [show (rgF R C S de se).2 = se from by simp [rgF, c6, c13]]⟩)
    · refine j_aload_n dX3_isRing_16 rfl 1 rfl ?_
      refine j_vW (av := []) (c_hasEnds l hfl D cI cJ cZ q R C hG th kn me ns he nx dr nl lp cu so wi us ho nh ke ta de se  (hde)) 0 rfl rfl mw2_235 mw2_237 msel19 mw1_4 mw2_238 rfl hd_X3_hasEnds rfl ⟨rfl, rfl⟩ ⟨Nat.le_of_ble_eq_true rfl, Nat.le_of_ble_eq_true rfl⟩ ⟨Nat.zero_le _, Nat.zero_le _⟩ (Nat.le_of_ble_eq_true rfl) rfl dX3_isRing_17 ?_
      rintro _ _ ⟨rfl, rfl⟩
      refine j_st (st' := [.int (bI ((heA de (nP R C))))]) rfl ?_
      refine jb_if_eq (tgt := 25) (b := (heA de (nP R C))) dX3_isRing_20 (by decide) (fun c20 => ?_) (fun c20 => ?_)
      · refine j_lv (lv' := [(2, .int (nI (uns R C de se))), (0, .ref (q 0)), (1, .int (nI (S)))]) (by rw [eI_ne c6]) ?_
        have hu2 : uns R C de se < nP R C := hu.resolve_left c6
        refine j_aload_n dX3_isRing_25 rfl 1 rfl ?_
        refine j_iload_n dX3_isRing_26 rfl 2 rfl ?_
        refine j_iload_n dX3_isRing_27 rfl 0 rfl ?_
        refine j_vW (av := [.int (nI (S)), .int (nI (uns R C de se))]) (c_walk l hfl D cI cJ cZ q R C hG th kn me ns he nx dr nl lp cu so wi us ho nh ke ta de se (S) (uns R C de se) (by omega) (hu2)) 0 rfl rfl mw2_239 mw3_1 msel20 mw1_4 mw3_2 rfl hd_X3_walk rfl ⟨rfl, rfl⟩ ⟨Nat.le_of_ble_eq_true rfl, Nat.le_of_ble_eq_true rfl⟩ ⟨Nat.zero_le _, Nat.zero_le _⟩ (Nat.le_of_ble_eq_true rfl) rfl dX3_isRing_28 ?_
        rintro _ _ ⟨rfl, rfl⟩
        refine j_st (st' := [.int (nI ((wlk R C S (uns R C de se) se).1))]) rfl ?_
        refine j_pop dX3_isRing_31 rfl ?_
        refine j_aload_n dX3_isRing_32 rfl 1 rfl ?_
        refine j_vW (av := []) (c_unseen l hfl D cI cJ cZ q R C hG th kn me ns he nx dr nl lp cu so wi us ho nh ke ta de ((wlk R C S (uns R C de se) se).2)  (hde)) 0 rfl rfl mw2_227 mw2_229 msel17 mw1_4 mw2_230 rfl hd_X3_unseen rfl ⟨rfl, rfl⟩ ⟨Nat.le_of_ble_eq_true rfl, Nat.le_of_ble_eq_true rfl⟩ ⟨Nat.zero_le _, Nat.zero_le _⟩ (Nat.le_of_ble_eq_true rfl) rfl dX3_isRing_33 ?_
        rintro _ _ ⟨rfl, rfl⟩
        refine j_st (st' := [.int (eI (uns R C de ((wlk R C S (uns R C de se) se).2)))]) rfl ?_
        refine je_if_ge (tgt := 43) (x := uns R C de ((wlk R C S (uns R C de se) se).2)) (by have := uns_lt R C de (wlk R C S (uns R C de se) se).2; omega) dX3_isRing_36 (by decide) (fun c36 => ?_) (fun c36 => ?_)
        · refine j_iconst (v := nI (0)) dX3_isRing_43 (by decide) ?_
          refine j_st (st' := [.int (bI (false))]) (by rfl) ?_
          exact j_zretB (tys' := []) rfl hR dX3_isRing_44 (⟨by rw [show (rgF R C S de se).1 = false from by simp [rgF, c6, c13, c20, c36]], by rw [show (rgF R C S de se).2 = (wlk R C S (uns R C de se) se).2 from by simp [rgF, c6, c13, c20, c36]]⟩)
        · refine j_iconst (v := nI (1)) dX3_isRing_39 (by decide) ?_
          refine j_goto (tgt := 44) dX3_isRing_40 (by decide) ?_
          refine j_st (st' := [.int (bI (true))]) (by rfl) ?_
          exact j_zretB (tys' := []) rfl hR dX3_isRing_44 (⟨by rw [show (rgF R C S de se).1 = true from by simp [rgF, c6, c13, c20, c36]], by rw [show (rgF R C S de se).2 = (wlk R C S (uns R C de se) se).2 from by simp [rgF, c6, c13, c20, c36]]⟩)
      · refine j_iconst (v := nI (0)) dX3_isRing_23 (by decide) ?_
        refine j_st (st' := [.int (bI (false))]) (by rfl) ?_
        exact j_zretB (tys' := []) rfl hR dX3_isRing_24 (⟨by rw [show (rgF R C S de se).1 = false from by simp [rgF, c6, c13, c20]], by rw [show (rgF R C S de se).2 = se from by simp [rgF, c6, c13, c20]]⟩)

set_option maxHeartbeats 4000000 in
set_option maxRecDepth 100000 in
theorem c_isLoopSet (l : Launch) (hfl : l.flags = flags0) (D : va_G) (cI cJ cZ : ClassId) (q : Nat → Nat) (R C : Nat) (hG : GS R C) (th : Nat) (kn me : Bool) (ns he nx dr nl : Nat) (lp cu so wi us ho nh : Nat → Nat) (ke : Nat → Int64) (ta de : Nat → Nat) (se : Nat → Bool) (hJ : MJ R C de se) (S : Nat) (hS : S < 2 ^ 31) : Ct l yX3_isLoopSet cX3_isLoopSet 2 (Option.some FieldType.boolean) ({ frames := 4, cells := 0, slots := 0, locals := 92 } : Room) D (tys3 cI cJ cZ) (tys3 cI cJ cZ) (wM cI cJ cZ q R C th kn me ns he nx dr nl lp cu so wi us ho nh ke ta de se) [.ref (q 0), .int (nI (S))] (fun r u => r = some (.int (bI (ilS R C S))) ∧ u = wM cI cJ cZ q R C th kn me ns he nx dr nl lp cu so wi us ho nh ke ta (deg R C S) (ilX R C S)) 0 0 := by
  refine Ct.of hfl (by decide) (Nat.le_of_ble_eq_true rfl) ?_
  intro k hR _
  have hR4 := hG.2.1
  have hC3 := hG.2.2.2
  have hR1 := hG.1
  have hC1 := hG.2.2.1
  have hE := hG.E
  have hRC := hG.RC
  have hE4 := hG.E4
  have hP := hG.P
  show V k l D (tys3 cI cJ cZ) ({ frames := 4, cells := 0, slots := 0, locals := 92 } : Room) cX3_isLoopSet 2 RX3 (wM cI cJ cZ q R C th kn me ns he nx dr nl lp cu so wi us ho nh ke ta de se) 0 0 0 [(0, .ref (q 0)), (1, .int (nI (S)))] []
  refine j_aload_n dX3_isLoopSet_0 rfl 0 rfl ?_
  refine j_iload_n dX3_isLoopSet_1 rfl 1 rfl ?_
  refine j_vW (av := [.int (nI (S))]) (c_measure l hfl D cI cJ cZ q R C hG th kn me ns he nx dr nl lp cu so wi us ho nh ke ta de se (hJ) (S) (by omega)) 0 rfl rfl mw2_216 mw2_218 msel15 mw1_4 mw2_219 rfl hd_X3_measure rfl ⟨rfl, rfl⟩ ⟨Nat.le_of_ble_eq_true rfl, Nat.le_of_ble_eq_true rfl⟩ ⟨Nat.zero_le _, Nat.zero_le _⟩ (Nat.le_of_ble_eq_true rfl) rfl dX3_isLoopSet_2 ?_
  rintro _ _ ⟨rfl, rfl⟩
  refine j_st (st' := []) rfl ?_
  refine j_aload_n dX3_isLoopSet_5 rfl 0 rfl ?_
  refine j_iload_n dX3_isLoopSet_6 rfl 1 rfl ?_
  refine j_vW (av := [.int (nI (S))]) (c_isRing l hfl D cI cJ cZ q R C hG th kn me ns he nx dr nl lp cu so wi us ho nh ke ta (deg R C S) no0 (fun p _ => deg_lt hG) (S) (by omega)) 0 rfl rfl mw2_223 mw2_225 msel16 mw1_4 mw2_226 rfl hd_X3_isRing rfl ⟨rfl, rfl⟩ ⟨Nat.le_of_ble_eq_true rfl, Nat.le_of_ble_eq_true rfl⟩ ⟨Nat.zero_le _, Nat.zero_le _⟩ (Nat.le_of_ble_eq_true rfl) rfl dX3_isLoopSet_7 ?_
  rintro _ _ ⟨rfl, rfl⟩
  refine j_st (st' := [.int (bI ((rgF R C S (deg R C S) no0).1))]) rfl ?_
  exact j_zretB (tys' := []) rfl hR dX3_isLoopSet_10 (⟨rfl, rfl⟩)

set_option maxHeartbeats 4000000 in
set_option maxRecDepth 100000 in
theorem c_sides (l : Launch) (hfl : l.flags = flags0) (D : va_G) (cI cJ cZ : ClassId) (q : Nat → Nat) (R C : Nat) (hG : GS R C) (th : Nat) (kn me : Bool) (ns he nx dr nl : Nat) (lp cu so wi us ho nh : Nat → Nat) (ke : Nat → Int64) (ta de : Nat → Nat) (se : Nat → Bool) (S c : Nat) (hS : S < 2 ^ 31) (hc : c < R * C) : Ct l yX3_sides cX3_sides 5 (Option.some FieldType.int) ({ frames := 1, cells := 0, slots := 0, locals := 21 } : Room) D (tys3 cI cJ cZ) (tys3 cI cJ cZ) (wM cI cJ cZ q R C th kn me ns he nx dr nl lp cu so wi us ho nh ke ta de se) [.ref (q 0), .int (nI (S)), .int (nI (c))] (fun r u => r = some (.int (nI (sid R C S c))) ∧ u = wM cI cJ cZ q R C th kn me ns he nx dr nl lp cu so wi us ho nh ke ta de se) 0 0 := by
  refine Ct.of hfl (by decide) (Nat.le_of_ble_eq_true rfl) ?_
  intro k hR _
  have hR4 := hG.2.1
  have hC3 := hG.2.2.2
  have hR1 := hG.1
  have hC1 := hG.2.2.1
  have hE := hG.E
  have hRC := hG.RC
  have hE4 := hG.E4
  have hP := hG.P
  show V k l D (tys3 cI cJ cZ) ({ frames := 1, cells := 0, slots := 0, locals := 21 } : Room) cX3_sides 5 RX3 (wM cI cJ cZ q R C th kn me ns he nx dr nl lp cu so wi us ho nh ke ta de se) 0 0 0 [(0, .ref (q 0)), (1, .int (nI (S))), (2, .int (nI (c)))] []
  refine j_iconst (v := nI (0)) dX3_sides_0 (by decide) ?_
  refine j_istore_n [(3, .int (nI (0))), (0, .ref (q 0)), (1, .int (nI (S))), (2, .int (nI (c)))] dX3_sides_1 rfl (by decide) rfl ?_
  refine j_iconst (v := nI (0)) dX3_sides_2 (by decide) ?_
  refine j_istore [(4, .int (nI (0))), (3, .int (nI (0))), (0, .ref (q 0)), (1, .int (nI (S))), (2, .int (nI (c)))] dX3_sides_3 (by decide) rfl ?_
  refine j_lv (lv' := [(4, .int (nI (0))), (3, .int (nI (sdA R C S c 0))), (0, .ref (q 0)), (1, .int (nI (S))), (2, .int (nI (c)))]) (by rfl) ?_
  refine j_sub [2, 3, 4, 1, 0] [(0, .ref (q 0)), (1, .int (nI (S))), (2, .int (nI (c))), (3, .int (nI (sdA R C S c 0))), (4, .int (nI (0)))] rfl ?_
  have loop5 : ∀ (n : Nat) (i : Nat), (nE R C < i + n) → (i ≤ nE R C) → V k l D (tys3 cI cJ cZ) ({ frames := 1, cells := 0, slots := 0, locals := 21 } : Room) cX3_sides 5 RX3 (wM cI cJ cZ q R C th kn me ns he nx dr nl lp cu so wi us ho nh ke ta de se) 0 0 5 [(0, .ref (q 0)), (1, .int (nI (S))), (2, .int (nI (c))), (3, .int (nI (sdA R C S c i))), (4, .int (nI (i)))] [] := by
    intro n
    induction n with
    | zero => intro i hm hi; exfalso; omega
    | succ n ih5 =>
      intro i hm hi
      refine j_iload dX3_sides_5 4 rfl ?_
      refine j_aload_n dX3_sides_7 rfl 0 rfl ?_
      refine gf_X3_93 0 rfl (rfl) dX3_sides_8 ?_
      refine jn_icmp_ge (tgt := 59) (a := i) (b := nE R C) (by omega) (by omega) dX3_sides_11 (by decide) (fun c11 => ?_) (fun c11 => ?_)
      · refine j_iload_n dX3_sides_59 rfl 3 rfl ?_
        exact j_iret (tys' := []) rfl hR dX3_sides_60 (⟨by rw [show i = nE R C by omega]; rfl, rfl⟩)
      · have ho1 := hG.one (show i < nE R C by omega)
        have ho2 := hG.oth (show i < nE R C by omega)
        refine j_iload_n dX3_sides_14 rfl 1 rfl ?_
        refine j_iload dX3_sides_15 4 rfl ?_
        refine j_s0 (av := [.int (nI (S)), .int (nI (i))]) (r0 := .int (bI ((isI S i)))) (c_isIn l hfl D (tys3 cI cJ cZ) (S) (i) (by omega) (by omega)) mw2_220 mw2_221 mw1_4 mw2_222 hd_X3_isIn rfl ⟨rfl, rfl⟩ ⟨Nat.le_of_ble_eq_true rfl, Nat.le_of_ble_eq_true rfl⟩ ⟨Nat.zero_le _, Nat.zero_le _⟩ (Nat.le_of_ble_eq_true rfl) rfl dX3_sides_17 ?_
        refine jb_if_eq (tgt := 51) (b := (isI S i)) dX3_sides_20 (by decide) (fun c20 => ?_) (fun c20 => ?_)
        · refine j_iload_n dX3_sides_51 rfl 3 rfl ?_
          refine j_topi (y := nI (sdA R C S c (i + 1))) (by rw [show sdA R C S c (i + 1) = sdA R C S c i from by simp [sdA, c20]]) ?_
          refine j_istore_n [(3, .int (nI (sdA R C S c (i + 1)))), (0, .ref (q 0)), (1, .int (nI (S))), (2, .int (nI (c))), (4, .int (nI (i)))] dX3_sides_52 rfl (by decide) rfl ?_
          refine j_iinc (n0 := 4) (v := nI (i + 1)) [(4, .int (nI (i + 1))), (3, .int (nI (sdA R C S c (i + 1)))), (0, .ref (q 0)), (1, .int (nI (S))), (2, .int (nI (c)))] dX3_sides_53 rfl (by exact nI_add (i) 1) (by decide) rfl ?_
          refine j_goto (tgt := 5) dX3_sides_56 (by decide) ?_
          refine j_sub [2, 3, 4, 1, 0] [(0, .ref (q 0)), (1, .int (nI (S))), (2, .int (nI (c))), (3, .int (nI (sdA R C S c (i + 1)))), (4, .int (nI (i + 1)))] rfl ?_
          exact ih5 (i + 1) (by omega) (by omega)
        · refine j_aload_n dX3_sides_23 rfl 0 rfl ?_
          refine gf_X3_16 0 rfl (rfl) dX3_sides_24 ?_
          refine j_iload dX3_sides_27 4 rfl ?_
          refine jn_iald (v := eI (mOne R C i)) 3 0 rfl rfl (by omega) (by omega) (rfl) dX3_sides_29 ?_
          refine j_iload_n dX3_sides_30 rfl 2 rfl ?_
          refine j_st (st' := [.int (eI (c)), .int (eI (mOne R C i))]) (by rw [show nI (c) = eI (c) from (eI_ne (by omega)).symm]) ?_
          refine je_icmp_eq (tgt := 45) (x := mOne R C i) (y := c) (by omega) (by omega) dX3_sides_31 (by decide) (fun c31 => ?_) (fun c31 => ?_)
          · refine j_iload_n dX3_sides_45 rfl 3 rfl ?_
            refine j_iconst (v := nI (1)) dX3_sides_46 (by decide) ?_
            refine jn_iadd (v := (sdA R C S c i) + 1) dX3_sides_47 rfl ?_
            refine j_goto (tgt := 52) dX3_sides_48 (by decide) ?_
            refine j_topi (y := nI (sdA R C S c (i + 1))) (by rw [show sdA R C S c (i + 1) = (sdA R C S c i) + 1 from by simp [sdA, c20, eq_true c31]]) ?_
            refine j_istore_n [(3, .int (nI (sdA R C S c (i + 1)))), (0, .ref (q 0)), (1, .int (nI (S))), (2, .int (nI (c))), (4, .int (nI (i)))] dX3_sides_52 rfl (by decide) rfl ?_
            refine j_iinc (n0 := 4) (v := nI (i + 1)) [(4, .int (nI (i + 1))), (3, .int (nI (sdA R C S c (i + 1)))), (0, .ref (q 0)), (1, .int (nI (S))), (2, .int (nI (c)))] dX3_sides_53 rfl (by exact nI_add (i) 1) (by decide) rfl ?_
            refine j_goto (tgt := 5) dX3_sides_56 (by decide) ?_
            refine j_sub [2, 3, 4, 1, 0] [(0, .ref (q 0)), (1, .int (nI (S))), (2, .int (nI (c))), (3, .int (nI (sdA R C S c (i + 1)))), (4, .int (nI (i + 1)))] rfl ?_
            exact ih5 (i + 1) (by omega) (by omega)
          · refine j_aload_n dX3_sides_34 rfl 0 rfl ?_
            refine gf_X3_19 0 rfl (rfl) dX3_sides_35 ?_
            refine j_iload dX3_sides_38 4 rfl ?_
            refine jn_iald (v := eI (mOther R C i)) 4 0 rfl rfl (by omega) (by omega) (rfl) dX3_sides_40 ?_
            refine j_iload_n dX3_sides_41 rfl 2 rfl ?_
            refine j_st (st' := [.int (eI (c)), .int (eI (mOther R C i))]) (by rw [show nI (c) = eI (c) from (eI_ne (by omega)).symm]) ?_
            refine je_icmp_ne (tgt := 51) (x := mOther R C i) (y := c) (by omega) (by omega) dX3_sides_42 (by decide) (fun c42 => ?_) (fun c42 => ?_)
            · refine j_iload_n dX3_sides_51 rfl 3 rfl ?_
              refine j_topi (y := nI (sdA R C S c (i + 1))) (by rw [show sdA R C S c (i + 1) = sdA R C S c i from by simp [sdA, c20, c31, c42]]) ?_
              refine j_istore_n [(3, .int (nI (sdA R C S c (i + 1)))), (0, .ref (q 0)), (1, .int (nI (S))), (2, .int (nI (c))), (4, .int (nI (i)))] dX3_sides_52 rfl (by decide) rfl ?_
              refine j_iinc (n0 := 4) (v := nI (i + 1)) [(4, .int (nI (i + 1))), (3, .int (nI (sdA R C S c (i + 1)))), (0, .ref (q 0)), (1, .int (nI (S))), (2, .int (nI (c)))] dX3_sides_53 rfl (by exact nI_add (i) 1) (by decide) rfl ?_
              refine j_goto (tgt := 5) dX3_sides_56 (by decide) ?_
              refine j_sub [2, 3, 4, 1, 0] [(0, .ref (q 0)), (1, .int (nI (S))), (2, .int (nI (c))), (3, .int (nI (sdA R C S c (i + 1)))), (4, .int (nI (i + 1)))] rfl ?_
              exact ih5 (i + 1) (by omega) (by omega)
            · refine j_iload_n dX3_sides_45 rfl 3 rfl ?_
              refine j_iconst (v := nI (1)) dX3_sides_46 (by decide) ?_
              refine jn_iadd (v := (sdA R C S c i) + 1) dX3_sides_47 rfl ?_
              refine j_goto (tgt := 52) dX3_sides_48 (by decide) ?_
              refine j_topi (y := nI (sdA R C S c (i + 1))) (by rw [show sdA R C S c (i + 1) = (sdA R C S c i) + 1 from by simp [sdA, c20, c31, c42]]) ?_
              refine j_istore_n [(3, .int (nI (sdA R C S c (i + 1)))), (0, .ref (q 0)), (1, .int (nI (S))), (2, .int (nI (c))), (4, .int (nI (i)))] dX3_sides_52 rfl (by decide) rfl ?_
              refine j_iinc (n0 := 4) (v := nI (i + 1)) [(4, .int (nI (i + 1))), (3, .int (nI (sdA R C S c (i + 1)))), (0, .ref (q 0)), (1, .int (nI (S))), (2, .int (nI (c)))] dX3_sides_53 rfl (by exact nI_add (i) 1) (by decide) rfl ?_
              refine j_goto (tgt := 5) dX3_sides_56 (by decide) ?_
              refine j_sub [2, 3, 4, 1, 0] [(0, .ref (q 0)), (1, .int (nI (S))), (2, .int (nI (c))), (3, .int (nI (sdA R C S c (i + 1)))), (4, .int (nI (i + 1)))] rfl ?_
              exact ih5 (i + 1) (by omega) (by omega)
  exact loop5 (nE R C + 2) 0 (by omega) (by omega)

theorem sdA_le (R C S c : Nat) : ∀ i, sdA R C S c i ≤ i
  | 0 => Nat.le_refl _
  | i + 1 => by
    have := sdA_le R C S c i
    simp only [sdA]
    split <;> omega
theorem sid_lt {R C S c : Nat} (hG : GS R C) : sid R C S c < 32 := by
  have := sdA_le R C S c (nE R C)
  have := hG.E
  show sdA R C S c (nE R C) < 32
  omega
theorem kcA_f {R C S : Nat} {cu : Nat → Nat} {i : Nat} (h : kcA R C S cu i = false) : ∀ n, kcA R C S cu (i + n) = false
  | 0 => h
  | n + 1 => by
    show (kcA R C S cu (i + n) && _) = false
    rw [kcA_f h n]; rfl
set_option maxHeartbeats 4000000 in
set_option maxRecDepth 100000 in
theorem c_keepsClues (l : Launch) (hfl : l.flags = flags0) (D : va_G) (cI cJ cZ : ClassId) (q : Nat → Nat) (R C : Nat) (hG : GS R C) (th : Nat) (kn me : Bool) (ns he nx dr nl : Nat) (lp cu so wi us ho nh : Nat → Nat) (ke : Nat → Int64) (ta de : Nat → Nat) (se : Nat → Bool) (hcu : CU R C cu) (S : Nat) (hS : S < 2 ^ 31) : Ct l yX3_keepsClues cX3_keepsClues 3 (Option.some FieldType.boolean) ({ frames := 2, cells := 0, slots := 0, locals := 45 } : Room) D (tys3 cI cJ cZ) (tys3 cI cJ cZ) (wM cI cJ cZ q R C th kn me ns he nx dr nl lp cu so wi us ho nh ke ta de se) [.ref (q 0), .int (nI (S))] (fun r u => r = some (.int (bI ((kc R C S cu)))) ∧ u = wM cI cJ cZ q R C th kn me ns he nx dr nl lp cu so wi us ho nh ke ta de se) 0 0 := by
  refine Ct.of hfl (by decide) (Nat.le_of_ble_eq_true rfl) ?_
  intro k hR _
  have hR4 := hG.2.1
  have hC3 := hG.2.2.2
  have hR1 := hG.1
  have hC1 := hG.2.2.1
  have hE := hG.E
  have hRC := hG.RC
  have hE4 := hG.E4
  have hP := hG.P
  show V k l D (tys3 cI cJ cZ) ({ frames := 2, cells := 0, slots := 0, locals := 45 } : Room) cX3_keepsClues 3 RX3 (wM cI cJ cZ q R C th kn me ns he nx dr nl lp cu so wi us ho nh ke ta de se) 0 0 0 [(0, .ref (q 0)), (1, .int (nI (S)))] []
  refine j_iconst (v := nI (0)) dX3_keepsClues_0 (by decide) ?_
  refine j_istore_n [(2, .int (nI (0))), (0, .ref (q 0)), (1, .int (nI (S)))] dX3_keepsClues_1 rfl (by decide) rfl ?_
  refine j_sub [1, 2, 0] [(0, .ref (q 0)), (1, .int (nI (S))), (2, .int (nI (0)))] rfl ?_
  have loop2 : ∀ (n : Nat) (i : Nat), (R * C < i + n) → (i ≤ R * C) → (kcA R C S cu i = true) → V k l D (tys3 cI cJ cZ) ({ frames := 2, cells := 0, slots := 0, locals := 45 } : Room) cX3_keepsClues 3 RX3 (wM cI cJ cZ q R C th kn me ns he nx dr nl lp cu so wi us ho nh ke ta de se) 0 0 2 [(0, .ref (q 0)), (1, .int (nI (S))), (2, .int (nI (i)))] [] := by
    intro n
    induction n with
    | zero => intro i hm hi hk; exfalso; omega
    | succ n ih2 =>
      intro i hm hi hk
      refine j_iload_n dX3_keepsClues_2 rfl 2 rfl ?_
      refine j_aload_n dX3_keepsClues_3 rfl 0 rfl ?_
      refine gf_X3_72 0 rfl (rfl) dX3_keepsClues_4 ?_
      refine j_aload_n dX3_keepsClues_7 rfl 0 rfl ?_
      refine gf_X3_76 0 rfl (rfl) dX3_keepsClues_8 ?_
      refine jn_imul (v := R * C) dX3_keepsClues_11 rfl ?_
      refine jn_icmp_ge (tgt := 47) (a := i) (b := R * C) (by omega) (by omega) dX3_keepsClues_12 (by decide) (fun c12 => ?_) (fun c12 => ?_)
      · refine j_iconst (v := nI (1)) dX3_keepsClues_47 (by decide) ?_
        refine j_st (st' := [.int (bI (true))]) (by rfl) ?_
        exact j_zretB (tys' := []) rfl hR dX3_keepsClues_48 (⟨by rw [show kc R C S cu = true from by show kcA R C S cu (R * C) = true; rw [show R * C = i by omega]; exact hk], rfl⟩)
      · have hci := hcu i (by omega)
        have hsl := sid_lt (S := S) (c := i) hG
        refine j_aload_n dX3_keepsClues_15 rfl 0 rfl ?_
        refine gf_X3_40 0 rfl (rfl) dX3_keepsClues_16 ?_
        refine j_iload_n dX3_keepsClues_19 rfl 2 rfl ?_
        refine jn_iald (v := eI (cu i)) 11 0 rfl rfl (by omega) (by omega) (rfl) dX3_keepsClues_20 ?_
        refine je_if_lt (tgt := 41) (x := cu i) (by omega) dX3_keepsClues_21 (by decide) (fun c21 => ?_) (fun c21 => ?_)
        · refine j_iinc (n0 := 2) (v := nI (i + 1)) [(2, .int (nI (i + 1))), (0, .ref (q 0)), (1, .int (nI (S)))] dX3_keepsClues_41 rfl (by exact nI_add (i) 1) (by decide) rfl ?_
          refine j_goto (tgt := 2) dX3_keepsClues_44 (by decide) ?_
          refine j_sub [1, 2, 0] [(0, .ref (q 0)), (1, .int (nI (S))), (2, .int (nI (i + 1)))] rfl ?_
          have hk2 : kcA R C S cu (i + 1) = true := by simp [kcA, hk, c21]
          exact ih2 (i + 1) (by omega) (by omega) hk2
        · refine j_aload_n dX3_keepsClues_24 rfl 0 rfl ?_
          refine j_iload_n dX3_keepsClues_25 rfl 1 rfl ?_
          refine j_iload_n dX3_keepsClues_26 rfl 2 rfl ?_
          refine j_vW (av := [.int (nI (S)), .int (nI (i))]) (c_sides l hfl D cI cJ cZ q R C hG th kn me ns he nx dr nl lp cu so wi us ho nh ke ta de se (S) (i) (by omega) (by omega)) 0 rfl rfl mw3_141 mw3_143 msel25 mw1_4 mw3_144 rfl hd_X3_sides rfl ⟨rfl, rfl⟩ ⟨Nat.le_of_ble_eq_true rfl, Nat.le_of_ble_eq_true rfl⟩ ⟨Nat.zero_le _, Nat.zero_le _⟩ (Nat.le_of_ble_eq_true rfl) rfl dX3_keepsClues_27 ?_
          rintro _ _ ⟨rfl, rfl⟩
          refine j_st (st' := [.int (nI (sid R C S i))]) rfl ?_
          refine j_aload_n dX3_keepsClues_30 rfl 0 rfl ?_
          refine gf_X3_40 0 rfl (rfl) dX3_keepsClues_31 ?_
          refine j_iload_n dX3_keepsClues_34 rfl 2 rfl ?_
          refine jn_iald (v := eI (cu i)) 11 0 rfl rfl (by omega) (by omega) (rfl) dX3_keepsClues_35 ?_
          refine j_st (st' := [.int (eI (cu i)), .int (eI (sid R C S i))]) (by rw [show nI (sid R C S i) = eI (sid R C S i) from (eI_ne (by omega)).symm]) ?_
          refine je_icmp_eq (tgt := 41) (x := sid R C S i) (y := cu i) (by omega) (by omega) dX3_keepsClues_36 (by decide) (fun c36 => ?_) (fun c36 => ?_)
          · refine j_iinc (n0 := 2) (v := nI (i + 1)) [(2, .int (nI (i + 1))), (0, .ref (q 0)), (1, .int (nI (S)))] dX3_keepsClues_41 rfl (by exact nI_add (i) 1) (by decide) rfl ?_
            refine j_goto (tgt := 2) dX3_keepsClues_44 (by decide) ?_
            refine j_sub [1, 2, 0] [(0, .ref (q 0)), (1, .int (nI (S))), (2, .int (nI (i + 1)))] rfl ?_
            have hk2 : kcA R C S cu (i + 1) = true := by simp [kcA, hk, c21, c36]
            exact ih2 (i + 1) (by omega) (by omega) hk2
          · refine j_iconst (v := nI (0)) dX3_keepsClues_39 (by decide) ?_
            refine j_st (st' := [.int (bI (false))]) (by rfl) ?_
            exact j_zretB (tys' := []) rfl hR dX3_keepsClues_40 (⟨by rw [show kc R C S cu = false from by have h9 : kcA R C S cu (i + 1) = false := (by simp [kcA, hk, c21, c36]); have := kcA_f h9 (R * C - (i + 1)); rw [show i + 1 + (R * C - (i + 1)) = R * C by omega] at this; exact this], rfl⟩)
  exact loop2 (R * C + 2) 0 (by omega) (by omega) rfl

