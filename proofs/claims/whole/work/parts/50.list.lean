/-! the loops and the solutions, in their order -/
theorem last_c : (allB 5 fun R => allB 4 fun C => allB (nP R C) fun p => decide (1 ≤ R → 1 ≤ C → mLast R C p < nE R C)) = true := by decide +kernel
theorem mcl_c : (allB 5 fun R => allB 4 fun C => allB (R * C) fun i => decide (mCL R C i < nE R C)) = true := by decide +kernel
theorem lef_c : (allB 5 fun R => allB 4 fun C => allB (R * C) fun i => (List.range (nE R C)).any fun e => mOther R C e == i && (decide (mOne R C e = 99) || decide (mOne R C e < i))) = true := by decide +kernel
theorem laA_e {R C : Nat} (hG : GS R C) (de : Nat → Nat) : ∀ n, n ≤ nP R C → laA R C de (nE R C) n = !(heA de n)
  | 0, _ => rfl
  | n + 1, h => by
    have h1 := of_decide_eq_true (allB_get (allB_get (allB_get last_c R hG.lt5.1) C hG.lt5.2) n (by omega)) hG.1 hG.2.2.1
    simp only [laA, heA]
    rw [laA_e hG de n (by omega), decide_eq_false (show ¬ nE R C ≤ mLast R C n by omega), Bool.false_or]
    cases heA de n <;> rfl
theorem heA_f {de : Nat → Nat} : ∀ {n : Nat}, heA de n = false → ∀ i, i < n → de i ≠ 1
  | 0, _, i, hi => absurd hi (by omega)
  | n + 1, h, i, hi => by
    simp only [heA, Bool.or_eq_false_iff, decide_eq_false_iff_not] at h
    by_cases e : i = n
    · rw [e]; exact h.2
    · exact heA_f h.1 i (by omega)
theorem paA_f {R C S : Nat} {de : Nat → Nat} : ∀ n, (∀ i, i < n → de i ≠ 1) → paA R C S de n = (false, no0)
  | 0, _ => rfl
  | n + 1, h => by
    simp only [paA]
    rw [if_neg (fun e => h n (by omega) e.1)]
    exact paA_f n (fun i hi => h i (by omega))
theorem al_il {R C d : Nat} (hG : GS R C) (hd : d < 2 ^ nE R C) : alN R C (rv d) (nE R C) = ilS R C (rv d) := by
  have hE := hG.E
  have hP := hG.P
  have hd31 : d < 2 ^ 31 := Nat.lt_of_lt_of_le hd (Nat.pow_le_pow_right (by decide) (by omega))
  unfold alN ilS rgF
  rw [laA_e hG _ _ (Nat.le_refl _), decide_eq_true rfl, Bool.true_and]
  by_cases hu : uns R C (deg R C (rv d)) no0 = 99
  · rw [if_pos hu]
    have h0 : d = 0 := Nat.eq_of_testBit_eq fun j => by
      rw [Nat.zero_testBit]
      cases hb : d.testBit j with
      | false => rfl
      | true =>
        exfalso
        have hj : j < nE R C := Decidable.byContradiction fun c => by
          rw [Nat.testBit_lt_two_pow (Nat.lt_of_lt_of_le hd (Nat.pow_le_pow_right (by decide) (by omega)))] at hb; cases hb
        have h1 := hG.lo hj
        have h2 : dgA R C (rv 0) (nE R C) (mLow R C j) < dgA R C (rv d) (nE R C) (mLow R C j) := dg_more (fun i hi => by rw [Nat.zero_testBit] at hi; cases hi) hb (Nat.zero_testBit _) (Or.inl rfl) _ (by omega) hj
        exact unA_ne (de := deg R C (rv d)) (se := no0) (Nat.zero_le (mLow R C j)) (by omega) (by omega) (by unfold deg; omega) rfl hu
    rw [decide_eq_true ((rv_z hd31).mpr h0)]
    simp
  · rw [if_neg hu]
    have h0 : decide (rv d = 0) = false := decide_eq_false fun e => hu (by
      have h1 : deg R C (rv d) = fun _ => 0 := by funext p; rw [e]; exact dg_0 R C p _
      rw [h1]
      have key : ∀ n p, unA (fun _ => 0) no0 n p = 99 := by
        intro n
        induction n with
        | zero => intro p; rfl
        | succ n ih => intro p; simp only [unA]; rw [if_neg (by omega)]; exact ih _
      exact key _ _)
    rw [h0, Bool.not_false, Bool.and_true]
    cases h1 : thA (deg R C (rv d)) (nP R C) with
    | false => rfl
    | true =>
      cases h2 : heA (deg R C (rv d)) (nP R C) with
      | true => rfl
      | false =>
        rw [paA_f _ (heA_f h2)]
        unfold rgB
        rw [if_neg hu]
        rfl
theorem run_il {R C d : Nat} (hG : GS R C) (hd : d < 2 ^ nE R C) : (rnP R C d (nE R C) 0 1672).isSome = ilS R C (rv d) := by
  obtain ⟨TF, TT, ht⟩ := tree_all hG
  have h1 := ht _ d (Nat.le_refl _) hd
  rw [← al_il hG hd]
  cases hq : rnP R C d (nE R C) 0 1672 with
  | none => rw [hq] at h1; exact (show alN R C (rv d) (nE R C) = false from h1).symm
  | some p => rw [hq] at h1; exact h1.1.symm
theorem ilA_run {R C d : Nat} : ∀ n e s, ilA R C d n e s = (rnP R C d n e s).isSome
  | 0, _, _ => rfl
  | n + 1, e, s => by
    simp only [ilA, rnP]
    cases pointsF R C s e (d.testBit e) with
    | none => rfl
    | some t => exact ilA_run n (e + 1) t
theorem rv_rv {y : Nat} (hy : y < 2 ^ 31) : rv (rv y) = y := by
  apply Nat.eq_of_testBit_eq
  intro j
  rw [rv_bit, rv_bit]
  by_cases q : j < 31
  · rw [decide_eq_true q, decide_eq_true (show 30 - j < 31 by omega), Bool.true_and, Bool.true_and, show 30 - (30 - j) = j by omega]
  · rw [decide_eq_false q, Bool.false_and, Nat.testBit_lt_two_pow (Nat.lt_of_lt_of_le hy (Nat.pow_le_pow_right (by decide) (by omega)))]
theorem rv_bor {R C m : Nat} (hG : GS R C) : rv (bor R C m) < 2 ^ nE R C := by
  have hE := hG.E
  refine Nat.lt_pow_two_of_testBit _ fun j hj => ?_
  rw [rv_bit, bor, brA_bit _ _ _ _ _ (by omega)]
  by_cases q : j < 31
  · rw [decide_eq_false (show ¬ 30 - (30 - j) < nE R C by omega)]; simp
  · rw [decide_eq_false q]; rfl
theorem lp_mem {R C y : Nat} : ∀ {m : Nat}, y ∈ lpA R C m ↔ ∃ j, 0 < j ∧ j ≤ m ∧ ilS R C (bor R C j) = true ∧ y = bor R C j
  | 0 => ⟨fun h => absurd h List.not_mem_nil, fun ⟨j, h1, h2, _⟩ => by omega⟩
  | m + 1 => by
    simp only [lpA]
    cases hq : ilS R C (bor R C (m + 1)) with
    | true =>
      rw [if_pos rfl, insS_mem, lp_mem (m := m)]
      constructor
      · rintro (rfl | ⟨j, h1, h2, h3, h4⟩)
        · exact ⟨m + 1, by omega, Nat.le_refl _, hq, rfl⟩
        · exact ⟨j, h1, by omega, h3, h4⟩
      · intro ⟨j, h1, h2, h3, h4⟩
        by_cases e : j = m + 1
        · exact Or.inl (by rw [h4, e])
        · exact Or.inr ⟨j, h1, by omega, h3, h4⟩
    | false =>
      rw [if_neg (by simp), lp_mem (m := m)]
      constructor
      · intro ⟨j, h1, h2, h3, h4⟩
        exact ⟨j, h1, by omega, h3, h4⟩
      · intro ⟨j, h1, h2, h3, h4⟩
        by_cases e : j = m + 1
        · rw [e, hq] at h3; cases h3
        · exact ⟨j, h1, by omega, h3, h4⟩
theorem bor_inj {R C a b : Nat} (hG : GS R C) (ha : a < 2 ^ (R * C)) (hb : b < 2 ^ (R * C)) (h : bor R C a = bor R C b) : a = b := by
  have hE := hG.E
  have hRC := hG.RC
  have key : ∀ n i, i < n → i < R * C → a.testBit i = b.testBit i := by
    intro n
    induction n with
    | zero => intro i hi _; omega
    | succ n ih =>
      intro i hi hi2
      have h1 := allB_get (allB_get (allB_get lef_c R hG.lt5.1) C hG.lt5.2) i hi2
      rw [List.any_eq_true] at h1
      obtain ⟨e, he, h2⟩ := h1
      rw [List.mem_range] at he
      simp only [Bool.and_eq_true, beq_iff_eq, Bool.or_eq_true, decide_eq_true_iff] at h2
      obtain ⟨h3, h4⟩ := h2
      have h5 : (bor R C a).testBit (30 - e) = (bor R C b).testBit (30 - e) := by rw [h]
      rw [bor, bor, brA_bit _ _ _ _ _ (by omega), brA_bit _ _ _ _ _ (by omega), show 30 - (30 - e) = e by omega, decide_eq_true he, decide_eq_true (show 30 - e < 31 by omega), h3] at h5
      simp only [Bool.true_and] at h5
      have h6 : cb a (mOne R C e) = cb b (mOne R C e) := by
        rcases h4 with h4 | h4
        · simp [h4, cb]
        · unfold cb
          rw [ih (mOne R C e) (by omega) (by omega)]
      rw [h6] at h5
      have h7 : cb a i = cb b i := by
        revert h5
        cases cb b (mOne R C e) <;> cases cb a i <;> cases cb b i <;> decide
      have h8 : (i != 99) = true := by simp; omega
      unfold cb at h7
      rw [h8, Bool.true_and, Bool.true_and] at h7
      exact h7
  exact bits_eq ha hb (fun j hj => key (j + 1) j (by omega) hj)
theorem iK_lo {L : List Nat} {x : Nat} : ∀ k, 0 < iK L x k → L.getD (iK L x k - 1) 0 ≤ x
  | 0, h => absurd h (by simp [iK])
  | k + 1, h => by
    simp only [iK] at h ⊢
    by_cases q : x < L.getD k 0
    · rw [if_pos q] at h ⊢; exact iK_lo k h
    · rw [if_neg q, Nat.add_sub_cancel]; omega
theorem iK_hi {L : List Nat} {x : Nat} : ∀ k j, iK L x k ≤ j → j < k → x < L.getD j 0
  | 0, j, _, h => absurd h (by omega)
  | k + 1, j, h1, h2 => by
    simp only [iK] at h1
    by_cases q : x < L.getD k 0
    · rw [if_pos q] at h1
      by_cases e : j = k
      · rw [e]; exact q
      · exact iK_hi k j h1 (by omega)
    · rw [if_neg q] at h1; omega
theorem insS_srt {L : List Nat} {x : Nat} (h : L.Pairwise (· < ·)) (hx : x ∉ L) : (insS L x).Pairwise (· < ·) := by
  have hk := iK_le L x L.length
  have hlo := iK_lo (L := L) (x := x) L.length
  have hhi := iK_hi (L := L) (x := x) L.length
  unfold insS
  generalize iK L x L.length = k at hk hlo hhi
  have hp := List.pairwise_iff_getElem.mp h
  have h1 : ∀ a ∈ L.take k, a < x := fun a ha => by
    obtain ⟨j, hj, e⟩ := List.getElem_of_mem ha
    rw [List.length_take] at hj
    rw [List.getElem_take] at e
    have h2 := hlo (by omega)
    rw [List.getD_eq_getElem?_getD, List.getElem?_eq_getElem (show k - 1 < L.length by omega), Option.getD_some] at h2
    have h3 : a ≠ x := fun e2 => hx (by rw [← e2]; exact List.mem_of_mem_take ha)
    by_cases q : j = k - 1
    · subst q; omega
    · have := hp j (k - 1) (by omega) (by omega) (by omega)
      omega
  have h2 : ∀ a ∈ L.drop k, x < a := fun a ha => by
    obtain ⟨j, hj, e⟩ := List.getElem_of_mem ha
    rw [List.length_drop] at hj
    rw [List.getElem_drop] at e
    have h3 := hhi (k + j) (by omega) (by omega)
    rw [List.getD_eq_getElem?_getD, List.getElem?_eq_getElem (show k + j < L.length by omega), Option.getD_some] at h3
    omega
  refine List.pairwise_append.mpr ⟨h.sublist (List.take_sublist _ _), List.pairwise_cons.mpr ⟨h2, h.sublist (List.drop_sublist _ _)⟩, fun a ha b hb => ?_⟩
  have h3 := h1 a ha
  rcases List.mem_cons.mp hb with e | hb
  · rw [e]; exact h3
  · exact Nat.lt_trans h3 (h2 b hb)
theorem lp_srt {R C : Nat} (hG : GS R C) : ∀ m, m < 2 ^ (R * C) → (lpA R C m).Pairwise (· < ·)
  | 0, _ => List.Pairwise.nil
  | m + 1, h => by
    simp only [lpA]
    split
    · refine insS_srt (lp_srt hG m (by omega)) fun hm => ?_
      obtain ⟨j, h1, h2, _, h4⟩ := lp_mem.mp hm
      have := bor_inj hG h (by omega) h4
      omega
    · exact lp_srt hG m (by omega)
theorem srt_eq : ∀ {A B : List Nat}, A.Pairwise (· < ·) → B.Pairwise (· < ·) → (∀ x, x ∈ A ↔ x ∈ B) → A = B
  | [], [], _, _, _ => rfl
  | [], b :: B, _, _, h => absurd ((h b).mpr List.mem_cons_self) List.not_mem_nil
  | a :: A, [], _, _, h => absurd ((h a).mp List.mem_cons_self) List.not_mem_nil
  | a :: A, b :: B, h1, h2, h => by
    obtain ⟨a1, a2⟩ := List.pairwise_cons.mp h1
    obtain ⟨b1, b2⟩ := List.pairwise_cons.mp h2
    have e : a = b := by
      rcases List.mem_cons.mp ((h a).mp List.mem_cons_self) with e | e
      · exact e
      · rcases List.mem_cons.mp ((h b).mpr List.mem_cons_self) with e2 | e2
        · exact e2.symm
        · have := b1 a e; have := a1 b e2; omega
    subst e
    rw [srt_eq a2 b2 fun x => ?_]
    constructor
    · intro hx
      rcases List.mem_cons.mp ((h x).mp (List.mem_cons_of_mem _ hx)) with e | e
      · have := a1 x hx; omega
      · exact e
    · intro hx
      rcases List.mem_cons.mp ((h x).mpr (List.mem_cons_of_mem _ hx)) with e | e
      · have := b1 x hx; omega
      · exact e
theorem kc_ok {R C x : Nat} {cu : Nat → Nat} (hG : GS R C) (hx : x < 2 ^ nE R C) : ∀ n, n ≤ R * C → (kcA R C (rv x) cu n = true ↔ ∀ i, i < n → okC R C cu x i (nE R C))
  | 0, _ => ⟨fun _ i hi => absurd hi (by omega), fun _ => rfl⟩
  | n + 1, h => by
    have h1 := of_decide_eq_true (allB_get (allB_get (allB_get mcl_c R hG.lt5.1) C hG.lt5.2) n (by omega))
    simp only [kcA, Bool.and_eq_true, Bool.or_eq_true, decide_eq_true_iff]
    rw [kc_ok hG hx n (by omega), sid_cnt hG (Nat.le_refl _) hx]
    constructor
    · intro ⟨h2, h3⟩ i hi
      by_cases e : i = n
      · rw [e]
        rcases h3 with h3 | h3
        · exact Or.inl h3
        · exact Or.inr ⟨by omega, Or.inr h3⟩
      · exact h2 i (by omega)
    · intro h2
      refine ⟨fun i hi => h2 i (by omega), ?_⟩
      rcases h2 n (by omega) with h3 | ⟨h3, h4⟩
      · exact Or.inl h3
      · exact Or.inr (h4.resolve_left (by omega))
theorem run_kc {R C x : Nat} {cu : Nat → Nat} (hG : GS R C) (hcu : CU R C cu) (hx : x < 2 ^ nE R C) : (rnS R C cu x (nE R C) 0 1672).isSome = true ↔ (ilS R C (rv x) = true ∧ kc R C (rv x) cu = true) := by
  unfold kc
  rw [kc_ok hG hx _ (Nat.le_refl _), ← run_il hG hx]
  rcases run_sp (d := x) hG hcu _ (Nat.le_refl _) with ⟨e1, e2⟩ | ⟨s, p, q, e1, e2, e3, _⟩
  · rw [e1]
    refine ⟨fun h => (nomatch h), fun ⟨h1, h2⟩ => ?_⟩
    rcases e2 with e2 | e2
    · rw [e2] at h1; cases h1
    · rcases clue_run hG hcu x _ (Nat.le_refl _) with ⟨_, h3⟩ | ⟨q, h3, _⟩
      · exact absurd h2 h3
      · rw [h3] at e2; cases e2
  · rw [e1, e2]
    rcases clue_run hG hcu x _ (Nat.le_refl _) with ⟨h3, _⟩ | ⟨q2, h3, h4, _⟩
    · rw [h3] at e3; cases e3
    · exact ⟨fun _ => ⟨rfl, h4⟩, fun _ => rfl⟩
theorem acc_iff {R C x : Nat} {cu : Nat → Nat} : x ∈ accL R C cu (nE R C) 0 1672 ↔ (x < 2 ^ nE R C ∧ (rnS R C cu x (nE R C) 0 1672).isSome = true) := by
  constructor
  · intro h
    obtain ⟨_, h2, h3⟩ := acc_lo h
    exact ⟨Nat.lt_pow_two_of_testBit _ fun j hj => h2 j (by omega), h3⟩
  · intro ⟨h1, h2⟩
    exact acc_in (fun j hj => absurd hj (by omega)) (fun j hj => Nat.testBit_lt_two_pow (Nat.lt_of_lt_of_le h1 (Nat.pow_le_pow_right (by decide) (by omega)))) h2
/-- the solutions are the accepted sets, in order -/
theorem sol_acc {R C : Nat} {cu : Nat → Nat} (hG : GS R C) (hcu : CU R C cu) : sol R C cu (lpA R C (2 ^ (R * C) - 1)) = (accL R C cu (nE R C) 0 1672).map rv := by
  have hE := hG.E
  have h2 : 0 < 2 ^ (R * C) := Nat.pow_pos (by decide)
  refine srt_eq ((lp_srt hG _ (by omega)).sublist List.filter_sublist) (acc_pw _ _ _ (by omega)) fun y => ?_
  unfold sol
  rw [List.mem_filter, List.mem_map, lp_mem]
  constructor
  · rintro ⟨⟨j, h3, h4, h5, rfl⟩, h6⟩
    have h7 := rv_rv (bor_lt R C j)
    refine ⟨rv (bor R C j), acc_iff.mpr ⟨rv_bor hG, (run_kc hG hcu (rv_bor hG)).mpr ⟨by rw [h7]; exact h5, by rw [h7]; exact h6⟩⟩, h7⟩
  · rintro ⟨x, h3, rfl⟩
    obtain ⟨h4, h5⟩ := acc_iff.mp h3
    obtain ⟨h6, h7⟩ := (run_kc hG hcu h4).mp h5
    refine ⟨?_, h7⟩
    obtain ⟨TF, TT, ht⟩ := tree_all hG
    have h8 := ht _ x (Nat.le_refl _) h4
    rw [← run_il hG h4] at h6
    cases hq : rnP R C x (nE R C) 0 1672 with
    | none => rw [hq] at h6; cases h6
    | some p =>
      rw [hq] at h8
      obtain ⟨m, m1, m2, m3⟩ := h8.2.2.2 rfl
      exact ⟨m, m1, by omega, by rw [m3, ← run_il hG h4, hq]; rfl, m3.symm⟩
