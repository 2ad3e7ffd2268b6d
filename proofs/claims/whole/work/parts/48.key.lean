/-! the model's judgement and trace are the class's run and state -/
theorem sd_hi {R C x c m : Nat} (hx : x < 2 ^ m) : ∀ n, m + n ≤ 31 → sdA R C (rv x) c (m + n) = sdA R C (rv x) c m
  | 0, _ => rfl
  | n + 1, h => by
    show sdA R C (rv x) c (m + n + 1) = _
    simp only [sdA]
    rw [rv_is (by omega), Nat.testBit_lt_two_pow (Nat.lt_of_lt_of_le hx (Nat.pow_le_pow_right (by decide) (by omega))), Bool.false_and, if_neg (by simp), sd_hi hx n (by omega)]
theorem sid_cnt {R C x c m : Nat} (hG : GS R C) (hm : m ≤ nE R C) (hx : x < 2 ^ m) : sid R C (rv x) c = cnt R C x c m := by
  have hE := hG.E
  unfold sid cnt
  have := sd_hi (R := R) (C := C) (c := c) hx (nE R C - m) (by omega)
  rw [show m + (nE R C - m) = nE R C by omega] at this
  exact this
theorem ca_ok {R C x m : Nat} {cu : Nat → Nat} (hG : GS R C) (hm : m ≤ nE R C) (hx : x < 2 ^ m) : ∀ n, caA R C (rv x) m cu n = true ↔ ∀ i, i < n → okC R C cu x i m
  | 0 => ⟨fun _ i hi => absurd hi (by omega), fun _ => rfl⟩
  | n + 1 => by
    simp only [caA, Bool.and_eq_true, ica, Bool.or_eq_true, decide_eq_true_iff]
    rw [ca_ok hG hm hx n, sid_cnt hG hm hx]
    constructor
    · intro ⟨h1, h2⟩ i hi
      by_cases e : i = n
      · rw [e]; exact h2
      · exact h1 i (by omega)
    · intro h
      exact ⟨fun i hi => h i (by omega), h n (by omega)⟩
theorem key_al {R C x m : Nat} {cu : Nat → Nat} (hG : GS R C) (hcu : CU R C cu) (hm : m ≤ nE R C) (hx : x < 2 ^ m) : alv R C (rv x) m cu = (rnS R C cu x m 0 1672).isSome := by
  obtain ⟨TF, TT, ht⟩ := tree_all hG
  have h1 := ht m x hm hx
  have h2 := ca_ok (cu := cu) hG hm hx (R * C)
  rw [alv_N]
  rcases run_sp (d := x) hG hcu m hm with ⟨e1, e2⟩ | ⟨s, p, q, e1, e2, e3, e4⟩
  · rw [e1]
    rcases e2 with e2 | e2
    · rw [e2] at h1
      rw [show alN R C (rv x) m = false from h1]; rfl
    · rcases clue_run hG hcu x m hm with ⟨_, h3⟩ | ⟨q, h3, _⟩
      · have : caA R C (rv x) m cu (R * C) = false := by
          cases hq : caA R C (rv x) m cu (R * C) with
          | false => rfl
          | true => exact absurd (h2.mp hq) h3
        rw [this, Bool.and_false]; rfl
      · rw [h3] at e2; cases e2
  · rw [e1]
    rw [e2] at h1
    rcases clue_run hG hcu x m hm with ⟨h3, _⟩ | ⟨q2, h3, h4, _⟩
    · rw [h3] at e3; cases e3
    · rw [h1.1, h2.mpr h4]; rfl
/-- a whole number as a long -/
def lgN (n : Nat) : Int64 := Int64.ofBitVec (BitVec.ofNat 64 n)
theorem toL {w : Nat} (hw : w < 2 ^ 31) : (nI w).toInt64 = lgN w := by
  apply Int64.toBitVec_inj.1
  show (BitVec.ofNat 32 w).signExtend 64 = BitVec.ofNat 64 w
  apply BitVec.eq_of_toInt_eq
  rw [BitVec.toInt_signExtend_of_le (by decide), BitVec.toInt_eq_toNat_of_lt (by rw [BitVec.toNat_ofNat]; omega), BitVec.toInt_eq_toNat_of_lt (by rw [BitVec.toNat_ofNat]; omega), BitVec.toNat_ofNat, BitVec.toNat_ofNat, Nat.mod_eq_of_lt (by omega), Nat.mod_eq_of_lt (by omega)]
theorem shL (a k w : Nat) (hk : k = 3 ∨ k = 5) (hw : w < 2 ^ k) : (lgN a <<< ((nI k).toInt64 &&& 63)) ||| lgN w = lgN (a * 2 ^ k + w) := by
  have e : ((lgN a <<< ((nI k).toInt64 &&& 63)) ||| lgN w).toBitVec = (BitVec.ofNat 64 a <<< k) ||| BitVec.ofNat 64 w := by
    rcases hk with rfl | rfl <;> rfl
  apply Int64.toBitVec_inj.1
  rw [e]
  show _ = BitVec.ofNat 64 (a * 2 ^ k + w)
  apply BitVec.eq_of_getLsbD_eq
  intro i hi
  rw [BitVec.getLsbD_or, BitVec.getLsbD_shiftLeft, BitVec.getLsbD_ofNat, BitVec.getLsbD_ofNat, BitVec.getLsbD_ofNat, Nat.mul_comm, Nat.testBit_two_pow_mul_add _ hw]
  by_cases q : i < k
  · rw [if_pos q]; simp [q, hi]
  · have h1 : w.testBit i = false := Nat.testBit_lt_two_pow (Nat.lt_of_lt_of_le hw (Nat.pow_le_pow_right (by decide) (by omega)))
    rw [if_neg q, h1]
    simp [q, hi]
    omega
theorem lgN_inj {a b : Nat} (ha : a < 2 ^ 64) (hb : b < 2 ^ 64) (h : lgN a = lgN b) : a = b := by
  have h1 : BitVec.ofNat 64 a = BitVec.ofNat 64 b := congrArg Int64.toBitVec h
  have h2 := congrArg BitVec.toNat h1
  rw [BitVec.toNat_ofNat, BitVec.toNat_ofNat, Nat.mod_eq_of_lt ha, Nat.mod_eq_of_lt hb] at h2
  exact h2
theorem wkA_lt {R C S : Nat} (hG : GS R C) : ∀ (n p e : Nat) (se : Nat → Bool), p < nP R C → (e = 99 ∨ e < nE R C) → (wkA R C S n p e se).1 < nP R C
  | 0, _, _, _, hp, _ => hp
  | n + 1, p, e, se, hp, he => by
    simp only [wkA]
    split
    · exact hp
    · rename_i h1
      have h2 := othr_lt (p := p) hG (he.resolve_left h1)
      split
      · exact h2
      · exact wkA_lt hG n _ _ _ h2 (onw_lt hG h2)
theorem wht_lt {R C S p : Nat} (hG : GS R C) (hp : p < nP R C) : wht R C S p < 32 := by
  have h := wkA_lt (S := S) hG 21 p (onw R C S p 99) (va_up no0 p true) hp (onw_lt hG hp)
  have := hG.P
  unfold wht
  split
  · omega
  · split
    · omega
    · show 2 + (wkA R C S 21 p (onw R C S p 99) (va_up no0 p true)).1 < 32
      omega
theorem tr_L {R C S k : Nat} (hG : GS R C) : ∀ n, n ≤ nP R C → trP R C S k n = lgN (trN R C S k n)
  | 0, _ => by
    simp only [trP, trN]
    split <;> rfl
  | n + 1, h => by
    have hw := wht_lt (S := S) hG (show n < nP R C by omega)
    simp only [trP, trN]
    rw [tr_L hG n (by omega), toL (w := wht R C S n) (by omega)]
    split
    · exact shL _ 5 _ (Or.inr rfl) (by omega)
    · rfl
def tcN (R C S k : Nat) (cu : Nat → Nat) : Nat → Nat
  | 0 => trN R C S k (nP R C)
  | i + 1 => if cu i ≠ 99 ∧ mCF R C i < k ∧ k ≤ mCL R C i then tcN R C S k cu i * 8 + sid R C S i else tcN R C S k cu i
theorem tc_L {R C S k : Nat} {cu : Nat → Nat} (hG : GS R C) : ∀ n, (∀ i, i < n → cu i ≠ 99 → sid R C S i < 8) → trC R C S k cu n = lgN (tcN R C S k cu n)
  | 0, _ => tr_L hG _ (Nat.le_refl _)
  | n + 1, h => by
    have hs := sid_lt (S := S) (c := n) hG
    simp only [trC, tcN]
    rw [tc_L hG n (fun i hi => h i (by omega)), toL (w := sid R C S n) (by omega)]
    split
    · rename_i h1
      exact shL _ 3 _ (Or.inl rfl) (h n (by omega) h1.1)
    · rfl
def bP (R C k : Nat) : Nat → Nat | 0 => 2 | i + 1 => if mFirst R C i < k ∧ k ≤ mLast R C i then bP R C k i * 32 else bP R C k i
def bC (R C k : Nat) : Nat → Nat | 0 => bP R C k (nP R C) | i + 1 => if mCF R C i < k ∧ k ≤ mCL R C i then bC R C k i * 8 else bC R C k i
theorem bC_c : (allB 5 fun R => allB 4 fun C => allB (nE R C + 1) fun k => Nat.ble (bC R C k (R * C)) (2 ^ 60)) = true := by decide +kernel
theorem tr_b {R C S k : Nat} (hG : GS R C) : ∀ n, n ≤ nP R C → trN R C S k n < bP R C k n
  | 0, _ => by simp only [trN, bP]; split <;> omega
  | n + 1, h => by
    have hw := wht_lt (S := S) hG (show n < nP R C by omega)
    have ih := tr_b (S := S) (k := k) hG n (by omega)
    simp only [trN, bP]
    split <;> omega
theorem tc_b {R C S k : Nat} {cu : Nat → Nat} (hG : GS R C) : ∀ n, (∀ i, i < n → cu i ≠ 99 → sid R C S i < 8) → tcN R C S k cu n < bC R C k n
  | 0, _ => tr_b hG _ (Nat.le_refl _)
  | n + 1, h => by
    have ih := tc_b (S := S) (k := k) (cu := cu) hG n (fun i hi => h i (by omega))
    have hs := h n (by omega)
    simp only [tcN, bC]
    by_cases h1 : cu n ≠ 99 ∧ mCF R C n < k ∧ k ≤ mCL R C n
    · rw [if_pos h1, if_pos h1.2]
      have := hs h1.1
      omega
    · rw [if_neg h1]
      split <;> omega
theorem tc_iff {R C S S2 k : Nat} {cu : Nat → Nat} : ∀ n, (∀ i, i < n → cu i ≠ 99 → sid R C S i < 8 ∧ sid R C S2 i < 8) → (tcN R C S k cu n = tcN R C S2 k cu n ↔ (trN R C S k (nP R C) = trN R C S2 k (nP R C) ∧ ∀ i, i < n → cu i ≠ 99 → mCF R C i < k → k ≤ mCL R C i → sid R C S i = sid R C S2 i))
  | 0, _ => ⟨fun h => ⟨h, fun i hi => absurd hi (by omega)⟩, fun h => h.1⟩
  | n + 1, h => by
    have ih := tc_iff (k := k) n (fun i hi => h i (by omega))
    have hs := h n (by omega)
    simp only [tcN]
    by_cases h1 : cu n ≠ 99 ∧ mCF R C n < k ∧ k ≤ mCL R C n
    · rw [if_pos h1, if_pos h1]
      have h2 := hs h1.1
      constructor
      · intro e
        obtain ⟨h3, h4⟩ := ih.mp (by omega)
        refine ⟨h3, fun i hi a b c => ?_⟩
        by_cases ei : i = n
        · subst ei; omega
        · exact h4 i (by omega) a b c
      · intro ⟨h3, h4⟩
        have h5 := ih.mpr ⟨h3, fun i hi => h4 i (by omega)⟩
        have h6 := h4 n (by omega) h1.1 h1.2.1 h1.2.2
        omega
    · rw [if_neg h1, if_neg h1, ih]
      constructor
      · intro ⟨h3, h4⟩
        refine ⟨h3, fun i hi a b c => ?_⟩
        by_cases ei : i = n
        · subst ei; exact absurd ⟨a, b, c⟩ h1
        · exact h4 i (by omega) a b c
      · intro ⟨h3, h4⟩
        exact ⟨h3, fun i hi => h4 i (by omega)⟩
theorem opc_c : (allB 5 fun R => allB 4 fun C => allB (nE R C + 1) fun m => allB (R * C) fun i => decide ((mCF R C i < m ∧ m ≤ mCL R C i) → opc R C m (i % C) = some i)) = true := by decide +kernel
theorem deF_45 {C TF TT k j : Nat} (hC : C ≤ 3) (hj : 4 ≤ j ∧ j ≤ 6) : ∀ (n T p : Nat), sl (deF C TF TT k n T p) j = sl p j
  | 0, T, p => by simp only [deF]; exact sl_pt7 _ _ _ (by omega)
  | n + 1, T, p => by
    simp only [deF]
    cases opF TF TT k n with
    | false => exact deF_45 hC hj n T p
    | true =>
      have h1 : n % (C + 1) < C + 1 := Nat.mod_lt _ (by omega)
      have hg : gdF C (n % (C + 1)) (T % 32) < 8 := by
        unfold gdF
        cases Nat.beq (T % 32) 0 <;> cases Nat.beq (T % 32) 1
        · have := Nat.mod_lt (T % 32 - 2) (show 0 < C + 1 by omega)
          simp only [cond_false]
          omega
        · simp only [cond_false, cond_true]; omega
        · simp only [cond_true]; omega
        · simp only [cond_true]; omega
      simp only [cond_true]
      rw [deF_45 hC hj n, sl_pt hg (by omega) (by omega), if_neg (by omega)]
theorem key_tr {R C x y m s s2 : Nat} {cu : Nat → Nat} (hG : GS R C) (hcu : CU R C cu) (hm : m ≤ nE R C) (hx : x < 2 ^ m) (hy : y < 2 ^ m) (h1 : rnS R C cu x m 0 1672 = some s) (h2 : rnS R C cu y m 0 1672 = some s2) : trc R C (rv x) m cu = trc R C (rv y) m cu ↔ s = s2 := by
  obtain ⟨TF, TT, ht⟩ := tree_all hG
  have hC3 := hG.2.2.2
  have hC1 := hG.2.2.1
  rcases run_sp (d := x) hG hcu m hm with ⟨e1, _⟩ | ⟨s', p, q, e1, e2, e3, e4⟩
  · rw [h1] at e1; cases e1
  rcases run_sp (d := y) hG hcu m hm with ⟨f1, _⟩ | ⟨s2', p2, q2, f1, f2, f3, f4⟩
  · rw [h2] at f1; cases f1
  rw [h1] at e1; cases e1
  rw [h2] at f1; cases f1
  have tx := ht m x hm hx
  have ty := ht m y hm hy
  rw [e2] at tx
  rw [f2] at ty
  obtain ⟨_, tx1, tx2, _⟩ := tx
  obtain ⟨_, ty1, ty2, _⟩ := ty
  rcases clue_run hG hcu x m hm with ⟨g1, _⟩ | ⟨q', g1, g2, g3⟩
  · rw [g1] at e3; cases e3
  rw [g1] at e3; cases e3
  rcases clue_run hG hcu y m hm with ⟨k1, _⟩ | ⟨q2', k1, k2, k3⟩
  · rw [k1] at f3; cases f3
  rw [k1] at f3; cases f3
  have sx : ∀ i, i < R * C → cu i ≠ 99 → sid R C (rv x) i < 8 := fun i hi h9 => by
    rw [sid_cnt hG hm hx]
    have := (g2 i hi).resolve_left h9
    have := (hcu i hi).resolve_left h9
    omega
  have sy : ∀ i, i < R * C → cu i ≠ 99 → sid R C (rv y) i < 8 := fun i hi h9 => by
    rw [sid_cnt hG hm hy]
    have := (k2 i hi).resolve_left h9
    have := (hcu i hi).resolve_left h9
    omega
  have hb : bC R C m (R * C) ≤ 2 ^ 60 := Nat.le_of_ble_eq_true (allB_get (allB_get (allB_get bC_c R hG.lt5.1) C hG.lt5.2) m (by omega))
  unfold trc
  rw [tc_L hG _ sx, tc_L hG _ sy]
  have e0 : lgN (tcN R C (rv x) m cu (R * C)) = lgN (tcN R C (rv y) m cu (R * C)) ↔ tcN R C (rv x) m cu (R * C) = tcN R C (rv y) m cu (R * C) :=
    ⟨lgN_inj (by have := tc_b (k := m) hG _ sx; omega) (by have := tc_b (k := m) hG _ sy; omega), fun h => by rw [h]⟩
  rw [e0, tc_iff _ (fun i hi h9 => ⟨sx i hi h9, sy i hi h9⟩), tx1, ty1]
  have hpp : enF R C TF TT m p (nP R C) = enF R C TF TT m p2 (nP R C) ↔ p = p2 := ⟨fun h => by rw [← tx2, ← ty2, h], fun h => by rw [h]⟩
  have z1 : ∀ j, 4 ≤ j ∧ j ≤ 6 → sl p j = 0 ∧ sl p2 j = 0 := fun j hj => by
    rw [← tx2, ← ty2, deF_45 hC3 hj, deF_45 hC3 hj]
    have : j = 4 ∨ j = 5 ∨ j = 6 := by omega
    rcases this with rfl | rfl | rfl <;> decide
  rw [hpp]
  constructor
  · intro ⟨a1, a2⟩
    subst a1
    have hqq : q = q2 := sl_ext g3.1 k3.1 fun j hj => by
      rw [g3.2 j hj, k3.2 j hj]
      unfold Fq
      split
      · cases ho : opc R C m (j - 4) with
        | none => rfl
        | some i =>
          obtain ⟨o1, _, o3, o4⟩ := opc_in ho
          simp only
          by_cases h9 : cu i = 99
          · rw [if_pos h9, if_pos h9]
          · rw [if_neg h9, if_neg h9, ← sid_cnt hG hm hx, ← sid_cnt hG hm hy, a2 i o1 h9 o3 o4]
      · rfl
    subst hqq
    exact e4.det f4
  · intro hs
    subst hs
    have hpq : p = p2 := sl_ext e4.2.1 f4.2.1 fun j hj => by
      by_cases h4 : 4 ≤ j ∧ j ≤ 6
      · rw [(z1 j h4).1, (z1 j h4).2]
      · rw [← e4.get (by omega), ← f4.get (by omega)]
    refine ⟨hpq, fun i hi h9 o3 o4 => ?_⟩
    have hmod : i % C < C := Nat.mod_lt _ (by omega)
    have ho := of_decide_eq_true (allB_get (allB_get (allB_get (allB_get opc_c R hG.lt5.1) C hG.lt5.2) m (by omega)) i hi) ⟨o3, o4⟩
    have a1 := g3.2 (4 + i % C) (by omega)
    have a2 := k3.2 (4 + i % C) (by omega)
    rw [← e4.getq (by omega), Fq_at hmod, ho] at a1
    rw [← f4.getq (by omega), Fq_at hmod, ho] at a2
    simp only at a1 a2
    rw [if_neg h9] at a1 a2
    rw [sid_cnt hG hm hx, sid_cnt hG hm hy, ← a1, ← a2]
