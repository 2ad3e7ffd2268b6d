/-! what the computed trees tell of every set -/
def rnP (R C d : Nat) : Nat → Nat → Nat → Option Nat
  | 0, _, p => some p
  | n + 1, k, p => (pointsF R C p k (d.testBit k)).bind fun q => rnP R C d n (k + 1) q
theorem dF_eq (D p : Nat) : dF D p = D / 8 ^ p % 8 := by
  unfold dF
  rw [Nat.shiftRight_eq_div_pow, Nat.pow_mul]
theorem dF_add {D a : Nat} (h : dF D a ≤ 6) (p : Nat) : dF (D + 8 ^ a) p = dF D p + (if a = p then 1 else 0) := by
  rw [dF_eq] at h
  rw [dF_eq, dF_eq]
  rcases Nat.lt_trichotomy p a with q | q | q
  · obtain ⟨c, rfl⟩ : ∃ c, a = p + (c + 1) := ⟨a - p - 1, by omega⟩
    rw [if_neg (by omega), Nat.pow_add, Nat.add_mul_div_left _ _ (Nat.pow_pos (by decide)), Nat.pow_succ, Nat.mul_comm (8 ^ c) 8, Nat.add_mul_mod_self_left]
    exact (Nat.add_zero _).symm
  · subst q
    rw [if_pos rfl, Nat.add_div_right _ (Nat.pow_pos (by decide))]
    omega
  · obtain ⟨c, rfl⟩ : ∃ c, p = a + (c + 1) := ⟨p - a - 1, by omega⟩
    rw [if_neg (by omega), Nat.pow_add, Nat.pow_succ, Nat.mul_comm (8 ^ c) 8, ← Nat.div_div_eq_div_mul, ← Nat.div_div_eq_div_mul, ← Nat.div_div_eq_div_mul, ← Nat.div_div_eq_div_mul, Nat.add_div_right _ (Nat.pow_pos (by decide)), show (D / 8 ^ a).succ / 8 = D / 8 ^ a / 8 by omega]
    exact (Nat.add_zero _).symm
theorem dg_add {R C k d p : Nat} (hb : d.testBit k = false) (hk : k < 31) : ∀ i, i ≤ 31 → dgA R C (rv (d + 2 ^ k)) i p = dgA R C (rv d) i p + (if k < i then (if mLow R C k = p then 1 else 0) + (if mHigh R C k = p then 1 else 0) else 0)
  | 0, _ => rfl
  | i + 1, h => by
    have ih := dg_add (R := R) (C := C) (p := p) hb hk i (by omega)
    simp only [dgA]
    rw [rv_is (by omega), rv_is (by omega), add_bit hb, ih]
    by_cases q : k = i
    · subst q
      rw [hb, if_neg (show ¬ k < k by omega), if_pos (show k < k + 1 by omega), decide_eq_true rfl]
      simp only [Bool.or_true, if_true, Bool.false_eq_true, if_false]
      omega
    · rw [decide_eq_false q, Bool.or_false]
      by_cases q2 : k < i
      · rw [if_pos q2, if_pos (show k < i + 1 by omega)]
        split <;> omega
      · rw [if_neg q2, if_neg (show ¬ k < i + 1 by omega)]
        split <;> omega
theorem dg_mono {R C d x p : Nat} (h : ∀ j, d.testBit j = true → x.testBit j = true) : ∀ i, i ≤ 31 → dgA R C (rv d) i p ≤ dgA R C (rv x) i p
  | 0, _ => Nat.le_refl _
  | i + 1, hi => by
    have ih := dg_mono (R := R) (C := C) (p := p) h i (by omega)
    simp only [dgA]
    rw [rv_is (by omega), rv_is (by omega)]
    cases hq : d.testBit i with
    | true => rw [h i hq, if_pos rfl, if_pos rfl]; omega
    | false =>
      rw [if_neg (by simp)]
      split <;> omega
theorem dg_same {R C d x p : Nat} : ∀ i, i ≤ 31 → (∀ j, j < i → (mLow R C j = p ∨ mHigh R C j = p) → x.testBit j = d.testBit j) → dgA R C (rv d) i p = dgA R C (rv x) i p
  | 0, _, _ => rfl
  | i + 1, hi, h => by
    have ih := dg_same (R := R) (C := C) (p := p) i (by omega) (fun j hj => h j (by omega))
    simp only [dgA]
    rw [rv_is (by omega), rv_is (by omega)]
    by_cases q : mLow R C i = p ∨ mHigh R C i = p
    · rw [h i (by omega) q, ih]
    · rw [if_neg (fun e => q (Or.inl e)), if_neg (fun e => q (Or.inr e)), ih]
      split <;> split <;> omega
theorem dg_more {R C d x p j : Nat} (h : ∀ j, d.testBit j = true → x.testBit j = true) (hx : x.testBit j = true) (hd : d.testBit j = false) (hp : mLow R C j = p ∨ mHigh R C j = p) : ∀ i, i ≤ 31 → j < i → dgA R C (rv d) i p < dgA R C (rv x) i p
  | 0, _, hj => absurd hj (by omega)
  | i + 1, hi, hj => by
    simp only [dgA]
    rw [rv_is (by omega), rv_is (by omega)]
    by_cases q : j = i
    · subst q
      have := dg_mono (R := R) (C := C) (p := p) h j (by omega)
      rw [hx, hd, if_neg (by simp), if_pos rfl]
      rcases hp with e | e
      · rw [if_pos e]; omega
      · rw [if_pos e]; omega
    · have ih := dg_more h hx hd hp i (by omega) (by omega)
      cases hq : d.testBit i with
      | true => rw [h i hq, if_pos rfl, if_pos rfl]; omega
      | false =>
        rw [if_neg (by simp)]
        split <;> omega
theorem tb_last : ∀ R, R < 5 → ∀ C, C < 4 → ∀ p, p < nP R C → ∀ e, e < nE R C → (mLow R C e = p ∨ mHigh R C e = p) → e ≤ mLast R C p := by decide +kernel
theorem tb_ends : ∀ R, R < 5 → ∀ C, C < 4 → ∀ p, p < 20 → ∀ i, i < 4 → mEnds R C (4 * p + i) = 99 ∨ (mEnds R C (4 * p + i) < nE R C ∧ (mLow R C (mEnds R C (4 * p + i)) = p ∨ mHigh R C (mEnds R C (4 * p + i)) = p)) := by decide +kernel
theorem thA_get {f : Nat → Nat} : ∀ {n : Nat}, thA f n = true → ∀ p, p < n → f p < 3
  | 0, _, p, hp => absurd hp (by omega)
  | n + 1, h, p, hp => by
    simp only [thA, Bool.and_eq_true, decide_eq_true_iff] at h
    by_cases q : p = n
    · rw [q]; exact h.2
    · exact thA_get h.1 p (by omega)
theorem thF_no {D : Nat} : ∀ {n : Nat}, thF D n = false → ∃ p, p < n ∧ 3 ≤ dF D p
  | 0, h => by simp [thF] at h
  | n + 1, h => by
    simp only [thF, Bool.and_eq_false_iff] at h
    rcases h with h | h
    · obtain ⟨p, h1, h2⟩ := thF_no h; exact ⟨p, by omega, h2⟩
    · refine ⟨n, by omega, ?_⟩
      have : ¬ dF D n ≤ 2 := fun e => by rw [Nat.ble_eq_true_of_le e] at h; cases h
      omega
theorem laA_get {R C k : Nat} {f : Nat → Nat} : ∀ {n : Nat}, laA R C f k n = true → ∀ p, p < n → k ≤ mLast R C p ∨ f p ≠ 1
  | 0, _, p, hp => absurd hp (by omega)
  | n + 1, h, p, hp => by
    simp only [laA, Bool.and_eq_true, Bool.or_eq_true, decide_eq_true_iff, Bool.not_eq_true', decide_eq_false_iff_not] at h
    by_cases q : p = n
    · rw [q]; exact h.2
    · exact laA_get h.1 p (by omega)
theorem laF_no {TT D k : Nat} : ∀ {n : Nat}, laF TT D k n = false → ∃ p, p < n ∧ t5 TT p < k ∧ dF D p = 1
  | 0, h => by simp [laF] at h
  | n + 1, h => by
    simp only [laF, Bool.and_eq_false_iff, Bool.or_eq_false_iff, Bool.not_eq_false', beq_iff] at h
    rcases h with h | ⟨h, h2⟩
    · obtain ⟨p, h1, h2⟩ := laF_no h; exact ⟨p, by omega, h2⟩
    · refine ⟨n, by omega, ?_, h2⟩
      have : ¬ k ≤ t5 TT n := fun e => by rw [Nat.ble_eq_true_of_le e] at h; cases h
      omega
theorem clF_get {D X : Nat} : ∀ {n : Nat}, clF D X n = true → ∀ p, p < n → bt X p = true → dF D p = 2
  | 0, _, p, hp, _ => absurd hp (by omega)
  | n + 1, h, p, hp, hx => by
    simp only [clF, Bool.and_eq_true, Bool.or_eq_true, Bool.not_eq_true', beq_iff] at h
    by_cases q : p = n
    · subst q
      rcases h.2 with e | e
      · rw [hx] at e; cases e
      · exact e
    · exact clF_get h.1 p (by omega) hx
theorem ceF_get {TL TH d X : Nat} : ∀ {n : Nat}, ceF TL TH d X n = true → ∀ e, e < n → bt d e = true → bt X (t5 TL e) = bt X (t5 TH e)
  | 0, _, p, hp, _ => absurd hp (by omega)
  | n + 1, h, p, hp, hx => by
    simp only [ceF, Bool.and_eq_true, Bool.or_eq_true, Bool.not_eq_true', beq_iff_eq] at h
    by_cases q : p = n
    · subst q
      rcases h.2 with e | e
      · rw [hx] at e; cases e
      · exact e
    · exact ceF_get h.1 p (by omega) hx
theorem unF_get {D X : Nat} : ∀ {n p : Nat}, unF D X n p ≠ 99 → unF D X n p < p + n ∧ 0 < dF D (unF D X n p) ∧ bt X (unF D X n p) = false
  | 0, p, h => absurd rfl h
  | n + 1, p, h => by
    simp only [unF] at h ⊢
    cases hq : (Nat.beq (dF D p) 0 || bt X p) with
    | true =>
      rw [hq, cond_true] at h
      rw [cond_true]
      obtain ⟨h1, h2⟩ := unF_get h
      exact ⟨by omega, h2⟩
    | false =>
      rw [cond_false]
      simp only [Bool.or_eq_false_iff] at hq
      refine ⟨by omega, Nat.pos_of_ne_zero fun e => ?_, hq.2⟩
      rw [e] at hq
      exact absurd hq.1 (by decide)
theorem unA_ne {de : Nat → Nat} {se : Nat → Bool} : ∀ {n p y : Nat}, p ≤ y → y < p + n → y < 99 → 0 < de y → se y = false → unA de se n p ≠ 99
  | 0, p, y, h1, h2, _, _, _ => absurd h2 (by omega)
  | n + 1, p, y, h1, h2, h3, h4, h5 => by
    simp only [unA]
    by_cases q : p = y
    · subst q
      rw [if_pos h4, h5, if_neg (by simp)]
      omega
    · have ih := unA_ne (p := p + 1) (n := n) (show p + 1 ≤ y by omega) (by omega) h3 h4 h5
      split
      · split
        · exact ih
        · omega
      · exact ih
section R
variable {R C : Nat} (hG : GS R C)
theorem GS.last2 (h : GS R C) {p e : Nat} (hp : p < nP R C) (he : e < nE R C) (hi : mLow R C e = p ∨ mHigh R C e = p) : e ≤ mLast R C p := tb_last R (by have := h.2.1; omega) C (by have := h.2.2.2; omega) p hp e he hi
theorem GS.ends2 (h : GS R C) {p i : Nat} (hp : p < 20) (hi : i < 4) : mEnds R C (4 * p + i) = 99 ∨ (mEnds R C (4 * p + i) < nE R C ∧ (mLow R C (mEnds R C (4 * p + i)) = p ∨ mHigh R C (mEnds R C (4 * p + i)) = p)) := tb_ends R (by have := h.2.1; omega) C (by have := h.2.2.2; omega) p hp i hi
/-- an edge of the set at a point -/
def EdA (R C S p e : Nat) : Prop := e = 99 ∨ (e < nE R C ∧ isI S e = true ∧ (mLow R C e = p ∨ mHigh R C e = p))
theorem on_ed (hG : GS R C) {S p b : Nat} (hp : p < 20) : EdA R C S p (onw R C S p b) := by
  have key : ∀ n i, i + n = 4 → EdA R C S p (onA R C S b n (4 * p + i)) := by
    intro n
    induction n with
    | zero => intro i _; exact Or.inl rfl
    | succ n ih =>
      intro i hi
      have h1 := ih (i + 1) (by omega)
      simp only [onA]
      split
      · exact h1
      · split
        · exact h1
        · split
          · rename_i h2 h3 h4
            rcases hG.ends2 (i := i) hp (by omega) with h5 | h5
            · exact absurd h5 h2
            · exact Or.inr ⟨h5.1, h4, h5.2⟩
          · exact h1
  exact key 4 0 rfl
/-- no edge of the set leaves X -/
def ClX (R C S X : Nat) : Prop := ∀ e, e < nE R C → isI S e = true → bt X (mLow R C e) = bt X (mHigh R C e)
theorem ot_side {S X p e : Nat} (hX : ClX R C S X) (h : EdA R C S p e) (he : e ≠ 99) : bt X (othr R C p e) = bt X p := by
  rcases h with h | ⟨h1, h2, h3⟩
  · exact absurd h he
  · have := hX e h1 h2
    unfold othr
    by_cases q : mLow R C e = p
    · rw [if_pos q, ← this, q]
    · rw [if_neg q, this, h3.resolve_left q]
theorem wk_side (hG : GS R C) {S X : Nat} (hX : ClX R C S X) : ∀ (n p e : Nat) (se : Nat → Bool), EdA R C S p e → ∀ y, bt X y ≠ bt X p → (wkA R C S n p e se).2 y = se y
  | 0, _, _, _, _, _, _ => rfl
  | n + 1, p, e, se, h, y, hy => by
    simp only [wkA]
    split
    · rfl
    · rename_i h1
      have h2 := ot_side hX h h1
      have h3 : othr R C p e < 20 := by
        rcases h with h | h
        · exact absurd h h1
        · have h4 := othr_lt (p := p) hG h.1
          have := hG.P
          omega
      split
      · rfl
      · rw [wk_side hG hX n _ _ _ (on_ed hG h3) y (by rw [h2]; exact hy), va_up_ne _ _ (fun e1 => hy (by rw [e1, h2]))]
theorem wl_side (hG : GS R C) {S X p : Nat} (hX : ClX R C S X) (hp : p < 20) (se : Nat → Bool) (y : Nat) (hy : bt X y ≠ bt X p) : (wlk R C S p se).2 y = se y := by
  unfold wlk
  rw [wk_side hG hX _ _ _ _ (on_ed hG hp) y hy, va_up_ne _ _ (fun e => hy (by rw [e]))]
theorem pa_side (hG : GS R C) {S X : Nat} {de : Nat → Nat} (hX : ClX R C S X) (h2 : ∀ p, p < nP R C → bt X p = true → de p = 2) : ∀ i, i ≤ nP R C → (∀ y, bt X y = true → (paA R C S de i).2 y = false) ∧ ((paA R C S de i).1 = false → (paA R C S de i).2 = no0)
  | 0, _ => ⟨fun _ _ => rfl, fun _ => rfl⟩
  | i + 1, hi => by
    obtain ⟨h3, h4⟩ := pa_side hG hX h2 i (by omega)
    simp only [paA]
    split
    · rename_i h5
      refine ⟨fun y hy => ?_, fun h => nomatch h⟩
      have h6 : bt X i = false := by
        cases hq : bt X i with
        | false => rfl
        | true => have := h2 i (by omega) hq; omega
      show (wlk R C S i (paA R C S de i).2).2 y = false
      rw [wl_side hG hX (by have := hG.P; omega) _ y (by rw [hy, h6]; simp)]
      exact h3 y hy
    · exact ⟨h3, h4⟩
/-- a ring and more: no way to one loop -/
theorem ring_dead (hG : GS R C) {S X u w k : Nat} (hX : ClX R C S X) (h2 : ∀ p, p < nP R C → bt X p = true → deg R C S p = 2) (hu : u < nP R C) (hu2 : bt X u = true) (hw : w < nP R C) (hw2 : bt X w = false) (hw3 : 0 < deg R C S w) : alN R C S k = false := by
  have hP := hG.P
  have hu3 := h2 u hu hu2
  obtain ⟨h3, h4⟩ := pa_side hG hX h2 (nP R C) (Nat.le_refl _)
  have n1 : ∀ (se : Nat → Bool) (y : Nat), y < nP R C → 0 < deg R C S y → se y = false → uns R C (deg R C S) se ≠ 99 := fun se y hy h7 h8 => unA_ne (Nat.zero_le y) (by omega) (by omega) h7 h8
  have h5 : rgB R C S (deg R C S) (paA R C S (deg R C S) (nP R C)) = false := by
    unfold rgB
    generalize hq : paA R C S (deg R C S) (nP R C) = q at h3 h4
    rw [if_neg (n1 _ u hu (by omega) (h3 u hu2))]
    cases hb : q.1 with
    | true => rfl
    | false =>
      rw [h4 hb]
      have h6 := uns_lt R C (deg R C S) no0
      have h7 : uns R C (deg R C S) no0 ≠ 99 := n1 _ u hu (by omega) rfl
      have h8 := h6.resolve_left h7
      simp only [Bool.not_false, Bool.true_and, decide_eq_false_iff_not]
      cases hv : bt X (uns R C (deg R C S) no0) with
      | true => exact n1 _ w hw hw3 (by rw [wl_side hG hX (by omega) _ w (by rw [hw2, hv]; simp)]; rfl)
      | false => exact n1 _ u hu (by omega) (by rw [wl_side hG hX (by omega) _ u (by rw [hu2, hv]; simp)]; rfl)
  unfold alN
  rw [h5, Bool.and_false]
theorem dd_ok (hG : GS R C) {TB TL TH TF TT k d D x k2 : Nat} (hT : TOK R C TB TL TH TF TT) (hd : d < 2 ^ k) (hk : k ≤ nE R C) (hD : deg R C (rv d) = dF D) (h : ddF TB TL TH TT (nP R C) k d D = true) (hx : ∀ j, j < k → x.testBit j = d.testBit j) (hk2 : k ≤ k2) : alN R C (rv x) k2 = false := by
  have hE := hG.E
  have hP := hG.P
  have hb : ∀ j, d.testBit j = true → x.testBit j = true := fun j hj => by
    rcases Nat.lt_or_ge j k with q | q
    · rw [hx j q]; exact hj
    · rw [Nat.testBit_lt_two_pow (Nat.lt_of_lt_of_le hd (Nat.pow_le_pow_right (by decide) q))] at hj; cases hj
  have hdk : ∀ j, k ≤ j → d.testBit j = false := fun j hj => Nat.testBit_lt_two_pow (Nat.lt_of_lt_of_le hd (Nat.pow_le_pow_right (by decide) hj))
  have hmo : ∀ p, deg R C (rv d) p ≤ deg R C (rv x) p := fun p => dg_mono hb _ (by omega)
  cases hth : thA (deg R C (rv x)) (nP R C) with
  | false => unfold alN; rw [hth]; rfl
  | true =>
    have h3 := thA_get hth
    simp only [ddF, Bool.or_eq_true, Bool.not_eq_true'] at h
    rcases h with h | h | h
    · obtain ⟨p, h1, h2⟩ := thF_no h
      have := h3 p h1
      have := hmo p
      rw [hD] at this
      omega
    · obtain ⟨p, h1, h2, h4⟩ := laF_no h
      rw [← (hT.2.2 p (by omega)).2] at h2
      have h5 : deg R C (rv d) p = deg R C (rv x) p := dg_same _ (by omega) (fun j hj hi => by
        have := hG.last2 h1 hj hi
        exact hx j (by omega))
      rw [hD, h4] at h5
      cases hla : laA R C (deg R C (rv x)) k2 (nP R C) with
      | false => unfold alN; rw [hla]; simp
      | true =>
        rcases laA_get hla p h1 with h6 | h6
        · omega
        · exact absurd h5.symm h6
    · simp only [rnF, Bool.and_eq_true, Bool.not_eq_true'] at h
      have hu := unF_get (D := D) (X := (paF TB TL TH d D (nP R C)).2) (n := nP R C) (p := 0)
      generalize unF D (paF TB TL TH d D (nP R C)).2 (nP R C) 0 = u at h hu
      generalize (wlF TB TL TH d u 0).2 = X at h
      obtain ⟨h1, h2, h4, h5, h6⟩ := h
      have hu1 : u ≠ 99 := fun e => by rw [e] at h1; cases h1
      have hu2 : u < nP R C := by have := (hu hu1).1; omega
      have hw := unF_get (D := D) (X := X) (n := nP R C) (p := 0) (fun e => by rw [e] at h6; cases h6)
      generalize unF D X (nP R C) 0 = w at hw
      obtain ⟨hw1, hw2, hw3⟩ := hw
      have hX2 : ∀ p, p < nP R C → bt X p = true → deg R C (rv x) p = 2 := fun p hp hq => by
        have h7 := clF_get h4 p hp hq
        have h8 := h3 p hp
        have h9 := hmo p
        rw [hD, h7] at h9
        omega
      have hX : ClX R C (rv x) X := fun e he hi => by
        rw [rv_is (by omega)] at hi
        cases hq : d.testBit e with
        | true =>
          have hek : e < k := Decidable.byContradiction fun c => by rw [hdk e (by omega)] at hq; cases hq
          obtain ⟨t1, t2, _⟩ := hT.2.1 e (by omega)
          rw [t1, t2]
          exact ceF_get h5 e hek (by rw [bt_eq]; exact hq)
        | false =>
          have key : ∀ p, p < nP R C → (mLow R C e = p ∨ mHigh R C e = p) → bt X p = false := fun p hp hi2 => by
            cases hb2 : bt X p with
            | false => rfl
            | true =>
              exfalso
              have h7 := clF_get h4 p hp hb2
              have h8 := h3 p hp
              have h9 : deg R C (rv d) p < deg R C (rv x) p := dg_more hb hi hq hi2 _ (by omega) he
              rw [hD, h7] at h9
              omega
          rw [key _ (hG.lo he) (Or.inl rfl), key _ (hG.hi he) (Or.inr rfl)]
      exact ring_dead hG hX hX2 hu2 h2 (by omega) hw3 (by have := hmo w; rw [hD] at this; omega)
/-- what a beginning's state tells -/
def OKt (R C TF TT x k : Nat) (o : Option Nat) : Prop := match o with
  | some q => alN R C (rv x) k = true ∧ trN R C (rv x) k (nP R C) = enF R C TF TT k q (nP R C) ∧ deF C TF TT k (nP R C) (enF R C TF TT k q (nP R C)) 1672 = q ∧ (k = nE R C → ∃ m, 0 < m ∧ m < 2 ^ (R * C) ∧ bor R C m = rv x)
  | none => alN R C (rv x) k = false
def T2 (R C TO TX : Nat) : Prop := ∀ e, e < nE R C → mOne R C e = c9 (t5 TO e) ∧ mOther R C e = c9 (t5 TX e)
theorem brA_bit (R C m j : Nat) : ∀ i, i ≤ 31 → (brA R C m i).testBit j = (decide (j < 31) && (decide (30 - j < i) && (cb m (mOne R C (30 - j)) != cb m (mOther R C (30 - j)))))
  | 0, _ => by simp [brA]
  | i + 1, h => by
    have ih := brA_bit R C m j i (by omega)
    simp only [brA]
    by_cases q : j < 31
    · rw [decide_eq_true q, Bool.true_and] at *
      by_cases q2 : 30 - j = i
      · subst q2
        rw [decide_eq_true (show 30 - j < 30 - j + 1 by omega), Bool.true_and]
        rw [decide_eq_false (show ¬ 30 - j < 30 - j by omega), Bool.false_and] at ih
        split
        · rename_i h2
          rw [h2, Nat.testBit_or, ih, Nat.testBit_two_pow, decide_eq_true (show 30 - (30 - j) = j by omega)]; rfl
        · rename_i h2
          rw [ih]
          simpa using h2
      · have e : decide (30 - j < i + 1) = decide (30 - j < i) := by rw [decide_eq_decide]; omega
        rw [e, ← ih]
        split
        · rw [Nat.testBit_or, Nat.testBit_two_pow, decide_eq_false (show ¬ 30 - i = j by omega), Bool.or_false]
        · rfl
    · rw [decide_eq_false q, Bool.false_and] at *
      split
      · rw [Nat.testBit_or, ih, Nat.testBit_two_pow, decide_eq_false (show ¬ 30 - i = j by omega)]; rfl
      · exact ih
theorem bqF_get {TO TX d m : Nat} : ∀ {n : Nat}, bqF TO TX d m n = true → ∀ e, e < n → bt d e = Bool.xor (bt m (t5 TO e)) (bt m (t5 TX e))
  | 0, _, p, hp => absurd hp (by omega)
  | n + 1, h, p, hp => by
    simp only [bqF, Bool.and_eq_true, beq_iff_eq] at h
    by_cases q : p = n
    · subst q; exact h.2
    · exact bqF_get h.1 p (by omega)
theorem cb_bt {m y : Nat} (hm : m < 2 ^ 31) : cb m (c9 y) = bt m y := by
  unfold cb
  by_cases h : y = 31
  · subst h; rw [c9_31, bt_eq, Nat.testBit_lt_two_pow hm]; rfl
  · rw [c9_lt h, bt_eq]
    by_cases h2 : y = 99
    · subst h2
      rw [Nat.testBit_lt_two_pow (Nat.lt_of_lt_of_le hm (Nat.pow_le_pow_right (by decide) (by decide)))]; rfl
    · simp [h2]
theorem lf_ok (hG : GS R C) {TE TO TX d : Nat} (h2 : T2 R C TO TX) (hd : d < 2 ^ nE R C) (h : lfF R C TE TO TX (nE R C) d = true) : ∃ m, 0 < m ∧ m < 2 ^ (R * C) ∧ bor R C m = rv d := by
  simp only [lfF, Bool.and_eq_true] at h
  obtain ⟨h3, h4, h5⟩ := h
  generalize cmF C TE d (R * C) = m at h3 h4 h5
  have hm : m < 2 ^ (R * C) := Nat.le_of_ble_eq_true h4
  have hm2 : m < 2 ^ 31 := Nat.lt_of_lt_of_le hm (Nat.pow_le_pow_right (by decide) (by have := hG.RC; omega))
  have hE := hG.E
  refine ⟨m, Nat.le_of_ble_eq_true h3, hm, ?_⟩
  apply Nat.eq_of_testBit_eq
  intro j
  rw [bor, brA_bit _ _ _ _ _ (by omega), rv_bit]
  congr 1
  by_cases q : 30 - j < nE R C
  · obtain ⟨t1, t2⟩ := h2 _ q
    rw [decide_eq_true q, Bool.true_and, t1, t2, cb_bt hm2, cb_bt hm2, ← bt_eq, bqF_get h5 _ q]
  · rw [decide_eq_false q, Bool.false_and, Nat.testBit_lt_two_pow (Nat.lt_of_lt_of_le hd (Nat.pow_le_pow_right (by decide) (by omega)))]
theorem bits_eq {x d k : Nat} (hx : x < 2 ^ k) (hd : d < 2 ^ k) (h : ∀ j, j < k → x.testBit j = d.testBit j) : x = d := Nat.eq_of_testBit_eq fun j => by
  rcases Nat.lt_or_ge j k with q | q
  · exact h j q
  · rw [Nat.testBit_lt_two_pow (Nat.lt_of_lt_of_le hx (Nat.pow_le_pow_right (by decide) q)), Nat.testBit_lt_two_pow (Nat.lt_of_lt_of_le hd (Nat.pow_le_pow_right (by decide) q))]
section S
variable {TB TL TH TF TT TE TO TX : Nat}
theorem nd_ok (hG : GS R C) (hT : TOK R C TB TL TH TF TT) {k d p D : Nat} (hk : k ≤ nE R C) (hd : d < 2 ^ k) (hD : deg R C (rv d) = dF D) (h : ndF R C TB TL TH TF TT (nE R C) (nP R C) k d p D = true) :
    (alN R C (rv d) k = true ∧ trN R C (rv d) k (nP R C) = enF R C TF TT k p (nP R C) ∧ deF C TF TT k (nP R C) (enF R C TF TT k p (nP R C)) 1672 = p) ∧ ∀ q, q < nP R C → dF D q ≤ 2 := by
  have hE := hG.E
  have hd31 : d < 2 ^ 31 := Nat.lt_of_lt_of_le hd (Nat.pow_le_pow_right (by decide) (by omega))
  simp only [ndF, Bool.and_eq_true, beq_iff] at h
  obtain ⟨h1, h2, h3⟩ := h
  have h4 : thF D (nP R C) = true := by
    simp only [alF, Bool.and_eq_true] at h1
    exact h1.1.1.1
  refine ⟨⟨by rw [al_F hT hd31 hG hD]; exact h1, by rw [tr_F hT hd31 hG hD _ _ hG.P]; exact h2, h3⟩, fun q hq => ?_⟩
  rw [← th_F] at h4
  have := thA_get h4 q hq
  omega
theorem D_ok (hG : GS R C) (hT : TOK R C TB TL TH TF TT) {k d D : Nat} (hk : k < nE R C) (hd : d < 2 ^ k) (hD : deg R C (rv d) = dF D) (h2 : ∀ q, q < nP R C → dF D q ≤ 2) : deg R C (rv (d + 2 ^ k)) = dF (D + 8 ^ t5 TL k + 8 ^ t5 TH k) := by
  have hE := hG.E
  obtain ⟨t1, t2, _⟩ := hT.2.1 k (by omega)
  have h3 := h2 _ (hG.lo hk)
  have h4 := h2 _ (hG.hi hk)
  funext p
  have h5 : dF (D + 8 ^ t5 TL k) (t5 TH k) ≤ 6 := by
    rw [dF_add (by rw [← t1]; omega), ← t2]
    split <;> omega
  rw [dF_add h5, dF_add (by rw [← t1]; omega), ← t1, ← t2, ← hD]
  unfold deg
  rw [dg_add (Nat.testBit_lt_two_pow hd) (by omega) _ (by omega), if_pos hk]
  omega
theorem xn_ok (hG : GS R C) (hT : TOK R C TB TL TH TF TT) {n k d D x m : Nat} (hk : k + n = nE R C) (hd : d < 2 ^ k) (hD : deg R C (rv d) = dF D) (h : xnF TB TL TH TT (nE R C) (nP R C) n k d D = true) (hm : m ≤ n) (hx : x < 2 ^ (k + m)) (hxd : ∀ j, j < k → x.testBit j = d.testBit j) : alN R C (rv x) (k + m) = false := by
  have hE := hG.E
  unfold xnF at h
  by_cases q : n = 0
  · subst q
    have hm0 : m = 0 := by omega
    subst hm0
    rw [bits_eq hx hd hxd, Nat.add_zero, al_F hT (Nat.lt_of_lt_of_le hd (Nat.pow_le_pow_right (by decide) (by omega))) hG hD]
    simpa using h
  · rw [beq_dec, decide_eq_false q, cond_false] at h
    exact dd_ok hG hT hd (by omega) hD h hxd (by omega)
theorem agr {x d k : Nat} (hd : d < 2 ^ k) (h : ∀ j, j < k → x.testBit j = d.testBit j) : ∀ j, j < k + 1 → x.testBit j = (if x.testBit k then d + 2 ^ k else d).testBit j := fun j hj => by
  have hdk := Nat.testBit_lt_two_pow hd
  cases hb : x.testBit k with
  | true =>
    rw [if_pos rfl, add_bit hdk]
    by_cases q : k = j
    · subst q; rw [hb]; simp
    · rw [decide_eq_false q, Bool.or_false]; exact h j (by omega)
  | false =>
    rw [if_neg (by simp)]
    by_cases q : j = k
    · subst q; rw [hb, hdk]
    · exact h j (by omega)
theorem two_lt {d k : Nat} (hd : d < 2 ^ k) : d < 2 ^ (k + 1) ∧ d + 2 ^ k < 2 ^ (k + 1) := by
  rw [Nat.pow_succ]; omega
theorem chF_ok (hG : GS R C) (hT : TOK R C TB TL TH TF TT) (h2 : T2 R C TO TX) : ∀ (n k d p D : Nat), k + n = nE R C → d < 2 ^ k → deg R C (rv d) = dF D → chF R C TB TL TH TF TT TE TO TX (nE R C) (nP R C) n k d p D = true → ∀ m x, m ≤ n → x < 2 ^ (k + m) → (∀ j, j < k → x.testBit j = d.testBit j) → OKt R C TF TT x (k + m) (rnP R C x m k p)
  | n, k, d, p, D, hk, hd, hD, h, 0, x, _, hx, hxd => by
    rw [bits_eq hx hd hxd]
    cases n with
    | zero =>
      simp only [chF, Bool.and_eq_true] at h
      obtain ⟨⟨h3, h4, h5⟩, _⟩ := nd_ok hG hT (by omega) hd hD h.1
      have hk2 : k = nE R C := by omega
      exact ⟨h3, h4, h5, fun _ => lf_ok hG h2 (by rw [← hk2]; exact hd) h.2⟩
    | succ n =>
      simp only [chF, Bool.and_eq_true] at h
      obtain ⟨⟨h3, h4, h5⟩, _⟩ := nd_ok hG hT (by omega) hd hD h.1
      exact ⟨h3, h4, h5, fun e => absurd e (by omega)⟩
  | 0, _, _, _, _, _, _, _, _, m + 1, _, hm, _, _ => absurd hm (by omega)
  | n + 1, k, d, p, D, hk, hd, hD, h, m + 1, x, hm, hx, hxd => by
    simp only [chF, Bool.and_eq_true] at h
    obtain ⟨hn, hf, ht⟩ := h
    have hn2 := (nd_ok hG hT (by omega) hd hD hn).2
    have ha := agr hd hxd
    obtain ⟨hd1, hd2⟩ := two_lt hd
    have e : k + (m + 1) = k + 1 + m := by omega
    rw [e] at hx ⊢
    simp only [rnP]
    cases hb : x.testBit k with
    | false =>
      rw [hb, if_neg (by simp)] at ha
      cases hq : pointsF R C p k false with
      | none =>
        rw [hq] at hf
        exact xn_ok hG hT (by omega) hd1 hD hf (by omega) hx ha
      | some q =>
        rw [hq] at hf
        exact chF_ok hG hT h2 n (k + 1) d q D (by omega) hd1 hD hf m x (by omega) hx ha
    | true =>
      rw [hb, if_pos rfl] at ha
      have hD2 := D_ok hG hT (show k < nE R C by omega) hd hD hn2
      cases hq : pointsF R C p k true with
      | none =>
        rw [hq] at ht
        exact xn_ok hG hT (by omega) hd2 hD2 ht (by omega) hx ha
      | some q =>
        rw [hq] at ht
        exact chF_ok hG hT h2 n (k + 1) (d + 2 ^ k) q _ (by omega) hd2 hD2 ht m x (by omega) hx ha
theorem chB_ok (hG : GS R C) (hT : TOK R C TB TL TH TF TT) (h2 : T2 R C TO TX) : ∀ (L n k d p D y : Nat), k + n = nE R C → d < 2 ^ k → deg R C (rv d) = dF D → chB R C TB TL TH TF TT TE TO TX (nE R C) (nP R C) L n k d p D y = true → ∀ m x, m ≤ n → x < 2 ^ (k + m) → (∀ j, j < k → x.testBit j = d.testBit j) → (∀ j, j < k + L → j < k + m → x.testBit j = y.testBit j) → OKt R C TF TT x (k + m) (rnP R C x m k p)
  | 0, n, k, d, p, D, y, hk, hd, hD, h, m, x, hm, hx, hxd, _ => chF_ok hG hT h2 n k d p D hk hd hD (by simpa only [chB] using h) m x hm hx hxd
  | L + 1, 0, k, d, p, D, y, hk, hd, hD, h, m, x, hm, hx, hxd, _ => by simp [chB] at h
  | L + 1, n + 1, k, d, p, D, y, hk, hd, hD, h, 0, x, hm, hx, hxd, _ => by
    simp only [chB, Bool.and_eq_true] at h
    rw [bits_eq hx hd hxd]
    obtain ⟨⟨h3, h4, h5⟩, _⟩ := nd_ok hG hT (by omega) hd hD h.1
    exact ⟨h3, h4, h5, fun e => absurd e (by omega)⟩
  | L + 1, n + 1, k, d, p, D, y, hk, hd, hD, h, m + 1, x, hm, hx, hxd, hy => by
    simp only [chB, Bool.and_eq_true] at h
    obtain ⟨hn, h⟩ := h
    have hn2 := (nd_ok hG hT (by omega) hd hD hn).2
    have ha := agr hd hxd
    obtain ⟨hd1, hd2⟩ := two_lt hd
    have e : k + (m + 1) = k + 1 + m := by omega
    have hyk := hy k (by omega) (by omega)
    rw [bt_eq, ← hyk] at h
    rw [e] at hx ⊢
    simp only [rnP]
    cases hb : x.testBit k with
    | false =>
      rw [hb, if_neg (by simp)] at ha
      rw [hb, cond_false] at h
      cases hq : pointsF R C p k false with
      | none =>
        rw [hq] at h
        exact xn_ok hG hT (by omega) hd1 hD h (by omega) hx ha
      | some q =>
        rw [hq] at h
        exact chB_ok hG hT h2 L n (k + 1) d q D y (by omega) hd1 hD h m x (by omega) hx ha (fun j h5 h6 => hy j (by omega) (by omega))
    | true =>
      rw [hb, if_pos rfl] at ha
      rw [hb, cond_true] at h
      have hD2 := D_ok hG hT (show k < nE R C by omega) hd hD hn2
      cases hq : pointsF R C p k true with
      | none =>
        rw [hq] at h
        exact xn_ok hG hT (by omega) hd2 hD2 h (by omega) hx ha
      | some q =>
        rw [hq] at h
        exact chB_ok hG hT h2 L n (k + 1) (d + 2 ^ k) q _ y (by omega) hd2 hD2 h m x (by omega) hx ha (fun j h5 h6 => hy j (by omega) (by omega))
theorem dg_0 (R C p : Nat) : ∀ i, dgA R C 0 i p = 0
  | 0 => rfl
  | i + 1 => by
    simp only [dgA, isI, Nat.zero_testBit]
    exact dg_0 R C p i
theorem tree_ok (hG : GS R C) (hT : TOK R C TB TL TH TF TT) (h2 : T2 R C TO TX) {L : Nat} (h : ∀ x, x < 2 ^ L → chB R C TB TL TH TF TT TE TO TX (nE R C) (nP R C) L (nE R C) 0 0 1672 0 x = true) : ∀ m x, m ≤ nE R C → x < 2 ^ m → OKt R C TF TT x m (rnP R C x m 0 1672) := fun m x hm hx => by
  have h3 := chB_ok hG hT h2 L (nE R C) 0 0 1672 0 (x % 2 ^ L) (Nat.zero_add _) (by decide) (by
    funext p
    rw [show rv 0 = 0 by decide, deg, dg_0]
    simp [dF]) (h _ (Nat.mod_lt _ (Nat.pow_pos (by decide)))) m x hm (by rw [Nat.zero_add]; exact hx) (fun j hj => absurd hj (by omega)) (fun j hj _ => by
    rw [Nat.testBit_mod_two_pow, decide_eq_true (show j < L by omega), Bool.true_and])
  rw [Nat.zero_add] at h3
  exact h3
end S
end R
