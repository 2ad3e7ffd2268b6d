/-! sets of edges, as the class and as the model hold them -/
theorem rvA_mul (d : Nat) : ∀ e, e ≤ 31 → ∃ m, rvA d e = 2 ^ (31 - e) * m ∧ ∀ j, m.testBit j = (decide (j < e) && d.testBit (e - 1 - j))
  | 0, _ => ⟨0, rfl, fun j => by simp⟩
  | e + 1, he => by
    obtain ⟨m, h1, h2⟩ := rvA_mul d e (by omega)
    have h3 : 31 - e = (31 - (e + 1)) + 1 := by omega
    have h4 : 30 - e = 31 - (e + 1) := by omega
    refine ⟨2 * m + (if d.testBit e then 1 else 0), ?_, fun j => ?_⟩
    · show rvA d e + (if d.testBit e then 2 ^ (30 - e) else 0) = _
      rw [h1, h3, h4, Nat.pow_succ, Nat.mul_add, Nat.mul_assoc]
      split <;> simp
    · have hb : (if d.testBit e then 1 else 0) < 2 ^ 1 := by split <;> decide
      have h5 := Nat.testBit_two_pow_mul_add (i := 1) m hb j
      rw [show (2 : Nat) ^ 1 * m = 2 * m from rfl] at h5
      rw [h5]
      cases j with
      | zero =>
        simp
        cases d.testBit e <;> simp
      | succ j =>
        rw [if_neg (by omega), Nat.add_sub_cancel, h2, show e + 1 - 1 - (j + 1) = e - 1 - j by omega]
        by_cases q : j < e
        · simp [q]
        · simp [q]
theorem rv_bit (d j : Nat) : (rv d).testBit j = (decide (j < 31) && d.testBit (30 - j)) := by
  obtain ⟨m, h1, h2⟩ := rvA_mul d 31 (Nat.le_refl _)
  unfold rv
  rw [h1, show 31 - 31 = 0 from rfl, Nat.pow_zero, Nat.one_mul, h2]
theorem rv_is {d e : Nat} (he : e < 31) : isI (rv d) e = d.testBit e := by
  unfold isI
  rw [rv_bit, decide_eq_true (show 30 - e < 31 by omega), Bool.true_and, show 30 - (30 - e) = e by omega]
theorem rv_lt (d : Nat) : rv d < 2 ^ 31 := by
  refine Nat.lt_pow_two_of_testBit _ fun j hj => ?_
  rw [rv_bit, decide_eq_false (by omega), Bool.false_and]
theorem rv_xor {d e : Nat} (he : e < 31) : rv (d ^^^ 2 ^ e) = rv d ^^^ 2 ^ (30 - e) := by
  apply Nat.eq_of_testBit_eq
  intro j
  rw [rv_bit, Nat.testBit_xor, Nat.testBit_xor, rv_bit, Nat.testBit_two_pow, Nat.testBit_two_pow]
  by_cases q : j < 31
  · simp only [q, decide_true, Bool.true_and]
    congr 1
    exact decide_eq_decide.mpr (by omega)
  · simp only [q, decide_false, Bool.false_and]
    rw [decide_eq_false (by omega)]; rfl
theorem rv_pow {e : Nat} (he : e < 31) : rv (2 ^ e) = 2 ^ (30 - e) := by
  apply Nat.eq_of_testBit_eq
  intro j
  rw [rv_bit, Nat.testBit_two_pow, Nat.testBit_two_pow]
  by_cases q : j < 31
  · simp only [q, decide_true, Bool.true_and]
    exact decide_eq_decide.mpr (by omega)
  · simp only [q, decide_false, Bool.false_and]
    rw [decide_eq_false (by omega)]
theorem rv_inj {a b : Nat} (ha : a < 2 ^ 31) (hb : b < 2 ^ 31) (h : rv a = rv b) : a = b := by
  apply Nat.eq_of_testBit_eq
  intro j
  by_cases q : j < 31
  · rw [← rv_is q, ← rv_is q, h]
  · rw [Nat.testBit_lt_two_pow (Nat.lt_of_lt_of_le ha (Nat.pow_le_pow_right (by decide) (by omega))), Nat.testBit_lt_two_pow (Nat.lt_of_lt_of_le hb (Nat.pow_le_pow_right (by decide) (by omega)))]
theorem pop_sz (d : Nat) : ∀ i, i ≤ 31 → pop d i = szA (rv d) i
  | 0, _ => rfl
  | i + 1, hi => by
    simp only [pop, szA, rv_is (show i < 31 by omega), pop_sz d i (by omega)]
    cases d.testBit i <;> simp
theorem pop_hi {d n : Nat} (hd : d < 2 ^ n) : ∀ j, pop d (n + j) = pop d n
  | 0 => rfl
  | j + 1 => by
    show pop d (n + j) + (if d.testBit (n + j) then 1 else 0) = _
    rw [pop_hi hd j, Nat.testBit_lt_two_pow (Nat.lt_of_lt_of_le hd (Nat.pow_le_pow_right (by decide) (by omega)))]
    simp
theorem pop_rv {d n : Nat} (hn : n ≤ 31) (hd : d < 2 ^ n) : pop d 32 = szA (rv d) n := by
  rw [show 32 = n + (32 - n) by omega, pop_hi hd, pop_sz d n hn]
theorem add_bit {x k : Nat} (hx : x.testBit k = false) (j : Nat) : (x + 2 ^ k).testBit j = (x.testBit j || decide (k = j)) := by
  have hl : x % 2 ^ k < 2 ^ k := Nat.mod_lt _ (Nat.pow_pos (by decide))
  have e1 := Nat.div_add_mod x (2 ^ k)
  have e2 : x + 2 ^ k = 2 ^ k * (x / 2 ^ k + 1) + x % 2 ^ k := by rw [Nat.mul_add, Nat.mul_one]; omega
  have h2 : x / 2 ^ k % 2 = 0 := by
    rw [Nat.testBit_eq_decide_div_mod_eq] at hx
    have := of_decide_eq_false hx
    omega
  obtain ⟨m, hm⟩ : ∃ m, x / 2 ^ k = 2 * m := ⟨x / 2 ^ k / 2, by omega⟩
  have t1 := Nat.testBit_two_pow_mul_add (x / 2 ^ k) hl j
  have t2 := Nat.testBit_two_pow_mul_add (x / 2 ^ k + 1) hl j
  rw [e1] at t1
  rw [e2, t2, t1]
  by_cases q : j < k
  · rw [if_pos q, if_pos q, decide_eq_false (by omega), Bool.or_false]
  · rw [if_neg q, if_neg q, hm]
    obtain ⟨i, rfl⟩ : ∃ i, j = k + i := ⟨j - k, by omega⟩
    rw [Nat.add_sub_cancel_left]
    cases i with
    | zero => simp [Nat.testBit_zero]
    | succ i =>
      rw [Nat.testBit_succ, Nat.testBit_succ, show (2 * m + 1) / 2 = m by omega, show 2 * m / 2 = m by omega, decide_eq_false (by omega), Bool.or_false]
/-- the lower bits are the upper ones there -/
theorem rv_add {x k : Nat} (hk : k < 31) (hx : x.testBit k = false) : rv (x + 2 ^ k) = rv x + 2 ^ (30 - k) := by
  have h2 : (rv x).testBit (30 - k) = false := by rw [rv_bit, show 30 - (30 - k) = k by omega, hx, Bool.and_false]
  apply Nat.eq_of_testBit_eq
  intro j
  rw [rv_bit, add_bit hx, add_bit h2, rv_bit]
  by_cases q : j < 31
  · simp only [q, decide_true, Bool.true_and]
    congr 1
    exact decide_eq_decide.mpr (by omega)
  · simp only [q, decide_false, Bool.false_and]
    rw [decide_eq_false (by omega)]; rfl
