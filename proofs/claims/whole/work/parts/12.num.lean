/-! numbers: bits of nI, slots of three bits -/
theorem nb_and (a b : Nat) : nI a &&& nI b = nI (a &&& b) := by
  apply Int32.toBitVec_inj.1
  show BitVec.ofNat 32 a &&& BitVec.ofNat 32 b = BitVec.ofNat 32 (a &&& b)
  apply BitVec.eq_of_getLsbD_eq
  intro i hi
  simp [hi]
theorem nb_or (a b : Nat) : nI a ||| nI b = nI (a ||| b) := by
  apply Int32.toBitVec_inj.1
  show BitVec.ofNat 32 a ||| BitVec.ofNat 32 b = BitVec.ofNat 32 (a ||| b)
  apply BitVec.eq_of_getLsbD_eq
  intro i hi
  simp [hi]
theorem nb_xor (a b : Nat) : nI a ^^^ nI b = nI (a ^^^ b) := by
  apply Int32.toBitVec_inj.1
  show BitVec.ofNat 32 a ^^^ BitVec.ofNat 32 b = BitVec.ofNat 32 (a ^^^ b)
  apply BitVec.eq_of_getLsbD_eq
  intro i hi
  simp [hi]
theorem nb_m1 : (-1 : Int32) = nI 4294967295 := by decide
theorem nb_amt : ∀ i, i < 32 → ((nI i &&& 31).toBitVec.smod 32).toNat = i := by decide
theorem nb_shr {n i : Nat} (h : n < 2 ^ 31) (hi : i < 32) : nI n >>> (nI i &&& 31) = nI (n / 2 ^ i) := pk_shrN h _ i (nb_amt i hi)
theorem nb_shl {n i : Nat} (h : n * 2 ^ i < 2 ^ 32) (hi : i < 32) : nI n <<< (nI i &&& 31) = nI (n * 2 ^ i) := pk_shlN _ i (nb_amt i hi) h
theorem nb_lo {n : Nat} (k : Nat) (h : n < 2 ^ 32) {m : Nat} (hm : m = 2 ^ k - 1) (hk : k < 32) : nI n &&& nI m = nI (n % 2 ^ k) := by
  rw [nb_and, hm, Nat.and_two_pow_sub_one_eq_mod]
theorem nb_bit {n i : Nat} (h : n < 2 ^ 31) (hi : i < 32) : (nI n >>> (nI i &&& 31)) &&& nI 1 = nI (if n.testBit i then 1 else 0) := by
  have h2 : n / 2 ^ i < 2 ^ 32 := Nat.lt_of_le_of_lt (Nat.div_le_self _ _) (by omega)
  rw [nb_shr h hi, nb_lo 1 h2 (by rfl) (by decide)]
  congr 1
  rw [Nat.testBit_eq_decide_div_mod_eq]
  have := Nat.mod_two_eq_zero_or_one (n / 2 ^ i)
  rcases this with e | e <;> simp [e]
theorem fit_bI (b : Bool) : fits .boolean (.int (bI b)) = true := by cases b <;> rfl
def eI (x : Nat) : Int32 := if x = 99 then -1 else nI x
/-- the slot i of a state, and the state with v put there -/
def sl (s i : Nat) : Nat := s / 8 ^ i % 8
def pt (s i v : Nat) : Nat := s - sl s i * 8 ^ i + v * 8 ^ i
theorem p8 (i : Nat) : 2 ^ (3 * i) = 8 ^ i := by rw [Nat.pow_mul]
theorem sl_lt (s i : Nat) : sl s i < 8 := Nat.mod_lt _ (by decide)
theorem sl_run {s i : Nat} (h : s < 2 ^ 31) (hi : i < 8) : (nI s >>> (nI (3 * i) &&& 31)) &&& nI 7 = nI (sl s i) := by
  have h2 : s / 2 ^ (3 * i) < 2 ^ 32 := Nat.lt_of_le_of_lt (Nat.div_le_self _ _) (by omega)
  rw [nb_shr h (by omega), nb_lo 3 h2 (by rfl) (by decide), p8]
  rfl
theorem pt_bits (k h m l v : Nat) (hk : k < 28) (hl : l < 2 ^ k) (hm : m < 8) (hv : v < 8) (hh : 2 ^ (k + 3) * h + (2 ^ k * m + l) < 2 ^ 32) :
    ((2 ^ (k + 3) * h + (2 ^ k * m + l)) &&& (4294967295 ^^^ (7 * 2 ^ k))) ||| (v * 2 ^ k) = 2 ^ (k + 3) * h + (2 ^ k * v + l) := by
  have e3 : (2 : Nat) ^ (k + 3) = 2 ^ k * 8 := by rw [Nat.pow_add]
  have hl3 : ∀ x, x < 8 → 2 ^ k * x + l < 2 ^ (k + 3) := fun x hx => by
    rw [e3]
    have : 2 ^ k * x + 2 ^ k ≤ 2 ^ k * 8 := by
      have := Nat.mul_le_mul_left (2 ^ k) (show x + 1 ≤ 8 by omega)
      rw [Nat.mul_add] at this
      omega
    omega
  apply Nat.eq_of_testBit_eq
  intro j
  have hb : (2 ^ (k + 3) * h + (2 ^ k * m + l)).testBit j = true → j < 32 := fun ht => by
    rcases Nat.lt_or_ge j 32 with q | q
    · exact q
    · rw [Nat.testBit_lt_two_pow (Nat.lt_of_lt_of_le hh (Nat.pow_le_pow_right (by decide) q))] at ht
      cases ht
  have h7 : (7 * 2 ^ k).testBit j = (decide (k ≤ j) && (7 : Nat).testBit (j - k)) := by rw [Nat.mul_comm]; exact Nat.testBit_two_pow_mul
  have hv2 : (v * 2 ^ k).testBit j = (decide (k ≤ j) && v.testBit (j - k)) := by rw [Nat.mul_comm]; exact Nat.testBit_two_pow_mul
  have hff : (4294967295 : Nat).testBit j = decide (j < 32) := Nat.testBit_two_pow_sub_one 32 j
  have a1 : (2 ^ (k + 3) * h + (2 ^ k * m + l)).testBit j = if j < k + 3 then (2 ^ k * m + l).testBit j else h.testBit (j - (k + 3)) := Nat.testBit_two_pow_mul_add h (hl3 m hm) j
  have a2 : (2 ^ (k + 3) * h + (2 ^ k * v + l)).testBit j = if j < k + 3 then (2 ^ k * v + l).testBit j else h.testBit (j - (k + 3)) := Nat.testBit_two_pow_mul_add h (hl3 v hv) j
  have a3 : (2 ^ k * m + l).testBit j = if j < k then l.testBit j else m.testBit (j - k) := Nat.testBit_two_pow_mul_add m hl j
  have a4 : (2 ^ k * v + l).testBit j = if j < k then l.testBit j else v.testBit (j - k) := Nat.testBit_two_pow_mul_add v hl j
  rw [Nat.testBit_or, Nat.testBit_and, Nat.testBit_xor, h7, hv2, hff, a2]
  by_cases j1 : j < k
  · have n1 : ¬ k ≤ j := by omega
    have n2 : j < k + 3 := by omega
    have n3 : j < 32 := by omega
    rw [a1, a3, a4]
    simp [n1, n2, n3, j1]
  · by_cases j2 : j < k + 3
    · have n1 : k ≤ j := by omega
      have n3 : j < 32 := by omega
      have n4 : (7 : Nat).testBit (j - k) = true := by
        have : j - k = 0 ∨ j - k = 1 ∨ j - k = 2 := by omega
        rcases this with e | e | e <;> rw [e] <;> rfl
      rw [a4]
      simp [n1, n3, n4, j1, j2]
    · have n1 : k ≤ j := by omega
      have s1 : ∀ x, x < 8 → x.testBit (j - k) = false := fun x hx => Nat.testBit_lt_two_pow (Nat.lt_of_lt_of_le hx (show (8 : Nat) ≤ 2 ^ (j - k) from Nat.pow_le_pow_right (n := 2) (by decide) (show 3 ≤ j - k by omega)))
      have s2 := s1 7 (by decide)
      have s3 := s1 v hv
      rw [s2, s3]
      have := hb
      rw [a1] at this ⊢
      simp only [j2, if_false] at this ⊢
      cases hh2 : h.testBit (j - (k + 3)) with
      | false => simp
      | true => simp [this hh2]
theorem pt_split (s i v : Nat) : ∃ h l, l < 2 ^ (3 * i) ∧ s = 2 ^ (3 * i + 3) * h + (2 ^ (3 * i) * sl s i + l) ∧ pt s i v = 2 ^ (3 * i + 3) * h + (2 ^ (3 * i) * v + l) := by
  have hp : 0 < 2 ^ (3 * i) := Nat.pow_pos (by decide)
  refine ⟨s / 2 ^ (3 * i) / 8, s % 2 ^ (3 * i), Nat.mod_lt _ hp, ?_, ?_⟩
  · have h1 := Nat.div_add_mod s (2 ^ (3 * i))
    have h2 := Nat.div_add_mod (s / 2 ^ (3 * i)) 8
    have e : sl s i = s / 2 ^ (3 * i) % 8 := by rw [sl, p8]
    rw [Nat.pow_add, e]
    generalize s / 2 ^ (3 * i) = d at *
    have : 2 ^ (3 * i) * (8 * (d / 8) + d % 8) = 2 ^ (3 * i) * d := by rw [h2]
    rw [Nat.mul_add, ← Nat.mul_assoc] at this
    show s = 2 ^ (3 * i) * 8 * (d / 8) + _
    omega
  · have h1 := Nat.div_add_mod s (2 ^ (3 * i))
    have h2 := Nat.div_add_mod (s / 2 ^ (3 * i)) 8
    have e : sl s i = s / 2 ^ (3 * i) % 8 := by rw [sl, p8]
    rw [pt, Nat.pow_add, e, ← p8]
    generalize s / 2 ^ (3 * i) = d at *
    generalize hP : 2 ^ (3 * i) = Q at *
    have : Q * (8 * (d / 8) + d % 8) = Q * d := by rw [h2]
    rw [Nat.mul_add, ← Nat.mul_assoc] at this
    have c1 : d % 8 * Q = Q * (d % 8) := Nat.mul_comm _ _
    have c2 : v * Q = Q * v := Nat.mul_comm _ _
    rw [c1, c2]
    show s - Q * (d % 8) + Q * v = Q * 8 * (d / 8) + _
    omega
theorem pt_run {s i v : Nat} (h : s < 2 ^ 31) (hi : i < 8) (hv : v < 8) : ((nI s &&& ((nI 7 <<< (nI (3 * i) &&& 31)) ^^^ (-1))) ||| (nI v <<< (nI (3 * i) &&& 31))) = nI (pt s i v) := by
  have hp : 2 ^ (3 * i) ≤ 2 ^ 21 := Nat.pow_le_pow_right (by decide) (by omega)
  obtain ⟨a, l, hl, e1, e2⟩ := pt_split s i v
  rw [nb_shl (by omega) (by omega), nb_shl (by have := Nat.mul_le_mul (show v ≤ 7 by omega) hp; omega) (by omega), nb_m1, nb_xor, nb_and, nb_or, e2, Nat.xor_comm]
  congr 1
  have := pt_bits (3 * i) a (sl s i) l v (by omega) hl (sl_lt s i) hv (by rw [← e1]; omega)
  rw [← this, ← e1]
theorem sl_pt {s i v j : Nat} (hv : v < 8) (hi : i < 8) (hj : j < 8) : sl (pt s i v) j = if j = i then v else sl s j := by
  have hi2 : i = 0 ∨ i = 1 ∨ i = 2 ∨ i = 3 ∨ i = 4 ∨ i = 5 ∨ i = 6 ∨ i = 7 := by omega
  have hj2 : j = 0 ∨ j = 1 ∨ j = 2 ∨ j = 3 ∨ j = 4 ∨ j = 5 ∨ j = 6 ∨ j = 7 := by omega
  have hs : sl s i < 8 := sl_lt s i
  clear hi hj
  rcases hi2 with rfl | rfl | rfl | rfl | rfl | rfl | rfl | rfl <;> rcases hj2 with rfl | rfl | rfl | rfl | rfl | rfl | rfl | rfl <;> simp only [sl, pt] at * <;> (first | rw [if_pos rfl] | rw [if_pos trivial] | rw [if_neg (by decide)]) <;> omega
theorem pt_lt {s i v : Nat} (h : s < 8 ^ 8) (hi : i < 8) (hv : v < 8) : pt s i v < 8 ^ 8 := by
  have : i = 0 ∨ i = 1 ∨ i = 2 ∨ i = 3 ∨ i = 4 ∨ i = 5 ∨ i = 6 ∨ i = 7 := by omega
  rcases this with rfl | rfl | rfl | rfl | rfl | rfl | rfl | rfl <;> simp only [sl, pt] at * <;> omega
