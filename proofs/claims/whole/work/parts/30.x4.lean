/-! bitCount, drawn, length, spare -/
theorem j_ldcw {k : VK} {l : Launch} {D : va_G} {tys : List (ClassId × FieldType)} {R : Room} {cc : ByteArray} {nL : Nat} {own : String} {w : va_W} {cells slots pc : Nat} {lv : List (Nat × Value)} {rest : List Value} {index : Nat} {v : Int32} (hc : Cond.constant own index v ∈ aL) (hdg : decode cc pc = .ok (.ldc_w index, 3)) (kk : V k l D tys R cc nL own w cells slots (pc + 3) lv (.int v :: rest)) : V k l D tys R cc nL own w cells slots (pc) lv (rest) := by
  obtain ⟨⟨p, e, s, m, args⟩, ⟨below, meth, c⟩, ⟨A, H0⟩, Q⟩ := k
  intro C H locs ls hP hD hS hl
  obtain ⟨hx, hb, hml, hown, hts, hK, hA, hlk, hN, hfl⟩ := id C
  dsimp only at *
  intro T hT X
  obtain ⟨t, a, b⟩ := kk C H locs ls hP hD hS hl T hT X
  refine ⟨t, ?_, b⟩
  obtain ⟨k9, cf, bytes, hk9, hcf, hcp, hb9⟩ := Cond.constant_spec hown (hts _ hc)
  obtain ⟨k', hk', he⟩ := X.warmed.alike.2.2 _ _ hk9
  have hdg2 : decode c.code (F0 m pc ls rest).pc = .ok (.ldc_w index, 3) := by rw [hb]; exact hdg
  jvm_step X.here [hx, hdg2, ldc_w.sem, ldc.wp_int (s := T) (f := F0 m pc ls rest) X.here.top hk' (by rw [he]; exact hcf) hcp, hb9]
  exact a
theorem us_amt : ∀ i, i < 32 → ((nI i).toUInt32 &&& Int32.toUInt32 31).toBitVec.toNat % 32 = i := by decide +kernel
theorem nb_ushr {n i : Nat} (h : n < 2 ^ 32) (hi : i < 32) : ((nI n).toUInt32 >>> ((nI i).toUInt32 &&& Int32.toUInt32 31)).toInt32 = nI (n / 2 ^ i) := pk_ushrN h (nI i) i (by
  rw [show ((nI i).toUInt32 &&& Int32.toUInt32 31).toBitVec % 32 = ((nI i).toUInt32 &&& Int32.toUInt32 31).toBitVec % 32#32 from rfl, BitVec.toNat_umod]
  exact us_amt i hi)
/-- how many of the lower i bits -/
def pop (n : Nat) : Nat → Nat
  | 0 => 0
  | i + 1 => pop n i + (if n.testBit i then 1 else 0)
def s1 (n : Nat) : Nat := n - (n / 2 &&& 1431655765)
def s2 (n : Nat) : Nat := (s1 n &&& 858993459) + (s1 n / 4 &&& 858993459)
def s3 (n : Nat) : Nat := (s2 n + s2 n / 16) &&& 252645135
def s4 (n : Nat) : Nat := s3 n + s3 n / 256
def s5 (n : Nat) : Nat := (s4 n + s4 n / 65536) % 64
theorem and_cut {h l mh ml : Nat} (hl : l < 256) (hm : ml < 256) : (256 * h + l) &&& (256 * mh + ml) = 256 * (h &&& mh) + (l &&& ml) := by
  apply Nat.eq_of_testBit_eq
  intro j
  have e1 : (256 * h + l).testBit j = if j < 8 then l.testBit j else h.testBit (j - 8) := Nat.testBit_two_pow_mul_add (i := 8) h hl j
  have e2 : (256 * mh + ml).testBit j = if j < 8 then ml.testBit j else mh.testBit (j - 8) := Nat.testBit_two_pow_mul_add (i := 8) mh hm j
  have hlm : (l &&& ml) < 256 := Nat.lt_of_le_of_lt Nat.and_le_left hl
  have e3 : (256 * (h &&& mh) + (l &&& ml)).testBit j = if j < 8 then (l &&& ml).testBit j else (h &&& mh).testBit (j - 8) := Nat.testBit_two_pow_mul_add (i := 8) (h &&& mh) hlm j
  rw [Nat.testBit_and, e1, e2, e3]
  split
  · rw [Nat.testBit_and]
  · rw [Nat.testBit_and]
set_option maxHeartbeats 4000000 in
set_option maxRecDepth 100000 in
theorem c_bitCount (l : Launch) (hfl : l.flags = flags0) (D : va_G) (tys : List (ClassId × FieldType)) (n : Nat) (hn : n < 2 ^ 31) : Ct l yJ6_bitCount_0f7a4 cJ6_bitCount_0f7a4 1 (Option.some FieldType.int) ({ frames := 0, cells := 0, slots := 0, locals := 0 } : Room) D tys tys ([]) [.int (nI (n))] (fun r u => r = some (.int (nI (s5 n))) ∧ u = []) 0 0 := by
  refine Ct.of hfl (by decide) (Nat.le_of_ble_eq_true rfl) ?_
  intro k hR _
  have b1 : n / 2 &&& 1431655765 ≤ n := Nat.le_trans Nat.and_le_left (Nat.div_le_self _ _)
  have b2 : s1 n < 2 ^ 31 := Nat.lt_of_le_of_lt (Nat.sub_le _ _) hn
  have b3 : s2 n < 2 ^ 31 := by
    have h1 : s1 n &&& 858993459 ≤ 858993459 := Nat.and_le_right
    have h2 : s1 n / 4 &&& 858993459 ≤ 858993459 := Nat.and_le_right
    show (s1 n &&& 858993459) + (s1 n / 4 &&& 858993459) < 2 ^ 31
    omega
  have b4 : s3 n ≤ 252645135 := Nat.and_le_right
  have b5 : s4 n < 2 ^ 31 := by
    show s3 n + s3 n / 256 < 2 ^ 31
    omega
  show V k l D tys ({ frames := 0, cells := 0, slots := 0, locals := 0 } : Room) cJ6_bitCount_0f7a4 1 RJ6 ([]) 0 0 0 [(0, .int (nI (n)))] []
  refine j_iload_n dJ6_bitCount_0f7a4_0 rfl 0 rfl ?_
  refine j_iload_n dJ6_bitCount_0f7a4_1 rfl 0 rfl ?_
  refine j_iconst (v := nI (1)) dJ6_bitCount_0f7a4_2 (by decide) ?_
  refine j_iushr dJ6_bitCount_0f7a4_3 rfl ?_
  refine j_topi (y := nI (n / 2)) (by rw [nb_ushr (by omega) (by decide)]) ?_
  refine j_ldcw mw1_177 dJ6_bitCount_0f7a4_4 ?_
  refine j_topi (y := nI (1431655765)) (by decide) ?_
  refine j_iand dJ6_bitCount_0f7a4_7 rfl ?_
  refine j_topi (y := nI (n / 2 &&& 1431655765)) (nb_and _ _) ?_
  refine jn_isub dJ6_bitCount_0f7a4_8 (b1) rfl ?_
  refine j_topi (y := nI (s1 n)) (by rfl) ?_
  refine j_istore_n [(0, .int (nI (s1 n)))] dJ6_bitCount_0f7a4_9 rfl (by decide) rfl ?_
  refine j_iload_n dJ6_bitCount_0f7a4_10 rfl 0 rfl ?_
  refine j_ldcw mw1_178 dJ6_bitCount_0f7a4_11 ?_
  refine j_topi (y := nI (858993459)) (by decide) ?_
  refine j_iand dJ6_bitCount_0f7a4_14 rfl ?_
  refine j_topi (y := nI (s1 n &&& 858993459)) (nb_and _ _) ?_
  refine j_iload_n dJ6_bitCount_0f7a4_15 rfl 0 rfl ?_
  refine j_iconst (v := nI (2)) dJ6_bitCount_0f7a4_16 (by decide) ?_
  refine j_iushr dJ6_bitCount_0f7a4_17 rfl ?_
  refine j_topi (y := nI ((s1 n) / 4)) (by rw [nb_ushr (by omega) (by decide)]) ?_
  refine j_ldcw mw1_178 dJ6_bitCount_0f7a4_18 ?_
  refine j_topi (y := nI (858993459)) (by decide) ?_
  refine j_iand dJ6_bitCount_0f7a4_21 rfl ?_
  refine j_topi (y := nI (s1 n / 4 &&& 858993459)) (nb_and _ _) ?_
  refine jn_iadd (v := (s1 n &&& 858993459) + (s1 n / 4 &&& 858993459)) dJ6_bitCount_0f7a4_22 rfl ?_
  refine j_topi (y := nI (s2 n)) (by rfl) ?_
  refine j_istore_n [(0, .int (nI (s2 n)))] dJ6_bitCount_0f7a4_23 rfl (by decide) rfl ?_
  refine j_iload_n dJ6_bitCount_0f7a4_24 rfl 0 rfl ?_
  refine j_iload_n dJ6_bitCount_0f7a4_25 rfl 0 rfl ?_
  refine j_iconst (v := nI (4)) dJ6_bitCount_0f7a4_26 (by decide) ?_
  refine j_iushr dJ6_bitCount_0f7a4_27 rfl ?_
  refine j_topi (y := nI ((s2 n) / 16)) (by rw [nb_ushr (by omega) (by decide)]) ?_
  refine jn_iadd (v := (s2 n) + ((s2 n) / 16)) dJ6_bitCount_0f7a4_28 rfl ?_
  refine j_ldcw mw1_179 dJ6_bitCount_0f7a4_29 ?_
  refine j_topi (y := nI (252645135)) (by decide) ?_
  refine j_iand dJ6_bitCount_0f7a4_32 rfl ?_
  refine j_topi (y := nI ((s2 n + s2 n / 16) &&& 252645135)) (nb_and _ _) ?_
  refine j_topi (y := nI (s3 n)) (by rfl) ?_
  refine j_istore_n [(0, .int (nI (s3 n)))] dJ6_bitCount_0f7a4_33 rfl (by decide) rfl ?_
  refine j_iload_n dJ6_bitCount_0f7a4_34 rfl 0 rfl ?_
  refine j_iload_n dJ6_bitCount_0f7a4_35 rfl 0 rfl ?_
  refine j_bipush (v := nI (8)) dJ6_bitCount_0f7a4_36 (by decide) ?_
  refine j_iushr dJ6_bitCount_0f7a4_38 rfl ?_
  refine j_topi (y := nI ((s3 n) / 256)) (by rw [nb_ushr (by omega) (by decide)]) ?_
  refine jn_iadd (v := (s3 n) + ((s3 n) / 256)) dJ6_bitCount_0f7a4_39 rfl ?_
  refine j_topi (y := nI (s4 n)) (by rfl) ?_
  refine j_istore_n [(0, .int (nI (s4 n)))] dJ6_bitCount_0f7a4_40 rfl (by decide) rfl ?_
  refine j_iload_n dJ6_bitCount_0f7a4_41 rfl 0 rfl ?_
  refine j_iload_n dJ6_bitCount_0f7a4_42 rfl 0 rfl ?_
  refine j_bipush (v := nI (16)) dJ6_bitCount_0f7a4_43 (by decide) ?_
  refine j_iushr dJ6_bitCount_0f7a4_45 rfl ?_
  refine j_topi (y := nI ((s4 n) / 65536)) (by rw [nb_ushr (by omega) (by decide)]) ?_
  refine jn_iadd (v := (s4 n) + ((s4 n) / 65536)) dJ6_bitCount_0f7a4_46 rfl ?_
  refine j_topi (y := nI (s4 n + s4 n / 65536)) (by rfl) ?_
  refine j_istore_n [(0, .int (nI (s4 n + s4 n / 65536)))] dJ6_bitCount_0f7a4_47 rfl (by decide) rfl ?_
  refine j_iload_n dJ6_bitCount_0f7a4_48 rfl 0 rfl ?_
  refine j_bipush (v := nI (63)) dJ6_bitCount_0f7a4_49 (by decide) ?_
  refine j_iand dJ6_bitCount_0f7a4_51 rfl ?_
  refine j_topi (y := nI (s5 n)) (by rw [nb_lo 6 (by omega) (by rfl) (by decide)]; rfl) ?_
  exact j_iret (tys' := []) rfl hR dJ6_bitCount_0f7a4_52 (⟨rfl, rfl⟩)

theorem s_low : ∀ l, l < 256 → ∀ b, b < 2 → ((128 * b + l / 2) &&& 85) = (l / 2 &&& 85) := by decide +kernel
theorem t_low : ∀ l, l < 256 → ∀ b, b < 4 → ((64 * b + l / 4) &&& 51) = (l / 4 &&& 51) := by decide +kernel
def r1 (l : Nat) : Nat := l - (l / 2 &&& 85)
def r2 (l : Nat) : Nat := (r1 l &&& 51) + (r1 l / 4 &&& 51)
def r3 (l : Nat) : Nat := (r2 l + r2 l / 16) &&& 15
theorem r_all : ∀ l, l < 256 → (l / 2 &&& 85) ≤ l ∧ r1 l < 256 ∧ r2 l < 256 ∧ r2 l + r2 l / 16 < 256 ∧ (∀ b, b < 16 → ((r2 l + (16 * b + r2 l / 16)) % 256 &&& 15) = r3 l) ∧ r3 l = pop l 8 ∧ pop l 8 ≤ 8 ∧ r2 l % 16 ≤ 4 ∧ r2 l / 16 ≤ 4 := by decide +kernel
/-- bytes apart -/
def k1 (n : Nat) : Nat → Nat
  | 0 => 0
  | i + 1 => 256 * k1 (n / 256) i + r1 (n % 256)
def k2 (n : Nat) : Nat → Nat
  | 0 => 0
  | i + 1 => 256 * k2 (n / 256) i + r2 (n % 256)
def k3 (n : Nat) : Nat → Nat
  | 0 => 0
  | i + 1 => 256 * k3 (n / 256) i + r3 (n % 256)
def msk (b : Nat) : Nat → Nat
  | 0 => 0
  | i + 1 => 256 * msk b i + b
theorem h1_k : ∀ i n, n < 256 ^ i → (n / 2 &&& msk 85 i) ≤ n ∧ n - (n / 2 &&& msk 85 i) = k1 n i
  | 0, n, h => by
    have : n = 0 := by simpa using h
    subst this
    exact ⟨by simp, by simp [k1]⟩
  | i + 1, n, h => by
    have hq : n / 256 < 256 ^ i := Nat.div_lt_of_lt_mul (by rw [Nat.pow_succ, Nat.mul_comm] at h; exact h)
    obtain ⟨i1, i2⟩ := h1_k i (n / 256) hq
    have hl : n % 256 < 256 := Nat.mod_lt _ (by decide)
    have e1 : n / 2 = 256 * (n / 256 / 2) + (128 * (n / 256 % 2) + n % 256 / 2) := by omega
    have e2 : (n / 2 &&& msk 85 (i + 1)) = 256 * (n / 256 / 2 &&& msk 85 i) + (n % 256 / 2 &&& 85) := by
      rw [e1, show msk 85 (i + 1) = 256 * msk 85 i + 85 from rfl, and_cut (by omega) (by decide), s_low _ hl _ (Nat.mod_lt _ (by decide))]
    have e3 := (r_all _ hl).1
    rw [e2]
    refine ⟨by omega, ?_⟩
    show _ = 256 * k1 (n / 256) i + r1 (n % 256)
    rw [← i2]
    unfold r1
    omega
theorem h2_k : ∀ i n, (k1 n i &&& msk 51 i) + (k1 n i / 4 &&& msk 51 i) = k2 n i
  | 0, n => by simp [k1, k2, msk]
  | i + 1, n => by
    have ih := h2_k i (n / 256)
    have hl : n % 256 < 256 := Nat.mod_lt _ (by decide)
    have hr := (r_all _ hl).2.1
    have e0 : k1 n (i + 1) = 256 * k1 (n / 256) i + r1 (n % 256) := rfl
    have e1 : k1 n (i + 1) / 4 = 256 * (k1 (n / 256) i / 4) + (64 * (k1 (n / 256) i % 4) + r1 (n % 256) / 4) := by rw [e0]; omega
    have m0 : msk 51 (i + 1) = 256 * msk 51 i + 51 := rfl
    rw [e1, e0, m0, and_cut hr (by decide), and_cut (by omega) (by decide), t_low _ hr _ (Nat.mod_lt _ (by decide))]
    show _ = 256 * k2 (n / 256) i + r2 (n % 256)
    rw [← ih]
    unfold r2
    omega
theorem k2_dig : ∀ i n, k2 n i % 16 ≤ 4
  | 0, n => by simp [k2]
  | i + 1, n => by
    have hl : n % 256 < 256 := Nat.mod_lt _ (by decide)
    have := (r_all _ hl).2.2.2.2.2.2.2.1
    show (256 * k2 (n / 256) i + r2 (n % 256)) % 16 ≤ 4
    omega
theorem q_low : ∀ x, x < 256 → x % 16 ≤ 4 → x / 16 ≤ 4 → ∀ b, b < 5 → (x + (16 * b + x / 16)) < 256 ∧ ((x + (16 * b + x / 16)) &&& 15) = ((x + x / 16) &&& 15) := by decide +kernel
theorem h3_k : ∀ i n, (k2 n i + k2 n i / 16 &&& msk 15 i) = k3 n i
  | 0, n => by simp [k2, k3, msk]
  | i + 1, n => by
    have ih := h3_k i (n / 256)
    have hl : n % 256 < 256 := Nat.mod_lt _ (by decide)
    obtain ⟨-, -, hr2, -, -, -, -, d1, d2⟩ := r_all _ hl
    have d3 := k2_dig i (n / 256)
    have e0 : k2 n (i + 1) = 256 * k2 (n / 256) i + r2 (n % 256) := rfl
    obtain ⟨q1, q2⟩ := q_low _ hr2 d1 d2 (k2 (n / 256) i % 16) (by omega)
    have e1 : k2 n (i + 1) + k2 n (i + 1) / 16 = 256 * (k2 (n / 256) i + k2 (n / 256) i / 16) + (r2 (n % 256) + (16 * (k2 (n / 256) i % 16) + r2 (n % 256) / 16)) := by rw [e0]; omega
    rw [e1, show msk 15 (i + 1) = 256 * msk 15 i + 15 from rfl, and_cut q1 (by decide), ih, q2]
    rfl
theorem pop_cut {h l : Nat} (hl : l < 256) : ∀ i, pop (256 * h + l) (i + 8) = pop l 8 + pop h i
  | 0 => by
    have e : ∀ j, j < 8 → (256 * h + l).testBit j = l.testBit j := fun j hj => by
      have e1 : (256 * h + l).testBit j = if j < 8 then l.testBit j else h.testBit (j - 8) := Nat.testBit_two_pow_mul_add (i := 8) h hl j
      rw [e1, if_pos hj]
    simp [pop, e]
  | i + 1 => by
    show pop (256 * h + l) (i + 8) + _ = _
    rw [pop_cut hl i]
    have e1 : (256 * h + l).testBit (i + 8) = if i + 8 < 8 then l.testBit (i + 8) else h.testBit (i + 8 - 8) := Nat.testBit_two_pow_mul_add (i := 8) h hl (i + 8)
    rw [show (256 * h + l).testBit (i + 8) = h.testBit i from by rw [e1, if_neg (show ¬ i + 8 < 8 by omega), Nat.add_sub_cancel]]
    show pop l 8 + pop h i + _ = pop l 8 + (pop h i + _)
    rw [Nat.add_assoc]
theorem s5_pop {n : Nat} (hn : n < 2 ^ 31) : s5 n = pop n 32 := by
  have h1 := (h1_k 4 n (by omega)).2
  have h2 := h2_k 4 n
  have h3 := h3_k 4 n
  have e1 : s1 n = k1 n 4 := by rw [← h1]; rfl
  have e2 : s2 n = k2 n 4 := by rw [← h2, ← e1]; rfl
  have e3 : s3 n = k3 n 4 := by rw [← h3, ← e2]; rfl
  have b : ∀ x, r3 (x % 256) = pop (x % 256) 8 ∧ pop (x % 256) 8 ≤ 8 := fun x => by
    obtain ⟨-, -, -, -, -, q1, q2, -, -⟩ := r_all (x % 256) (Nat.mod_lt _ (by decide))
    exact ⟨q1, q2⟩
  have p : ∀ x i, pop x (i + 8) = pop (x % 256) 8 + pop (x / 256) i := fun x i => by
    have := pop_cut (h := x / 256) (l := x % 256) (Nat.mod_lt _ (by decide)) i
    rw [Nat.div_add_mod] at this
    exact this
  have f : pop n 32 = pop (n % 256) 8 + (pop (n / 256 % 256) 8 + (pop (n / 256 / 256 % 256) 8 + (pop (n / 256 / 256 / 256 % 256) 8 + 0))) := by
    rw [p n 24, p (n / 256) 16, p (n / 256 / 256) 8, p (n / 256 / 256 / 256) 0]
    rfl
  have g : k3 n 4 = 256 * (256 * (256 * (256 * 0 + pop (n / 256 / 256 / 256 % 256) 8) + pop (n / 256 / 256 % 256) 8) + pop (n / 256 % 256) 8) + pop (n % 256) 8 := by
    rw [← (b n).1, ← (b (n / 256)).1, ← (b (n / 256 / 256)).1, ← (b (n / 256 / 256 / 256)).1]
    rfl
  rw [f]
  unfold s5 s4
  rw [e3, g]
  have b1 := (b n).2
  have b2 := (b (n / 256)).2
  have b3 := (b (n / 256 / 256)).2
  have b4 := (b (n / 256 / 256 / 256)).2
  generalize pop (n % 256) 8 = y1 at *
  generalize pop (n / 256 % 256) 8 = y2 at *
  generalize pop (n / 256 / 256 % 256) 8 = y3 at *
  generalize pop (n / 256 / 256 / 256 % 256) 8 = y4 at *
  have a1 : (256 * (256 * (256 * (256 * 0 + y4) + y3) + y2) + y1) / 256 = 65536 * y4 + 256 * y3 + y2 := by omega
  rw [a1]
  have a2 : (256 * (256 * (256 * (256 * 0 + y4) + y3) + y2) + y1 + (65536 * y4 + 256 * y3 + y2)) / 65536 = 256 * y4 + (y3 + y4) := by omega
  rw [a2]
  omega
set_option maxHeartbeats 4000000 in
set_option maxRecDepth 100000 in
theorem c_drawn (l : Launch) (hfl : l.flags = flags0) (D : va_G) (cI cJ cZ : ClassId) (q : Nat → Nat) (R C : Nat) (hG : GS R C) (dr sz : Nat) (sa : Bool) (cu fi st : Nat → Nat) (lo hi : Nat → Option Nat) (wa sw : Nat → Nat) (hx : XOK R C cu) (hI : XI0 R C cu sa sz fi st lo hi wa dr) : Ct l yX2_drawn cX2_drawn 1 (Option.some FieldType.int) ({ frames := 1, cells := 0, slots := 0, locals := 20 } : Room) D (tys3 cI cJ cZ) (tys3 cI cJ cZ) (wX cI cZ q R C dr sz sa cu fi st lo hi wa sw) [.ref (q 0)] (fun r u => r = some (.int (nI (pop dr 32))) ∧ XW cI cZ q R C dr cu u) 0 0 := by
  refine Ct.of hfl (by decide) (Nat.le_of_ble_eq_true rfl) ?_
  intro k hR _
  have hR4 := hG.2.1
  have hC3 := hG.2.2.2
  have hR1 := hG.1
  have hC1 := hG.2.2.1
  have hE := hG.E
  have hRC := hG.RC
  have hE4 := hG.E4
  obtain ⟨hf, hdr⟩ := hI
  have hE31 := hG.E
  show V k l D (tys3 cI cJ cZ) ({ frames := 1, cells := 0, slots := 0, locals := 20 } : Room) cX2_drawn 1 RX2 (wX cI cZ q R C dr sz sa cu fi st lo hi wa sw) 0 0 0 [(0, .ref (q 0))] []
  refine j_aload_n dX2_drawn_0 rfl 0 rfl ?_
  refine gf_X2_27 0 rfl (rfl) dX2_drawn_1 ?_
  refine j_s0 (av := [.int (nI (dr))]) (r0 := .int (nI (s5 dr))) (c_bitCount l hfl D (tys3 cI cJ cZ) (dr) (hdr)) mw1_174 mw1_175 mw1_11 mw1_176 hd_J6_bitCount_0f7a4 rfl ⟨rfl, rfl⟩ ⟨Nat.le_of_ble_eq_true rfl, Nat.le_of_ble_eq_true rfl⟩ ⟨Nat.zero_le _, Nat.zero_le _⟩ (Nat.le_of_ble_eq_true rfl) rfl dX2_drawn_4 ?_
  exact j_iret (tys' := []) rfl hR dX2_drawn_7 (⟨by rw [s5_pop hdr], XW_of ⟨hf, hdr⟩⟩)

set_option maxHeartbeats 4000000 in
set_option maxRecDepth 100000 in
theorem c_length (l : Launch) (hfl : l.flags = flags0) (D : va_G) (cI cJ cZ : ClassId) (q : Nat → Nat) (R C : Nat) (hG : GS R C) (dr sz : Nat) (sa : Bool) (cu fi st : Nat → Nat) (lo hi : Nat → Option Nat) (wa sw : Nat → Nat) (hx : XOK R C cu) (hI : XI0 R C cu sa sz fi st lo hi wa dr) (x : Int32) (hs0 : solI R C cu x ≠ 0) : Ct l yX2_length cX2_length 3 (Option.some FieldType.int) ({ frames := 6, cells := 0, slots := 0, locals := 141 } : Room) D (tys3 cI cJ cZ) (tys3 cI cJ cZ) (wX cI cZ q R C dr sz sa cu fi st lo hi wa sw) [.ref (q 0), .int (x)] (fun r u => r = some (.int (nI (pop (solI R C cu x) 32))) ∧ XW cI cZ q R C dr cu u) 0 0 := by
  refine Ct.of hfl (by decide) (Nat.le_of_ble_eq_true rfl) ?_
  intro k hR _
  have hR4 := hG.2.1
  have hC3 := hG.2.2.2
  have hR1 := hG.1
  have hC1 := hG.2.2.1
  have hE := hG.E
  have hRC := hG.RC
  have hE4 := hG.E4
  obtain ⟨hf, hdr⟩ := hI
  have hE31 := hG.E
  have hs31 : solI R C cu x < 2 ^ 31 := solI_31 hG cu x
  show V k l D (tys3 cI cJ cZ) ({ frames := 6, cells := 0, slots := 0, locals := 141 } : Room) cX2_length 3 RX2 (wX cI cZ q R C dr sz sa cu fi st lo hi wa sw) 0 0 0 [(0, .ref (q 0)), (1, .int (x))] []
  refine j_aload_n dX2_length_0 rfl 0 rfl ?_
  refine j_vW (av := []) (c_fresh l hfl D cI cJ cZ q R C hG dr sz sa cu fi st lo hi wa sw hx hf) 0 rfl rfl mw1_114 mw1_116 msel0 mw1_1 mw1_117 rfl hd_X2_fresh rfl ⟨rfl, rfl⟩ ⟨Nat.le_of_ble_eq_true rfl, Nat.le_of_ble_eq_true rfl⟩ ⟨Nat.zero_le _, Nat.zero_le _⟩ (Nat.le_of_ble_eq_true rfl) rfl dX2_length_1 ?_
  rintro _ _ ⟨rfl, sz3, fi3, st3, lo3, hi3, wa3, hg3, hW3, rfl⟩
  refine j_st (st' := [.ref (q 2)]) rfl ?_
  refine j_iload_n dX2_length_4 rfl 1 rfl ?_
  refine j_vW (av := [.int (x)]) (c_solution l hfl D cI cJ cZ q R C hG dr sz3 false cu fi3 st3 lo3 hi3 wa3 sw hx hg3 hW3 (x)) 2 rfl rfl mw2_91 mw2_92 mw2_93 mw1_3 mw2_94 rfl hd_X0_solution rfl ⟨rfl, rfl⟩ ⟨Nat.le_of_ble_eq_true rfl, Nat.le_of_ble_eq_true rfl⟩ ⟨Nat.zero_le _, Nat.zero_le _⟩ (Nat.le_of_ble_eq_true rfl) rfl dX2_length_5 ?_
  rintro _ _ ⟨rfl, rfl⟩
  refine j_st (st' := [.int (nI (solI R C cu (x)))]) rfl ?_
  refine j_istore_n [(2, .int (nI (solI R C cu (x)))), (0, .ref (q 0)), (1, .int (x))] dX2_length_8 rfl (by decide) rfl ?_
  refine j_iload_n dX2_length_9 rfl 0 rfl ?_
  refine jn_if_ne (tgt := 21) (a := solI R C cu (x)) (hs31) dX2_length_10 (by decide) (fun c10 => ?_) (fun c10 => ?_)
  · refine j_iload_n dX2_length_21 rfl 0 rfl ?_
    refine j_s0 (av := [.int (nI (solI R C cu (x)))]) (r0 := .int (nI (s5 (solI R C cu (x))))) (c_bitCount l hfl D (tys3 cI cJ cZ) (solI R C cu (x)) (hs31)) mw1_174 mw1_175 mw1_11 mw1_176 hd_J6_bitCount_0f7a4 rfl ⟨rfl, rfl⟩ ⟨Nat.le_of_ble_eq_true rfl, Nat.le_of_ble_eq_true rfl⟩ ⟨Nat.zero_le _, Nat.zero_le _⟩ (Nat.le_of_ble_eq_true rfl) rfl dX2_length_22 ?_
    exact j_iret (tys' := []) rfl hR dX2_length_25 (⟨by rw [s5_pop hs31], XW_of ⟨fun _ => ⟨hg3, hW3⟩, hdr⟩⟩)
  · exact absurd c10 hs0

set_option maxHeartbeats 4000000 in
set_option maxRecDepth 100000 in
theorem c_spare (l : Launch) (hfl : l.flags = flags0) (D : va_G) (cI cJ cZ : ClassId) (q : Nat → Nat) (R C : Nat) (hG : GS R C) (dr sz : Nat) (sa : Bool) (cu fi st : Nat → Nat) (lo hi : Nat → Option Nat) (wa sw : Nat → Nat) (hx : XOK R C cu) (hI : XI0 R C cu sa sz fi st lo hi wa dr) (hXA : ∀ c2, CU R C c2 → XOK R C c2) (hone : WS R C cu 0 (nE R C) 0 1672 = 1) : Ct l yX2_spare cX2_spare 4 (Option.some FieldType.int) ({ frames := 6, cells := 0, slots := 0, locals := 141 } : Room) D (tys3 cI cJ cZ) (tys3 cI cJ cZ) (wX cI cZ q R C dr sz sa cu fi st lo hi wa sw) [.ref (q 0)] (fun r u => r = some (.int (nI ((spX R C cu (R * C)).2))) ∧ XW cI cZ q R C dr ((spX R C cu (R * C)).1) u) 0 0 := by
  refine Ct.of hfl (by decide) (Nat.le_of_ble_eq_true rfl) ?_
  intro k hR _
  have hR4 := hG.2.1
  have hC3 := hG.2.2.2
  have hR1 := hG.1
  have hC1 := hG.2.2.1
  have hE := hG.E
  have hRC := hG.RC
  have hE4 := hG.E4
  obtain ⟨hf, hdr⟩ := hI
  have hE31 := hG.E
  have hRC := hG.RC
  show V k l D (tys3 cI cJ cZ) ({ frames := 6, cells := 0, slots := 0, locals := 141 } : Room) cX2_spare 4 RX2 (wX cI cZ q R C dr sz sa cu fi st lo hi wa sw) 0 0 0 [(0, .ref (q 0))] []
  refine j_aload_n dX2_spare_0 rfl 0 rfl ?_
  refine j_vW (av := []) (c_fresh l hfl D cI cJ cZ q R C hG dr sz sa cu fi st lo hi wa sw hx hf) 0 rfl rfl mw1_114 mw1_116 msel0 mw1_1 mw1_117 rfl hd_X2_fresh rfl ⟨rfl, rfl⟩ ⟨Nat.le_of_ble_eq_true rfl, Nat.le_of_ble_eq_true rfl⟩ ⟨Nat.zero_le _, Nat.zero_le _⟩ (Nat.le_of_ble_eq_true rfl) rfl dX2_spare_1 ?_
  rintro _ _ ⟨rfl, sz3, fi3, st3, lo3, hi3, wa3, hg3, hW3, rfl⟩
  refine j_st (st' := [.ref (q 2)]) rfl ?_
  have w00 : wa3 0 = WS R C cu 0 (nE R C) 0 1672 := hW3 0 0 1672 (Nat.le_refl _) (Nat.zero_le _) (lv0 R C _)
  refine gf_X2_73 2 rfl (rfl) dX2_spare_4 ?_
  refine j_iconst (v := nI (0)) dX2_spare_7 (by decide) ?_
  refine jn_iald (v := nI (wa3 0)) 11 0 rfl rfl (by omega) (by omega) (rfl) dX2_spare_8 ?_
  refine j_iconst (v := nI (1)) dX2_spare_9 (by decide) ?_
  refine jn_icmp_eq (tgt := 21) (a := wa3 0) (b := 1) (by rw [w00]; exact hx.2.2 0 (Nat.zero_le _) 1672 (List.mem_of_getElem? (lv0 R C _)) 0) (by omega) dX2_spare_10 (by decide) (fun c10 => ?_) (fun c10 => ?_)
  · refine j_iconst (v := nI (0)) dX2_spare_21 (by decide) ?_
    refine j_istore_n [(1, .int (nI (0))), (0, .ref (q 0))] dX2_spare_22 rfl (by decide) rfl ?_
    refine j_iconst (v := nI (0)) dX2_spare_23 (by decide) ?_
    refine j_istore_n [(2, .int (nI (0))), (1, .int (nI (0))), (0, .ref (q 0))] dX2_spare_24 rfl (by decide) rfl ?_
    refine j_lv (lv' := [(2, .int (nI (0))), (1, .int (nI ((spX R C cu 0).2))), (0, .ref (q 0))]) (by rfl) ?_
    refine j_sub [2, 1, 0] [(0, .ref (q 0)), (1, .int (nI ((spX R C cu 0).2))), (2, .int (nI (0)))] rfl ?_
    have loop25 : ∀ (n : Nat) (i sz1 : Nat) (sa1 : Bool) (fi1 st1 : Nat → Nat) (lo1 hi1 : Nat → Option Nat) (wa1 : Nat → Nat), (R * C < i + n) → (i ≤ R * C) → (Frs R C (spX R C cu i).1 sa1 sz1 fi1 st1 lo1 hi1 wa1) → V k l D (tys3 cI cJ cZ) ({ frames := 6, cells := 0, slots := 0, locals := 141 } : Room) cX2_spare 4 RX2 (wX cI cZ q R C dr sz1 sa1 ((spX R C cu i).1) fi1 st1 lo1 hi1 wa1 sw) 0 0 25 [(0, .ref (q 0)), (1, .int (nI ((spX R C cu i).2))), (2, .int (nI (i)))] [] := by
      intro n
      induction n with
      | zero => intro i sz1 sa1 fi1 st1 lo1 hi1 wa1 hm hi2 hf1; exfalso; omega
      | succ n ih25 =>
        intro i sz1 sa1 fi1 st1 lo1 hi1 wa1 hm hi2 hf1
        refine j_iload_n dX2_spare_25 rfl 2 rfl ?_
        refine j_aload_n dX2_spare_26 rfl 0 rfl ?_
        refine gf_X2_14 0 rfl (rfl) dX2_spare_27 ?_
        refine gf_X2_116 1 rfl (rfl) dX2_spare_30 ?_
        refine j_alen (v := nI (R * C)) 6 0 rfl rfl rfl dX2_spare_33 ?_
        refine jn_icmp_ge (tgt := 86) (a := i) (b := R * C) (by omega) (by omega) dX2_spare_34 (by decide) (fun c34 => ?_) (fun c34 => ?_)
        · refine j_iload_n dX2_spare_86 rfl 1 rfl ?_
          exact j_iret (tys' := []) rfl hR dX2_spare_87 (⟨by rw [show i = R * C by omega], by have hie : i = R * C := (by omega); subst hie; exact XW_of ⟨hf1, hdr⟩⟩)
        · have hcui := spX_CU hx.1 i
          have hci := hcui i (by omega)
          have hxi := hXA _ (CU_up (i := i) (v := 99) hcui (Or.inl rfl))
          have hwb := hxi.2.2 0 (Nat.zero_le _) 1672 (List.mem_of_getElem? (lv0 R C _)) 0
          refine j_aload_n dX2_spare_37 rfl 0 rfl ?_
          refine gf_X2_14 0 rfl (rfl) dX2_spare_38 ?_
          refine gf_X2_116 1 rfl (rfl) dX2_spare_41 ?_
          refine j_iload_n dX2_spare_44 rfl 2 rfl ?_
          refine jn_iald (v := eI (((spX R C cu i).1) i)) 6 0 rfl rfl (by omega) (by omega) (rfl) dX2_spare_45 ?_
          refine j_istore_n [(3, .int (eI (((spX R C cu i).1) i))), (0, .ref (q 0)), (1, .int (nI ((spX R C cu i).2))), (2, .int (nI (i)))] dX2_spare_46 rfl (by decide) rfl ?_
          refine j_iload_n dX2_spare_47 rfl 0 rfl ?_
          refine j_iconst (v := (-1)) dX2_spare_48 (by decide) ?_
          refine j_icmp_eq (tgt := 80) dX2_spare_49 (by decide) (fun c49 => ?_) (fun c49 => ?_)
          · have e49 : (spX R C cu i).1 i = 99 := (eI_m1 (by omega)).mp c49
            refine j_iinc (n0 := 3) (v := nI (i + 1)) [(2, .int (nI (i + 1))), (3, .int (eI (((spX R C cu i).1) i))), (0, .ref (q 0)), (1, .int (nI ((spX R C cu i).2)))] dX2_spare_80 rfl (by exact nI_add (i) 1) (by decide) rfl ?_
            refine j_goto (tgt := 25) dX2_spare_83 (by decide) ?_
            refine j_sub [2, 3, 0] [(0, .ref (q 0)), (1, .int (nI ((spX R C cu i).2))), (2, .int (nI (i + 1)))] rfl ?_
            have hsp : spX R C cu (i + 1) = spX R C cu i := by simp only [spX]; rw [if_pos e49]
            rw [← hsp]
            exact ih25 (i + 1) sz1 sa1 fi1 st1 lo1 hi1 wa1 (by omega) (by omega) (by rw [hsp]; exact hf1)
          · have e49 : (spX R C cu i).1 i ≠ 99 := fun h => c49 (by rw [h]; rfl)
            refine j_aload_n dX2_spare_52 rfl 1 rfl ?_
            refine j_iload_n dX2_spare_53 rfl 3 rfl ?_
            refine j_iconst (v := (-1)) dX2_spare_54 (by decide) ?_
            refine j_st (st' := [.int (eI (99)), .int (nI (i)), .ref (q 0)]) (by rfl) ?_
            refine j_vW (av := [.int (nI (i)), .int (eI (99))]) (c_setClue l hfl D cI cJ cZ q R C hG dr sz1 sa1 ((spX R C cu i).1) fi1 st1 lo1 hi1 wa1 sw hcui (i) (99) (by omega) (by omega)) 0 rfl rfl mw2_68 mw2_70 msel7 mw1_1 mw2_71 rfl hd_X2_setClue rfl ⟨rfl, rfl⟩ ⟨Nat.le_of_ble_eq_true rfl, Nat.le_of_ble_eq_true rfl⟩ ⟨Nat.zero_le _, Nat.zero_le _⟩ (Nat.le_of_ble_eq_true rfl) rfl dX2_spare_55 ?_
            rintro _ _ ⟨rfl, sa4, hsa4, rfl⟩
            refine j_st (st' := []) rfl ?_
            refine j_aload_n dX2_spare_58 rfl 1 rfl ?_
            refine j_vW (av := []) (c_fresh l hfl D cI cJ cZ q R C hG dr sz1 sa4 (va_up ((spX R C cu i).1) i 99) fi1 st1 lo1 hi1 wa1 sw hxi (Frs_sc hf1 hsa4)) 0 rfl rfl mw1_114 mw1_116 msel0 mw1_1 mw1_117 rfl hd_X2_fresh rfl ⟨rfl, rfl⟩ ⟨Nat.le_of_ble_eq_true rfl, Nat.le_of_ble_eq_true rfl⟩ ⟨Nat.zero_le _, Nat.zero_le _⟩ (Nat.le_of_ble_eq_true rfl) rfl dX2_spare_59 ?_
            rintro _ _ ⟨rfl, sz3, fi3, st3, lo3, hi3, wa3, hg3, hW3, rfl⟩
            refine j_st (st' := [.ref (q 2)]) rfl ?_
            have w00 : wa3 0 = WS R C (va_up (spX R C cu i).1 i 99) 0 (nE R C) 0 1672 := hW3 0 0 1672 (Nat.le_refl _) (Nat.zero_le _) (lv0 R C _)
            refine gf_X2_73 2 rfl (rfl) dX2_spare_62 ?_
            refine j_iconst (v := nI (0)) dX2_spare_65 (by decide) ?_
            refine jn_iald (v := nI (wa3 0)) 11 0 rfl rfl (by omega) (by omega) (rfl) dX2_spare_66 ?_
            refine j_iconst (v := nI (1)) dX2_spare_67 (by decide) ?_
            refine jn_icmp_eq (tgt := 80) (a := wa3 0) (b := 1) (by rw [w00]; exact hwb) (by omega) dX2_spare_68 (by decide) (fun c68 => ?_) (fun c68 => ?_)
            · refine j_iinc (n0 := 3) (v := nI (i + 1)) [(2, .int (nI (i + 1))), (3, .int (eI (((spX R C cu i).1) i))), (0, .ref (q 0)), (1, .int (nI ((spX R C cu i).2)))] dX2_spare_80 rfl (by exact nI_add (i) 1) (by decide) rfl ?_
              refine j_goto (tgt := 25) dX2_spare_83 (by decide) ?_
              refine j_sub [2, 3, 0] [(0, .ref (q 0)), (1, .int (nI ((spX R C cu i).2))), (2, .int (nI (i + 1)))] rfl ?_
              have hsp : spX R C cu (i + 1) = (va_up (spX R C cu i).1 i 99, (spX R C cu i).2) := by simp only [spX]; rw [if_neg e49, if_pos (by rw [← w00]; exact c68)]
              rw [show va_up (spX R C cu i).1 i 99 = (spX R C cu (i + 1)).1 from by rw [hsp], show (spX R C cu i).2 = (spX R C cu (i + 1)).2 from by rw [hsp]]
              exact ih25 (i + 1) sz3 false fi3 st3 lo3 hi3 wa3 (by omega) (by omega) (by rw [hsp]; exact fun _ => ⟨hg3, hW3⟩)
            · refine j_aload_n dX2_spare_71 rfl 1 rfl ?_
              refine j_iload_n dX2_spare_72 rfl 3 rfl ?_
              refine j_iload_n dX2_spare_73 rfl 0 rfl ?_
              refine j_vW (av := [.int (nI (i)), .int (eI (((spX R C cu i).1) i))]) (c_setClue l hfl D cI cJ cZ q R C hG dr sz3 false (va_up ((spX R C cu i).1) i 99) fi3 st3 lo3 hi3 wa3 sw (CU_up (i := i) (v := 99) hcui (Or.inl rfl)) (i) (((spX R C cu i).1) i) (by omega) (hci)) 0 rfl rfl mw2_68 mw2_70 msel7 mw1_1 mw2_71 rfl hd_X2_setClue rfl ⟨rfl, rfl⟩ ⟨Nat.le_of_ble_eq_true rfl, Nat.le_of_ble_eq_true rfl⟩ ⟨Nat.zero_le _, Nat.zero_le _⟩ (Nat.le_of_ble_eq_true rfl) rfl dX2_spare_74 ?_
              rintro _ _ ⟨rfl, sa4b, hsa4b, rfl⟩
              refine j_st (st' := []) rfl ?_
              refine j_iinc (n0 := 2) (v := nI ((spX R C cu i).2 + 1)) [(1, .int (nI ((spX R C cu i).2 + 1))), (3, .int (eI (((spX R C cu i).1) i))), (0, .ref (q 0)), (2, .int (nI (i)))] dX2_spare_77 rfl (by exact nI_add ((spX R C cu i).2) 1) (by decide) rfl ?_
              refine j_iinc (n0 := 3) (v := nI (i + 1)) [(2, .int (nI (i + 1))), (1, .int (nI ((spX R C cu i).2 + 1))), (3, .int (eI (((spX R C cu i).1) i))), (0, .ref (q 0))] dX2_spare_80 rfl (by exact nI_add (i) 1) (by decide) rfl ?_
              refine j_goto (tgt := 25) dX2_spare_83 (by decide) ?_
              refine j_sub [3, 1, 0] [(0, .ref (q 0)), (1, .int (nI ((spX R C cu i).2 + 1))), (2, .int (nI (i + 1)))] rfl ?_
              have hsp : spX R C cu (i + 1) = ((spX R C cu i).1, (spX R C cu i).2 + 1) := by simp only [spX]; rw [if_neg e49, if_neg (by rw [← w00]; exact c68)]
              have hf5 := Frs_sc (fun _ => ⟨hg3, hW3⟩ : Frs R C (va_up (spX R C cu i).1 i 99) false sz3 fi3 st3 lo3 hi3 wa3) hsa4b
              rw [va_up_back] at hf5
              rw [show (va_up (va_up ((spX R C cu i).1) i 99) i (((spX R C cu i).1) i)) = (spX R C cu (i + 1)).1 from by rw [hsp]; exact va_up_back, show (spX R C cu i).2 + 1 = (spX R C cu (i + 1)).2 from by rw [hsp]]
              exact ih25 (i + 1) sz3 sa4b fi3 st3 lo3 hi3 wa3 (by omega) (by omega) (by rw [hsp]; exact hf5)
    exact loop25 (R * C + 2) 0 sz3 false fi3 st3 lo3 hi3 wa3 (by omega) (by omega) (fun _ => ⟨hg3, hW3⟩)
  · exact absurd (by rw [w00]; exact hone) c10

set_option maxHeartbeats 4000000 in
set_option maxRecDepth 100000 in
theorem c_spareX (l : Launch) (hfl : l.flags = flags0) (D : va_G) (cI cJ cZ : ClassId) (q : Nat → Nat) (R C : Nat) (hG : GS R C) (dr sz : Nat) (sa : Bool) (cu fi st : Nat → Nat) (lo hi : Nat → Option Nat) (wa sw : Nat → Nat) (hx : XOK R C cu) (hI : XI0 R C cu sa sz fi st lo hi wa dr) (hone : WS R C cu 0 (nE R C) 0 1672 ≠ 1) : CtT l yX2_spare cX2_spare 4 (Option.some FieldType.int) ({ frames := 6, cells := 1, slots := 6, locals := 141 } : Room) D (tys3 cI cJ cZ) (wX cI cZ q R C dr sz sa cu fi st lo hi wa sw) [.ref (q 0)] XS (fun u => XW cI cZ q R C dr cu u) 1 6 := by
  refine CtT.of hfl (by decide) (Nat.le_of_ble_eq_true rfl) ?_
  intro k hT
  have hR4 := hG.2.1
  have hC3 := hG.2.2.2
  have hR1 := hG.1
  have hC1 := hG.2.2.1
  have hE := hG.E
  have hRC := hG.RC
  have hE4 := hG.E4
  obtain ⟨hf, hdr⟩ := hI
  have hE31 := hG.E
  show V k l D (tys3 cI cJ cZ) ({ frames := 6, cells := 1, slots := 6, locals := 141 } : Room) cX2_spare 4 RX2 (wX cI cZ q R C dr sz sa cu fi st lo hi wa sw) 0 0 0 [(0, .ref (q 0))] []
  refine j_aload_n dX2_spare_0 rfl 0 rfl ?_
  refine j_vW (av := []) (c_fresh l hfl D cI cJ cZ q R C hG dr sz sa cu fi st lo hi wa sw hx hf) 0 rfl rfl mw1_114 mw1_116 msel0 mw1_1 mw1_117 rfl hd_X2_fresh rfl ⟨rfl, rfl⟩ ⟨Nat.le_of_ble_eq_true rfl, Nat.le_of_ble_eq_true rfl⟩ ⟨Nat.zero_le _, Nat.zero_le _⟩ (Nat.le_of_ble_eq_true rfl) rfl dX2_spare_1 ?_
  rintro _ _ ⟨rfl, sz3, fi3, st3, lo3, hi3, wa3, hg3, hW3, rfl⟩
  refine j_st (st' := [.ref (q 2)]) rfl ?_
  have w00 : wa3 0 = WS R C cu 0 (nE R C) 0 1672 := hW3 0 0 1672 (Nat.le_refl _) (Nat.zero_le _) (lv0 R C cu)
  refine gf_X2_73 2 rfl (rfl) dX2_spare_4 ?_
  refine j_iconst (v := nI (0)) dX2_spare_7 (by decide) ?_
  refine jn_iald (v := nI (wa3 0)) 11 0 rfl rfl (by omega) (by omega) (rfl) dX2_spare_8 ?_
  refine j_iconst (v := nI (1)) dX2_spare_9 (by decide) ?_
  refine jn_icmp_eq (tgt := 21) (a := wa3 0) (b := 1) (by rw [w00]; exact hx.2.2 0 (Nat.zero_le _) 1672 (List.mem_of_getElem? (lv0 R C _)) 0) (by omega) dX2_spare_10 (by decide) (fun c10 => ?_) (fun c10 => ?_)
  · exact absurd (by rw [← w00]; exact c10) hone
  · exact j_throw0 (E0 := XS) (names := nmX) (ik := 113) (ic := 115) hT (by decide) fit_nm mw2_157 mw1_12 (at0_XS mw2_166) go_XS dX2_spare_13 dX2_spare_16 dX2_spare_17 dX2_spare_20 (by decide) (by decide) (by decide) (by decide) (XW_of ⟨fun _ => ⟨hg3, hW3⟩, hdr⟩) (Nat.le_refl _) (Nat.le_refl _)

