/-! fast words for the kernel: tables packed in numbers, sets of points as bits -/
def bt (d x : Nat) : Bool := Nat.beq ((d >>> x) % 2) 1
theorem beq_iff (a b : Nat) : Nat.beq a b = true ↔ a = b := by rw [Nat.beq_eq]
theorem beq_dec (a b : Nat) : Nat.beq a b = decide (a = b) := by rw [Bool.eq_iff_iff, beq_iff, decide_eq_true_iff]
theorem bt_eq (d x : Nat) : bt d x = d.testBit x := by
  unfold bt
  rw [beq_dec, Nat.shiftRight_eq_div_pow, Nat.testBit_eq_decide_div_mod_eq]
theorem bt_or (m q : Nat) : va_up (bt m) q true = bt (m ||| 2 ^ q) := by
  funext j
  rw [bt_eq, Nat.testBit_or, Nat.testBit_two_pow]
  by_cases h : j = q
  · subst h; rw [va_up_self]; simp
  · rw [va_up_ne _ _ h, bt_eq, decide_eq_false (fun e => h e.symm), Bool.or_false]
theorem bt_0 : no0 = bt 0 := by funext j; rw [bt_eq, Nat.zero_testBit]; rfl
def t5 (T p : Nat) : Nat := (T >>> (5 * p)) % 32
theorem t5_lt (T p : Nat) : t5 T p < 32 := Nat.mod_lt _ (by decide)
def c9 (x : Nat) : Nat := if x = 31 then 99 else x
theorem c9_31 : c9 31 = 99 := rfl
theorem c9_lt {x : Nat} (h : x ≠ 31) : c9 x = x := if_neg h
/-- the numbers hold the tables of the model -/
def TOK (R C TB TL TH TF TT : Nat) : Prop :=
  (∀ k, k < 80 → mEnds R C k = c9 (t5 TB k)) ∧ (∀ e, e < 31 → mLow R C e = t5 TL e ∧ mHigh R C e = t5 TH e ∧ t5 TL e < 20 ∧ t5 TH e < 20) ∧ (∀ p, p < 20 → mFirst R C p = t5 TF p ∧ mLast R C p = t5 TT p)
def o1 (d b x r : Nat) : Nat := bif !(Nat.beq x b) && bt d x then x else r
def onF (TB d p b : Nat) : Nat := o1 d b (t5 TB (4 * p)) (o1 d b (t5 TB (4 * p + 1)) (o1 d b (t5 TB (4 * p + 2)) (o1 d b (t5 TB (4 * p + 3)) 31)))
theorem o1_le {d b x r : Nat} (hx : x < 32) (hr : r < 32) : o1 d b x r < 32 := by
  unfold o1
  cases (!(Nat.beq x b) && bt d x) <;> assumption
theorem onF_lt (TB d p b : Nat) : onF TB d p b < 32 := o1_le (t5_lt _ _) (o1_le (t5_lt _ _) (o1_le (t5_lt _ _) (o1_le (t5_lt _ _) (by decide))))
theorem on_1 {d b x r r2 : Nat} (hd : d < 2 ^ 31) (hx : x < 32) (hb : b < 32) (hr : r = c9 r2) : (if c9 x = 99 then r else if c9 x = c9 b then r else if isI (rv d) (c9 x) then c9 x else r) = c9 (o1 d b x r2) := by
  unfold o1
  rw [beq_dec, bt_eq]
  by_cases h : x = 31
  · subst h
    rw [c9_31, if_pos rfl, Nat.testBit_lt_two_pow hd, Bool.and_false]
    exact hr
  · have h1 := c9_lt h
    rw [h1, if_neg (show ¬ x = 99 by omega), rv_is (show x < 31 by omega)]
    by_cases h2 : b = 31
    · subst h2
      rw [c9_31, if_neg (show ¬ x = 99 by omega), decide_eq_false h, Bool.not_false, Bool.true_and]
      cases d.testBit x
      · exact hr
      · exact h1.symm
    · rw [c9_lt h2]
      by_cases h3 : x = b
      · rw [if_pos h3, decide_eq_true h3]; exact hr
      · rw [if_neg h3, decide_eq_false h3, Bool.not_false, Bool.true_and]
        cases d.testBit x
        · exact hr
        · exact h1.symm
def otF (TL TH p e : Nat) : Nat := bif Nat.beq (t5 TL e) p then t5 TH e else t5 TL e
def wkF (TB TL TH d : Nat) : Nat → Nat → Nat → Nat → Nat × Nat
  | 0, p, _, m => (p, m)
  | n + 1, p, e, m => bif Nat.beq e 31 then (p, m) else bif bt m (otF TL TH p e) then (otF TL TH p e, m) else wkF TB TL TH d n (otF TL TH p e) (onF TB d (otF TL TH p e) e) (m ||| 2 ^ otF TL TH p e)
def wlF (TB TL TH d p m : Nat) : Nat × Nat := wkF TB TL TH d 21 p (onF TB d p 31) (m ||| 2 ^ p)
def dF (D p : Nat) : Nat := (D >>> (3 * p)) % 8
def unF (D m : Nat) : Nat → Nat → Nat
  | 0, _ => 99
  | n + 1, p => bif Nat.beq (dF D p) 0 || bt m p then unF D m n (p + 1) else p
def thF (D : Nat) : Nat → Bool | 0 => true | i + 1 => thF D i && Nat.ble (dF D i) 2
def heF (D : Nat) : Nat → Bool | 0 => false | i + 1 => heF D i || Nat.beq (dF D i) 1
def laF (TT D k : Nat) : Nat → Bool | 0 => true | i + 1 => laF TT D k i && (Nat.ble k (t5 TT i) || !(Nat.beq (dF D i) 1))
def paF (TB TL TH d D : Nat) : Nat → Bool × Nat
  | 0 => (false, 0)
  | i + 1 => match paF TB TL TH d D i with | (b, m) => bif Nat.beq (dF D i) 1 && !(bt m i) then (true, (wlF TB TL TH d i m).2) else (b, m)
def rgX (TB TL TH d D P : Nat) (q : Bool × Nat) : Bool := match q with | (b, m) => bif Nat.beq (unF D m P 0) 99 then true else !b && Nat.beq (unF D (wlF TB TL TH d (unF D m P 0) m).2 P 0) 99
def alF (TB TL TH TT E P k d D : Nat) : Bool := thF D P && !(Nat.beq k E && Nat.beq d 0) && laF TT D k P && rgX TB TL TH d D P (paF TB TL TH d D P)
def ilF (TB TL TH P d D : Nat) : Bool := thF D P && !(heF D P) && !(Nat.beq (unF D 0 P 0) 99) && Nat.beq (unF D (wlF TB TL TH d (unF D 0 P 0) 0).2 P 0) 99
def whF (TB TL TH d D p : Nat) : Nat := bif Nat.beq (dF D p) 0 then 0 else bif Nat.beq (dF D p) 2 then 1 else 2 + (wlF TB TL TH d p 0).1
def trF (TB TL TH TF TT P k d D : Nat) : Nat → Nat
  | 0 => bif ilF TB TL TH P d D then 1 else 0
  | i + 1 => bif Nat.blt (t5 TF i) k && Nat.ble k (t5 TT i) then trF TB TL TH TF TT P k d D i * 32 + whF TB TL TH d D i else trF TB TL TH TF TT P k d D i
/-- the trace of the points as a number; the judgement without clues -/
def trN (R C S k : Nat) : Nat → Nat
  | 0 => if ilS R C S then 1 else 0
  | i + 1 => if mFirst R C i < k ∧ k ≤ mLast R C i then trN R C S k i * 32 + wht R C S i else trN R C S k i
def alN (R C S k : Nat) : Bool :=
  thA (deg R C S) (nP R C) && !(decide (k = nE R C) && decide (S = 0)) && laA R C (deg R C S) k (nP R C) && rgB R C S (deg R C S) (paA R C S (deg R C S) (nP R C))
theorem alv_N (R C S k : Nat) (cu : Nat → Nat) : alv R C S k cu = (alN R C S k && caA R C S k cu (R * C)) := by
  unfold alv alN
  cases thA (deg R C S) (nP R C) <;> cases laA R C (deg R C S) k (nP R C) <;> cases caA R C S k cu (R * C) <;> cases rgB R C S (deg R C S) (paA R C S (deg R C S) (nP R C)) <;> simp
section F
variable {R C TB TL TH TF TT d D : Nat} (hT : TOK R C TB TL TH TF TT) (hd : d < 2 ^ 31) (hG : GS R C) (hD : deg R C (rv d) = dF D)
theorem on_F (hT : TOK R C TB TL TH TF TT) (hd : d < 2 ^ 31) {p b : Nat} (hb : b < 32) (hp : p < 20) : onw R C (rv d) p (c9 b) = c9 (onF TB d p b) := by
  have h0 := hT.1 (4 * p) (by omega)
  have h1 := hT.1 (4 * p + 1) (by omega)
  have h2 := hT.1 (4 * p + 1 + 1) (by omega)
  have h3 := hT.1 (4 * p + 1 + 1 + 1) (by omega)
  unfold onw
  simp only [onA, h0, h1, h2, h3]
  exact on_1 hd (t5_lt _ _) hb (on_1 hd (t5_lt _ _) hb (on_1 hd (t5_lt _ _) hb (on_1 hd (t5_lt _ _) hb rfl)))
theorem ot_F (hT : TOK R C TB TL TH TF TT) {p e : Nat} (he : e < 31) : othr R C p e = otF TL TH p e ∧ otF TL TH p e < 20 := by
  obtain ⟨h1, h2, h3, h4⟩ := hT.2.1 e he
  unfold othr otF
  rw [h1, h2, beq_dec]
  by_cases h : t5 TL e = p
  · rw [if_pos h, decide_eq_true h]; exact ⟨rfl, h4⟩
  · rw [if_neg h, decide_eq_false h]; exact ⟨rfl, h3⟩
theorem wk_F (hT : TOK R C TB TL TH TF TT) (hd : d < 2 ^ 31) : ∀ (n p e m : Nat), e < 32 → wkA R C (rv d) n p (c9 e) (bt m) = ((wkF TB TL TH d n p e m).1, bt (wkF TB TL TH d n p e m).2)
  | 0, _, _, _, _ => rfl
  | n + 1, p, e, m, he => by
    simp only [wkA, wkF]
    by_cases h : e = 31
    · subst h; rfl
    · have h2 : Nat.beq e 31 = false := by rw [beq_dec]; exact decide_eq_false h
      obtain ⟨h3, h4⟩ := ot_F (p := p) hT (show e < 31 by omega)
      rw [if_neg (show ¬ c9 e = 99 by rw [c9_lt h]; omega), h2, cond_false]
      have h5 : othr R C p (c9 e) = otF TL TH p e := by rw [c9_lt h]; exact h3
      rw [h5]
      cases hq : bt m (otF TL TH p e) with
      | true => rw [if_pos rfl, cond_true]
      | false =>
        rw [if_neg (by simp), cond_false, on_F hT hd he h4, bt_or]
        exact wk_F hT hd n _ _ _ (onF_lt _ _ _ _)
theorem wl_F (hT : TOK R C TB TL TH TF TT) (hd : d < 2 ^ 31) {p m : Nat} (hp : p < 20) : wlk R C (rv d) p (bt m) = ((wlF TB TL TH d p m).1, bt (wlF TB TL TH d p m).2) := by
  unfold wlk wlF
  rw [← c9_31, on_F hT hd (by decide) hp, bt_or]
  exact wk_F hT hd _ _ _ _ (onF_lt _ _ _ _)
theorem un_F (D m : Nat) : ∀ n p, unA (dF D) (bt m) n p = unF D m n p
  | 0, _ => rfl
  | n + 1, p => by
    simp only [unA, unF]
    rw [un_F D m n (p + 1), beq_dec]
    by_cases h : dF D p = 0
    · rw [if_neg (by omega), decide_eq_true h]; rfl
    · rw [if_pos (by omega), decide_eq_false h, Bool.false_or]
      cases bt m p <;> rfl
theorem un_lt {R C D m : Nat} (hG : GS R C) (h : unF D m (nP R C) 0 ≠ 99) : unF D m (nP R C) 0 < 20 := by
  have := unA_lt (dF D) (bt m) (nP R C) 0
  rw [un_F] at this
  have := hG.P
  omega
theorem th_F (D : Nat) : ∀ n, thA (dF D) n = thF D n
  | 0 => rfl
  | n + 1 => by
    simp only [thA, thF]
    rw [th_F D n]
    congr 1
    rw [Bool.eq_iff_iff, decide_eq_true_iff, Nat.ble_eq]
    omega
theorem he_F (D : Nat) : ∀ n, heA (dF D) n = heF D n
  | 0 => rfl
  | n + 1 => by
    simp only [heA, heF]
    rw [he_F D n, beq_dec]
theorem la_F (hT : TOK R C TB TL TH TF TT) (k : Nat) : ∀ n, n ≤ 20 → laA R C (dF D) k n = laF TT D k n
  | 0, _ => rfl
  | n + 1, h => by
    simp only [laA, laF]
    rw [la_F hT k n (by omega), beq_dec, (hT.2.2 n (by omega)).2]
    congr 2
    rw [Bool.eq_iff_iff, decide_eq_true_iff, Nat.ble_eq]
theorem pa_F (hT : TOK R C TB TL TH TF TT) (hd : d < 2 ^ 31) : ∀ n, n ≤ 20 → paA R C (rv d) (dF D) n = ((paF TB TL TH d D n).1, bt (paF TB TL TH d D n).2)
  | 0, _ => by simp only [paA, paF, bt_0]
  | n + 1, h => by
    simp only [paA, paF]
    rw [pa_F hT hd n (by omega)]
    cases hq : paF TB TL TH d D n with
    | mk b m =>
      simp only
      rw [beq_dec, wl_F hT hd (by omega)]
      by_cases h1 : dF D n = 1
      · cases h2 : bt m n with
        | true => rw [if_neg (by simp), decide_eq_true h1]; rfl
        | false => rw [if_pos ⟨h1, rfl⟩, decide_eq_true h1]; rfl
      · rw [if_neg (fun h => h1 h.1), decide_eq_false h1]; rfl
theorem rg_F (hT : TOK R C TB TL TH TF TT) (hd : d < 2 ^ 31) (hG : GS R C) (b : Bool) (m : Nat) : rgB R C (rv d) (dF D) (b, bt m) = rgX TB TL TH d D (nP R C) (b, m) := by
  unfold rgB rgX uns
  simp only [un_F]
  rw [beq_dec]
  by_cases h : unF D m (nP R C) 0 = 99
  · rw [if_pos h, decide_eq_true h]; rfl
  · rw [if_neg h, decide_eq_false h, wl_F hT hd (un_lt hG h), un_F, beq_dec]; rfl
theorem rv_z {d : Nat} (hd : d < 2 ^ 31) : rv d = 0 ↔ d = 0 := by
  constructor
  · intro h
    exact rv_inj hd (by decide) (h.trans (by decide))
  · intro h; subst h; decide
theorem al_F (hT : TOK R C TB TL TH TF TT) (hd : d < 2 ^ 31) (hG : GS R C) (hD : deg R C (rv d) = dF D) (k : Nat) : alN R C (rv d) k = alF TB TL TH TT (nE R C) (nP R C) k d D := by
  have hP := hG.P
  unfold alN alF
  rw [hD, th_F, la_F hT k _ hP, pa_F hT hd _ hP, rg_F hT hd hG, beq_dec, beq_dec]
  rw [show decide (rv d = 0) = decide (d = 0) by rw [decide_eq_decide]; exact rv_z hd]
theorem il_F (hT : TOK R C TB TL TH TF TT) (hd : d < 2 ^ 31) (hG : GS R C) (hD : deg R C (rv d) = dF D) : ilS R C (rv d) = ilF TB TL TH (nP R C) d D := by
  unfold ilS rgF ilF uns
  rw [hD, th_F, he_F, bt_0]
  simp only [un_F]
  rw [beq_dec]
  by_cases h : unF D 0 (nP R C) 0 = 99
  · rw [if_pos h, decide_eq_true h]; simp
  · rw [if_neg h, decide_eq_false h, wl_F hT hd (un_lt hG h)]
    cases thF D (nP R C) <;> cases heF D (nP R C) <;> simp [beq_dec, un_F]
theorem wh_F (hT : TOK R C TB TL TH TF TT) (hd : d < 2 ^ 31) (hD : deg R C (rv d) = dF D) {p : Nat} (hp : p < 20) : wht R C (rv d) p = whF TB TL TH d D p := by
  unfold wht whF
  rw [hD, bt_0, wl_F hT hd hp, beq_dec, beq_dec]
  by_cases h0 : dF D p = 0
  · rw [if_pos h0, decide_eq_true h0]; rfl
  · rw [if_neg h0, decide_eq_false h0]
    by_cases h2 : dF D p = 2
    · rw [if_pos h2, decide_eq_true h2]; rfl
    · rw [if_neg h2, decide_eq_false h2]; rfl
theorem tr_F (hT : TOK R C TB TL TH TF TT) (hd : d < 2 ^ 31) (hG : GS R C) (hD : deg R C (rv d) = dF D) (k : Nat) : ∀ n, n ≤ 20 → trN R C (rv d) k n = trF TB TL TH TF TT (nP R C) k d D n
  | 0, _ => by
    simp only [trN, trF]
    rw [il_F hT hd hG hD]
    cases ilF TB TL TH (nP R C) d D <;> rfl
  | n + 1, h => by
    simp only [trN, trF]
    obtain ⟨h1, h2⟩ := hT.2.2 n (by omega)
    rw [tr_F hT hd hG hD k n (by omega), wh_F hT hd hD (by omega), h1, h2]
    have e : (Nat.blt (t5 TF n) k && Nat.ble k (t5 TT n)) = decide (t5 TF n < k ∧ k ≤ t5 TT n) := by
      rw [Bool.eq_iff_iff, Bool.and_eq_true, decide_eq_true_iff, Nat.ble_eq]
      constructor
      · intro h; exact ⟨by have := Nat.le_of_ble_eq_true h.1; omega, h.2⟩
      · intro h; exact ⟨Nat.ble_eq_true_of_le h.1, h.2⟩
    rw [e]
    by_cases q : t5 TF n < k ∧ k ≤ t5 TT n
    · rw [if_pos q, decide_eq_true q]; rfl
    · rw [if_neg q, decide_eq_false q]; rfl
end F
