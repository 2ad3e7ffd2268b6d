/-! a state is two: paths (slots 0 to 3 and 7) and clues (slots 4 to 6) -/
def St (s p q : Nat) : Prop := s < 8 ^ 8 ∧ p < 8 ^ 8 ∧ q < 8 ^ 8 ∧ ∀ i, i < 8 → sl s i = if 4 ≤ i ∧ i ≤ 6 then sl q i else sl p i
theorem sl_ext {a b : Nat} (ha : a < 8 ^ 8) (hb : b < 8 ^ 8) (h : ∀ i, i < 8 → sl a i = sl b i) : a = b := by
  have h0 := h 0 (by decide); have h1 := h 1 (by decide); have h2 := h 2 (by decide); have h3 := h 3 (by decide)
  have h4 := h 4 (by decide); have h5 := h 5 (by decide); have h6 := h 6 (by decide); have h7 := h 7 (by decide)
  simp only [sl] at *
  omega
theorem St.det {s s2 p q : Nat} (h : St s p q) (h2 : St s2 p q) : s = s2 := sl_ext h.1 h2.1 fun i hi => by rw [h.2.2.2 i hi, h2.2.2.2 i hi]
theorem St.get {s p q i : Nat} (h : St s p q) (hi : i < 4 ∨ i = 7) : sl s i = sl p i := by
  rw [h.2.2.2 i (by omega), if_neg (by omega)]
theorem St.put {s p q i v : Nat} (h : St s p q) (hi : i < 4 ∨ i = 7) (hv : v < 8) : St (pt s i v) (pt p i v) q := by
  refine ⟨pt_lt h.1 (by omega) hv, pt_lt h.2.1 (by omega) hv, h.2.2.1, fun j hj => ?_⟩
  rw [sl_pt hv (by omega) hj, sl_pt hv (by omega) hj, h.2.2.2 j hj]
  by_cases e : j = i
  · rw [if_pos e, if_pos e, if_neg (by omega)]
  · rw [if_neg e, if_neg e]
theorem St.getq {s p q i : Nat} (h : St s p q) (hi : 4 ≤ i ∧ i ≤ 6) : sl s i = sl q i := by
  rw [h.2.2.2 i (by omega), if_pos hi]
theorem St.putq {s p q i v : Nat} (h : St s p q) (hi : 4 ≤ i ∧ i ≤ 6) (hv : v < 8) : St (pt s i v) p (pt q i v) := by
  refine ⟨pt_lt h.1 (by omega) hv, h.2.1, pt_lt h.2.2.1 (by omega) hv, fun j hj => ?_⟩
  rw [sl_pt hv (by omega) hj, sl_pt hv (by omega) hj, h.2.2.2 j hj]
  by_cases e : j = i
  · rw [if_pos e, if_pos e, if_pos (by omega)]
  · rw [if_neg e, if_neg e]
/-- the state of paths as it is reached -/
def Wp (p : Nat) : Prop := ∀ i, i < 4 → sl p i < 4 ∨ sl p i = 7
/-- both none, or both there, with the same clues -/
def RP (q : Nat) (x y : Option Nat) : Prop := (x = none ∧ y = none) ∨ ∃ s p, x = some s ∧ y = some p ∧ St s p q
def RQ (p : Nat) (x y : Option Nat) : Prop := (x = none ∧ y = none) ∨ ∃ s q, x = some s ∧ y = some q ∧ St s p q
theorem RP.no {q : Nat} : RP q none none := Or.inl ⟨rfl, rfl⟩
theorem RP.so {q s p : Nat} (h : St s p q) : RP q (some s) (some p) := Or.inr ⟨s, p, rfl, rfl, h⟩
theorem RQ.no {p : Nat} : RQ p none none := Or.inl ⟨rfl, rfl⟩
theorem RQ.so {q s p : Nat} (h : St s p q) : RQ p (some s) (some q) := Or.inr ⟨s, q, rfl, rfl, h⟩
theorem RP.ite {q : Nat} {c c2 : Prop} [Decidable c] [Decidable c2] {x x2 y y2 : Option Nat} (hc : c ↔ c2) (h1 : c → RP q x y) (h2 : ¬ c → RP q x2 y2) : RP q (if c then x else x2) (if c2 then y else y2) := by
  by_cases h : c
  · rw [if_pos h, if_pos (hc.mp h)]; exact h1 h
  · rw [if_neg h, if_neg (fun e => h (hc.mpr e))]; exact h2 h
theorem RQ.ite {p : Nat} {c c2 : Prop} [Decidable c] [Decidable c2] {x x2 y y2 : Option Nat} (hc : c ↔ c2) (h1 : c → RQ p x y) (h2 : ¬ c → RQ p x2 y2) : RQ p (if c then x else x2) (if c2 then y else y2) := by
  by_cases h : c
  · rw [if_pos h, if_pos (hc.mp h)]; exact h1 h
  · rw [if_neg h, if_neg (fun e => h (hc.mpr e))]; exact h2 h
theorem down_sp {s p q a : Nat} {t : Bool} (h : St s p q) (ha : a < 4) : RP q (downF s a t) (downF p a t) := by
  unfold downF
  refine RP.ite (by rw [h.get (Or.inl ha)]) (fun _ => ?_) (fun _ => RP.no)
  cases t
  · exact RP.so (h.put (Or.inl ha) (by omega))
  · exact RP.so h
theorem ended_sp {q a : Nat} {x y : Option Nat} (h : RP q x y) (ha : a < 4) : RP q (endedF x a) (endedF y a) := by
  rcases h with ⟨rfl, rfl⟩ | ⟨s, p, rfl, rfl, h⟩
  · exact RP.no
  · simp only [endedF]
    exact RP.ite (by rw [h.get (Or.inl ha)]) (fun _ => RP.no) (fun _ => RP.so (h.put (Or.inl ha) (by omega)))
theorem joined_sp {s p q a : Nat} (h : St s p q) (hw : Wp p) (ha : a < 3) : RP q (joinedF s a) (joinedF p a) := by
  have e1 := h.get (i := a) (Or.inl (by omega))
  have e2 := h.get (i := a + 1) (Or.inl (by omega))
  have e7 := h.get (i := 7) (Or.inr rfl)
  have hn := (h.put (i := a) (v := 7) (Or.inl (by omega)) (by omega)).put (i := a + 1) (v := 7) (Or.inl (by omega)) (by omega)
  unfold joinedF
  refine RP.ite (by rw [e1]) (fun _ => RP.no) (fun h1 => ?_)
  refine RP.ite (by rw [e7]) (fun _ => RP.no) (fun _ => ?_)
  refine RP.ite (by rw [e1]) (fun _ => ?_) (fun _ => ?_)
  · refine RP.ite (by rw [hn.get (i := 0) (by omega)]) (fun _ => RP.no) (fun _ => ?_)
    refine RP.ite (by rw [hn.get (i := 1) (by omega)]) (fun _ => RP.no) (fun _ => ?_)
    refine RP.ite (by rw [hn.get (i := 2) (by omega)]) (fun _ => RP.no) (fun _ => ?_)
    refine RP.ite (by rw [hn.get (i := 3) (by omega)]) (fun _ => RP.no) (fun _ => ?_)
    exact RP.so (hn.put (Or.inr rfl) (by omega))
  · rw [e1, e2]
    rw [e1] at h1
    have w1 := hw a (by omega)
    have w2 := hw (a + 1) (by omega)
    exact RP.so ((hn.put (by omega) (by omega)).put (by omega) (by omega))
theorem points_sp {R C s p q e : Nat} {t : Bool} (hG : GS R C) (h : St s p q) (hw : Wp p) (he : e < nE R C) : RP q (pointsF R C s e t) (pointsF R C p e t) := by
  have hc := hG.col he
  have hC := hG.2.2.2
  unfold pointsF
  cases hd : tDown R C e with
  | true => exact down_sp h (by omega)
  | false =>
    have hcl := hG.colF he hd
    have h1 : RP q (if t = true then joinedF s (tCol R C e) else some s) (if t = true then joinedF p (tCol R C e) else some p) := RP.ite Iff.rfl (fun _ => joined_sp h hw (by omega)) (fun _ => RP.so h)
    simp only [Bool.false_eq_true, if_false]
    generalize (if t = true then joinedF s (tCol R C e) else some s) = x at h1 ⊢
    generalize (if t = true then joinedF p (tCol R C e) else some p) = y at h1 ⊢
    have h2 : RP q (if tRow R C e = R then endedF x (tCol R C e) else x) (if tRow R C e = R then endedF y (tCol R C e) else y) := RP.ite Iff.rfl (fun _ => ended_sp h1 (by omega)) (fun _ => h1)
    generalize (if tRow R C e = R then endedF x (tCol R C e) else x) = x2 at h2 ⊢
    generalize (if tRow R C e = R then endedF y (tCol R C e) else y) = y2 at h2 ⊢
    refine RP.ite Iff.rfl (fun _ => ?_) (fun _ => h2)
    have h3 := ended_sp (a := tCol R C e + 1) h2 (by omega)
    rcases h3 with ⟨e1, e2⟩ | ⟨s3, p3, e1, e2, h3⟩
    · rw [e1, e2]; exact RP.no
    · rw [e1, e2]
      exact RP.ite (by rw [h3.get (i := 7) (Or.inr rfl)]) (fun _ => RP.so h3) (fun _ => RP.no)
theorem side_sp {R C p r c : Nat} {cu : Nat → Nat} {x y : Option Nat} {t last : Bool} (hC : C ≤ 3) (hcu : CU R C cu) (h : RQ p x y) : RQ p (sideF R C cu x r c t last) (sideF R C cu y r c t last) := by
  rcases h with ⟨rfl, rfl⟩ | ⟨s, q, rfl, rfl, h⟩
  · exact RQ.no
  · simp only [sideF]
    refine RQ.ite Iff.rfl (fun hr => ?_) (fun _ => RQ.so h)
    refine RQ.ite Iff.rfl (fun hc => ?_) (fun _ => RQ.so h)
    refine RQ.ite Iff.rfl (fun _ => RQ.so h) (fun h9 => ?_)
    have h4 := hcu _ (cell_lt hr hc)
    have e1 := h.getq (i := 4 + c) (by omega)
    rw [e1]
    refine RQ.ite Iff.rfl (fun _ => RQ.no) (fun h5 => ?_)
    exact RQ.ite Iff.rfl (fun _ => RQ.ite Iff.rfl (fun _ => RQ.no) (fun _ => RQ.so (h.putq (by omega) (by omega)))) (fun _ => RQ.so (h.putq (by omega) (by omega)))
theorem clues_sp {R C s p q e : Nat} {cu : Nat → Nat} {t : Bool} (hC : C ≤ 3) (hcu : CU R C cu) (h : St s p q) : RQ p (cluesF R C cu s e t) (cluesF R C cu q e t) := by
  unfold cluesF
  split
  · exact side_sp hC hcu (side_sp hC hcu (RQ.so h))
  · exact side_sp hC hcu (side_sp hC hcu (RQ.so h))
/-- the run of the clues alone -/
def rnQ (R C : Nat) (cu : Nat → Nat) (d : Nat) : Nat → Nat → Nat → Option Nat
  | 0, _, q => some q
  | n + 1, k, q => (cluesF R C cu q k (d.testBit k)).bind fun t => rnQ R C cu d n (k + 1) t
theorem rnS_sn {R C : Nat} {cu : Nat → Nat} {d : Nat} : ∀ (n k s : Nat), rnS R C cu d (n + 1) k s = (rnS R C cu d n k s).bind fun t => stepF R C cu t (k + n) (d.testBit (k + n))
  | 0, k, s => by
    show (stepF R C cu s k (d.testBit k)).bind (fun t => some t) = stepF R C cu s k (d.testBit k)
    cases stepF R C cu s k (d.testBit k) <;> rfl
  | n + 1, k, s => by
    rw [rnS, rnS]
    cases hq : stepF R C cu s k (d.testBit k) with
    | none => rfl
    | some t =>
      show rnS R C cu d (n + 1) (k + 1) t = _
      rw [rnS_sn n (k + 1) t, show k + 1 + n = k + (n + 1) by omega]
      rfl
theorem rnP_sn {R C : Nat} {d : Nat} : ∀ (n k s : Nat), rnP R C d (n + 1) k s = (rnP R C d n k s).bind fun t => pointsF R C t (k + n) (d.testBit (k + n))
  | 0, k, s => by
    show (pointsF R C s k (d.testBit k)).bind (fun t => some t) = pointsF R C s k (d.testBit k)
    cases pointsF R C s k (d.testBit k) <;> rfl
  | n + 1, k, s => by
    rw [rnP, rnP]
    cases hq : pointsF R C s k (d.testBit k) with
    | none => rfl
    | some t =>
      show rnP R C d (n + 1) (k + 1) t = _
      rw [rnP_sn n (k + 1) t, show k + 1 + n = k + (n + 1) by omega]
      rfl
theorem rnQ_sn {R C : Nat} {cu : Nat → Nat} {d : Nat} : ∀ (n k s : Nat), rnQ R C cu d (n + 1) k s = (rnQ R C cu d n k s).bind fun t => cluesF R C cu t (k + n) (d.testBit (k + n))
  | 0, k, s => by
    show (cluesF R C cu s k (d.testBit k)).bind (fun t => some t) = cluesF R C cu s k (d.testBit k)
    cases cluesF R C cu s k (d.testBit k) <;> rfl
  | n + 1, k, s => by
    rw [rnQ, rnQ]
    cases hq : cluesF R C cu s k (d.testBit k) with
    | none => rfl
    | some t =>
      show rnQ R C cu d (n + 1) (k + 1) t = _
      rw [rnQ_sn n (k + 1) t, show k + 1 + n = k + (n + 1) by omega]
      rfl
theorem rnP_mod {R C d : Nat} : ∀ (m : Nat), rnP R C (d % 2 ^ m) m 0 1672 = rnP R C d m 0 1672 := by
  intro m
  have key : ∀ n x y : Nat, (∀ j, j < n → x.testBit j = y.testBit j) → rnP R C x n 0 1672 = rnP R C y n 0 1672 := by
    intro n
    induction n with
    | zero => intro x y _; rfl
    | succ n ih =>
      intro x y h
      rw [rnP_sn, rnP_sn, ih x y (fun j hj => h j (by omega)), Nat.zero_add, h n (by omega)]
  exact key m _ _ (fun j hj => by rw [Nat.testBit_mod_two_pow, decide_eq_true hj, Bool.true_and])
theorem sl_pt7 (s T j : Nat) (hj : j < 7) : sl (pt s 7 T) j = sl s j := by
  have : j = 0 ∨ j = 1 ∨ j = 2 ∨ j = 3 ∨ j = 4 ∨ j = 5 ∨ j = 6 := by omega
  rcases this with rfl | rfl | rfl | rfl | rfl | rfl | rfl <;> simp only [sl, pt] <;> omega
theorem deF_wp {C TF TT k : Nat} (hC : C ≤ 3) : ∀ (n T p : Nat), Wp p → Wp (deF C TF TT k n T p)
  | 0, T, p, h => fun i hi => by simp only [deF]; rw [sl_pt7 _ _ _ (by omega)]; exact h i hi
  | n + 1, T, p, h => by
    simp only [deF]
    cases opF TF TT k n with
    | false => exact deF_wp hC n T p h
    | true =>
      refine deF_wp hC n _ _ fun i hi => ?_
      have hj : n % (C + 1) < C + 1 := Nat.mod_lt _ (by omega)
      have hg : gdF C (n % (C + 1)) (T % 32) < 4 ∨ gdF C (n % (C + 1)) (T % 32) = 7 := by
        unfold gdF
        cases Nat.beq (T % 32) 0 <;> cases Nat.beq (T % 32) 1
        · refine Or.inl ?_
          have := Nat.mod_lt (T % 32 - 2) (show 0 < C + 1 by omega)
          simp only [cond_false]
          omega
        · exact Or.inr rfl
        · exact Or.inl (by simp only [cond_true]; omega)
        · exact Or.inl (by simp only [cond_true]; omega)
      rw [sl_pt (by omega) (by omega) (by omega)]
      split
      · exact hg
      · exact h i hi
theorem wp_0 : Wp 1672 := fun i hi => by
  have : i = 0 ∨ i = 1 ∨ i = 2 ∨ i = 3 := by omega
  rcases this with rfl | rfl | rfl | rfl <;> decide
theorem wp_run {R C d m p : Nat} (hG : GS R C) (hm : m ≤ nE R C) (h : rnP R C d m 0 1672 = some p) : Wp p := by
  obtain ⟨TF, TT, ht⟩ := tree_all hG
  have h2 := ht m (d % 2 ^ m) hm (Nat.mod_lt _ (Nat.pow_pos (by decide)))
  rw [rnP_mod, h] at h2
  rw [← h2.2.2.1]
  exact deF_wp hG.2.2.2 _ _ _ wp_0
/-- a run is the run of the paths and the run of the clues -/
theorem run_sp {R C d : Nat} {cu : Nat → Nat} (hG : GS R C) (hcu : CU R C cu) : ∀ m, m ≤ nE R C →
    (rnS R C cu d m 0 1672 = none ∧ (rnP R C d m 0 1672 = none ∨ rnQ R C cu d m 0 0 = none)) ∨ ∃ s p q, rnS R C cu d m 0 1672 = some s ∧ rnP R C d m 0 1672 = some p ∧ rnQ R C cu d m 0 0 = some q ∧ St s p q
  | 0, _ => Or.inr ⟨1672, 1672, 0, rfl, rfl, rfl, by decide, by decide, by decide, by decide⟩
  | m + 1, hm => by
    rw [rnS_sn, rnP_sn, rnQ_sn, Nat.zero_add]
    rcases run_sp hG hcu m (by omega) with ⟨h1, h2⟩ | ⟨s, p, q, h1, h2, h3, h4⟩
    · rw [h1]
      refine Or.inl ⟨rfl, ?_⟩
      rcases h2 with h2 | h2
      · rw [h2]; exact Or.inl rfl
      · rw [h2]; exact Or.inr rfl
    · rw [h1, h2, h3]
      simp only [Option.bind_some]
      unfold stepF
      rcases points_sp (t := d.testBit m) hG h4 (wp_run hG (by omega) h2) (show m < nE R C by omega) with ⟨e1, e2⟩ | ⟨s2, p2, e1, e2, h5⟩
      · rw [e1, e2]; exact Or.inl ⟨rfl, Or.inl rfl⟩
      · rw [e1, e2]
        simp only
        rcases clues_sp (e := m) (t := d.testBit m) hG.2.2.2 hcu h5 with ⟨e3, e4⟩ | ⟨s3, q3, e3, e4, h6⟩
        · rw [e3, e4]; exact Or.inl ⟨rfl, Or.inr rfl⟩
        · rw [e3, e4]; exact Or.inr ⟨s3, p2, q3, rfl, rfl, rfl, h6⟩
