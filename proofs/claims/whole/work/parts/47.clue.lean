/-! the clues: the run of the counters -/
def adj (R C i e : Nat) : Bool := mOne R C e == i || mOther R C e == i
def opc (R C m c : Nat) : Option Nat := (List.range (R * C)).find? (fun i => i % C == c && (decide (mCF R C i < m) && decide (m ≤ mCL R C i)))
def allB (n : Nat) (f : Nat → Bool) : Bool := (List.range n).all f
theorem allB_get {n : Nat} {f : Nat → Bool} (h : allB n f = true) : ∀ i, i < n → f i = true := fun i hi => List.all_eq_true.mp h i (List.mem_range.mpr hi)
theorem tb_hor_c : (allB (5) fun R => allB (4) fun C => allB (nE R C) fun e => decide (tDown R C e = false → opc R C e (tCol R C e) = (if tRow R C e = 0 then none else some ((tRow R C e - 1) * C + tCol R C e)) ∧ opc R C (e + 1) (tCol R C e) = (if tRow R C e < R then some (tRow R C e * C + tCol R C e) else none) ∧ (tRow R C e < R → mCF R C (tRow R C e * C + tCol R C e) = e))) = true := by decide +kernel
theorem tb_hor : ∀ R, R < 5 → ∀ C, C < 4 → ∀ e, e < nE R C → tDown R C e = false → opc R C e (tCol R C e) = (if tRow R C e = 0 then none else some ((tRow R C e - 1) * C + tCol R C e)) ∧ opc R C (e + 1) (tCol R C e) = (if tRow R C e < R then some (tRow R C e * C + tCol R C e) else none) ∧ (tRow R C e < R → mCF R C (tRow R C e * C + tCol R C e) = e) := fun R hR C hC e he => of_decide_eq_true (allB_get (allB_get (allB_get tb_hor_c R hR) C hC) e he)
theorem tb_ver_c : (allB (5) fun R => allB (4) fun C => allB (nE R C) fun e => decide (tDown R C e = true → (tCol R C e < C → opc R C e (tCol R C e) = some (tRow R C e * C + tCol R C e)) ∧ (0 < tCol R C e → opc R C e (tCol R C e - 1) = some (tRow R C e * C + (tCol R C e - 1))))) = true := by decide +kernel
theorem tb_ver : ∀ R, R < 5 → ∀ C, C < 4 → ∀ e, e < nE R C → tDown R C e = true → (tCol R C e < C → opc R C e (tCol R C e) = some (tRow R C e * C + tCol R C e)) ∧ (0 < tCol R C e → opc R C e (tCol R C e - 1) = some (tRow R C e * C + (tCol R C e - 1))) := fun R hR C hC e he => of_decide_eq_true (allB_get (allB_get (allB_get tb_ver_c R hR) C hC) e he)
theorem tb_opc_c : (allB (5) fun R => allB (4) fun C => allB (nE R C) fun e => allB (C) fun c => decide ((tDown R C e = true ∨ c ≠ tCol R C e) → opc R C (e + 1) c = opc R C e c)) = true := by decide +kernel
theorem tb_opc : ∀ R, R < 5 → ∀ C, C < 4 → ∀ e, e < nE R C → ∀ c, c < C → (tDown R C e = true ∨ c ≠ tCol R C e) → opc R C (e + 1) c = opc R C e c := fun R hR C hC e he c hc => of_decide_eq_true (allB_get (allB_get (allB_get (allB_get tb_opc_c R hR) C hC) e he) c hc)
theorem tb_adj_c : (allB (5) fun R => allB (4) fun C => allB (nE R C) fun e => allB (R * C) fun i => decide (adj R C i e = (if tDown R C e then (decide (0 < tCol R C e ∧ i = tRow R C e * C + (tCol R C e - 1)) || decide (tCol R C e < C ∧ i = tRow R C e * C + tCol R C e)) else (decide (0 < tRow R C e ∧ i = (tRow R C e - 1) * C + tCol R C e) || decide (tRow R C e < R ∧ i = tRow R C e * C + tCol R C e))))) = true := by decide +kernel
theorem tb_adj : ∀ R, R < 5 → ∀ C, C < 4 → ∀ e, e < nE R C → ∀ i, i < R * C → adj R C i e = (if tDown R C e then (decide (0 < tCol R C e ∧ i = tRow R C e * C + (tCol R C e - 1)) || decide (tCol R C e < C ∧ i = tRow R C e * C + tCol R C e)) else (decide (0 < tRow R C e ∧ i = (tRow R C e - 1) * C + tCol R C e) || decide (tRow R C e < R ∧ i = tRow R C e * C + tCol R C e))) := fun R hR C hC e he i hi => of_decide_eq_true (allB_get (allB_get (allB_get (allB_get tb_adj_c R hR) C hC) e he) i hi)
theorem tb_cl_c : (allB (5) fun R => allB (4) fun C => allB (nE R C) fun e => allB (R * C) fun i => decide ((adj R C i e = true → mCF R C i ≤ e ∧ e ≤ mCL R C i) ∧ (e = mCL R C i ↔ (tDown R C e = false ∧ 0 < tRow R C e ∧ i = (tRow R C e - 1) * C + tCol R C e)))) = true := by decide +kernel
theorem tb_cl : ∀ R, R < 5 → ∀ C, C < 4 → ∀ e, e < nE R C → ∀ i, i < R * C → (adj R C i e = true → mCF R C i ≤ e ∧ e ≤ mCL R C i) ∧ (e = mCL R C i ↔ (tDown R C e = false ∧ 0 < tRow R C e ∧ i = (tRow R C e - 1) * C + tCol R C e)) := fun R hR C hC e he i hi => of_decide_eq_true (allB_get (allB_get (allB_get (allB_get tb_cl_c R hR) C hC) e he) i hi)
def b2 (t : Bool) : Nat := if t then 1 else 0
/-- how many sides of the cell i stand among the first m edges -/
def cnt (R C x i m : Nat) : Nat := sdA R C (rv x) i m
theorem cnt_s {R C x i m : Nat} (hm : m < 31) : cnt R C x i (m + 1) = cnt R C x i m + (if adj R C i m then b2 (x.testBit m) else 0) := by
  unfold cnt
  simp only [sdA]
  rw [rv_is hm]
  unfold adj b2
  cases x.testBit m <;> cases (mOne R C m == i || mOther R C m == i) <;> rfl
def Fq (R C : Nat) (cu : Nat → Nat) (x m j : Nat) : Nat := if 4 ≤ j ∧ j < 4 + C then (match opc R C m (j - 4) with | none => 0 | some i => if cu i = 99 then 0 else cnt R C x i m) else 0
def Vq (q : Nat) (f : Nat → Nat) : Prop := q < 8 ^ 8 ∧ ∀ j, j < 8 → sl q j = f j
def bd (u n : Nat) (last : Bool) : Prop := u ≠ 99 ∧ (u < n ∨ (last = true ∧ n < u))
theorem Vq.up {q j v : Nat} {f : Nat → Nat} (h : Vq q f) (hj : j < 8) (hv : v < 8) : Vq (pt q j v) (va_up f j v) := by
  refine ⟨pt_lt h.1 hj hv, fun i hi => ?_⟩
  rw [sl_pt hv hj hi, h.2 i hi]
  by_cases e : i = j
  · rw [if_pos e, e, va_up_self]
  · rw [if_neg e, va_up_ne _ _ e]
theorem Vq.eq {q : Nat} {f g : Nat → Nat} (h : Vq q f) (hg : ∀ j, j < 8 → f j = g j) : Vq q g := ⟨h.1, fun j hj => by rw [h.2 j hj, hg j hj]⟩
theorem side_v {R C : Nat} {cu : Nat → Nat} (hC : C ≤ 3) (hcu : CU R C cu) {q r c : Nat} {f : Nat → Nat} {t last : Bool} (hq : Vq q f) (hr : r < R) (hc : c < C) :
    (bd (cu (r * C + c)) (f (4 + c) + b2 t) last ∧ sideF R C cu (some q) r c t last = none) ∨
    (¬ bd (cu (r * C + c)) (f (4 + c) + b2 t) last ∧ ∃ q2, sideF R C cu (some q) r c t last = some q2 ∧ Vq q2 (if cu (r * C + c) = 99 then f else va_up f (4 + c) (if last then 0 else f (4 + c) + b2 t))) := by
  have h4 := hcu _ (cell_lt hr hc)
  have h5 := hq.2 (4 + c) (by omega)
  simp only [sideF]
  rw [if_pos hr, if_pos hc, h5]
  change (bd (cu (r * C + c)) (f (4 + c) + b2 t) last ∧ (if cu (r * C + c) = 99 then some q else if cu (r * C + c) < f (4 + c) + b2 t then none else if last = true then (if f (4 + c) + b2 t < cu (r * C + c) then none else some (pt q (4 + c) 0)) else some (pt q (4 + c) (f (4 + c) + b2 t))) = none) ∨ (¬ bd (cu (r * C + c)) (f (4 + c) + b2 t) last ∧ ∃ q2, (if cu (r * C + c) = 99 then some q else if cu (r * C + c) < f (4 + c) + b2 t then none else if last = true then (if f (4 + c) + b2 t < cu (r * C + c) then none else some (pt q (4 + c) 0)) else some (pt q (4 + c) (f (4 + c) + b2 t))) = some q2 ∧ Vq q2 (if cu (r * C + c) = 99 then f else va_up f (4 + c) (if last then 0 else f (4 + c) + b2 t)))
  generalize f (4 + c) + b2 t = n
  generalize cu (r * C + c) = u at h4 ⊢
  unfold bd
  by_cases h9 : u = 99
  · rw [if_pos h9, if_pos h9]
    exact Or.inr ⟨fun h => h.1 h9, q, rfl, hq⟩
  · rw [if_neg h9, if_neg h9]
    by_cases h1 : u < n
    · rw [if_pos h1]
      exact Or.inl ⟨⟨h9, Or.inl h1⟩, rfl⟩
    · rw [if_neg h1]
      cases last with
      | true =>
        rw [if_pos rfl, if_pos rfl]
        by_cases h2 : n < u
        · rw [if_pos h2]
          exact Or.inl ⟨⟨h9, Or.inr ⟨rfl, h2⟩⟩, rfl⟩
        · rw [if_neg h2]
          refine Or.inr ⟨fun h => ?_, _, rfl, hq.up (by omega) (by omega)⟩
          rcases h.2 with e | e
          · exact h1 e
          · exact h2 e.2
      | false =>
        rw [if_neg (by simp), if_neg (by simp)]
        refine Or.inr ⟨fun h => ?_, _, rfl, hq.up (by omega) (by omega)⟩
        rcases h.2 with e | e
        · exact h1 e
        · exact absurd e.1 (by simp)
theorem side_o {R C : Nat} {cu : Nat → Nat} {q r c : Nat} {t last : Bool} (h : ¬ (r < R ∧ c < C)) : sideF R C cu (some q) r c t last = some q := by
  simp only [sideF]
  by_cases hr : r < R
  · rw [if_pos hr, if_neg (fun hc => h ⟨hr, hc⟩)]
  · rw [if_neg hr]
theorem pd_1 {n : Nat} (h : 0 < n) : pd n = n - 1 := if_neg (by omega)
theorem opc_in {R C m c i : Nat} (h : opc R C m c = some i) : i < R * C ∧ i % C = c ∧ mCF R C i < m ∧ m ≤ mCL R C i := by
  have h1 := List.find?_some h
  have h2 := List.mem_of_find?_eq_some h
  rw [List.mem_range] at h2
  simp only [Bool.and_eq_true, beq_iff_eq, decide_eq_true_iff] at h1
  exact ⟨h2, h1.1, h1.2.1, h1.2.2⟩
def mixF (b : Prop) [Decidable b] (k : Nat) (f g : Nat → Nat) : Nat → Nat := fun j => if b ∧ j = k then g j else f j
theorem mixF_at {b : Prop} [Decidable b] {k : Nat} {f g : Nat → Nat} (h : b) : mixF b k f g k = g k := if_pos ⟨h, rfl⟩
theorem mixF_ne {b : Prop} [Decidable b] {k j : Nat} {f g : Nat → Nat} (h : ¬ (b ∧ j = k)) : mixF b k f g j = f j := if_neg h
section K
variable {R C : Nat} {cu : Nat → Nat}
theorem GS.lt5 (h : GS R C) : R < 5 ∧ C < 4 := ⟨by have := h.2.1; omega, by have := h.2.2.2; omega⟩
/-- a column that the edge doesn't touch stays -/
theorem Fq_st (hG : GS R C) {x e c : Nat} (he : e < nE R C) (hc : c < C) (h : tDown R C e = true ∨ c ≠ tCol R C e) (hn : ∀ i, i < R * C → i % C = c → adj R C i e = false) : Fq R C cu x (e + 1) (4 + c) = Fq R C cu x e (4 + c) := by
  have hE := hG.E
  unfold Fq
  rw [if_pos (by omega), if_pos (by omega), show 4 + c - 4 = c by omega, tb_opc R hG.lt5.1 C hG.lt5.2 e he c hc h]
  cases ho : opc R C e c with
  | none => rfl
  | some i =>
    obtain ⟨h1, h2, _⟩ := opc_in ho
    simp only
    rw [cnt_s (by omega), hn i h1 h2]
    rfl
theorem Fq_at {x m c : Nat} (hc : c < C) : Fq R C cu x m (4 + c) = (match opc R C m c with | none => 0 | some i => if cu i = 99 then 0 else cnt R C x i m) := by
  unfold Fq
  rw [if_pos (by omega), show 4 + c - 4 = c by omega]
theorem Fq_out {x m j : Nat} (h : ¬ (4 ≤ j ∧ j < 4 + C)) : Fq R C cu x m j = 0 := if_neg h
theorem cnt_0 (hG : GS R C) {x i : Nat} (hi : i < R * C) : ∀ m, m ≤ mCF R C i → m ≤ nE R C → cnt R C x i m = 0
  | 0, _, _ => rfl
  | m + 1, h, h2 => by
    have hE := hG.E
    rw [cnt_s (by omega), cnt_0 hG hi m (by omega) (by omega)]
    cases ha : adj R C i m with
    | false => rfl
    | true =>
      have := ((tb_cl R hG.lt5.1 C hG.lt5.2 m (by omega) i hi).1 ha).1
      omega
theorem mod_a {r a : Nat} (h : a < C) : (r * C + a) % C = a := by rw [Nat.add_comm, Nat.add_mul_mod_self_right, Nat.mod_eq_of_lt h]
/-- what an edge asks of the cells at its sides -/
def BD (R C : Nat) (cu : Nat → Nat) (x e i : Nat) : Prop := bd (cu i) (cnt R C x i e + b2 (x.testBit e)) (decide (e = mCL R C i))
theorem clue_step (hG : GS R C) (hcu : CU R C cu) {x e q : Nat} (he : e < nE R C) (hq : Vq q (Fq R C cu x e)) :
    ((∃ i, i < R * C ∧ adj R C i e = true ∧ BD R C cu x e i) ∧ cluesF R C cu q e (x.testBit e) = none) ∨
    ((∀ i, i < R * C → adj R C i e = true → ¬ BD R C cu x e i) ∧ ∃ q2, cluesF R C cu q e (x.testBit e) = some q2 ∧ Vq q2 (Fq R C cu x (e + 1))) := by
  obtain ⟨hR5, hC4⟩ := hG.lt5
  have hE := hG.E
  have hC3 := hG.2.2.2
  have hR4 := hG.2.1
  have hadj := tb_adj R hR5 C hC4 e he
  have hcl := tb_cl R hR5 C hC4 e he
  have hcol := hG.col he
  have hrow := hG.row he
  unfold cluesF
  cases hd : tDown R C e with
  | false =>
    have ha := hG.colF he hd
    obtain ⟨o1, o2, o3⟩ := tb_hor R hR5 C hC4 e he hd
    have oth : ∀ c, c < C → c ≠ tCol R C e → Fq R C cu x (e + 1) (4 + c) = Fq R C cu x e (4 + c) := fun c hc hne => Fq_st hG he hc (Or.inr hne) (fun i hi him => by
      rw [hadj i hi, hd]
      simp only [Bool.false_eq_true, if_false, Bool.or_eq_false_iff, decide_eq_false_iff_not]
      refine ⟨fun h => hne ?_, fun h => hne ?_⟩
      · rw [← him, h.2, mod_a ha]
      · rw [← him, h.2, mod_a ha])
    simp only [hd, Bool.false_eq_true, if_false] at hadj hcl ⊢
    generalize tRow R C e = r at *
    generalize tCol R C e = a at *
    -- the cell above
    have s1 : (0 < r ∧ BD R C cu x e ((r - 1) * C + a) ∧ sideF R C cu (some q) (pd r) a (x.testBit e) true = none) ∨ ((0 < r → ¬ BD R C cu x e ((r - 1) * C + a)) ∧ ∃ q1, sideF R C cu (some q) (pd r) a (x.testBit e) true = some q1 ∧ Vq q1 (va_up (Fq R C cu x e) (4 + a) 0)) := by
      by_cases h0 : r = 0
      · subst h0
        rw [side_o (by rw [show pd 0 = 99 from rfl]; omega)]
        refine Or.inr ⟨fun h => absurd h (by omega), q, rfl, hq.eq fun j _ => ?_⟩
        by_cases ej : j = 4 + a
        · rw [ej, va_up_self, Fq_at ha, o1]; rfl
        · rw [va_up_ne _ _ ej]
      · rw [if_neg h0] at o1
        have hi := cell_lt (show r - 1 < R by omega) ha
        have hl : decide (e = mCL R C ((r - 1) * C + a)) = true := decide_eq_true ((hcl _ hi).2.mpr ⟨trivial, by omega, rfl⟩)
        have hF : Fq R C cu x e (4 + a) = if cu ((r - 1) * C + a) = 99 then 0 else cnt R C x ((r - 1) * C + a) e := by rw [Fq_at ha, o1]
        have hb : BD R C cu x e ((r - 1) * C + a) ↔ bd (cu ((r - 1) * C + a)) (Fq R C cu x e (4 + a) + b2 (x.testBit e)) true := by
          unfold BD
          rw [hl, hF]
          unfold bd
          by_cases h9 : cu ((r - 1) * C + a) = 99
          · simp [h9]
          · rw [if_neg h9]
        rw [pd_1 (by omega), hb]
        rcases side_v (t := x.testBit e) (last := true) hC3 hcu hq (show r - 1 < R by omega) ha with ⟨b1, b2⟩ | ⟨b1, q1, b2, b3⟩
        · exact Or.inl ⟨by omega, b1, b2⟩
        · refine Or.inr ⟨fun _ => b1, q1, b2, b3.eq fun j _ => ?_⟩
          by_cases h9 : cu ((r - 1) * C + a) = 99
          · rw [if_pos h9]
            by_cases ej : j = 4 + a
            · rw [ej, va_up_self, hF, if_pos h9]
            · rw [va_up_ne _ _ ej]
          · rw [if_neg h9]; rfl
    rcases s1 with ⟨p1, p2, p3⟩ | ⟨p1, q1, p2, p3⟩
    · rw [p3]
      refine Or.inl ⟨⟨_, cell_lt (show r - 1 < R by omega) ha, ?_, p2⟩, rfl⟩
      rw [hadj _ (cell_lt (show r - 1 < R by omega) ha)]
      simp [p1]
    · rw [p2]
      by_cases hr : r < R
      · have hi := cell_lt hr ha
        rw [if_pos hr] at o2
        have hadB : adj R C (r * C + a) e = true := by rw [hadj _ hi]; simp [hr]
        have hl : decide (e = mCL R C (r * C + a)) = false := decide_eq_false fun h => by
          have h1 := ((hcl _ hi).2.mp h).2
          have h2 : r = r - 1 := Nat.eq_of_mul_eq_mul_right (show 0 < C by omega) (by omega)
          omega
        have hz : cnt R C x (r * C + a) e = 0 := cnt_0 hG hi e (by rw [o3 hr]; exact Nat.le_refl _) (by omega)
        have hb : BD R C cu x e (r * C + a) ↔ bd (cu (r * C + a)) (va_up (Fq R C cu x e) (4 + a) 0 (4 + a) + b2 (x.testBit e)) false := by
          unfold BD
          rw [hl, hz, va_up_self]
        rcases side_v (t := x.testBit e) (last := false) hC3 hcu p3 hr ha with ⟨c1, c2⟩ | ⟨c1, q2, c2, c3⟩
        · exact Or.inl ⟨⟨_, hi, hadB, hb.mpr c1⟩, c2⟩
        · refine Or.inr ⟨fun i hi2 hia => ?_, q2, c2, c3.eq fun j hj => ?_⟩
          · rw [hadj i hi2] at hia
            simp only [Bool.or_eq_true, decide_eq_true_iff] at hia
            rcases hia with ⟨e1, e2⟩ | ⟨e1, e2⟩
            · rw [e2]; exact p1 e1
            · rw [e2, hb]; exact c1
          · by_cases ej : j = 4 + a
            · rw [ej, Fq_at ha, o2]
              simp only
              rw [cnt_s (by omega), hz, hadB, if_pos rfl]
              by_cases h9 : cu (r * C + a) = 99
              · rw [if_pos h9, if_pos h9, va_up_self]
              · rw [if_neg h9, if_neg h9, va_up_self, va_up_self]; rfl
            · have h8 : (if cu (r * C + a) = 99 then va_up (Fq R C cu x e) (4 + a) 0 else va_up (va_up (Fq R C cu x e) (4 + a) 0) (4 + a) (if false = true then 0 else va_up (Fq R C cu x e) (4 + a) 0 (4 + a) + b2 (x.testBit e))) j = Fq R C cu x e j := by
                split
                · rw [va_up_ne _ _ ej]
                · rw [va_up_ne _ _ ej, va_up_ne _ _ ej]
              rw [h8]
              by_cases hj2 : 4 ≤ j ∧ j < 4 + C
              · have := oth (j - 4) (by omega) (by omega)
                rw [show 4 + (j - 4) = j by omega] at this
                exact this.symm
              · rw [Fq_out hj2, Fq_out hj2]
      · rw [if_neg hr] at o2
        rw [side_o (fun h => hr h.1)]
        refine Or.inr ⟨fun i hi2 hia => ?_, q1, rfl, p3.eq fun j hj => ?_⟩
        · rw [hadj i hi2] at hia
          simp only [Bool.or_eq_true, decide_eq_true_iff] at hia
          rcases hia with ⟨e1, e2⟩ | ⟨e1, e2⟩
          · rw [e2]; exact p1 e1
          · exact absurd e1 hr
        · by_cases ej : j = 4 + a
          · rw [ej, Fq_at ha, o2, va_up_self]
          · rw [va_up_ne _ _ ej]
            by_cases hj2 : 4 ≤ j ∧ j < 4 + C
            · have := oth (j - 4) (by omega) (by omega)
              rw [show 4 + (j - 4) = j by omega] at this
              exact this.symm
            · rw [Fq_out hj2, Fq_out hj2]
  | true =>
    have hrR := hG.rowT he hd
    obtain ⟨o1, o2⟩ := tb_ver R hR5 C hC4 e he hd
    have o4 : ∀ c, c < C → opc R C (e + 1) c = opc R C e c := fun c hc => tb_opc R hR5 C hC4 e he c hc (Or.inl hd)
    have nl : ∀ i, i < R * C → decide (e = mCL R C i) = false := fun i hi => decide_eq_false (fun h => by
      have := ((hcl i hi).2.mp h).1
      rw [hd] at this; cases this)
    have nx : ∀ c i, c < C → opc R C e c = some i → adj R C i e = true → Fq R C cu x e (4 + c) = (if cu i = 99 then 0 else cnt R C x i e) ∧ Fq R C cu x (e + 1) (4 + c) = (if cu i = 99 then 0 else cnt R C x i e + b2 (x.testBit e)) := fun c i hc ho ha => by
      have e1 := cnt_s (R := R) (C := C) (x := x) (i := i) (m := e) (by omega)
      rw [ha, if_pos rfl] at e1
      rw [Fq_at hc, Fq_at hc, o4 c hc, ho, ← e1]
      exact ⟨rfl, rfl⟩
    have hbd : ∀ c i, c < C → i < R * C → opc R C e c = some i → adj R C i e = true → (BD R C cu x e i ↔ bd (cu i) (Fq R C cu x e (4 + c) + b2 (x.testBit e)) false) := fun c i hc hi ho ha => by
      unfold BD
      rw [nl i hi, (nx c i hc ho ha).1]
      unfold bd
      by_cases h9 : cu i = 99
      · simp [h9]
      · rw [if_neg h9]
    simp only [hd, if_true] at hadj ⊢
    have oth : ∀ c, c < C → c ≠ tCol R C e → (0 < tCol R C e → c ≠ tCol R C e - 1) → Fq R C cu x (e + 1) (4 + c) = Fq R C cu x e (4 + c) := fun c hc hne hne2 => Fq_st hG he hc (Or.inl hd) (fun i hi him => by
      rw [hadj i hi]
      simp only [Bool.or_eq_false_iff, decide_eq_false_iff_not]
      refine ⟨fun h => hne2 h.1 ?_, fun h => hne ?_⟩
      · rw [← him, h.2, mod_a (by omega)]
      · rw [← him, h.2, mod_a h.1])
    generalize tRow R C e = r at *
    generalize tCol R C e = a at *
    have aA : 0 < a → adj R C (r * C + (a - 1)) e = true := fun h => by rw [hadj _ (cell_lt hrR (by omega))]; simp [h]
    have aB : a < C → adj R C (r * C + a) e = true := fun h => by rw [hadj _ (cell_lt hrR h)]; simp [h]
    have s1 : (0 < a ∧ BD R C cu x e (r * C + (a - 1)) ∧ sideF R C cu (some q) r (pd a) (x.testBit e) false = none) ∨ ((0 < a → ¬ BD R C cu x e (r * C + (a - 1))) ∧ ∃ q1, sideF R C cu (some q) r (pd a) (x.testBit e) false = some q1 ∧ Vq q1 (mixF (0 < a) (4 + (a - 1)) (Fq R C cu x e) (Fq R C cu x (e + 1)))) := by
      by_cases h0 : a = 0
      · subst h0
        rw [side_o (by rw [show pd 0 = 99 from rfl]; omega)]
        exact Or.inr ⟨fun h => absurd h (by omega), q, rfl, hq.eq fun j _ => (mixF_ne (by omega)).symm⟩
      · have h1 : 0 < a := by omega
        have hc1 : a - 1 < C := by omega
        have hn := nx (a - 1) _ hc1 (o2 h1) (aA h1)
        rw [pd_1 h1, hbd (a - 1) _ hc1 (cell_lt hrR hc1) (o2 h1) (aA h1)]
        rcases side_v (t := x.testBit e) (last := false) hC3 hcu hq hrR hc1 with ⟨b1, b2⟩ | ⟨b1, q1, b2, b3⟩
        · exact Or.inl ⟨h1, b1, b2⟩
        · refine Or.inr ⟨fun _ => b1, q1, b2, b3.eq fun j _ => ?_⟩
          by_cases ej : j = 4 + (a - 1)
          · rw [ej, mixF_at h1, hn.2, hn.1]
            by_cases h9 : cu (r * C + (a - 1)) = 99
            · rw [if_pos h9, if_pos h9, hn.1, if_pos h9]
            · rw [if_neg h9, if_neg h9, va_up_self, if_neg h9]; rfl
          · rw [mixF_ne (fun h => ej h.2)]
            by_cases h9 : cu (r * C + (a - 1)) = 99
            · rw [if_pos h9]
            · rw [if_neg h9, va_up_ne _ _ ej]
    rcases s1 with ⟨p1, p2, p3⟩ | ⟨p1, q1, p2, p3⟩
    · rw [p3]
      exact Or.inl ⟨⟨_, cell_lt hrR (by omega), aA p1, p2⟩, rfl⟩
    · rw [p2]
      have h8 : ∀ j, j ≠ 4 + a → mixF (0 < a) (4 + (a - 1)) (Fq R C cu x e) (Fq R C cu x (e + 1)) j = Fq R C cu x (e + 1) j := fun j ej => by
        by_cases ek : 0 < a ∧ j = 4 + (a - 1)
        · rw [ek.2, mixF_at ek.1]
        · rw [mixF_ne ek]
          by_cases hj2 : 4 ≤ j ∧ j < 4 + C
          · have := oth (j - 4) (by omega) (by omega) (by omega)
            rw [show 4 + (j - 4) = j by omega] at this
            exact this.symm
          · rw [Fq_out hj2, Fq_out hj2]
      by_cases ha : a < C
      · have hn := nx a _ ha (o1 ha) (aB ha)
        have hf1 : (mixF (0 < a) (4 + (a - 1)) (Fq R C cu x e) (Fq R C cu x (e + 1))) (4 + a) = Fq R C cu x e (4 + a) := mixF_ne (by omega)
        have hb := hbd a _ ha (cell_lt hrR ha) (o1 ha) (aB ha)
        rcases side_v (t := x.testBit e) (last := false) hC3 hcu p3 hrR ha with ⟨c1, c2⟩ | ⟨c1, q2, c2, c3⟩
        · rw [hf1] at c1
          exact Or.inl ⟨⟨_, cell_lt hrR ha, aB ha, hb.mpr c1⟩, c2⟩
        · rw [hf1] at c1
          refine Or.inr ⟨fun i hi2 hia => ?_, q2, c2, c3.eq fun j hj => ?_⟩
          · rw [hadj i hi2] at hia
            simp only [Bool.or_eq_true, decide_eq_true_iff] at hia
            rcases hia with ⟨e1, e2⟩ | ⟨e1, e2⟩
            · rw [e2]; exact p1 e1
            · rw [e2, hb]; exact c1
          · by_cases ej : j = 4 + a
            · rw [ej, hn.2]
              by_cases h9 : cu (r * C + a) = 99
              · rw [if_pos h9, if_pos h9]
                exact hf1.trans (by rw [hn.1, if_pos h9])
              · rw [if_neg h9, if_neg h9, va_up_self, hf1, hn.1, if_neg h9]; rfl
            · by_cases h9 : cu (r * C + a) = 99
              · rw [if_pos h9]; exact h8 j ej
              · rw [if_neg h9, va_up_ne _ _ ej]; exact h8 j ej
      · rw [side_o (fun h => ha h.2)]
        refine Or.inr ⟨fun i hi2 hia => ?_, q1, rfl, p3.eq fun j hj => ?_⟩
        · rw [hadj i hi2] at hia
          simp only [Bool.or_eq_true, decide_eq_true_iff] at hia
          rcases hia with ⟨e1, e2⟩ | ⟨e1, e2⟩
          · rw [e2]; exact p1 e1
          · exact absurd e1 ha
        · by_cases ej : j = 4 + a
          · have h9 : ¬ (4 ≤ j ∧ j < 4 + C) := by omega
            rw [mixF_ne (by omega), Fq_out h9, Fq_out h9]
          · exact h8 j ej
/-- the judgement of the clues, for the first m edges -/
def okC (R C : Nat) (cu : Nat → Nat) (x i m : Nat) : Prop := cu i = 99 ∨ (cnt R C x i m ≤ cu i ∧ (m ≤ mCL R C i ∨ cnt R C x i m = cu i))
theorem okC_s (hG : GS R C) {x i e : Nat} (hi : i < R * C) (he : e < nE R C) : okC R C cu x i (e + 1) ↔ (okC R C cu x i e ∧ (adj R C i e = true → ¬ BD R C cu x e i)) := by
  have hE := hG.E
  have h1 := tb_cl R hG.lt5.1 C hG.lt5.2 e he i hi
  unfold okC BD bd
  rw [cnt_s (by omega)]
  by_cases h9 : cu i = 99
  · exact ⟨fun _ => ⟨Or.inl h9, fun _ h => h.1 h9⟩, fun _ => Or.inl h9⟩
  · cases ha : adj R C i e with
    | true =>
      have h2 := (h1.1 ha).2
      rw [if_pos rfl]
      generalize cnt R C x i e = n
      generalize b2 (x.testBit e) = t
      simp only [decide_eq_true_iff, h9, ne_eq, not_false_eq_true, true_and, false_or, forall_const]
      omega
    | false =>
      have h2 : e ≠ mCL R C i := fun h => by
        have h3 := h1.2.mp h
        have h4 := tb_adj R hG.lt5.1 C hG.lt5.2 e he i hi
        rw [ha, h3.1, h3.2.2] at h4
        simp [h3.2.1] at h4
      rw [if_neg (by simp)]
      simp only [Nat.add_zero, h9, false_or, Bool.false_eq_true, false_implies, and_true]
      omega
theorem clue_run (hG : GS R C) (hcu : CU R C cu) (x : Nat) : ∀ m, m ≤ nE R C →
    (rnQ R C cu x m 0 0 = none ∧ ¬ (∀ i, i < R * C → okC R C cu x i m)) ∨ ∃ q, rnQ R C cu x m 0 0 = some q ∧ (∀ i, i < R * C → okC R C cu x i m) ∧ Vq q (Fq R C cu x m)
  | 0, _ => by
    refine Or.inr ⟨0, rfl, fun i _ => Or.inr ⟨Nat.zero_le _, Or.inl (Nat.zero_le _)⟩, by decide, fun j _ => ?_⟩
    unfold Fq
    split
    · cases opc R C 0 (j - 4) with
      | none => simp [sl]
      | some i => simp [sl, cnt, sdA]
    · simp [sl]
  | m + 1, hm => by
    rw [rnQ_sn, Nat.zero_add]
    rcases clue_run hG hcu x m (by omega) with ⟨h1, h2⟩ | ⟨q, h1, h2, h3⟩
    · rw [h1]
      exact Or.inl ⟨rfl, fun h => h2 fun i hi => ((okC_s hG hi (by omega)).mp (h i hi)).1⟩
    · rw [h1]
      simp only [Option.bind_some]
      rcases clue_step hG hcu (show m < nE R C by omega) h3 with ⟨⟨i, hi, e1, e2⟩, e3⟩ | ⟨e1, q2, e2, e3⟩
      · rw [e3]
        exact Or.inl ⟨rfl, fun h => ((okC_s hG hi (by omega)).mp (h i hi)).2 e1 e2⟩
      · rw [e2]
        exact Or.inr ⟨q2, rfl, fun i hi => (okC_s hG hi (by omega)).mpr ⟨h2 i hi, e1 i hi⟩, e3⟩
end K
