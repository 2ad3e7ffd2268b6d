/-! the levels of both go in one order -/
theorem rnS_lo {R C : Nat} {cu : Nat → Nat} {x y s : Nat} : ∀ n, (∀ j, j < n → x.testBit j = y.testBit j) → rnS R C cu x n 0 s = rnS R C cu y n 0 s
  | 0, _ => rfl
  | n + 1, h => by rw [rnS_sn, rnS_sn, rnS_lo n (fun j hj => h j (by omega)), Nat.zero_add, h n (by omega)]
theorem rv_or {x k : Nat} (hk : k < 31) (hx : x.testBit k = false) : rv (x + 2 ^ k) = rv x ||| 2 ^ (30 - k) := by
  apply Nat.eq_of_testBit_eq
  intro j
  rw [rv_bit, add_bit hx, Nat.testBit_or, rv_bit, Nat.testBit_two_pow]
  by_cases q : j < 31
  · rw [decide_eq_true q, Bool.true_and, Bool.true_and]
    congr 1
    rw [decide_eq_decide]; omega
  · rw [decide_eq_false q, Bool.false_and, Bool.false_and, Bool.false_or, decide_eq_false (by omega)]
section L
variable {R C : Nat} {cu : Nat → Nat}
def Rel (R C : Nat) (cu : Nat → Nat) (k : Nat) (A B : List Nat) : Prop := ∃ X : List Nat, (∀ x ∈ X, x < 2 ^ k) ∧ B = X.map rv ∧ X.map (fun x => rnS R C cu x k 0 1672) = A.map some
theorem rel_mem {k : Nat} {X A : List Nat} (h : X.map (fun x => rnS R C cu x k 0 1672) = A.map some) (t : Nat) : (∃ y ∈ X, rnS R C cu y k 0 1672 = some t) ↔ t ∈ A := by
  have h1 : some t ∈ X.map (fun x => rnS R C cu x k 0 1672) ↔ some t ∈ A.map some := by rw [h]
  rw [List.mem_map, List.mem_map] at h1
  constructor
  · intro ⟨y, hy, e⟩
    obtain ⟨a, ha, e2⟩ := h1.mp ⟨y, hy, e⟩
    cases e2
    exact ha
  · intro ha
    exact h1.mpr ⟨t, ha, rfl⟩
theorem rel_ins (hG : GS R C) (hcu : CU R C cu) {k x : Nat} {A B : List Nat} (hk : k ≤ nE R C) (hx : x < 2 ^ k) (h : Rel R C cu k A B) : Rel R C cu k (ins A (rnS R C cu x k 0 1672)) (offK R C cu k B (rv x)) := by
  obtain ⟨X, h1, rfl, h3⟩ := h
  unfold offK
  rw [key_al hG hcu hk hx]
  cases ho : rnS R C cu x k 0 1672 with
  | none => exact ⟨X, h1, rfl, h3⟩
  | some t =>
    have hm : trc R C (rv x) k cu ∈ (X.map rv).map (fun s => trc R C s k cu) ↔ t ∈ A := by
      rw [← rel_mem h3, List.map_map, List.mem_map]
      have hs : ∀ y ∈ X, ∃ s, rnS R C cu y k 0 1672 = some s := fun y hy => by
        have : rnS R C cu y k 0 1672 ∈ X.map (fun x => rnS R C cu x k 0 1672) := List.mem_map.mpr ⟨y, hy, rfl⟩
        rw [h3] at this
        obtain ⟨s, _, e⟩ := List.mem_map.mp this
        exact ⟨s, e.symm⟩
      constructor
      · intro ⟨y, hy, e⟩
        obtain ⟨s, e2⟩ := hs y hy
        have := (key_tr hG hcu hk (h1 y hy) hx e2 ho).mp e
        exact ⟨y, hy, by rw [e2, this]⟩
      · intro ⟨y, hy, e⟩
        exact ⟨y, hy, (key_tr hG hcu hk (h1 y hy) hx e ho).mpr rfl⟩
    simp only [Option.isSome_some, if_true, ins]
    by_cases q : t ∈ A
    · rw [if_pos q, if_pos (hm.mpr q)]
      exact ⟨X, h1, rfl, h3⟩
    · rw [if_neg q, if_neg (fun e => q (hm.mp e))]
      refine ⟨X ++ [x], fun y hy => ?_, by rw [List.map_append]; rfl, ?_⟩
      · rcases List.mem_append.mp hy with h | h
        · exact h1 y h
        · rw [List.mem_singleton.mp h]; exact hx
      · rw [List.map_append, List.map_append, h3]
        simp [ho]
theorem rel_fold (hG : GS R C) (hcu : CU R C cu) {k : Nat} (hk : k < nE R C) : ∀ (X L A B : List Nat), (∀ x ∈ X, x < 2 ^ k) → X.map (fun x => rnS R C cu x k 0 1672) = L.map some → Rel R C cu (k + 1) A B → Rel R C cu (k + 1) (exA R C cu k A L) (offL R C cu k B (X.map rv))
  | [], L, A, B, _, h2, h3 => by
    cases L with
    | nil => exact h3
    | cons s L => simp at h2
  | x :: X, L, A, B, h1, h2, h3 => by
    cases L with
    | nil => simp at h2
    | cons s L =>
      simp only [List.map_cons, List.cons.injEq] at h2
      have hx := h1 x List.mem_cons_self
      have hb := Nat.testBit_lt_two_pow hx
      have hE := hG.E
      obtain ⟨t1, t2⟩ := two_lt hx
      have e1 : rnS R C cu x (k + 1) 0 1672 = stepF R C cu s k false := by
        rw [rnS_sn, h2.1, Nat.zero_add, hb]; rfl
      have e2 : rnS R C cu (x + 2 ^ k) (k + 1) 0 1672 = stepF R C cu s k true := by
        rw [rnS_sn, rnS_lo (y := x) k (fun j hj => by rw [add_bit hb, decide_eq_false (by omega), Bool.or_false]), h2.1, Nat.zero_add, add_bit hb, decide_eq_true rfl, Bool.or_true]; rfl
      have h4 := rel_ins hG hcu (show k + 1 ≤ nE R C from hk) t2 (rel_ins hG hcu (show k + 1 ≤ nE R C from hk) t1 h3)
      rw [e1, e2, rv_or (by omega) hb] at h4
      exact rel_fold hG hcu hk X L _ _ (fun y hy => h1 y (List.mem_cons_of_mem _ hy)) h2.2 h4
theorem rel_lv (hG : GS R C) (hcu : CU R C cu) : ∀ k, k ≤ nE R C → Rel R C cu k (LvS R C cu k) (Lm R C cu k)
  | 0, _ => ⟨[0], fun x hx => by rw [List.mem_singleton.mp hx]; decide, by show [0] = [rv 0]; rw [show rv 0 = 0 by decide], rfl⟩
  | k + 1, hk => by
    obtain ⟨X, h1, h2, h3⟩ := rel_lv hG hcu k (by omega)
    simp only [LvS, Lm]
    rw [if_pos (show k < nE R C from hk), h2]
    exact rel_fold hG hcu hk X _ [] [] h1 h3 ⟨[], fun x hx => absurd hx List.not_mem_nil, rfl, rfl⟩
theorem lv_len (hG : GS R C) (hcu : CU R C cu) {k : Nat} (hk : k ≤ nE R C) : (LvS R C cu k).length = (Lm R C cu k).length := by
  obtain ⟨X, _, h2, h3⟩ := rel_lv hG hcu k hk
  have := congrArg List.length h3
  rw [List.length_map, List.length_map] at this
  rw [h2, List.length_map, this]
/-- the first k edges of a set -/
theorem rv_top {d k : Nat} (hk : k ≤ 31) : rv d / 2 ^ (31 - k) * 2 ^ (31 - k) = rv (d % 2 ^ k) := by
  apply Nat.eq_of_testBit_eq
  intro j
  rw [rv_bit, Nat.testBit_mod_two_pow, Nat.mul_comm, Nat.testBit_two_pow_mul]
  by_cases q : 31 - k ≤ j
  · rw [decide_eq_true q, Bool.true_and, Nat.testBit_div_two_pow, rv_bit, show j - (31 - k) + (31 - k) = j by omega]
    by_cases q2 : j < 31
    · rw [decide_eq_true (show 30 - j < k by omega), Bool.true_and]
    · rw [decide_eq_false q2, Bool.false_and, Bool.false_and]
  · rw [decide_eq_false q, Bool.false_and, decide_eq_false (show ¬ 30 - j < k by omega), Bool.false_and, Bool.and_false]
theorem al_eq (hG : GS R C) (hcu : CU R C cu) {d : Nat} : ∀ k, k ≤ nE R C → mAl R C (rv d) cu k = min k (alA R C cu d (nE R C) 0 1672)
  | 0, _ => by simp [mAl]
  | k + 1, hk => by
    have hE := hG.E
    have ih := al_eq hG hcu (d := d) k (by omega)
    simp only [mAl]
    rw [rv_top (by omega), key_al hG hcu hk (Nat.mod_lt _ (Nat.pow_pos (by decide))), rnS_lo (y := d) (k + 1) (fun j hj => by rw [Nat.testBit_mod_two_pow, decide_eq_true hj, Bool.true_and]), ih]
    have h1 := alA_run (R := R) (C := C) (cu := cu) (set := d) (k + 1) (nE R C) 0 1672 hk
    cases hb : (rnS R C cu d (k + 1) 0 1672).isSome with
    | true => have := h1.mp hb; rw [if_pos rfl]; omega
    | false =>
      have : ¬ 0 + (k + 1) ≤ alA R C cu d (nE R C) 0 1672 := fun e => by rw [h1.mpr e] at hb; cases hb
      rw [if_neg (by simp)]; omega
theorem al_all (hG : GS R C) (hcu : CU R C cu) (d : Nat) : alA R C cu d (nE R C) 0 1672 = mAl R C (rv d) cu (nE R C) := by
  rw [al_eq hG hcu _ (Nat.le_refl _)]
  have := alA_le (R := R) (C := C) (cu := cu) (set := d) (nE R C) 0 1672
  omega
end L
