/-! the sets that the diagram leads to the end, in their order -/
def rnS (R C : Nat) (cu : Nat → Nat) (d : Nat) : Nat → Nat → Nat → Option Nat
  | 0, _, s => some s
  | n + 1, k, s => (stepF R C cu s k (d.testBit k)).bind fun t => rnS R C cu d n (k + 1) t
def oL (f : Nat → List Nat) (x : Option Nat) : List Nat := match x with | none => [] | some t => f t
def accL (R C : Nat) (cu : Nat → Nat) : Nat → Nat → Nat → List Nat
  | 0, _, _ => [0]
  | n + 1, k, s => oL (accL R C cu n (k + 1)) (stepF R C cu s k false) ++ oL (fun t => (accL R C cu n (k + 1) t).map (fun x => x + 2 ^ k)) (stepF R C cu s k true)
theorem rnS_eq {R C : Nat} {cu : Nat → Nat} {d d2 : Nat} : ∀ (n k s : Nat), (∀ j, k ≤ j → d.testBit j = d2.testBit j) → rnS R C cu d n k s = rnS R C cu d2 n k s
  | 0, _, _, _ => rfl
  | n + 1, k, s, h => by
    simp only [rnS]
    rw [h k (Nat.le_refl _)]
    cases stepF R C cu s k (d2.testBit k) with
    | none => rfl
    | some t => exact rnS_eq n (k + 1) t (fun j hj => h j (by omega))
theorem acc_lo {R C : Nat} {cu : Nat → Nat} : ∀ {n k s x : Nat}, x ∈ accL R C cu n k s → (∀ j, j < k → x.testBit j = false) ∧ (∀ j, k + n ≤ j → x.testBit j = false) ∧ (rnS R C cu x n k s).isSome = true
  | 0, k, s, x, h => by
    simp only [accL, List.mem_singleton] at h
    subst h
    exact ⟨fun _ _ => Nat.zero_testBit _, fun _ _ => Nat.zero_testBit _, rfl⟩
  | n + 1, k, s, x, h => by
    simp only [accL, List.mem_append] at h
    rcases h with h | h
    · cases hs : stepF R C cu s k false with
      | none => rw [hs] at h; simp [oL] at h
      | some t =>
        rw [hs] at h
        obtain ⟨h1, h2, h3⟩ := acc_lo (show x ∈ accL R C cu n (k + 1) t from h)
        refine ⟨fun j hj => h1 j (by omega), fun j hj => h2 j (by omega), ?_⟩
        simp only [rnS]
        rw [h1 k (by omega), hs]
        exact h3
    · cases hs : stepF R C cu s k true with
      | none => rw [hs] at h; simp [oL] at h
      | some t =>
        rw [hs] at h
        simp only [oL, List.mem_map] at h
        obtain ⟨y, hy, rfl⟩ := h
        obtain ⟨h1, h2, h3⟩ := acc_lo hy
        have hb := add_bit (h1 k (by omega))
        refine ⟨fun j hj => ?_, fun j hj => ?_, ?_⟩
        · rw [hb, h1 j (by omega), decide_eq_false (by omega)]; rfl
        · rw [hb, h2 j (by omega), decide_eq_false (by omega)]; rfl
        · simp only [rnS]
          rw [hb k, decide_eq_true rfl, Bool.or_true, hs]
          show (rnS R C cu (y + 2 ^ k) n (k + 1) t).isSome = true
          rw [rnS_eq (d2 := y) n (k + 1) t (fun j hj => by rw [hb j, decide_eq_false (by omega), Bool.or_false])]
          exact h3
theorem acc_in {R C : Nat} {cu : Nat → Nat} : ∀ {n k s x : Nat}, (∀ j, j < k → x.testBit j = false) → (∀ j, k + n ≤ j → x.testBit j = false) → (rnS R C cu x n k s).isSome = true → x ∈ accL R C cu n k s
  | 0, k, s, x, h1, h2, _ => by
    have : x = 0 := Nat.eq_of_testBit_eq fun j => by
      rw [Nat.zero_testBit]
      rcases Nat.lt_or_ge j k with q | q
      · exact h1 j q
      · exact h2 j q
    subst this
    simp [accL]
  | n + 1, k, s, x, h1, h2, h3 => by
    simp only [rnS] at h3
    simp only [accL, List.mem_append]
    cases hb : x.testBit k with
    | false =>
      rw [hb] at h3
      cases hs : stepF R C cu s k false with
      | none => rw [hs] at h3; cases h3
      | some t =>
        rw [hs] at h3
        refine Or.inl (acc_in (fun j hj => ?_) (fun j hj => h2 j (by omega)) h3)
        by_cases q : j = k
        · rw [q]; exact hb
        · exact h1 j (by omega)
    | true =>
      rw [hb] at h3
      cases hs : stepF R C cu s k true with
      | none => rw [hs] at h3; cases h3
      | some t =>
        rw [hs] at h3
        have hy : ∀ j, (x ^^^ 2 ^ k).testBit j = (x.testBit j ^^ decide (k = j)) := fun j => by rw [Nat.testBit_xor, Nat.testBit_two_pow]
        have hyk : (x ^^^ 2 ^ k).testBit k = false := by rw [hy, hb, decide_eq_true rfl]; rfl
        refine Or.inr (List.mem_map.mpr ⟨x ^^^ 2 ^ k, acc_in (fun j hj => ?_) (fun j hj => ?_) ?_, ?_⟩)
        · by_cases q : j = k
          · rw [q]; exact hyk
          · rw [hy, h1 j (by omega), decide_eq_false (by omega)]; rfl
        · rw [hy, h2 j (by omega), decide_eq_false (by omega)]; rfl
        · rw [rnS_eq (d2 := x) n (k + 1) t (fun j hj => by rw [hy, decide_eq_false (by omega), Bool.xor_false])]
          exact h3
        · apply Nat.eq_of_testBit_eq
          intro j
          rw [add_bit hyk, hy]
          by_cases q : k = j
          · subst q; rw [hb]; simp
          · rw [decide_eq_false q, Bool.xor_false, Bool.or_false]
theorem rv_small {x k : Nat} (hk : k < 31) (h : ∀ j, j < k + 1 → x.testBit j = false) : rv x < 2 ^ (30 - k) := by
  refine Nat.lt_pow_two_of_testBit _ fun j hj => ?_
  rw [rv_bit]
  by_cases q : j < 31
  · rw [h (30 - j) (by omega), Bool.and_false]
  · rw [decide_eq_false q, Bool.false_and]
theorem acc_pw {R C : Nat} {cu : Nat → Nat} : ∀ (n k s : Nat), k + n ≤ 31 → ((accL R C cu n k s).map rv).Pairwise (· < ·)
  | 0, _, _, _ => by simp [accL]
  | n + 1, k, s, hk => by
    simp only [accL, List.map_append]
    refine List.pairwise_append.mpr ⟨?_, ?_, ?_⟩
    · cases stepF R C cu s k false with
      | none => exact List.Pairwise.nil
      | some t => exact acc_pw n (k + 1) t (by omega)
    · cases stepF R C cu s k true with
      | none => exact List.Pairwise.nil
      | some t =>
        have ih := acc_pw (R := R) (C := C) (cu := cu) n (k + 1) t (by omega)
        show (((accL R C cu n (k + 1) t).map (fun x => x + 2 ^ k)).map rv).Pairwise (· < ·)
        rw [List.map_map, List.pairwise_map]
        rw [List.pairwise_map] at ih
        refine List.Pairwise.imp_of_mem (fun {x y} hx hy hxy => ?_) ih
        show rv (x + 2 ^ k) < rv (y + 2 ^ k)
        rw [rv_add (by omega) ((acc_lo hx).1 k (by omega)), rv_add (by omega) ((acc_lo hy).1 k (by omega))]
        omega
    · intro a ha b hb
      obtain ⟨x, hx, rfl⟩ := List.mem_map.mp ha
      obtain ⟨y, hy, rfl⟩ := List.mem_map.mp hb
      have h1 : rv x < 2 ^ (30 - k) := by
        cases hs : stepF R C cu s k false with
        | none => rw [hs] at hx; simp [oL] at hx
        | some t => rw [hs] at hx; exact rv_small (by omega) (acc_lo (show x ∈ accL R C cu n (k + 1) t from hx)).1
      have h2 : 2 ^ (30 - k) ≤ rv y := by
        cases hs : stepF R C cu s k true with
        | none => rw [hs] at hy; simp [oL] at hy
        | some t =>
          rw [hs] at hy
          simp only [oL, List.mem_map] at hy
          obtain ⟨z, hz, rfl⟩ := hy
          rw [rv_add (by omega) ((acc_lo hz).1 k (by omega))]
          omega
      omega
/-- whether the wanted edges from k on are there -/
def cov (wn x : Nat) : Nat → Nat → Bool
  | 0, _ => true
  | n + 1, k => (!wn.testBit k || x.testBit k) && cov wn x n (k + 1)
theorem cov_eq {wn x y : Nat} : ∀ (n k : Nat), (∀ j, k ≤ j → x.testBit j = y.testBit j) → cov wn x n k = cov wn y n k
  | 0, _, _ => rfl
  | n + 1, k, h => by
    simp only [cov]
    rw [h k (Nat.le_refl _), cov_eq n (k + 1) (fun j hj => h j (by omega))]
theorem WS_acc {R C : Nat} {cu : Nat → Nat} (wn : Nat) : ∀ (n k s : Nat), WS R C cu wn n k s = (accL R C cu n k s).countP (fun x => cov wn x n k)
  | 0, _, _ => rfl
  | n + 1, k, s => by
    simp only [WS, accL, List.countP_append]
    congr 1
    · cases hs : stepF R C cu s k false with
      | none => simp [oW, oL]
      | some t =>
        show (if wn.testBit k = true then 0 else WS R C cu wn n (k + 1) t) = (accL R C cu n (k + 1) t).countP _
        have hc : ∀ x ∈ accL R C cu n (k + 1) t, cov wn x (n + 1) k = (!wn.testBit k && cov wn x n (k + 1)) := fun x hx => by
          simp only [cov]
          rw [(acc_lo hx).1 k (by omega), Bool.or_false]
        cases hw : wn.testBit k with
        | true =>
          rw [if_pos rfl]
          symm
          refine List.countP_eq_zero.mpr fun x hx => ?_
          rw [hc x hx, hw]; simp
        | false =>
          rw [if_neg (by decide), WS_acc wn n (k + 1) t]
          refine List.countP_congr fun x hx => ?_
          rw [hc x hx, hw]; simp
    · cases hs : stepF R C cu s k true with
      | none => rfl
      | some t =>
        show WS R C cu wn n (k + 1) t = ((accL R C cu n (k + 1) t).map (fun x => x + 2 ^ k)).countP _
        rw [WS_acc wn n (k + 1) t, List.countP_map]
        refine List.countP_congr fun x hx => ?_
        have hb := add_bit ((acc_lo hx).1 k (by omega))
        show _ ↔ cov wn (x + 2 ^ k) (n + 1) k = true
        simp only [cov]
        rw [hb k, decide_eq_true rfl, Bool.or_true, Bool.or_true, Bool.true_and, cov_eq (x := x + 2 ^ k) (y := x) n (k + 1) (fun j hj => by rw [hb j, decide_eq_false (by omega), Bool.or_false])]
theorem cov_0 {x : Nat} : ∀ (n k : Nat), cov 0 x n k = true
  | 0, _ => rfl
  | n + 1, k => by simp [cov, cov_0 n (k + 1)]
theorem WS_len {R C : Nat} {cu : Nat → Nat} (n k s : Nat) : WS R C cu 0 n k s = (accL R C cu n k s).length := by
  rw [WS_acc, List.countP_eq_length]
  exact fun x _ => cov_0 n k
theorem cov_iff {wn x : Nat} : ∀ (n k : Nat), cov wn x n k = true ↔ ∀ j, k ≤ j → j < k + n → wn.testBit j = true → x.testBit j = true
  | 0, k => ⟨fun _ j h1 h2 => absurd h1 (by omega), fun _ => rfl⟩
  | n + 1, k => by
    simp only [cov, Bool.and_eq_true, cov_iff n (k + 1)]
    constructor
    · rintro ⟨h1, h2⟩ j h3 h4 h5
      by_cases q : j = k
      · subst q
        rw [h5] at h1
        simpa using h1
      · exact h2 j (by omega) (by omega) h5
    · intro h
      refine ⟨?_, fun j h1 h2 h3 => h j (by omega) (by omega) h3⟩
      cases hw : wn.testBit k with
      | false => rfl
      | true => rw [h k (Nat.le_refl _) (by omega) hw]; rfl
/-- all wanted edges, as the model asks for them -/
theorem cov_rv {E wn x : Nat} (hE : E ≤ 31) (hw : wn < 2 ^ E) : cov wn x E 0 = decide (rv x &&& rv wn = rv wn) := by
  rw [Bool.eq_iff_iff, cov_iff, decide_eq_true_iff]
  constructor
  · intro h
    apply Nat.eq_of_testBit_eq
    intro j
    rw [Nat.testBit_and, rv_bit, rv_bit]
    by_cases q : j < 31
    · rw [decide_eq_true q, Bool.true_and, Bool.true_and]
      cases hb : wn.testBit (30 - j) with
      | false => rw [Bool.and_false]
      | true =>
        rw [Bool.and_true]
        refine h (30 - j) (by omega) ?_ hb
        refine Classical.byContradiction fun hc => ?_
        rw [Nat.testBit_lt_two_pow (Nat.lt_of_lt_of_le hw (Nat.pow_le_pow_right (by decide) (by omega)))] at hb
        cases hb
    · rw [decide_eq_false q]; rfl
  · intro h j _ hj hb
    have h1 := congrArg (fun z => z.testBit (30 - j)) h
    simp only [Nat.testBit_and] at h1
    rw [rv_bit, rv_bit, decide_eq_true (show 30 - j < 31 by omega), show 30 - (30 - j) = j by omega, hb] at h1
    simpa using h1
theorem solA_acc {R C : Nat} {cu : Nat → Nat} : ∀ (n e s left acc x : Nat), (accL R C cu n e s)[left]? = some x → (∀ j, e ≤ j → acc.testBit j = false) → solA R C cu n e s left acc = acc + x
  | 0, e, s, left, acc, x, h, _ => by
    simp only [accL] at h
    have h1 := (List.getElem?_eq_some_iff.mp h).1
    have : left = 0 := by simpa using h1
    subst this
    simp at h
    subst h
    rfl
  | n + 1, e, s, left, acc, x, h, ha => by
    simp only [accL] at h
    simp only [solA]
    have hlen : oW (WS R C cu 0 n (e + 1)) (stepF R C cu s e false) = (oL (accL R C cu n (e + 1)) (stepF R C cu s e false)).length := by
      cases stepF R C cu s e false with
      | none => rfl
      | some t => exact WS_len n (e + 1) t
    rw [hlen]
    by_cases q : left < (oL (accL R C cu n (e + 1)) (stepF R C cu s e false)).length
    · rw [if_pos q]
      rw [List.getElem?_append_left q] at h
      cases hs : stepF R C cu s e false with
      | none => rw [hs] at h; simp [oL] at h
      | some t =>
        rw [hs] at h
        exact solA_acc n (e + 1) t left acc x h (fun j hj => ha j (by omega))
    · rw [if_neg q]
      rw [List.getElem?_append_right (by omega)] at h
      cases hs : stepF R C cu s e true with
      | none => rw [hs] at h; simp [oL] at h
      | some t =>
        rw [hs] at h
        simp only [oL, List.getElem?_map] at h
        cases hy : (accL R C cu n (e + 1) t)[left - (oL (accL R C cu n (e + 1)) (stepF R C cu s e false)).length]? with
        | none =>
          unfold oL at hy
          rw [hy] at h; cases h
        | some y =>
          have hy2 := hy
          unfold oL at hy2
          rw [hy2] at h
          cases h
          have hor : acc ||| 2 ^ e = acc + 2 ^ e := by
            apply Nat.eq_of_testBit_eq
            intro j
            rw [add_bit (ha e (Nat.le_refl _)), Nat.testBit_or, Nat.testBit_two_pow]
          show solA R C cu n (e + 1) t (left - _) (acc ||| 2 ^ e) = _
          rw [hor, solA_acc n (e + 1) t _ (acc + 2 ^ e) y hy (fun j hj => by rw [add_bit (ha e (Nat.le_refl _)), ha j (by omega), decide_eq_false (by omega)]; rfl)]
          show _ = acc + (y + 2 ^ e)
          omega
theorem rkA_acc {R C : Nat} {cu : Nat → Nat} {set : Nat} : ∀ (n e s acc y : Nat), (∀ j, j < e → y.testBit j = false) → (∀ j, e + n ≤ j → y.testBit j = false) → (∀ j, e ≤ j → j < e + n → y.testBit j = set.testBit j) →
    (∀ r, rkA R C cu set n e s acc = some r → acc ≤ r ∧ (accL R C cu n e s)[r - acc]? = some y) ∧ (rkA R C cu set n e s acc = none → (rnS R C cu y n e s).isSome = false)
  | 0, e, s, acc, y, h1, h2, _ => by
    have : y = 0 := Nat.eq_of_testBit_eq fun j => by
      rw [Nat.zero_testBit]
      rcases Nat.lt_or_ge j e with q | q
      · exact h1 j q
      · exact h2 j q
    subst this
    refine ⟨fun r hr => ?_, fun h => by cases h⟩
    simp only [rkA] at hr
    cases hr
    exact ⟨Nat.le_refl _, by simp [accL]⟩
  | n + 1, e, s, acc, y, h1, h2, h3 => by
    have hbe := h3 e (Nat.le_refl _) (by omega)
    have hlen : oW (WS R C cu 0 n (e + 1)) (stepF R C cu s e false) = (oL (accL R C cu n (e + 1)) (stepF R C cu s e false)).length := by
      cases stepF R C cu s e false with
      | none => rfl
      | some t => exact WS_len n (e + 1) t
    simp only [rkA, accL, rnS]
    rw [hbe, hlen]
    cases hb : set.testBit e with
    | false =>
      rw [hb] at hbe
      cases hs : stepF R C cu s e false with
      | none => exact ⟨fun r hr => (by cases hr), fun _ => rfl⟩
      | some t =>
        have ih := rkA_acc (R := R) (C := C) (cu := cu) (set := set) n (e + 1) t acc y (fun j hj => by
          by_cases q : j = e
          · rw [q]; exact hbe
          · exact h1 j (by omega)) (fun j hj => h2 j (by omega)) (fun j hj hj2 => h3 j (by omega) (by omega))
        refine ⟨fun r hr => ?_, fun h => ih.2 h⟩
        obtain ⟨i1, i2⟩ := ih.1 r hr
        refine ⟨i1, ?_⟩
        rw [List.getElem?_append_left (show r - acc < (oL (accL R C cu n (e + 1)) (some t)).length from (List.getElem?_eq_some_iff.mp i2).1)]
        exact i2
    | true =>
      rw [hb] at hbe
      cases hs : stepF R C cu s e true with
      | none => exact ⟨fun r hr => (by cases hr), fun _ => rfl⟩
      | some t =>
        have hy : ∀ j, (y ^^^ 2 ^ e).testBit j = (y.testBit j ^^ decide (e = j)) := fun j => by rw [Nat.testBit_xor, Nat.testBit_two_pow]
        have hye : (y ^^^ 2 ^ e).testBit e = false := by rw [hy, hbe, decide_eq_true rfl]; rfl
        have hyy : (y ^^^ 2 ^ e) + 2 ^ e = y := by
          apply Nat.eq_of_testBit_eq
          intro j
          rw [add_bit hye, hy]
          by_cases q : e = j
          · subst q; rw [hbe]; simp
          · rw [decide_eq_false q, Bool.xor_false, Bool.or_false]
        have ih := rkA_acc (R := R) (C := C) (cu := cu) (set := set) n (e + 1) t (acc + (oL (accL R C cu n (e + 1)) (stepF R C cu s e false)).length) (y ^^^ 2 ^ e) (fun j hj => by
          by_cases q : j = e
          · rw [q]; exact hye
          · rw [hy, h1 j (by omega), decide_eq_false (by omega)]; rfl) (fun j hj => by rw [hy, h2 j (by omega), decide_eq_false (by omega)]; rfl)
          (fun j hj hj2 => by rw [hy, decide_eq_false (by omega), Bool.xor_false]; exact h3 j (by omega) (by omega))
        refine ⟨fun r hr => ?_, fun h => ?_⟩
        · obtain ⟨i1, i2⟩ := ih.1 r hr
          refine ⟨by omega, ?_⟩
          rw [List.getElem?_append_right (by omega)]
          show ((accL R C cu n (e + 1) t).map (fun x => x + 2 ^ e))[_]? = _
          rw [List.getElem?_map, show r - acc - (oL (accL R C cu n (e + 1)) (stepF R C cu s e false)).length = r - (acc + (oL (accL R C cu n (e + 1)) (stepF R C cu s e false)).length) by omega, i2]
          show some ((y ^^^ 2 ^ e) + 2 ^ e) = some y
          rw [hyy]
        · have h5 := ih.2 h
          rw [rnS_eq (d2 := y) n (e + 1) t (fun j hj => by rw [hy, decide_eq_false (by omega), Bool.xor_false])] at h5
          exact h5
theorem alA_ge {R C : Nat} {cu : Nat → Nat} {set : Nat} : ∀ (n e s : Nat), e ≤ alA R C cu set n e s
  | 0, e, s => Nat.le_refl _
  | n + 1, e, s => by
    simp only [alA]
    split
    · exact Nat.le_refl _
    · exact Nat.le_trans (by omega) (alA_ge n (e + 1) _)
theorem alA_le {R C : Nat} {cu : Nat → Nat} {set : Nat} : ∀ (n e s : Nat), alA R C cu set n e s ≤ e + n
  | 0, e, s => Nat.le_refl _
  | n + 1, e, s => by
    simp only [alA]
    split
    · omega
    · exact Nat.le_trans (alA_le n (e + 1) _) (by omega)
theorem alA_run {R C : Nat} {cu : Nat → Nat} {set : Nat} : ∀ (m n e s : Nat), m ≤ n → ((rnS R C cu set m e s).isSome = true ↔ e + m ≤ alA R C cu set n e s)
  | 0, n, e, s, _ => ⟨fun _ => alA_ge n e s, fun _ => rfl⟩
  | m + 1, 0, e, s, hm => absurd hm (by omega)
  | m + 1, n + 1, e, s, hm => by
    simp only [rnS, alA]
    cases hs : stepF R C cu s e (set.testBit e) with
    | none =>
      show false = true ↔ e + (m + 1) ≤ e
      exact ⟨fun h => (by cases h), fun h => absurd h (by omega)⟩
    | some t =>
      show (rnS R C cu set m (e + 1) t).isSome = true ↔ e + (m + 1) ≤ alA R C cu set n (e + 1) t
      rw [alA_run m n (e + 1) t (by omega), show e + 1 + m = e + (m + 1) by omega]
