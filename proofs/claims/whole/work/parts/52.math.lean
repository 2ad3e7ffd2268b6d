/-! class and model agree: the mathematics, brought together -/
def no9 : Nat → Nat := fun _ => 99
theorem cu_no (R C : Nat) : CU R C no9 := fun _ _ => Or.inl rfl
theorem side_no {R C : Nat} {x : Option Nat} {r c : Nat} {t last : Bool} : sideF R C no9 x r c t last = x := by
  cases x with
  | none => rfl
  | some s =>
    simp only [sideF]
    split
    · split
      · rw [if_pos (show no9 _ = 99 from rfl)]
      · rfl
    · rfl
theorem step_no {R C s e : Nat} {t : Bool} : stepF R C no9 s e t = pointsF R C s e t := by
  unfold stepF
  cases pointsF R C s e t with
  | none => rfl
  | some p =>
    simp only [cluesF, side_no]
    split <;> rfl
def cnP (R C : Nat) : Nat → Nat → Nat → Nat
  | 0, _, _ => 1
  | n + 1, k, p => (match pointsF R C p k false with | none => 0 | some q => cnP R C n (k + 1) q) + (match pointsF R C p k true with | none => 0 | some q => cnP R C n (k + 1) q)
theorem acc_cn {R C : Nat} : ∀ n k s, (accL R C no9 n k s).length = cnP R C n k s
  | 0, _, _ => rfl
  | n + 1, k, s => by
    simp only [accL, cnP, step_no, List.length_append]
    congr 1
    · cases pointsF R C s k false with
      | none => rfl
      | some q => exact acc_cn n (k + 1) q
    · cases pointsF R C s k true with
      | none => rfl
      | some q =>
        show ((accL R C no9 n (k + 1) q).map _).length = _
        rw [List.length_map]
        exact acc_cn n (k + 1) q
theorem cn_43 : Nat.ble (cnP 4 3 31 0 1672) 1300 = true := by decide +kernel
theorem lp_le {R C : Nat} : ∀ m, (lpA R C m).length ≤ m
  | 0 => Nat.le_refl _
  | m + 1 => by
    have := lp_le (R := R) (C := C) m
    simp only [lpA]
    split
    · rw [insS_len]; omega
    · omega
theorem kc_no {R C S : Nat} : ∀ n, kcA R C S no9 n = true
  | 0 => rfl
  | n + 1 => by
    simp only [kcA, kc_no n]
    rw [decide_eq_true (show no9 n = 99 from rfl)]; rfl
theorem lp_1300 {R C : Nat} (hG : GS R C) : (lpA R C (2 ^ (R * C) - 1)).length ≤ 1300 := by
  obtain ⟨r1, r2, c1, c2⟩ := id hG
  by_cases q : R * C < 11
  · have h1 := lp_le (R := R) (C := C) (2 ^ (R * C) - 1)
    have h2 : 2 ^ (R * C) ≤ 2 ^ 10 := Nat.pow_le_pow_right (by decide) (by omega)
    omega
  · have hr : R = 4 ∧ C = 3 := by
      have hr : R = 1 ∨ R = 2 ∨ R = 3 ∨ R = 4 := by omega
      have hc : C = 1 ∨ C = 2 ∨ C = 3 := by omega
      rcases hr with rfl | rfl | rfl | rfl <;> rcases hc with rfl | rfl | rfl <;> first | exact ⟨rfl, rfl⟩ | exact absurd (by decide) q
    obtain ⟨rfl, rfl⟩ := hr
    have h1 := sol_acc hG (cu_no 4 3)
    have h2 : sol 4 3 no9 (lpA 4 3 (2 ^ (4 * 3) - 1)) = lpA 4 3 (2 ^ (4 * 3) - 1) := by
      unfold sol
      rw [List.filter_eq_self]
      intro y _
      exact kc_no _
    rw [← h2, h1, List.length_map, acc_cn]
    exact Nat.le_of_ble_eq_true cn_43
theorem rn_app {R C : Nat} {cu : Nat → Nat} {d k s : Nat} : ∀ n, rnS R C cu d (k + n) 0 s = (rnS R C cu d k 0 s).bind fun t => rnS R C cu d n k t
  | 0 => by
    show rnS R C cu d k 0 s = (rnS R C cu d k 0 s).bind (fun t => some t)
    cases rnS R C cu d k 0 s <;> rfl
  | n + 1 => by
    rw [show k + (n + 1) = k + n + 1 by omega, rnS_sn, rn_app n, Nat.zero_add]
    cases rnS R C cu d k 0 s with
    | none => rfl
    | some t =>
      show (rnS R C cu d n k t).bind _ = rnS R C cu d (n + 1) k t
      rw [rnS_sn]
theorem acc_pow {R C : Nat} {cu : Nat → Nat} : ∀ n k s, (accL R C cu n k s).length ≤ 2 ^ n
  | 0, _, _ => Nat.le_refl _
  | n + 1, k, s => by
    simp only [accL, List.length_append]
    have h1 : ∀ f : Nat → List Nat, (∀ t, (f t).length ≤ 2 ^ n) → ∀ x : Option Nat, (oL f x).length ≤ 2 ^ n := fun f hf x => by
      cases x with
      | none => exact Nat.zero_le _
      | some t => exact hf t
    have h2 := h1 (accL R C cu n (k + 1)) (acc_pow n (k + 1)) (stepF R C cu s k false)
    have h3 := h1 (fun t => (accL R C cu n (k + 1) t).map (fun x => x + 2 ^ k)) (fun t => by rw [List.length_map]; exact acc_pow n (k + 1) t) (stepF R C cu s k true)
    rw [Nat.pow_succ]
    omega
section M
variable {R C : Nat} {cu : Nat → Nat}
theorem sol_1300 (hG : GS R C) : (sol R C cu (lpA R C (2 ^ (R * C) - 1))).length ≤ 1300 := Nat.le_trans sol_len (lp_1300 hG)
theorem xok (hG : GS R C) (hcu : CU R C cu) : XOK R C cu := by
  refine ⟨hcu, off_le hG hcu, fun k hk s hs wn => ?_⟩
  have hE := hG.E
  rw [WS_acc]
  refine Nat.lt_of_le_of_lt List.countP_le_length ?_
  by_cases q : k = 0
  · subst q
    simp only [LvS, List.mem_singleton] at hs
    subst hs
    have h1 := congrArg List.length (sol_acc hG hcu)
    rw [List.length_map] at h1
    have h2 := sol_1300 (cu := cu) hG
    rw [Nat.sub_zero]
    omega
  · exact Nat.lt_of_le_of_lt (acc_pow _ _ _) (Nat.pow_lt_pow_right (by decide) (by omega))
theorem mok (hG : GS R C) (hcu : CU R C cu) : MO R C cu := by
  refine ⟨hcu, fun k hk => ?_⟩
  rw [← lv_len hG hcu hk]
  have h1 := off_le hG hcu
  have h2 : off R C cu (k + 1) ≤ off R C cu (nE R C + 1) := off_mono (by omega)
  have h3 : off R C cu (k + 1) = off R C cu k + (LvS R C cu k).length := rfl
  omega
theorem us_pt (hG : GS R C) (hcu : CU R C cu) {k x s : Nat} (hk : k ≤ nE R C) (hx : x < 2 ^ k) (hs : rnS R C cu x k 0 1672 = some s) : 0 < WS R C cu 0 (nE R C - k) k s ↔ usf (sol R C cu (lpA R C (2 ^ (R * C) - 1))) (rv x) k = true := by
  have hE := hG.E
  have hpos : 0 < 2 ^ (31 - k) := Nat.pow_pos (by decide)
  have hxx : rv x / 2 ^ (31 - k) * 2 ^ (31 - k) = rv x := by rw [rv_top (by omega), Nat.mod_eq_of_lt hx]
  unfold usf
  rw [sol_acc hG hcu, WS_len, List.any_eq_true, List.length_pos_iff_exists_mem]
  constructor
  · intro ⟨z, hz⟩
    obtain ⟨z1, z2, z3⟩ := acc_lo hz
    have hb : ∀ j, (x ||| z).testBit j = (x.testBit j || z.testBit j) := fun j => Nat.testBit_or _ _ _
    have hxk : ∀ j, k ≤ j → x.testBit j = false := fun j hj => Nat.testBit_lt_two_pow (Nat.lt_of_lt_of_le hx (Nat.pow_le_pow_right (by decide) hj))
    have hlo : ∀ j, j < k → (x ||| z).testBit j = x.testBit j := fun j hj => by rw [hb, z1 j hj, Bool.or_false]
    refine ⟨rv (x ||| z), List.mem_map.mpr ⟨x ||| z, acc_iff.mpr ⟨Nat.lt_pow_two_of_testBit _ fun j hj => by rw [hb, hxk j (by omega), z2 j (by omega)]; rfl, ?_⟩, rfl⟩, ?_⟩
    · have h1 := rn_app (R := R) (C := C) (cu := cu) (d := x ||| z) (k := k) (s := 1672) (nE R C - k)
      rw [show k + (nE R C - k) = nE R C by omega, rnS_lo (y := x) k hlo, hs] at h1
      rw [h1]
      show (rnS R C cu (x ||| z) (nE R C - k) k s).isSome = true
      rw [rnS_eq (d2 := z) _ _ _ (fun j hj => by rw [hb, hxk j hj, Bool.false_or])]
      exact z3
    · rw [decide_eq_true_iff]
      refine Nat.eq_of_mul_eq_mul_right hpos ?_
      rw [hxx, rv_top (by omega)]
      congr 1
      exact bits_eq (Nat.mod_lt _ (Nat.pow_pos (by decide))) hx fun j hj => by rw [Nat.testBit_mod_two_pow, decide_eq_true hj, Bool.true_and]; exact hlo j hj
  · intro ⟨y, hy, h1⟩
    obtain ⟨w, hw, rfl⟩ := List.mem_map.mp hy
    obtain ⟨w1, w2⟩ := acc_iff.mp hw
    rw [decide_eq_true_iff] at h1
    have h2 : rv (w % 2 ^ k) = rv x := by rw [← rv_top (by omega), h1, hxx]
    have hk31 : (2 : Nat) ^ k ≤ 2 ^ 31 := Nat.pow_le_pow_right (by decide) (by omega)
    have h3 : w % 2 ^ k = x := rv_inj (Nat.lt_of_lt_of_le (Nat.mod_lt _ (Nat.pow_pos (by decide))) hk31) (Nat.lt_of_lt_of_le hx hk31) h2
    have h4 := rn_app (R := R) (C := C) (cu := cu) (d := w) (k := k) (s := 1672) (nE R C - k)
    rw [show k + (nE R C - k) = nE R C by omega, rnS_lo (y := x) k (fun j hj => by rw [← h3, Nat.testBit_mod_two_pow, decide_eq_true hj, Bool.true_and]), hs] at h4
    rw [h4] at w2
    have hzb : ∀ j, (2 ^ k * (w / 2 ^ k)).testBit j = (decide (k ≤ j) && w.testBit j) := fun j => by
      rw [Nat.testBit_two_pow_mul]
      by_cases q : k ≤ j
      · rw [decide_eq_true q, Bool.true_and, Bool.true_and, Nat.testBit_div_two_pow, show j - k + k = j by omega]
      · rw [decide_eq_false q, Bool.false_and, Bool.false_and]
    refine ⟨2 ^ k * (w / 2 ^ k), acc_in (fun j hj => by rw [hzb, decide_eq_false (by omega), Bool.false_and]) (fun j hj => by rw [hzb, Nat.testBit_lt_two_pow (Nat.lt_of_lt_of_le w1 (Nat.pow_le_pow_right (by decide) (by omega))), Bool.and_false]) ?_⟩
    rw [rnS_eq (d2 := w) _ _ _ (fun j hj => by rw [hzb, decide_eq_true hj, Bool.true_and])]
    exact w2
theorem us_eq (hG : GS R C) (hcu : CU R C cu) {k : Nat} (hk : k ≤ nE R C) : usA R C cu k (LvS R C cu k).length = usM R C cu (sol R C cu (lpA R C (2 ^ (R * C) - 1))) k := by
  obtain ⟨X, h1, h2, h3⟩ := rel_lv hG hcu k hk
  unfold usA usM
  rw [List.take_length, h2, List.countP_map]
  have e1 : (LvS R C cu k).countP (fun s => decide (0 < WS R C cu 0 (nE R C - k) k s)) = ((LvS R C cu k).map some).countP (fun o => match o with | none => false | some s => decide (0 < WS R C cu 0 (nE R C - k) k s)) := by
    rw [List.countP_map]; rfl
  rw [e1, ← h3, List.countP_map]
  refine List.countP_congr fun x hx => ?_
  simp only [Function.comp]
  have hs : ∃ s, rnS R C cu x k 0 1672 = some s := by
    have : rnS R C cu x k 0 1672 ∈ X.map (fun x => rnS R C cu x k 0 1672) := List.mem_map.mpr ⟨x, hx, rfl⟩
    rw [h3] at this
    obtain ⟨s, _, e⟩ := List.mem_map.mp this
    exact ⟨s, e.symm⟩
  obtain ⟨s, hs⟩ := hs
  rw [hs]
  simp only [decide_eq_true_iff]
  exact us_pt hG hcu hk (h1 x hx) hs
theorem mthC (hG : GS R C) (hcu : CU R C cu) : MthC R C (lpA R C (2 ^ (R * C) - 1)) cu := by
  have hE := hG.E
  have hsol := sol_acc hG hcu
  have hlen : WS R C cu 0 (nE R C) 0 1672 = (sol R C cu (lpA R C (2 ^ (R * C) - 1))).length := by rw [hsol, List.length_map, WS_len]
  refine ⟨xok hG hcu, mok hG hcu, hlen, fun k hk => ⟨lv_len hG hcu hk, us_eq hG hcu hk⟩, fun j y hy => ?_, fun d hd => ⟨?_, fun k hk => ?_, fun hn hm => ?_, al_all hG hcu d⟩⟩
  · have hj := (List.getElem?_eq_some_iff.mp hy).1
    have h13 := sol_1300 (cu := cu) hG
    rw [hsol, List.getElem?_map] at hy
    cases hq : (accL R C cu (nE R C) 0 1672)[j]? with
    | none => rw [hq] at hy; cases hy
    | some x =>
      rw [hq] at hy
      have hy : rv x = y := Option.some.inj hy
      have hs : solI R C cu (nI j) = x := by
        unfold solI
        rw [if_neg (nI_pos (by omega)), nI_clamp (by omega), if_pos (by omega), solA_acc _ _ _ _ _ _ hq (fun _ _ => Nat.zero_testBit _), Nat.zero_add]
      obtain ⟨x1, x2⟩ := acc_iff.mp (List.mem_of_getElem? hq)
      rw [hs]
      refine ⟨fun h0 => ?_, x1, hy⟩
      have h1 := ((run_kc hG hcu x1).mp x2).1
      rw [← al_il hG x1] at h1
      subst h0
      unfold alN at h1
      rw [decide_eq_true rfl, decide_eq_true (show rv 0 = 0 by decide)] at h1
      simp at h1
  · rw [hsol, WS_acc]
    unfold wall
    rw [List.countP_map]
    refine List.countP_congr fun x _ => ?_
    rw [cov_rv (by omega) hd]
    exact Iff.rfl
  · have h1 := (rkA_acc (R := R) (C := C) (cu := cu) (set := d) (nE R C) 0 1672 0 d (fun j hj => absurd hj (by omega)) (fun j hj => Nat.testBit_lt_two_pow (Nat.lt_of_lt_of_le hd (Nat.pow_le_pow_right (by decide) (by omega)))) (fun _ _ _ => rfl)).1 k hk
    rw [hsol, List.getElem?_map, show (accL R C cu (nE R C) 0 1672)[k]? = some d from h1.2]
    rfl
  · have h1 := (rkA_acc (R := R) (C := C) (cu := cu) (set := d) (nE R C) 0 1672 0 d (fun j hj => absurd hj (by omega)) (fun j hj => Nat.testBit_lt_two_pow (Nat.lt_of_lt_of_le hd (Nat.pow_le_pow_right (by decide) (by omega)))) (fun _ _ _ => rfl)).2 hn
    rw [hsol] at hm
    obtain ⟨x, hx, e⟩ := List.mem_map.mp hm
    obtain ⟨x1, x2⟩ := acc_iff.mp hx
    have hk31 : (2 : Nat) ^ nE R C ≤ 2 ^ 31 := Nat.pow_le_pow_right (by decide) (by omega)
    have e2 := rv_inj (Nat.lt_of_lt_of_le x1 hk31) (Nat.lt_of_lt_of_le hd hk31) e
    rw [e2, h1] at x2
    cases x2
theorem math_all (R C : Nat) (hG : GS R C) : Mth R C (lpA R C (2 ^ (R * C) - 1)) := by
  have hE := hG.E
  have h2 : 0 < 2 ^ (R * C) := Nat.pow_pos (by decide)
  have hp := lp_srt hG (2 ^ (R * C) - 1) (by omega)
  refine ⟨⟨fun x hx => lpA_lt hx, lp_1300 hG, hp.imp (fun h => Nat.le_of_lt h)⟩, hp.imp (fun h => Nat.ne_of_lt h), fun d hd => ⟨rv_lt d, pop_rv (by omega) hd, ?_⟩, fun d e _ he => ⟨rv_xor (by omega), rv_is (by omega)⟩, fun e he => rv_pow (by omega), fun cu hcu => mthC hG hcu⟩
  rw [ilA_run, run_il hG hd]
end M
