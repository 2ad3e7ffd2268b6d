/-! the model: loops, solutions, alive beginnings -/
def cb (cells x : Nat) : Bool := x != 99 && cells.testBit x
def brA (R C cells : Nat) : Nat → Nat
  | 0 => 0
  | i + 1 => if cb cells (mOne R C i) != cb cells (mOther R C i) then brA R C cells i ||| 2 ^ (30 - i) else brA R C cells i
def bor (R C cells : Nat) : Nat := brA R C cells (nE R C)
theorem p30 (i : Nat) : 2 ^ (30 - i) < 2 ^ 31 := Nat.pow_lt_pow_right (by decide) (by omega)
theorem brA_lt (R C cells : Nat) : ∀ i, brA R C cells i < 2 ^ 31
  | 0 => by show 0 < 2 ^ 31; decide
  | i + 1 => by
    simp only [brA]
    split
    · exact Nat.or_lt_two_pow (brA_lt R C cells i) (p30 i)
    · exact brA_lt R C cells i
theorem bor_lt (R C cells : Nat) : bor R C cells < 2 ^ 31 := brA_lt R C cells _
/-- where x comes into a row: behind the last that isn't greater -/
def iK (L : List Nat) (x : Nat) : Nat → Nat
  | 0 => 0
  | k + 1 => if x < L.getD k 0 then iK L x k else k + 1
def insS (L : List Nat) (x : Nat) : List Nat := L.take (iK L x L.length) ++ x :: L.drop (iK L x L.length)
def lpA (R C : Nat) : Nat → List Nat
  | 0 => []
  | m + 1 => if ilS R C (bor R C (m + 1)) then insS (lpA R C m) (bor R C (m + 1)) else lpA R C m
/-- a row of an array holds a list -/
def Hl (L : List Nat) (n : Nat) (f : Nat → Nat) : Prop := n = L.length ∧ ∀ j y, L[j]? = some y → f j = y
theorem iK_le (L : List Nat) (x : Nat) : ∀ k, iK L x k ≤ k
  | 0 => Nat.le_refl _
  | k + 1 => by
    have := iK_le L x k
    simp only [iK]
    split <;> omega
theorem insS_len (L : List Nat) (x : Nat) : (insS L x).length = L.length + 1 := by
  have := iK_le L x L.length
  simp only [insS, List.length_append, List.length_take, List.length_cons, List.length_drop]
  omega
theorem insS_mem {L : List Nat} {x y : Nat} : y ∈ insS L x ↔ y = x ∨ y ∈ L := by
  have h : y ∈ L ↔ y ∈ L.take (iK L x L.length) ∨ y ∈ L.drop (iK L x L.length) := by rw [← List.mem_append, List.take_append_drop]
  rw [h]
  simp only [insS, List.mem_append, List.mem_cons]
  constructor
  · rintro (h | h | h)
    · exact Or.inr (Or.inl h)
    · exact Or.inl h
    · exact Or.inr (Or.inr h)
  · rintro (h | h | h)
    · exact Or.inr (Or.inl h)
    · exact Or.inl h
    · exact Or.inr (Or.inr h)
theorem lpA_lt {R C : Nat} : ∀ {m : Nat} {y : Nat}, y ∈ lpA R C m → y < 2 ^ 31
  | 0, y, h => absurd h List.not_mem_nil
  | m + 1, y, h => by
    simp only [lpA] at h
    split at h
    · rcases insS_mem.mp h with rfl | h
      · exact bor_lt _ _ _
      · exact lpA_lt h
    · exact lpA_lt h
theorem lpA_mono {R C m : Nat} : ∀ d, (lpA R C m).length ≤ (lpA R C (m + d)).length
  | 0 => Nat.le_refl _
  | d + 1 => by
    refine Nat.le_trans (lpA_mono d) ?_
    show _ ≤ (lpA R C (m + d + 1)).length
    simp only [lpA]
    split
    · rw [insS_len]; omega
    · exact Nat.le_refl _
/-- half way through the putting in: k is free -/
def InsI (L : List Nat) (x k : Nat) (f : Nat → Nat) : Prop := k ≤ L.length ∧ (∀ j y, j < k → L[j]? = some y → f j = y) ∧ (∀ j y, k ≤ j → L[j]? = some y → f (j + 1) = y) ∧ iK L x k = iK L x L.length
theorem InsI_0 {L : List Nat} {n : Nat} {f : Nat → Nat} (h : Hl L n f) (x : Nat) : InsI L x n f := by
  obtain ⟨rfl, h2⟩ := h
  refine ⟨Nat.le_refl _, fun j y _ hj => h2 j y hj, fun j y h3 hj => ?_, rfl⟩
  have := (List.getElem?_eq_some_iff.mp hj).1
  omega
theorem InsI_st {L : List Nat} {x k y : Nat} {f : Nat → Nat} (h : InsI L x k f) (h0 : 0 < k) (hy : L[k - 1]? = some y) (hx : x < y) : InsI L x (k - 1) (va_up f k (f (k - 1))) := by
  obtain ⟨h1, h2, h3, h4⟩ := h
  obtain ⟨k1, rfl⟩ : ∃ k1, k = k1 + 1 := ⟨k - 1, by omega⟩
  simp only [Nat.add_sub_cancel] at *
  refine ⟨by omega, fun j z hj hz => ?_, fun j z hj hz => ?_, ?_⟩
  · rw [va_up_ne _ _ (by omega)]
    exact h2 j z (by omega) hz
  · by_cases e : j = k1
    · subst e
      rw [va_up_self]
      exact h2 j z (by omega) hz
    · rw [va_up_ne _ _ (by omega)]
      exact h3 j z (by omega) hz
  · rw [← h4]
    simp only [iK]
    rw [if_pos (by rw [List.getD_eq_getElem?_getD, hy]; exact hx)]
theorem InsI_e {L : List Nat} {x k : Nat} {f : Nat → Nat} (h : InsI L x k f) (h0 : k = 0 ∨ ∃ y, L[k - 1]? = some y ∧ y ≤ x ∧ 0 < k) : Hl (insS L x) (L.length + 1) (va_up f k x) := by
  obtain ⟨h1, h2, h3, h4⟩ := h
  have hk : iK L x L.length = k := by
    rw [← h4]
    rcases h0 with rfl | ⟨y, hy, hx, h5⟩
    · rfl
    · obtain ⟨k1, rfl⟩ : ∃ k1, k = k1 + 1 := ⟨k - 1, by omega⟩
      simp only [Nat.add_sub_cancel] at hy
      simp only [iK]
      rw [if_neg (by rw [List.getD_eq_getElem?_getD, hy]; exact Nat.not_lt.mpr hx)]
  refine ⟨by rw [insS_len], fun j y hj => ?_⟩
  unfold insS at hj
  rw [hk] at hj
  have hl : (L.take k).length = k := by rw [List.length_take]; omega
  by_cases e1 : j < k
  · rw [List.getElem?_append_left (by omega), List.getElem?_take, if_pos e1] at hj
    rw [va_up_ne _ _ (by omega)]
    exact h2 j y e1 hj
  · rw [List.getElem?_append_right (by omega), hl] at hj
    by_cases e2 : j = k
    · subst e2
      rw [Nat.sub_self] at hj
      rw [va_up_self]
      exact (Option.some.inj hj)
    · obtain ⟨d, rfl⟩ : ∃ d, j = k + d + 1 := ⟨j - k - 1, by omega⟩
      rw [show k + d + 1 - k = d + 1 by omega, List.getElem?_cons_succ, List.getElem?_drop] at hj
      rw [va_up_ne _ _ (by omega)]
      exact h3 (k + d) y (by omega) hj
def sol (R C : Nat) (cu : Nat → Nat) (L : List Nat) : List Nat := L.filter (fun S => kc R C S cu)
theorem sol_take {R C : Nat} {cu : Nat → Nat} {L : List Nat} {i y : Nat} (h : L[i]? = some y) : sol R C cu (L.take (i + 1)) = sol R C cu (L.take i) ++ (if kc R C y cu then [y] else []) := by
  unfold sol
  rw [take_get h, List.filter_append]
  by_cases h2 : kc R C y cu = true <;> simp [h2]
theorem sol_tl {R C : Nat} {cu : Nat → Nat} {L : List Nat} (i : Nat) : (sol R C cu (L.take i)).length ≤ i := by
  refine Nat.le_trans (List.length_filter_le _ _) ?_
  rw [List.length_take]
  omega
theorem Hl_put {L : List Nat} {n y : Nat} {f : Nat → Nat} (h : Hl L n f) : Hl (L ++ [y]) (n + 1) (va_up f n y) := by
  obtain ⟨rfl, h2⟩ := h
  refine ⟨by simp, fun j z hj => ?_⟩
  by_cases e : j < L.length
  · rw [List.getElem?_append_left e] at hj
    rw [va_up_ne _ _ (by omega)]
    exact h2 j z hj
  · have h3 := (List.getElem?_eq_some_iff.mp hj).1
    rw [List.length_append, List.length_singleton] at h3
    have h4 : j = L.length := by omega
    subst h4
    simp at hj
    rw [← hj, va_up_self]
def ica (R C S : Nat) (cu : Nat → Nat) (c k : Nat) : Bool := decide (cu c = 99) || (decide (sid R C S c ≤ cu c) && (decide (k ≤ mCL R C c) || decide (sid R C S c = cu c)))
def laA (R C : Nat) (de : Nat → Nat) (k : Nat) : Nat → Bool
  | 0 => true
  | i + 1 => laA R C de k i && (decide (k ≤ mLast R C i) || !decide (de i = 1))
def caA (R C S k : Nat) (cu : Nat → Nat) : Nat → Bool
  | 0 => true
  | i + 1 => caA R C S k cu i && ica R C S cu i k
def paA (R C S : Nat) (de : Nat → Nat) : Nat → Bool × (Nat → Bool)
  | 0 => (false, no0)
  | i + 1 => if de i = 1 ∧ (paA R C S de i).2 i = false then (true, (wlk R C S i (paA R C S de i).2).2) else paA R C S de i
/-- the rest of the judgement, behind the paths -/
def rgB (R C S : Nat) (de : Nat → Nat) (q : Bool × (Nat → Bool)) : Bool :=
  if uns R C de q.2 = 99 then true else !q.1 && decide (uns R C de (wlk R C S (uns R C de q.2) q.2).2 = 99)
def alv (R C S k : Nat) (cu : Nat → Nat) : Bool :=
  thA (deg R C S) (nP R C) && !(decide (k = nE R C) && decide (S = 0)) && (laA R C (deg R C S) k (nP R C) && caA R C S k cu (R * C)) && rgB R C S (deg R C S) (paA R C S (deg R C S) (nP R C))
theorem wkA_out {R C S : Nat} (hG : GS R C) : ∀ (n p e : Nat) (se : Nat → Bool), p < nP R C → (e = 99 ∨ e < nE R C) → ∀ x, nP R C ≤ x → (wkA R C S n p e se).2 x = se x
  | 0, _, _, _, _, _, _, _ => rfl
  | n + 1, p, e, se, hp, he, x, hx => by
    simp only [wkA]
    split
    · rfl
    · rename_i h1
      have h2 := othr_lt (p := p) hG (he.resolve_left h1)
      split
      · rfl
      · rw [wkA_out hG n _ _ _ h2 (onw_lt hG h2) x hx, va_up_ne _ _ (by omega)]
theorem wlk_out {R C S p : Nat} {se : Nat → Bool} (hG : GS R C) (hp : p < nP R C) (x : Nat) (hx : nP R C ≤ x) : (wlk R C S p se).2 x = se x := by
  unfold wlk
  rw [wkA_out hG _ _ _ _ hp (onw_lt hG hp) x hx, va_up_ne _ _ (by omega)]
theorem ilX_out {R C S : Nat} (hG : GS R C) (x : Nat) (hx : nP R C ≤ x) : ilX R C S x = false := by
  unfold ilX rgF
  split
  · rfl
  · rename_i h1
    split
    · split
      · rfl
      · exact wlk_out hG ((uns_lt R C _ _).resolve_left h1) x hx
    · rfl
theorem paA_out {R C S : Nat} {de : Nat → Nat} (hG : GS R C) : ∀ i, i ≤ nP R C → ∀ x, nP R C ≤ x → (paA R C S de i).2 x = false
  | 0, _, _, _ => rfl
  | i + 1, hi, x, hx => by
    simp only [paA]
    split
    · show (wlk R C S i (paA R C S de i).2).2 x = false
      rw [wlk_out hG (by omega) x hx]
      exact paA_out hG i (by omega) x hx
    · exact paA_out hG i (by omega) x hx
theorem MJ_of {R C S : Nat} {se : Nat → Bool} (hG : GS R C) (h : ∀ x, nP R C ≤ x → se x = false) : MJ R C (deg R C S) se := fun p hp => ⟨dgA_out hG hp _ (Nat.le_refl _), h p hp⟩
set_option maxHeartbeats 4000000 in
set_option maxRecDepth 100000 in
theorem c_borderOf (l : Launch) (hfl : l.flags = flags0) (D : va_G) (cI cJ cZ : ClassId) (q : Nat → Nat) (R C : Nat) (hG : GS R C) (th : Nat) (kn me : Bool) (ns he nx dr nl : Nat) (lp cu so wi us ho nh : Nat → Nat) (ke : Nat → Int64) (ta de : Nat → Nat) (se : Nat → Bool) (cells : Nat) (hcl : cells < 2 ^ 31) : Ct l yX3_borderOf cX3_borderOf 6 (Option.some FieldType.int) ({ frames := 1, cells := 0, slots := 0, locals := 20 } : Room) D (tys3 cI cJ cZ) (tys3 cI cJ cZ) (wM cI cJ cZ q R C th kn me ns he nx dr nl lp cu so wi us ho nh ke ta de se) [.ref (q 0), .int (nI (cells))] (fun r u => r = some (.int (nI (bor R C cells))) ∧ u = wM cI cJ cZ q R C th kn me ns he nx dr nl lp cu so wi us ho nh ke ta de se) 0 0 := by
  refine Ct.of hfl (by decide) (Nat.le_of_ble_eq_true rfl) ?_
  intro k hR _
  have hR4 := hG.2.1
  have hC3 := hG.2.2.2
  have hR1 := hG.1
  have hC1 := hG.2.2.1
  have hE := hG.E
  have hRC := hG.RC
  have hE4 := hG.E4
  have hP := hG.P
  show V k l D (tys3 cI cJ cZ) ({ frames := 1, cells := 0, slots := 0, locals := 20 } : Room) cX3_borderOf 6 RX3 (wM cI cJ cZ q R C th kn me ns he nx dr nl lp cu so wi us ho nh ke ta de se) 0 0 0 [(0, .ref (q 0)), (1, .int (nI (cells)))] []
  refine j_iconst (v := nI (0)) dX3_borderOf_0 (by decide) ?_
  refine j_istore_n [(2, .int (nI (0))), (0, .ref (q 0)), (1, .int (nI (cells)))] dX3_borderOf_1 rfl (by decide) rfl ?_
  refine j_iconst (v := nI (0)) dX3_borderOf_2 (by decide) ?_
  refine j_istore_n [(3, .int (nI (0))), (2, .int (nI (0))), (0, .ref (q 0)), (1, .int (nI (cells)))] dX3_borderOf_3 rfl (by decide) rfl ?_
  refine j_lv (lv' := [(3, .int (nI (0))), (2, .int (nI (brA R C cells 0))), (0, .ref (q 0)), (1, .int (nI (cells)))]) (by rfl) ?_
  refine j_sub [2, 3, 1, 0] [(0, .ref (q 0)), (1, .int (nI (cells))), (2, .int (nI (brA R C cells 0))), (3, .int (nI (0)))] rfl ?_
  have loop4 : ∀ (n : Nat) (e : Nat), (nE R C < e + n) → (e ≤ nE R C) → V k l D (tys3 cI cJ cZ) ({ frames := 1, cells := 0, slots := 0, locals := 20 } : Room) cX3_borderOf 6 RX3 (wM cI cJ cZ q R C th kn me ns he nx dr nl lp cu so wi us ho nh ke ta de se) 0 0 4 [(0, .ref (q 0)), (1, .int (nI (cells))), (2, .int (nI (brA R C cells e))), (3, .int (nI (e)))] [] := by
    intro n
    induction n with
    | zero => intro e hm hel; exfalso; omega
    | succ n ih4 =>
      intro e hm hel
      refine j_iload_n dX3_borderOf_4 rfl 3 rfl ?_
      refine j_aload_n dX3_borderOf_5 rfl 0 rfl ?_
      refine gf_X3_93 0 rfl (rfl) dX3_borderOf_6 ?_
      refine jn_icmp_ge (tgt := 86) (a := e) (b := nE R C) (by omega) (by omega) dX3_borderOf_9 (by decide) (fun c9 => ?_) (fun c9 => ?_)
      · refine j_iload_n dX3_borderOf_86 rfl 2 rfl ?_
        exact j_iret (tys' := []) rfl hR dX3_borderOf_87 (⟨by rw [show e = nE R C by omega]; rfl, rfl⟩)
      · have ho1 := hG.one (show e < nE R C by omega)
        have ho2 := hG.oth (show e < nE R C by omega)
        have hbl := brA_lt R C cells e
        have hp30 := p30 e
        refine j_aload_n dX3_borderOf_12 rfl 0 rfl ?_
        refine gf_X3_16 0 rfl (rfl) dX3_borderOf_13 ?_
        refine j_iload_n dX3_borderOf_16 rfl 3 rfl ?_
        refine jn_iald (v := eI (mOne R C e)) 3 0 rfl rfl (by omega) (by omega) (rfl) dX3_borderOf_17 ?_
        refine je_if_ge (tgt := 25) (x := mOne R C e) (by omega) dX3_borderOf_18 (by decide) (fun c18 => ?_) (fun c18 => ?_)
        · refine j_iload_n dX3_borderOf_25 rfl 1 rfl ?_
          refine j_aload_n dX3_borderOf_26 rfl 0 rfl ?_
          refine gf_X3_16 0 rfl (rfl) dX3_borderOf_27 ?_
          refine j_iload_n dX3_borderOf_30 rfl 3 rfl ?_
          refine jn_iald (v := nI (mOne R C e)) 3 0 rfl rfl (by omega) (by omega) (eI_ne c18) dX3_borderOf_31 ?_
          refine j_ishr dX3_borderOf_32 rfl ?_
          refine j_iconst (v := nI (1)) dX3_borderOf_33 (by decide) ?_
          refine j_iand dX3_borderOf_34 rfl ?_
          refine j_topi (y := nI (if cells.testBit (mOne R C e) then 1 else 0)) (nb_bit hcl (by omega)) ?_
          refine j_topi (y := nI (if cb cells (mOne R C e) then 1 else 0)) (by rw [show (if cb cells (mOne R C e) then 1 else 0) = if cells.testBit (mOne R C e) then 1 else 0 from by simp [cb, c18]]) ?_
          refine j_istore [(4, .int (nI (if cb cells (mOne R C e) then 1 else 0))), (0, .ref (q 0)), (1, .int (nI (cells))), (2, .int (nI (brA R C cells e))), (3, .int (nI (e)))] dX3_borderOf_35 (by decide) rfl ?_
          refine j_aload_n dX3_borderOf_37 rfl 1 rfl ?_
          refine gf_X3_19 0 rfl (rfl) dX3_borderOf_38 ?_
          refine j_iload_n dX3_borderOf_41 rfl 4 rfl ?_
          refine jn_iald (v := eI (mOther R C e)) 4 0 rfl rfl (by omega) (by omega) (rfl) dX3_borderOf_42 ?_
          refine je_if_ge (tgt := 50) (x := mOther R C e) (by omega) dX3_borderOf_43 (by decide) (fun c43 => ?_) (fun c43 => ?_)
          · refine j_iload_n dX3_borderOf_50 rfl 2 rfl ?_
            refine j_aload_n dX3_borderOf_51 rfl 1 rfl ?_
            refine gf_X3_19 0 rfl (rfl) dX3_borderOf_52 ?_
            refine j_iload_n dX3_borderOf_55 rfl 4 rfl ?_
            refine jn_iald (v := nI (mOther R C e)) 4 0 rfl rfl (by omega) (by omega) (eI_ne c43) dX3_borderOf_56 ?_
            refine j_ishr dX3_borderOf_57 rfl ?_
            refine j_iconst (v := nI (1)) dX3_borderOf_58 (by decide) ?_
            refine j_iand dX3_borderOf_59 rfl ?_
            refine j_topi (y := nI (if cells.testBit (mOther R C e) then 1 else 0)) (nb_bit hcl (by omega)) ?_
            refine j_topi (y := nI (if cb cells (mOther R C e) then 1 else 0)) (by rw [show (if cb cells (mOther R C e) then 1 else 0) = if cells.testBit (mOther R C e) then 1 else 0 from by simp [cb, c43]]) ?_
            refine j_istore [(5, .int (nI (if cb cells (mOther R C e) then 1 else 0))), (4, .int (nI (if cb cells (mOne R C e) then 1 else 0))), (0, .ref (q 0)), (1, .int (nI (cells))), (2, .int (nI (brA R C cells e))), (3, .int (nI (e)))] dX3_borderOf_60 (by decide) rfl ?_
            refine j_iload dX3_borderOf_62 1 rfl ?_
            refine j_iload dX3_borderOf_64 0 rfl ?_
            refine jn_icmp_eq (tgt := 78) (a := if cb cells (mOne R C e) then 1 else 0) (b := if cb cells (mOther R C e) then 1 else 0) (by split <;> omega) (by split <;> omega) dX3_borderOf_66 (by decide) (fun c66 => ?_) (fun c66 => ?_)
            · refine j_iload_n dX3_borderOf_78 rfl 4 rfl ?_
              refine j_topi (y := nI (brA R C cells (e + 1))) (by rw [show brA R C cells (e + 1) = brA R C cells e from by simp only [brA]; revert c66; cases cb cells (mOne R C e) <;> cases cb cells (mOther R C e) <;> simp]) ?_
              refine j_istore_n [(2, .int (nI (brA R C cells (e + 1)))), (5, .int (nI (if cb cells (mOther R C e) then 1 else 0))), (4, .int (nI (if cb cells (mOne R C e) then 1 else 0))), (0, .ref (q 0)), (1, .int (nI (cells))), (3, .int (nI (e)))] dX3_borderOf_79 rfl (by decide) rfl ?_
              refine j_iinc (n0 := 5) (v := nI (e + 1)) [(3, .int (nI (e + 1))), (2, .int (nI (brA R C cells (e + 1)))), (5, .int (nI (if cb cells (mOther R C e) then 1 else 0))), (4, .int (nI (if cb cells (mOne R C e) then 1 else 0))), (0, .ref (q 0)), (1, .int (nI (cells)))] dX3_borderOf_80 rfl (by exact nI_add (e) 1) (by decide) rfl ?_
              refine j_goto (tgt := 4) dX3_borderOf_83 (by decide) ?_
              refine j_sub [4, 5, 1, 0] [(0, .ref (q 0)), (1, .int (nI (cells))), (2, .int (nI (brA R C cells (e + 1)))), (3, .int (nI (e + 1)))] rfl ?_
              exact ih4 (e + 1) (by omega) (by omega)
            · refine j_iload_n dX3_borderOf_69 rfl 4 rfl ?_
              refine j_iload_n dX3_borderOf_70 rfl 5 rfl ?_
              refine j_s0 (av := [.int (nI (e))]) (r0 := .int (nI (2 ^ (30 - e)))) (c_bit l hfl D (tys3 cI cJ cZ) (e) (by omega)) mw2_209 mw2_210 mw1_4 mw2_211 hd_X3_bit rfl ⟨rfl, rfl⟩ ⟨Nat.le_of_ble_eq_true rfl, Nat.le_of_ble_eq_true rfl⟩ ⟨Nat.zero_le _, Nat.zero_le _⟩ (Nat.le_of_ble_eq_true rfl) rfl dX3_borderOf_71 ?_
              refine j_ior dX3_borderOf_74 rfl ?_
              refine j_topi (y := nI (brA R C cells e ||| 2 ^ (30 - e))) (nb_or _ _) ?_
              refine j_goto (tgt := 79) dX3_borderOf_75 (by decide) ?_
              refine j_topi (y := nI (brA R C cells (e + 1))) (by rw [show brA R C cells (e + 1) = brA R C cells e ||| 2 ^ (30 - e) from by simp only [brA]; revert c66; cases cb cells (mOne R C e) <;> cases cb cells (mOther R C e) <;> simp]) ?_
              refine j_istore_n [(2, .int (nI (brA R C cells (e + 1)))), (5, .int (nI (if cb cells (mOther R C e) then 1 else 0))), (4, .int (nI (if cb cells (mOne R C e) then 1 else 0))), (0, .ref (q 0)), (1, .int (nI (cells))), (3, .int (nI (e)))] dX3_borderOf_79 rfl (by decide) rfl ?_
              refine j_iinc (n0 := 5) (v := nI (e + 1)) [(3, .int (nI (e + 1))), (2, .int (nI (brA R C cells (e + 1)))), (5, .int (nI (if cb cells (mOther R C e) then 1 else 0))), (4, .int (nI (if cb cells (mOne R C e) then 1 else 0))), (0, .ref (q 0)), (1, .int (nI (cells)))] dX3_borderOf_80 rfl (by exact nI_add (e) 1) (by decide) rfl ?_
              refine j_goto (tgt := 4) dX3_borderOf_83 (by decide) ?_
              refine j_sub [4, 5, 1, 0] [(0, .ref (q 0)), (1, .int (nI (cells))), (2, .int (nI (brA R C cells (e + 1)))), (3, .int (nI (e + 1)))] rfl ?_
              exact ih4 (e + 1) (by omega) (by omega)
          · refine j_iconst (v := nI (0)) dX3_borderOf_46 (by decide) ?_
            refine j_goto (tgt := 60) dX3_borderOf_47 (by decide) ?_
            refine j_topi (y := nI (if cb cells (mOther R C e) then 1 else 0)) (by rw [show (if cb cells (mOther R C e) then 1 else 0) = 0 from by simp [cb, c43]]) ?_
            refine j_istore [(5, .int (nI (if cb cells (mOther R C e) then 1 else 0))), (4, .int (nI (if cb cells (mOne R C e) then 1 else 0))), (0, .ref (q 0)), (1, .int (nI (cells))), (2, .int (nI (brA R C cells e))), (3, .int (nI (e)))] dX3_borderOf_60 (by decide) rfl ?_
            refine j_iload dX3_borderOf_62 1 rfl ?_
            refine j_iload dX3_borderOf_64 0 rfl ?_
            refine jn_icmp_eq (tgt := 78) (a := if cb cells (mOne R C e) then 1 else 0) (b := if cb cells (mOther R C e) then 1 else 0) (by split <;> omega) (by split <;> omega) dX3_borderOf_66 (by decide) (fun c66 => ?_) (fun c66 => ?_)
            · refine j_iload_n dX3_borderOf_78 rfl 4 rfl ?_
              refine j_topi (y := nI (brA R C cells (e + 1))) (by rw [show brA R C cells (e + 1) = brA R C cells e from by simp only [brA]; revert c66; cases cb cells (mOne R C e) <;> cases cb cells (mOther R C e) <;> simp]) ?_
              refine j_istore_n [(2, .int (nI (brA R C cells (e + 1)))), (5, .int (nI (if cb cells (mOther R C e) then 1 else 0))), (4, .int (nI (if cb cells (mOne R C e) then 1 else 0))), (0, .ref (q 0)), (1, .int (nI (cells))), (3, .int (nI (e)))] dX3_borderOf_79 rfl (by decide) rfl ?_
              refine j_iinc (n0 := 5) (v := nI (e + 1)) [(3, .int (nI (e + 1))), (2, .int (nI (brA R C cells (e + 1)))), (5, .int (nI (if cb cells (mOther R C e) then 1 else 0))), (4, .int (nI (if cb cells (mOne R C e) then 1 else 0))), (0, .ref (q 0)), (1, .int (nI (cells)))] dX3_borderOf_80 rfl (by exact nI_add (e) 1) (by decide) rfl ?_
              refine j_goto (tgt := 4) dX3_borderOf_83 (by decide) ?_
              refine j_sub [4, 5, 1, 0] [(0, .ref (q 0)), (1, .int (nI (cells))), (2, .int (nI (brA R C cells (e + 1)))), (3, .int (nI (e + 1)))] rfl ?_
              exact ih4 (e + 1) (by omega) (by omega)
            · refine j_iload_n dX3_borderOf_69 rfl 4 rfl ?_
              refine j_iload_n dX3_borderOf_70 rfl 5 rfl ?_
              refine j_s0 (av := [.int (nI (e))]) (r0 := .int (nI (2 ^ (30 - e)))) (c_bit l hfl D (tys3 cI cJ cZ) (e) (by omega)) mw2_209 mw2_210 mw1_4 mw2_211 hd_X3_bit rfl ⟨rfl, rfl⟩ ⟨Nat.le_of_ble_eq_true rfl, Nat.le_of_ble_eq_true rfl⟩ ⟨Nat.zero_le _, Nat.zero_le _⟩ (Nat.le_of_ble_eq_true rfl) rfl dX3_borderOf_71 ?_
              refine j_ior dX3_borderOf_74 rfl ?_
              refine j_topi (y := nI (brA R C cells e ||| 2 ^ (30 - e))) (nb_or _ _) ?_
              refine j_goto (tgt := 79) dX3_borderOf_75 (by decide) ?_
              refine j_topi (y := nI (brA R C cells (e + 1))) (by rw [show brA R C cells (e + 1) = brA R C cells e ||| 2 ^ (30 - e) from by simp only [brA]; revert c66; cases cb cells (mOne R C e) <;> cases cb cells (mOther R C e) <;> simp]) ?_
              refine j_istore_n [(2, .int (nI (brA R C cells (e + 1)))), (5, .int (nI (if cb cells (mOther R C e) then 1 else 0))), (4, .int (nI (if cb cells (mOne R C e) then 1 else 0))), (0, .ref (q 0)), (1, .int (nI (cells))), (3, .int (nI (e)))] dX3_borderOf_79 rfl (by decide) rfl ?_
              refine j_iinc (n0 := 5) (v := nI (e + 1)) [(3, .int (nI (e + 1))), (2, .int (nI (brA R C cells (e + 1)))), (5, .int (nI (if cb cells (mOther R C e) then 1 else 0))), (4, .int (nI (if cb cells (mOne R C e) then 1 else 0))), (0, .ref (q 0)), (1, .int (nI (cells)))] dX3_borderOf_80 rfl (by exact nI_add (e) 1) (by decide) rfl ?_
              refine j_goto (tgt := 4) dX3_borderOf_83 (by decide) ?_
              refine j_sub [4, 5, 1, 0] [(0, .ref (q 0)), (1, .int (nI (cells))), (2, .int (nI (brA R C cells (e + 1)))), (3, .int (nI (e + 1)))] rfl ?_
              exact ih4 (e + 1) (by omega) (by omega)
        · refine j_iconst (v := nI (0)) dX3_borderOf_21 (by decide) ?_
          refine j_goto (tgt := 35) dX3_borderOf_22 (by decide) ?_
          refine j_topi (y := nI (if cb cells (mOne R C e) then 1 else 0)) (by rw [show (if cb cells (mOne R C e) then 1 else 0) = 0 from by simp [cb, c18]]) ?_
          refine j_istore [(4, .int (nI (if cb cells (mOne R C e) then 1 else 0))), (0, .ref (q 0)), (1, .int (nI (cells))), (2, .int (nI (brA R C cells e))), (3, .int (nI (e)))] dX3_borderOf_35 (by decide) rfl ?_
          refine j_aload_n dX3_borderOf_37 rfl 1 rfl ?_
          refine gf_X3_19 0 rfl (rfl) dX3_borderOf_38 ?_
          refine j_iload_n dX3_borderOf_41 rfl 4 rfl ?_
          refine jn_iald (v := eI (mOther R C e)) 4 0 rfl rfl (by omega) (by omega) (rfl) dX3_borderOf_42 ?_
          refine je_if_ge (tgt := 50) (x := mOther R C e) (by omega) dX3_borderOf_43 (by decide) (fun c43 => ?_) (fun c43 => ?_)
          · refine j_iload_n dX3_borderOf_50 rfl 2 rfl ?_
            refine j_aload_n dX3_borderOf_51 rfl 1 rfl ?_
            refine gf_X3_19 0 rfl (rfl) dX3_borderOf_52 ?_
            refine j_iload_n dX3_borderOf_55 rfl 4 rfl ?_
            refine jn_iald (v := nI (mOther R C e)) 4 0 rfl rfl (by omega) (by omega) (eI_ne c43) dX3_borderOf_56 ?_
            refine j_ishr dX3_borderOf_57 rfl ?_
            refine j_iconst (v := nI (1)) dX3_borderOf_58 (by decide) ?_
            refine j_iand dX3_borderOf_59 rfl ?_
            refine j_topi (y := nI (if cells.testBit (mOther R C e) then 1 else 0)) (nb_bit hcl (by omega)) ?_
            refine j_topi (y := nI (if cb cells (mOther R C e) then 1 else 0)) (by rw [show (if cb cells (mOther R C e) then 1 else 0) = if cells.testBit (mOther R C e) then 1 else 0 from by simp [cb, c43]]) ?_
            refine j_istore [(5, .int (nI (if cb cells (mOther R C e) then 1 else 0))), (4, .int (nI (if cb cells (mOne R C e) then 1 else 0))), (0, .ref (q 0)), (1, .int (nI (cells))), (2, .int (nI (brA R C cells e))), (3, .int (nI (e)))] dX3_borderOf_60 (by decide) rfl ?_
            refine j_iload dX3_borderOf_62 1 rfl ?_
            refine j_iload dX3_borderOf_64 0 rfl ?_
            refine jn_icmp_eq (tgt := 78) (a := if cb cells (mOne R C e) then 1 else 0) (b := if cb cells (mOther R C e) then 1 else 0) (by split <;> omega) (by split <;> omega) dX3_borderOf_66 (by decide) (fun c66 => ?_) (fun c66 => ?_)
            · refine j_iload_n dX3_borderOf_78 rfl 4 rfl ?_
              refine j_topi (y := nI (brA R C cells (e + 1))) (by rw [show brA R C cells (e + 1) = brA R C cells e from by simp only [brA]; revert c66; cases cb cells (mOne R C e) <;> cases cb cells (mOther R C e) <;> simp]) ?_
              refine j_istore_n [(2, .int (nI (brA R C cells (e + 1)))), (5, .int (nI (if cb cells (mOther R C e) then 1 else 0))), (4, .int (nI (if cb cells (mOne R C e) then 1 else 0))), (0, .ref (q 0)), (1, .int (nI (cells))), (3, .int (nI (e)))] dX3_borderOf_79 rfl (by decide) rfl ?_
              refine j_iinc (n0 := 5) (v := nI (e + 1)) [(3, .int (nI (e + 1))), (2, .int (nI (brA R C cells (e + 1)))), (5, .int (nI (if cb cells (mOther R C e) then 1 else 0))), (4, .int (nI (if cb cells (mOne R C e) then 1 else 0))), (0, .ref (q 0)), (1, .int (nI (cells)))] dX3_borderOf_80 rfl (by exact nI_add (e) 1) (by decide) rfl ?_
              refine j_goto (tgt := 4) dX3_borderOf_83 (by decide) ?_
              refine j_sub [4, 5, 1, 0] [(0, .ref (q 0)), (1, .int (nI (cells))), (2, .int (nI (brA R C cells (e + 1)))), (3, .int (nI (e + 1)))] rfl ?_
              exact ih4 (e + 1) (by omega) (by omega)
            · refine j_iload_n dX3_borderOf_69 rfl 4 rfl ?_
              refine j_iload_n dX3_borderOf_70 rfl 5 rfl ?_
              refine j_s0 (av := [.int (nI (e))]) (r0 := .int (nI (2 ^ (30 - e)))) (c_bit l hfl D (tys3 cI cJ cZ) (e) (by omega)) mw2_209 mw2_210 mw1_4 mw2_211 hd_X3_bit rfl ⟨rfl, rfl⟩ ⟨Nat.le_of_ble_eq_true rfl, Nat.le_of_ble_eq_true rfl⟩ ⟨Nat.zero_le _, Nat.zero_le _⟩ (Nat.le_of_ble_eq_true rfl) rfl dX3_borderOf_71 ?_
              refine j_ior dX3_borderOf_74 rfl ?_
              refine j_topi (y := nI (brA R C cells e ||| 2 ^ (30 - e))) (nb_or _ _) ?_
              refine j_goto (tgt := 79) dX3_borderOf_75 (by decide) ?_
              refine j_topi (y := nI (brA R C cells (e + 1))) (by rw [show brA R C cells (e + 1) = brA R C cells e ||| 2 ^ (30 - e) from by simp only [brA]; revert c66; cases cb cells (mOne R C e) <;> cases cb cells (mOther R C e) <;> simp]) ?_
              refine j_istore_n [(2, .int (nI (brA R C cells (e + 1)))), (5, .int (nI (if cb cells (mOther R C e) then 1 else 0))), (4, .int (nI (if cb cells (mOne R C e) then 1 else 0))), (0, .ref (q 0)), (1, .int (nI (cells))), (3, .int (nI (e)))] dX3_borderOf_79 rfl (by decide) rfl ?_
              refine j_iinc (n0 := 5) (v := nI (e + 1)) [(3, .int (nI (e + 1))), (2, .int (nI (brA R C cells (e + 1)))), (5, .int (nI (if cb cells (mOther R C e) then 1 else 0))), (4, .int (nI (if cb cells (mOne R C e) then 1 else 0))), (0, .ref (q 0)), (1, .int (nI (cells)))] dX3_borderOf_80 rfl (by exact nI_add (e) 1) (by decide) rfl ?_
              refine j_goto (tgt := 4) dX3_borderOf_83 (by decide) ?_
              refine j_sub [4, 5, 1, 0] [(0, .ref (q 0)), (1, .int (nI (cells))), (2, .int (nI (brA R C cells (e + 1)))), (3, .int (nI (e + 1)))] rfl ?_
              exact ih4 (e + 1) (by omega) (by omega)
          · refine j_iconst (v := nI (0)) dX3_borderOf_46 (by decide) ?_
            refine j_goto (tgt := 60) dX3_borderOf_47 (by decide) ?_
            refine j_topi (y := nI (if cb cells (mOther R C e) then 1 else 0)) (by rw [show (if cb cells (mOther R C e) then 1 else 0) = 0 from by simp [cb, c43]]) ?_
            refine j_istore [(5, .int (nI (if cb cells (mOther R C e) then 1 else 0))), (4, .int (nI (if cb cells (mOne R C e) then 1 else 0))), (0, .ref (q 0)), (1, .int (nI (cells))), (2, .int (nI (brA R C cells e))), (3, .int (nI (e)))] dX3_borderOf_60 (by decide) rfl ?_
            refine j_iload dX3_borderOf_62 1 rfl ?_
            refine j_iload dX3_borderOf_64 0 rfl ?_
            refine jn_icmp_eq (tgt := 78) (a := if cb cells (mOne R C e) then 1 else 0) (b := if cb cells (mOther R C e) then 1 else 0) (by split <;> omega) (by split <;> omega) dX3_borderOf_66 (by decide) (fun c66 => ?_) (fun c66 => ?_)
            · refine j_iload_n dX3_borderOf_78 rfl 4 rfl ?_
              refine j_topi (y := nI (brA R C cells (e + 1))) (by rw [show brA R C cells (e + 1) = brA R C cells e from by simp only [brA]; revert c66; cases cb cells (mOne R C e) <;> cases cb cells (mOther R C e) <;> simp]) ?_
              refine j_istore_n [(2, .int (nI (brA R C cells (e + 1)))), (5, .int (nI (if cb cells (mOther R C e) then 1 else 0))), (4, .int (nI (if cb cells (mOne R C e) then 1 else 0))), (0, .ref (q 0)), (1, .int (nI (cells))), (3, .int (nI (e)))] dX3_borderOf_79 rfl (by decide) rfl ?_
              refine j_iinc (n0 := 5) (v := nI (e + 1)) [(3, .int (nI (e + 1))), (2, .int (nI (brA R C cells (e + 1)))), (5, .int (nI (if cb cells (mOther R C e) then 1 else 0))), (4, .int (nI (if cb cells (mOne R C e) then 1 else 0))), (0, .ref (q 0)), (1, .int (nI (cells)))] dX3_borderOf_80 rfl (by exact nI_add (e) 1) (by decide) rfl ?_
              refine j_goto (tgt := 4) dX3_borderOf_83 (by decide) ?_
              refine j_sub [4, 5, 1, 0] [(0, .ref (q 0)), (1, .int (nI (cells))), (2, .int (nI (brA R C cells (e + 1)))), (3, .int (nI (e + 1)))] rfl ?_
              exact ih4 (e + 1) (by omega) (by omega)
            · refine j_iload_n dX3_borderOf_69 rfl 4 rfl ?_
              refine j_iload_n dX3_borderOf_70 rfl 5 rfl ?_
              refine j_s0 (av := [.int (nI (e))]) (r0 := .int (nI (2 ^ (30 - e)))) (c_bit l hfl D (tys3 cI cJ cZ) (e) (by omega)) mw2_209 mw2_210 mw1_4 mw2_211 hd_X3_bit rfl ⟨rfl, rfl⟩ ⟨Nat.le_of_ble_eq_true rfl, Nat.le_of_ble_eq_true rfl⟩ ⟨Nat.zero_le _, Nat.zero_le _⟩ (Nat.le_of_ble_eq_true rfl) rfl dX3_borderOf_71 ?_
              refine j_ior dX3_borderOf_74 rfl ?_
              refine j_topi (y := nI (brA R C cells e ||| 2 ^ (30 - e))) (nb_or _ _) ?_
              refine j_goto (tgt := 79) dX3_borderOf_75 (by decide) ?_
              refine j_topi (y := nI (brA R C cells (e + 1))) (by rw [show brA R C cells (e + 1) = brA R C cells e ||| 2 ^ (30 - e) from by simp only [brA]; revert c66; cases cb cells (mOne R C e) <;> cases cb cells (mOther R C e) <;> simp]) ?_
              refine j_istore_n [(2, .int (nI (brA R C cells (e + 1)))), (5, .int (nI (if cb cells (mOther R C e) then 1 else 0))), (4, .int (nI (if cb cells (mOne R C e) then 1 else 0))), (0, .ref (q 0)), (1, .int (nI (cells))), (3, .int (nI (e)))] dX3_borderOf_79 rfl (by decide) rfl ?_
              refine j_iinc (n0 := 5) (v := nI (e + 1)) [(3, .int (nI (e + 1))), (2, .int (nI (brA R C cells (e + 1)))), (5, .int (nI (if cb cells (mOther R C e) then 1 else 0))), (4, .int (nI (if cb cells (mOne R C e) then 1 else 0))), (0, .ref (q 0)), (1, .int (nI (cells)))] dX3_borderOf_80 rfl (by exact nI_add (e) 1) (by decide) rfl ?_
              refine j_goto (tgt := 4) dX3_borderOf_83 (by decide) ?_
              refine j_sub [4, 5, 1, 0] [(0, .ref (q 0)), (1, .int (nI (cells))), (2, .int (nI (brA R C cells (e + 1)))), (3, .int (nI (e + 1)))] rfl ?_
              exact ih4 (e + 1) (by omega) (by omega)
  exact loop4 (nE R C + 2) 0 (by omega) (by omega)

set_option maxHeartbeats 4000000 in
set_option maxRecDepth 100000 in
theorem c_findLoops (l : Launch) (hfl : l.flags = flags0) (D : va_G) (cI cJ cZ : ClassId) (q : Nat → Nat) (R C : Nat) (hG : GS R C) (th : Nat) (kn me : Bool) (ns he nx dr nl : Nat) (lp cu so wi us ho nh : Nat → Nat) (ke : Nat → Int64) (ta de : Nat → Nat) (se : Nat → Bool) (hJ : MJ R C de se) (hcap : (lpA R C (2 ^ (R * C) - 1)).length ≤ 1300) (hnl : nl = 0) : Ct l yX3_findLoops cX3_findLoops 5 none ({ frames := 5, cells := 0, slots := 0, locals := 113 } : Room) D (tys3 cI cJ cZ) (tys3 cI cJ cZ) (wM cI cJ cZ q R C th kn me ns he nx dr 0 lp cu so wi us ho nh ke ta de se) [.ref (q 0)] (fun r u => r = none ∧ ∃ (nl2 : Nat) (lp2 de2 : Nat → Nat) (se2 : Nat → Bool), Hl (lpA R C (2 ^ (R * C) - 1)) nl2 lp2 ∧ MJ R C de2 se2 ∧ u = wM cI cJ cZ q R C th kn me ns he nx dr nl2 lp2 cu so wi us ho nh ke ta de2 se2) 0 0 := by
  refine Ct.of hfl (by decide) (Nat.le_of_ble_eq_true rfl) ?_
  intro k hR _
  have hR4 := hG.2.1
  have hC3 := hG.2.2.2
  have hR1 := hG.1
  have hC1 := hG.2.2.1
  have hE := hG.E
  have hRC := hG.RC
  have hE4 := hG.E4
  have hP := hG.P
  subst hnl
  have hp12 : 2 ^ (R * C) ≤ 2 ^ 12 := Nat.pow_le_pow_right (by decide) hRC
  have hp0 : 1 ≤ 2 ^ (R * C) := Nat.pow_pos (by decide)
  show V k l D (tys3 cI cJ cZ) ({ frames := 5, cells := 0, slots := 0, locals := 113 } : Room) cX3_findLoops 5 RX3 (wM cI cJ cZ q R C th kn me ns he nx dr 0 lp cu so wi us ho nh ke ta de se) 0 0 0 [(0, .ref (q 0))] []
  refine j_iconst (v := nI (1)) dX3_findLoops_0 (by decide) ?_
  refine j_aload_n dX3_findLoops_1 rfl 0 rfl ?_
  refine gf_X3_72 0 rfl (rfl) dX3_findLoops_2 ?_
  refine j_aload_n dX3_findLoops_5 rfl 0 rfl ?_
  refine gf_X3_76 0 rfl (rfl) dX3_findLoops_6 ?_
  refine jn_imul (v := R * C) dX3_findLoops_9 rfl ?_
  refine j_ishl dX3_findLoops_10 rfl ?_
  refine j_topi (y := nI (2 ^ (R * C))) (by rw [nb_shl (by omega) (by omega), Nat.one_mul]) ?_
  refine j_istore_n [(1, .int (nI (2 ^ (R * C)))), (0, .ref (q 0))] dX3_findLoops_11 rfl (by decide) rfl ?_
  refine j_iconst (v := nI (1)) dX3_findLoops_12 (by decide) ?_
  refine j_istore_n [(2, .int (nI (1))), (1, .int (nI (2 ^ (R * C)))), (0, .ref (q 0))] dX3_findLoops_13 rfl (by decide) rfl ?_
  refine j_lv (lv' := [(2, .int (nI (0 + 1))), (1, .int (nI (2 ^ (R * C)))), (0, .ref (q 0))]) (by rfl) ?_
  refine j_sub [2, 1, 0] [(0, .ref (q 0)), (1, .int (nI (2 ^ (R * C)))), (2, .int (nI (0 + 1)))] rfl ?_
  have loop14 : ∀ (n : Nat) (m nl1 : Nat) (lp1 : Nat → Nat) (de1 : Nat → Nat) (se1 : Nat → Bool), (2 ^ (R * C) < m + 1 + n) → (m + 1 ≤ 2 ^ (R * C)) → (Hl (lpA R C m) nl1 lp1) → (MJ R C de1 se1) → V k l D (tys3 cI cJ cZ) ({ frames := 5, cells := 0, slots := 0, locals := 113 } : Room) cX3_findLoops 5 RX3 (wM cI cJ cZ q R C th kn me ns he nx dr nl1 lp1 cu so wi us ho nh ke ta de1 se1) 0 0 14 [(0, .ref (q 0)), (1, .int (nI (2 ^ (R * C)))), (2, .int (nI (m + 1)))] [] := by
    intro n
    induction n with
    | zero => intro m nl1 lp1 de1 se1 hm hm1 hL hJ1; exfalso; omega
    | succ n ih14 =>
      intro m nl1 lp1 de1 se1 hm hm1 hL hJ1
      refine j_iload_n dX3_findLoops_14 rfl 2 rfl ?_
      refine j_iload_n dX3_findLoops_15 rfl 1 rfl ?_
      refine jn_icmp_ge (tgt := 103) (a := m + 1) (b := 2 ^ (R * C)) (by omega) (by omega) dX3_findLoops_16 (by decide) (fun c16 => ?_) (fun c16 => ?_)
      · exact j_vret (tys' := []) rfl hR dX3_findLoops_103 (⟨rfl, nl1, lp1, de1, se1, by rw [show 2 ^ (R * C) - 1 = m by omega]; exact hL, hJ1, rfl⟩)
      · refine j_aload_n dX3_findLoops_19 rfl 0 rfl ?_
        refine j_iload_n dX3_findLoops_20 rfl 2 rfl ?_
        refine j_vW (av := [.int (nI (m + 1))]) (c_borderOf l hfl D cI cJ cZ q R C hG th kn me ns he nx dr nl1 lp1 cu so wi us ho nh ke ta de1 se1 (m + 1) (by omega)) 0 rfl rfl mw2_205 mw2_207 msel13 mw1_4 mw2_208 rfl hd_X3_borderOf rfl ⟨rfl, rfl⟩ ⟨Nat.le_of_ble_eq_true rfl, Nat.le_of_ble_eq_true rfl⟩ ⟨Nat.zero_le _, Nat.zero_le _⟩ (Nat.le_of_ble_eq_true rfl) rfl dX3_findLoops_21 ?_
        rintro _ _ ⟨rfl, rfl⟩
        refine j_st (st' := [.int (nI (bor R C (m + 1)))]) rfl ?_
        refine j_istore_n [(3, .int (nI (bor R C (m + 1)))), (0, .ref (q 0)), (1, .int (nI (2 ^ (R * C)))), (2, .int (nI (m + 1)))] dX3_findLoops_24 rfl (by decide) rfl ?_
        refine j_aload_n dX3_findLoops_25 rfl 1 rfl ?_
        refine j_iload_n dX3_findLoops_26 rfl 0 rfl ?_
        refine j_vW (av := [.int (nI (bor R C (m + 1)))]) (c_isLoopSet l hfl D cI cJ cZ q R C hG th kn me ns he nx dr nl1 lp1 cu so wi us ho nh ke ta de1 se1 (hJ1) (bor R C (m + 1)) (bor_lt _ _ _)) 0 rfl rfl mw2_212 mw2_214 msel14 mw1_4 mw2_215 rfl hd_X3_isLoopSet rfl ⟨rfl, rfl⟩ ⟨Nat.le_of_ble_eq_true rfl, Nat.le_of_ble_eq_true rfl⟩ ⟨Nat.zero_le _, Nat.zero_le _⟩ (Nat.le_of_ble_eq_true rfl) rfl dX3_findLoops_27 ?_
        rintro _ _ ⟨rfl, rfl⟩
        refine j_st (st' := [.int (bI ((ilS R C (bor R C (m + 1)))))]) rfl ?_
        refine jb_if_eq (tgt := 97) (b := (ilS R C (bor R C (m + 1)))) dX3_findLoops_30 (by decide) (fun c30 => ?_) (fun c30 => ?_)
        · refine j_iinc (n0 := 3) (v := nI (m + 1 + 1)) [(2, .int (nI (m + 1 + 1))), (3, .int (nI (bor R C (m + 1)))), (0, .ref (q 0)), (1, .int (nI (2 ^ (R * C))))] dX3_findLoops_97 rfl (by exact nI_add (m + 1) 1) (by decide) rfl ?_
          refine j_goto (tgt := 14) dX3_findLoops_100 (by decide) ?_
          refine j_sub [2, 3, 0] [(0, .ref (q 0)), (1, .int (nI (2 ^ (R * C)))), (2, .int (nI (m + 1 + 1)))] rfl ?_
          have hL2 : Hl (lpA R C (m + 1)) nl1 lp1 := by simp only [lpA, c30]; exact hL
          exact ih14 (m + 1) (nl1) (lp1) (deg R C (bor R C (m + 1))) (ilX R C (bor R C (m + 1))) (by omega) (by omega) hL2 (MJ_of hG (ilX_out hG))
        · have hlen : (lpA R C m).length < 1300 := by
            have h1 := lpA_mono (R := R) (C := C) (m := m + 1) (2 ^ (R * C) - 1 - (m + 1))
            have h2 : (lpA R C (m + 1)).length = (lpA R C m).length + 1 := by simp only [lpA, c30]; exact insS_len _ _
            rw [show m + 1 + (2 ^ (R * C) - 1 - (m + 1)) = 2 ^ (R * C) - 1 by omega] at h1
            omega
          have hn1 := hL.1
          refine j_aload_n dX3_findLoops_33 rfl 1 rfl ?_
          refine gf_X3_146 0 rfl (rfl) dX3_findLoops_34 ?_
          refine j_istore [(4, .int (nI (nl1))), (3, .int (nI (bor R C (m + 1)))), (0, .ref (q 0)), (1, .int (nI (2 ^ (R * C)))), (2, .int (nI (m + 1)))] dX3_findLoops_37 (by decide) rfl ?_
          refine j_sub [2, 3, 4, 1, 0] [(0, .ref (q 0)), (1, .int (nI (2 ^ (R * C)))), (2, .int (nI (m + 1))), (3, .int (nI (bor R C (m + 1)))), (4, .int (nI (nl1)))] rfl ?_
          have loop39 : ∀ (n : Nat) (kk : Nat) (lp2 : Nat → Nat), (kk < n) → (InsI (lpA R C m) (bor R C (m + 1)) kk lp2) → V k l D (tys3 cI cJ cZ) ({ frames := 5, cells := 0, slots := 0, locals := 113 } : Room) cX3_findLoops 5 RX3 (wM cI cJ cZ q R C th kn me ns he nx dr nl1 lp2 cu so wi us ho nh ke ta (deg R C (bor R C (m + 1))) (ilX R C (bor R C (m + 1)))) 0 0 39 [(0, .ref (q 0)), (1, .int (nI (2 ^ (R * C)))), (2, .int (nI (m + 1))), (3, .int (nI (bor R C (m + 1)))), (4, .int (nI (kk)))] [] := by
            intro n
            induction n with
            | zero => intro kk lp2 hm2 hI; exfalso; omega
            | succ n ih39 =>
              intro kk lp2 hm2 hI
              refine j_iload dX3_findLoops_39 4 rfl ?_
              refine jn_if_le (tgt := 79) (a := kk) (by have := hI.1; omega) dX3_findLoops_41 (by decide) (fun c41 => ?_) (fun c41 => ?_)
              · have hkk2 := hI.1
                have hL9 : Hl (insS (lpA R C m) (bor R C (m + 1))) ((lpA R C m).length + 1) (va_up lp2 kk (bor R C (m + 1))) := InsI_e hI (Or.inl c41)
                refine j_aload_n dX3_findLoops_79 rfl 0 rfl ?_
                refine gf_X3_37 0 rfl (rfl) dX3_findLoops_80 ?_
                refine j_iload dX3_findLoops_83 4 rfl ?_
                refine j_iload_n dX3_findLoops_85 rfl 3 rfl ?_
                refine jn_iastN (wM cI cJ cZ q R C th kn me ns he nx dr nl1 (va_up lp2 kk (bor R C (m + 1))) cu so wi us ho nh ke ta (deg R C (bor R C (m + 1))) (ilX R C (bor R C (m + 1)))) 10 0 rfl rfl (by omega) (by omega) rfl dX3_findLoops_86 ?_
                refine j_aload_n dX3_findLoops_87 rfl 0 rfl ?_
                refine j_dup dX3_findLoops_88 rfl ?_
                refine gf_X3_146 0 rfl (rfl) dX3_findLoops_89 ?_
                refine j_iconst (v := nI (1)) dX3_findLoops_92 (by decide) ?_
                refine jn_iadd (v := nl1 + 1) dX3_findLoops_93 rfl ?_
                refine pf_X3_146 (wM cI cJ cZ q R C th kn me ns he nx dr (nl1 + 1) (va_up lp2 kk (bor R C (m + 1))) cu so wi us ho nh ke ta (deg R C (bor R C (m + 1))) (ilX R C (bor R C (m + 1)))) 0 rfl (Nat.le_of_ble_eq_true rfl) rfl dX3_findLoops_94 ?_
                refine j_iinc (n0 := 2) (v := nI (m + 1 + 1)) [(2, .int (nI (m + 1 + 1))), (0, .ref (q 0)), (1, .int (nI (2 ^ (R * C)))), (3, .int (nI (bor R C (m + 1)))), (4, .int (nI (kk)))] dX3_findLoops_97 rfl (by exact nI_add (m + 1) 1) (by decide) rfl ?_
                refine j_goto (tgt := 14) dX3_findLoops_100 (by decide) ?_
                refine j_sub [1, 2, 0] [(0, .ref (q 0)), (1, .int (nI (2 ^ (R * C)))), (2, .int (nI (m + 1 + 1)))] rfl ?_
                have hL2 : Hl (lpA R C (m + 1)) (nl1 + 1) (va_up lp2 kk (bor R C (m + 1))) := by simp only [lpA, c30]; rw [hL.1]; exact hL9
                exact ih14 (m + 1) (nl1 + 1) (va_up lp2 kk (bor R C (m + 1))) (deg R C (bor R C (m + 1))) (ilX R C (bor R C (m + 1))) (by omega) (by omega) hL2 (MJ_of hG (ilX_out hG))
              · have hkk := hI.1
                obtain ⟨y, hy⟩ : ∃ y, (lpA R C m)[kk - 1]? = some y := ⟨_, List.getElem?_eq_getElem (by omega)⟩
                have hfy : lp2 (kk - 1) = y := hI.2.1 (kk - 1) y (by omega) hy
                have hy31 : y < 2 ^ 31 := lpA_lt (List.mem_of_getElem? hy)
                refine j_aload_n dX3_findLoops_44 rfl 0 rfl ?_
                refine gf_X3_37 0 rfl (rfl) dX3_findLoops_45 ?_
                refine j_iload dX3_findLoops_48 4 rfl ?_
                refine j_iconst (v := nI (1)) dX3_findLoops_50 (by decide) ?_
                refine jn_isub dX3_findLoops_51 (by omega) rfl ?_
                refine jn_iald (v := nI (lp2 (kk - 1))) 10 0 rfl rfl (by omega) (by omega) (rfl) dX3_findLoops_52 ?_
                refine j_iload_n dX3_findLoops_53 rfl 3 rfl ?_
                refine jn_icmp_le (tgt := 79) (a := lp2 (kk - 1)) (b := bor R C (m + 1)) (by rw [hfy]; exact hy31) (bor_lt _ _ _) dX3_findLoops_54 (by decide) (fun c54 => ?_) (fun c54 => ?_)
                · have hkk2 := hI.1
                  have hL9 : Hl (insS (lpA R C m) (bor R C (m + 1))) ((lpA R C m).length + 1) (va_up lp2 kk (bor R C (m + 1))) := InsI_e hI (Or.inr ⟨y, hy, by rw [hfy] at c54; exact c54, by omega⟩)
                  refine j_aload_n dX3_findLoops_79 rfl 0 rfl ?_
                  refine gf_X3_37 0 rfl (rfl) dX3_findLoops_80 ?_
                  refine j_iload dX3_findLoops_83 4 rfl ?_
                  refine j_iload_n dX3_findLoops_85 rfl 3 rfl ?_
                  refine jn_iastN (wM cI cJ cZ q R C th kn me ns he nx dr nl1 (va_up lp2 kk (bor R C (m + 1))) cu so wi us ho nh ke ta (deg R C (bor R C (m + 1))) (ilX R C (bor R C (m + 1)))) 10 0 rfl rfl (by omega) (by omega) rfl dX3_findLoops_86 ?_
                  refine j_aload_n dX3_findLoops_87 rfl 0 rfl ?_
                  refine j_dup dX3_findLoops_88 rfl ?_
                  refine gf_X3_146 0 rfl (rfl) dX3_findLoops_89 ?_
                  refine j_iconst (v := nI (1)) dX3_findLoops_92 (by decide) ?_
                  refine jn_iadd (v := nl1 + 1) dX3_findLoops_93 rfl ?_
                  refine pf_X3_146 (wM cI cJ cZ q R C th kn me ns he nx dr (nl1 + 1) (va_up lp2 kk (bor R C (m + 1))) cu so wi us ho nh ke ta (deg R C (bor R C (m + 1))) (ilX R C (bor R C (m + 1)))) 0 rfl (Nat.le_of_ble_eq_true rfl) rfl dX3_findLoops_94 ?_
                  refine j_iinc (n0 := 2) (v := nI (m + 1 + 1)) [(2, .int (nI (m + 1 + 1))), (0, .ref (q 0)), (1, .int (nI (2 ^ (R * C)))), (3, .int (nI (bor R C (m + 1)))), (4, .int (nI (kk)))] dX3_findLoops_97 rfl (by exact nI_add (m + 1) 1) (by decide) rfl ?_
                  refine j_goto (tgt := 14) dX3_findLoops_100 (by decide) ?_
                  refine j_sub [1, 2, 0] [(0, .ref (q 0)), (1, .int (nI (2 ^ (R * C)))), (2, .int (nI (m + 1 + 1)))] rfl ?_
                  have hL2 : Hl (lpA R C (m + 1)) (nl1 + 1) (va_up lp2 kk (bor R C (m + 1))) := by simp only [lpA, c30]; rw [hL.1]; exact hL9
                  exact ih14 (m + 1) (nl1 + 1) (va_up lp2 kk (bor R C (m + 1))) (deg R C (bor R C (m + 1))) (ilX R C (bor R C (m + 1))) (by omega) (by omega) hL2 (MJ_of hG (ilX_out hG))
                · refine j_aload_n dX3_findLoops_57 rfl 0 rfl ?_
                  refine gf_X3_37 0 rfl (rfl) dX3_findLoops_58 ?_
                  refine j_iload dX3_findLoops_61 4 rfl ?_
                  refine j_aload_n dX3_findLoops_63 rfl 0 rfl ?_
                  refine gf_X3_37 0 rfl (rfl) dX3_findLoops_64 ?_
                  refine j_iload dX3_findLoops_67 4 rfl ?_
                  refine j_iconst (v := nI (1)) dX3_findLoops_69 (by decide) ?_
                  refine jn_isub dX3_findLoops_70 (by omega) rfl ?_
                  refine jn_iald (v := nI (lp2 (kk - 1))) 10 0 rfl rfl (by omega) (by omega) (rfl) dX3_findLoops_71 ?_
                  refine jn_iastN (wM cI cJ cZ q R C th kn me ns he nx dr nl1 (va_up lp2 kk (lp2 (kk - 1))) cu so wi us ho nh ke ta (deg R C (bor R C (m + 1))) (ilX R C (bor R C (m + 1)))) 10 0 rfl rfl (by omega) (by omega) rfl dX3_findLoops_72 ?_
                  refine j_iinc (n0 := 4) (v := nI (kk - 1)) [(4, .int (nI (kk - 1))), (0, .ref (q 0)), (1, .int (nI (2 ^ (R * C)))), (2, .int (nI (m + 1))), (3, .int (nI (bor R C (m + 1))))] dX3_findLoops_73 rfl (by obtain ⟨k1, rfl⟩ : ∃ k1, kk = k1 + 1 := ⟨kk - 1, by omega⟩; exact pk_m1 k1) (by decide) rfl ?_
                  refine j_goto (tgt := 39) dX3_findLoops_76 (by decide) ?_
                  refine j_sub [1, 2, 3, 4, 0] [(0, .ref (q 0)), (1, .int (nI (2 ^ (R * C)))), (2, .int (nI (m + 1))), (3, .int (nI (bor R C (m + 1)))), (4, .int (nI (kk - 1)))] rfl ?_
                  exact ih39 (kk - 1) (va_up lp2 kk (lp2 (kk - 1))) (by omega) (InsI_st hI (by omega) hy (by rw [hfy] at c54; exact c54))
          exact loop39 (nl1 + 1) nl1 lp1 (by omega) (InsI_0 hL _)
  exact loop14 (2 ^ (R * C) + 2) 0 0 lp de se (by omega) (by omega) ⟨rfl, fun j y h => by simp [lpA] at h⟩ hJ

set_option maxHeartbeats 4000000 in
set_option maxRecDepth 100000 in
theorem c_find (l : Launch) (hfl : l.flags = flags0) (D : va_G) (cI cJ cZ : ClassId) (q : Nat → Nat) (R C : Nat) (hG : GS R C) (th : Nat) (kn me : Bool) (ns he nx dr nl : Nat) (lp cu so wi us ho nh : Nat → Nat) (ke : Nat → Int64) (ta de : Nat → Nat) (se : Nat → Bool) (hcu : CU R C cu) (L : List Nat) (hL : Hl L nl lp) (hL31 : ∀ x ∈ L, x < 2 ^ 31) (hcap : L.length ≤ 1300) (hK : kn = true → Hl (sol R C cu L) ns so) : Ct l yX3_find cX3_find 2 none ({ frames := 3, cells := 0, slots := 0, locals := 67 } : Room) D (tys3 cI cJ cZ) (tys3 cI cJ cZ) (wM cI cJ cZ q R C th kn me ns he nx dr nl lp cu so wi us ho nh ke ta de se) [.ref (q 0)] (fun r u => r = none ∧ ∃ (ns2 : Nat) (so2 : Nat → Nat), Hl (sol R C cu L) ns2 so2 ∧ u = wM cI cJ cZ q R C th true (kn && me) ns2 he nx dr nl lp cu so2 wi us ho nh ke ta de se) 0 0 := by
  refine Ct.of hfl (by decide) (Nat.le_of_ble_eq_true rfl) ?_
  intro k hR _
  have hR4 := hG.2.1
  have hC3 := hG.2.2.2
  have hR1 := hG.1
  have hC1 := hG.2.2.1
  have hE := hG.E
  have hRC := hG.RC
  have hE4 := hG.E4
  have hP := hG.P
  have hLn := hL.1
  show V k l D (tys3 cI cJ cZ) ({ frames := 3, cells := 0, slots := 0, locals := 67 } : Room) cX3_find 2 RX3 (wM cI cJ cZ q R C th kn me ns he nx dr nl lp cu so wi us ho nh ke ta de se) 0 0 0 [(0, .ref (q 0))] []
  refine j_aload_n dX3_find_0 rfl 0 rfl ?_
  refine gf_X3_152 0 rfl (rfl) dX3_find_1 ?_
  refine jb_if_eq (tgt := 8) (b := kn) dX3_find_4 (by decide) (fun c4 => ?_) (fun c4 => ?_)
  · refine j_aload_n dX3_find_8 rfl 0 rfl ?_
    refine j_iconst (v := nI (1)) dX3_find_9 (by decide) ?_
    refine j_st (st' := [.int (bI (true)), .ref (q 0)]) (by rfl) ?_
    refine pf_X3_152 (wM cI cJ cZ q R C th true me ns he nx dr nl lp cu so wi us ho nh ke ta de se) 0 rfl (Nat.le_of_ble_eq_true rfl) (nar_bI _) (fit_bI _) rfl dX3_find_10 ?_
    refine j_aload_n dX3_find_13 rfl 0 rfl ?_
    refine j_iconst (v := nI (0)) dX3_find_14 (by decide) ?_
    refine j_st (st' := [.int (bI (false)), .ref (q 0)]) (by rfl) ?_
    refine pf_X3_156 (wM cI cJ cZ q R C th true false ns he nx dr nl lp cu so wi us ho nh ke ta de se) 0 rfl (Nat.le_of_ble_eq_true rfl) (nar_bI _) (fit_bI _) rfl dX3_find_15 ?_
    refine j_aload_n dX3_find_18 rfl 0 rfl ?_
    refine j_iconst (v := nI (0)) dX3_find_19 (by decide) ?_
    refine pf_X3_159 (wM cI cJ cZ q R C th true false 0 he nx dr nl lp cu so wi us ho nh ke ta de se) 0 rfl (Nat.le_of_ble_eq_true rfl) rfl dX3_find_20 ?_
    refine j_iconst (v := nI (0)) dX3_find_23 (by decide) ?_
    refine j_istore_n [(1, .int (nI (0))), (0, .ref (q 0))] dX3_find_24 rfl (by decide) rfl ?_
    refine j_sub [1, 0] [(0, .ref (q 0)), (1, .int (nI (0)))] rfl ?_
    have loop25 : ∀ (n : Nat) (i ns1 : Nat) (so1 : Nat → Nat), (nl < i + n) → (i ≤ nl) → (Hl (sol R C cu (L.take i)) ns1 so1) → V k l D (tys3 cI cJ cZ) ({ frames := 3, cells := 0, slots := 0, locals := 67 } : Room) cX3_find 2 RX3 (wM cI cJ cZ q R C th true false ns1 he nx dr nl lp cu so1 wi us ho nh ke ta de se) 0 0 25 [(0, .ref (q 0)), (1, .int (nI (i)))] [] := by
      intro n
      induction n with
      | zero => intro i ns1 so1 hm hi hH; exfalso; omega
      | succ n ih25 =>
        intro i ns1 so1 hm hi hH
        refine j_iload_n dX3_find_25 rfl 1 rfl ?_
        refine j_aload_n dX3_find_26 rfl 0 rfl ?_
        refine gf_X3_146 0 rfl (rfl) dX3_find_27 ?_
        refine jn_icmp_ge (tgt := 77) (a := i) (b := nl) (by omega) (by omega) dX3_find_30 (by decide) (fun c30 => ?_) (fun c30 => ?_)
        · exact j_vret (tys' := []) rfl hR dX3_find_77 (⟨rfl, ns1, so1, by have h9 : L.take i = L := List.take_of_length_le (by omega); rw [h9] at hH; exact hH, by rw [c4]; rfl⟩)
        · obtain ⟨y, hy⟩ : ∃ y, L[i]? = some y := ⟨_, List.getElem?_eq_getElem (by omega)⟩
          have hfy : lp i = y := hL.2 i y hy
          have hy31 : lp i < 2 ^ 31 := by rw [hfy]; exact hL31 y (List.mem_of_getElem? hy)
          have hs1 := hH.1
          have hs2 := sol_tl (R := R) (C := C) (cu := cu) (L := L) i
          refine j_aload_n dX3_find_33 rfl 0 rfl ?_
          refine j_aload_n dX3_find_34 rfl 0 rfl ?_
          refine gf_X3_37 0 rfl (rfl) dX3_find_35 ?_
          refine j_iload_n dX3_find_38 rfl 1 rfl ?_
          refine jn_iald (v := nI (lp i)) 10 0 rfl rfl (by omega) (by omega) (rfl) dX3_find_39 ?_
          refine j_vW (av := [.int (nI (lp i))]) (c_keepsClues l hfl D cI cJ cZ q R C hG th true false ns1 he nx dr nl lp cu so1 wi us ho nh ke ta de se hcu (lp i) (hy31)) 0 rfl rfl mw3_137 mw3_139 msel24 mw1_4 mw3_140 rfl hd_X3_keepsClues rfl ⟨rfl, rfl⟩ ⟨Nat.le_of_ble_eq_true rfl, Nat.le_of_ble_eq_true rfl⟩ ⟨Nat.zero_le _, Nat.zero_le _⟩ (Nat.le_of_ble_eq_true rfl) rfl dX3_find_40 ?_
          rintro _ _ ⟨rfl, rfl⟩
          refine j_st (st' := [.int (bI ((kc R C (lp i) cu)))]) rfl ?_
          refine jb_if_eq (tgt := 71) (b := (kc R C (lp i) cu)) dX3_find_43 (by decide) (fun c43 => ?_) (fun c43 => ?_)
          · refine j_iinc (n0 := 1) (v := nI (i + 1)) [(1, .int (nI (i + 1))), (0, .ref (q 0))] dX3_find_71 rfl (by exact nI_add (i) 1) (by decide) rfl ?_
            refine j_goto (tgt := 25) dX3_find_74 (by decide) ?_
            refine j_sub [1, 0] [(0, .ref (q 0)), (1, .int (nI (i + 1)))] rfl ?_
            have hH2 : Hl (sol R C cu (L.take (i + 1))) (ns1) (so1) := by rw [sol_take hy, ← hfy, c43]; simpa using hH
            exact ih25 (i + 1) (ns1) (so1) (by omega) (by omega) hH2
          · refine j_aload_n dX3_find_46 rfl 0 rfl ?_
            refine gf_X3_43 0 rfl (rfl) dX3_find_47 ?_
            refine j_aload_n dX3_find_50 rfl 0 rfl ?_
            refine gf_X3_159 0 rfl (rfl) dX3_find_51 ?_
            refine j_aload_n dX3_find_54 rfl 0 rfl ?_
            refine gf_X3_37 0 rfl (rfl) dX3_find_55 ?_
            refine j_iload_n dX3_find_58 rfl 1 rfl ?_
            refine jn_iald (v := nI (lp i)) 10 0 rfl rfl (by omega) (by omega) (rfl) dX3_find_59 ?_
            refine jn_iastN (wM cI cJ cZ q R C th true false ns1 he nx dr nl lp cu (va_up so1 ns1 (lp i)) wi us ho nh ke ta de se) 12 0 rfl rfl (by omega) (by omega) rfl dX3_find_60 ?_
            refine j_aload_n dX3_find_61 rfl 0 rfl ?_
            refine j_dup dX3_find_62 rfl ?_
            refine gf_X3_159 0 rfl (rfl) dX3_find_63 ?_
            refine j_iconst (v := nI (1)) dX3_find_66 (by decide) ?_
            refine jn_iadd (v := ns1 + 1) dX3_find_67 rfl ?_
            refine pf_X3_159 (wM cI cJ cZ q R C th true false (ns1 + 1) he nx dr nl lp cu (va_up so1 ns1 (lp i)) wi us ho nh ke ta de se) 0 rfl (Nat.le_of_ble_eq_true rfl) rfl dX3_find_68 ?_
            refine j_iinc (n0 := 1) (v := nI (i + 1)) [(1, .int (nI (i + 1))), (0, .ref (q 0))] dX3_find_71 rfl (by exact nI_add (i) 1) (by decide) rfl ?_
            refine j_goto (tgt := 25) dX3_find_74 (by decide) ?_
            refine j_sub [1, 0] [(0, .ref (q 0)), (1, .int (nI (i + 1)))] rfl ?_
            have hH2 : Hl (sol R C cu (L.take (i + 1))) (ns1 + 1) (va_up so1 ns1 (lp i)) := by rw [sol_take hy, ← hfy, c43]; exact Hl_put hH
            exact ih25 (i + 1) (ns1 + 1) (va_up so1 ns1 (lp i)) (by omega) (by omega) hH2
    exact loop25 (nl + 2) 0 0 so (by omega) (by omega) ⟨rfl, fun j y h => by simp [sol] at h⟩
  · exact j_vret (tys' := []) rfl hR dX3_find_7 (⟨rfl, ns, so, hK c4, by rw [c4]; cases me <;> rfl⟩)

set_option maxHeartbeats 4000000 in
set_option maxRecDepth 100000 in
theorem c_isCellAlive (l : Launch) (hfl : l.flags = flags0) (D : va_G) (cI cJ cZ : ClassId) (q : Nat → Nat) (R C : Nat) (hG : GS R C) (th : Nat) (kn me : Bool) (ns he nx dr nl : Nat) (lp cu so wi us ho nh : Nat → Nat) (ke : Nat → Int64) (ta de : Nat → Nat) (se : Nat → Bool) (hcu : CU R C cu) (S c kq : Nat) (hS : S < 2 ^ 31) (hc : c < R * C) (hk : kq < 100) : Ct l yX3_isCellAlive cX3_isCellAlive 5 (Option.some FieldType.boolean) ({ frames := 2, cells := 0, slots := 0, locals := 45 } : Room) D (tys3 cI cJ cZ) (tys3 cI cJ cZ) (wM cI cJ cZ q R C th kn me ns he nx dr nl lp cu so wi us ho nh ke ta de se) [.ref (q 0), .int (nI (S)), .int (nI (c)), .int (nI (kq))] (fun r u => r = some (.int (bI ((ica R C S cu c kq)))) ∧ u = wM cI cJ cZ q R C th kn me ns he nx dr nl lp cu so wi us ho nh ke ta de se) 0 0 := by
  refine Ct.of hfl (by decide) (Nat.le_of_ble_eq_true rfl) ?_
  intro k hR _
  have hR4 := hG.2.1
  have hC3 := hG.2.2.2
  have hR1 := hG.1
  have hC1 := hG.2.2.1
  have hE := hG.E
  have hRC := hG.RC
  have hE4 := hG.E4
  have hP := hG.P
  have hcc := hcu c hc
  have hsl := sid_lt (S := S) (c := c) hG
  have hcl := hG.cl hc
  show V k l D (tys3 cI cJ cZ) ({ frames := 2, cells := 0, slots := 0, locals := 45 } : Room) cX3_isCellAlive 5 RX3 (wM cI cJ cZ q R C th kn me ns he nx dr nl lp cu so wi us ho nh ke ta de se) 0 0 0 [(0, .ref (q 0)), (1, .int (nI (S))), (2, .int (nI (c))), (3, .int (nI (kq)))] []
  refine j_aload_n dX3_isCellAlive_0 rfl 0 rfl ?_
  refine gf_X3_40 0 rfl (rfl) dX3_isCellAlive_1 ?_
  refine j_iload_n dX3_isCellAlive_4 rfl 2 rfl ?_
  refine jn_iald (v := eI (cu c)) 11 0 rfl rfl (by omega) (by omega) (rfl) dX3_isCellAlive_5 ?_
  refine je_if_ge (tgt := 13) (x := cu c) (by omega) dX3_isCellAlive_6 (by decide) (fun c6 => ?_) (fun c6 => ?_)
  · refine j_aload_n dX3_isCellAlive_13 rfl 0 rfl ?_
    refine j_iload_n dX3_isCellAlive_14 rfl 1 rfl ?_
    refine j_iload_n dX3_isCellAlive_15 rfl 2 rfl ?_
    refine j_vW (av := [.int (nI (S)), .int (nI (c))]) (c_sides l hfl D cI cJ cZ q R C hG th kn me ns he nx dr nl lp cu so wi us ho nh ke ta de se (S) (c) (by omega) (hc)) 0 rfl rfl mw3_141 mw3_143 msel25 mw1_4 mw3_144 rfl hd_X3_sides rfl ⟨rfl, rfl⟩ ⟨Nat.le_of_ble_eq_true rfl, Nat.le_of_ble_eq_true rfl⟩ ⟨Nat.zero_le _, Nat.zero_le _⟩ (Nat.le_of_ble_eq_true rfl) rfl dX3_isCellAlive_16 ?_
    rintro _ _ ⟨rfl, rfl⟩
    refine j_st (st' := [.int (nI (sid R C S c))]) rfl ?_
    refine j_istore [(4, .int (nI (sid R C S c))), (0, .ref (q 0)), (1, .int (nI (S))), (2, .int (nI (c))), (3, .int (nI (kq)))] dX3_isCellAlive_19 (by decide) rfl ?_
    refine j_aload_n dX3_isCellAlive_21 rfl 1 rfl ?_
    refine gf_X3_40 0 rfl (rfl) dX3_isCellAlive_22 ?_
    refine j_iload_n dX3_isCellAlive_25 rfl 3 rfl ?_
    refine jn_iald (v := eI (cu c)) 11 0 rfl rfl (by omega) (by omega) (rfl) dX3_isCellAlive_26 ?_
    refine je_if_lt (tgt := 62) (x := cu c) (by omega) dX3_isCellAlive_27 (by decide) (fun c27 => ?_) (fun c27 => ?_)
    · refine j_iconst (v := nI (1)) dX3_isCellAlive_62 (by decide) ?_
      refine j_goto (tgt := 67) dX3_isCellAlive_63 (by decide) ?_
      refine j_st (st' := [.int (bI (true))]) (by rfl) ?_
      exact j_zretB (tys' := []) rfl hR dX3_isCellAlive_67 (⟨by rw [show ica R C S cu c kq = true from by first | exact absurd c6 c27 | exact absurd c27 c6 | (simp [ica, c6]; done) | (simp [ica, c6, c38, c48]; done) | (simp [ica, c6, c38, c59]; done) | (simp [ica, c6, Nat.not_le.mpr c38]; done) | (simp [ica, c6, c38, Nat.not_le.mpr c48, c59]; done)], rfl⟩)
    · refine j_iload dX3_isCellAlive_30 0 rfl ?_
      refine j_aload_n dX3_isCellAlive_32 rfl 1 rfl ?_
      refine gf_X3_40 0 rfl (rfl) dX3_isCellAlive_33 ?_
      refine j_iload_n dX3_isCellAlive_36 rfl 3 rfl ?_
      refine jn_iald (v := nI (cu c)) 11 0 rfl rfl (by omega) (by omega) (eI_ne (by first | exact c27 | exact c6)) dX3_isCellAlive_37 ?_
      refine jn_icmp_gt (tgt := 66) (a := sid R C S c) (b := cu c) (by omega) (by omega) dX3_isCellAlive_38 (by decide) (fun c38 => ?_) (fun c38 => ?_)
      · refine j_iconst (v := nI (0)) dX3_isCellAlive_66 (by decide) ?_
        refine j_st (st' := [.int (bI (false))]) (by rfl) ?_
        exact j_zretB (tys' := []) rfl hR dX3_isCellAlive_67 (⟨by rw [show ica R C S cu c kq = false from by first | exact absurd c6 c27 | exact absurd c27 c6 | (simp [ica, c6]; done) | (simp [ica, c6, c38, c48]; done) | (simp [ica, c6, c38, c59]; done) | (simp [ica, c6, Nat.not_le.mpr c38]; done) | (simp [ica, c6, c38, Nat.not_le.mpr c48, c59]; done)], rfl⟩)
      · refine j_aload_n dX3_isCellAlive_41 rfl 1 rfl ?_
        refine gf_X3_34 0 rfl (rfl) dX3_isCellAlive_42 ?_
        refine j_iload_n dX3_isCellAlive_45 rfl 3 rfl ?_
        refine jn_iald (v := nI (mCL R C c)) 9 0 rfl rfl (by omega) (by omega) (rfl) dX3_isCellAlive_46 ?_
        refine j_iload_n dX3_isCellAlive_47 rfl 4 rfl ?_
        refine jn_icmp_ge (tgt := 62) (a := mCL R C c) (b := kq) (by omega) (by omega) dX3_isCellAlive_48 (by decide) (fun c48 => ?_) (fun c48 => ?_)
        · refine j_iconst (v := nI (1)) dX3_isCellAlive_62 (by decide) ?_
          refine j_goto (tgt := 67) dX3_isCellAlive_63 (by decide) ?_
          refine j_st (st' := [.int (bI (true))]) (by rfl) ?_
          exact j_zretB (tys' := []) rfl hR dX3_isCellAlive_67 (⟨by rw [show ica R C S cu c kq = true from by first | exact absurd c6 c27 | exact absurd c27 c6 | (simp [ica, c6]; done) | (simp [ica, c6, c38, c48]; done) | (simp [ica, c6, c38, c59]; done) | (simp [ica, c6, Nat.not_le.mpr c38]; done) | (simp [ica, c6, c38, Nat.not_le.mpr c48, c59]; done)], rfl⟩)
        · refine j_iload dX3_isCellAlive_51 0 rfl ?_
          refine j_aload_n dX3_isCellAlive_53 rfl 1 rfl ?_
          refine gf_X3_40 0 rfl (rfl) dX3_isCellAlive_54 ?_
          refine j_iload_n dX3_isCellAlive_57 rfl 3 rfl ?_
          refine jn_iald (v := nI (cu c)) 11 0 rfl rfl (by omega) (by omega) (eI_ne c27) dX3_isCellAlive_58 ?_
          refine jn_icmp_ne (tgt := 66) (a := sid R C S c) (b := cu c) (by omega) (by omega) dX3_isCellAlive_59 (by decide) (fun c59 => ?_) (fun c59 => ?_)
          · refine j_iconst (v := nI (0)) dX3_isCellAlive_66 (by decide) ?_
            refine j_st (st' := [.int (bI (false))]) (by rfl) ?_
            exact j_zretB (tys' := []) rfl hR dX3_isCellAlive_67 (⟨by rw [show ica R C S cu c kq = false from by first | exact absurd c6 c27 | exact absurd c27 c6 | (simp [ica, c6]; done) | (simp [ica, c6, c38, c48]; done) | (simp [ica, c6, c38, c59]; done) | (simp [ica, c6, Nat.not_le.mpr c38]; done) | (simp [ica, c6, c38, Nat.not_le.mpr c48, c59]; done)], rfl⟩)
          · refine j_iconst (v := nI (1)) dX3_isCellAlive_62 (by decide) ?_
            refine j_goto (tgt := 67) dX3_isCellAlive_63 (by decide) ?_
            refine j_st (st' := [.int (bI (true))]) (by rfl) ?_
            exact j_zretB (tys' := []) rfl hR dX3_isCellAlive_67 (⟨by rw [show ica R C S cu c kq = true from by first | exact absurd c6 c27 | exact absurd c27 c6 | (simp [ica, c6]; done) | (simp [ica, c6, c38, c48]; done) | (simp [ica, c6, c38, c59]; done) | (simp [ica, c6, Nat.not_le.mpr c38]; done) | (simp [ica, c6, c38, Nat.not_le.mpr c48, c59]; done)], rfl⟩)
  · refine j_iconst (v := nI (0)) dX3_isCellAlive_9 (by decide) ?_
    refine j_goto (tgt := 19) dX3_isCellAlive_10 (by decide) ?_
    refine j_istore [(4, .int (nI (0))), (0, .ref (q 0)), (1, .int (nI (S))), (2, .int (nI (c))), (3, .int (nI (kq)))] dX3_isCellAlive_19 (by decide) rfl ?_
    refine j_aload_n dX3_isCellAlive_21 rfl 1 rfl ?_
    refine gf_X3_40 0 rfl (rfl) dX3_isCellAlive_22 ?_
    refine j_iload_n dX3_isCellAlive_25 rfl 3 rfl ?_
    refine jn_iald (v := eI (cu c)) 11 0 rfl rfl (by omega) (by omega) (rfl) dX3_isCellAlive_26 ?_
    refine je_if_lt (tgt := 62) (x := cu c) (by omega) dX3_isCellAlive_27 (by decide) (fun c27 => ?_) (fun c27 => ?_)
    · refine j_iconst (v := nI (1)) dX3_isCellAlive_62 (by decide) ?_
      refine j_goto (tgt := 67) dX3_isCellAlive_63 (by decide) ?_
      refine j_st (st' := [.int (bI (true))]) (by rfl) ?_
      exact j_zretB (tys' := []) rfl hR dX3_isCellAlive_67 (⟨by rw [show ica R C S cu c kq = true from by first | exact absurd c6 c27 | exact absurd c27 c6 | (simp [ica, c6]; done) | (simp [ica, c6, c38, c48]; done) | (simp [ica, c6, c38, c59]; done) | (simp [ica, c6, Nat.not_le.mpr c38]; done) | (simp [ica, c6, c38, Nat.not_le.mpr c48, c59]; done)], rfl⟩)
    · refine j_iload dX3_isCellAlive_30 0 rfl ?_
      refine j_aload_n dX3_isCellAlive_32 rfl 1 rfl ?_
      refine gf_X3_40 0 rfl (rfl) dX3_isCellAlive_33 ?_
      refine j_iload_n dX3_isCellAlive_36 rfl 3 rfl ?_
      refine jn_iald (v := nI (cu c)) 11 0 rfl rfl (by omega) (by omega) (eI_ne (by first | exact c27 | exact c6)) dX3_isCellAlive_37 ?_
      refine jn_icmp_gt (tgt := 66) (a := 0) (b := cu c) (by omega) (by omega) dX3_isCellAlive_38 (by decide) (fun c38 => ?_) (fun c38 => ?_)
      · refine j_iconst (v := nI (0)) dX3_isCellAlive_66 (by decide) ?_
        refine j_st (st' := [.int (bI (false))]) (by rfl) ?_
        exact j_zretB (tys' := []) rfl hR dX3_isCellAlive_67 (⟨by rw [show ica R C S cu c kq = false from by first | exact absurd c6 c27 | exact absurd c27 c6 | (simp [ica, c6]; done) | (simp [ica, c6, c38, c48]; done) | (simp [ica, c6, c38, c59]; done) | (simp [ica, c6, Nat.not_le.mpr c38]; done) | (simp [ica, c6, c38, Nat.not_le.mpr c48, c59]; done)], rfl⟩)
      · refine j_aload_n dX3_isCellAlive_41 rfl 1 rfl ?_
        refine gf_X3_34 0 rfl (rfl) dX3_isCellAlive_42 ?_
        refine j_iload_n dX3_isCellAlive_45 rfl 3 rfl ?_
        refine jn_iald (v := nI (mCL R C c)) 9 0 rfl rfl (by omega) (by omega) (rfl) dX3_isCellAlive_46 ?_
        refine j_iload_n dX3_isCellAlive_47 rfl 4 rfl ?_
        refine jn_icmp_ge (tgt := 62) (a := mCL R C c) (b := kq) (by omega) (by omega) dX3_isCellAlive_48 (by decide) (fun c48 => ?_) (fun c48 => ?_)
        · refine j_iconst (v := nI (1)) dX3_isCellAlive_62 (by decide) ?_
          refine j_goto (tgt := 67) dX3_isCellAlive_63 (by decide) ?_
          refine j_st (st' := [.int (bI (true))]) (by rfl) ?_
          exact j_zretB (tys' := []) rfl hR dX3_isCellAlive_67 (⟨by rw [show ica R C S cu c kq = true from by first | exact absurd c6 c27 | exact absurd c27 c6 | (simp [ica, c6]; done) | (simp [ica, c6, c38, c48]; done) | (simp [ica, c6, c38, c59]; done) | (simp [ica, c6, Nat.not_le.mpr c38]; done) | (simp [ica, c6, c38, Nat.not_le.mpr c48, c59]; done)], rfl⟩)
        · refine j_iload dX3_isCellAlive_51 0 rfl ?_
          refine j_aload_n dX3_isCellAlive_53 rfl 1 rfl ?_
          refine gf_X3_40 0 rfl (rfl) dX3_isCellAlive_54 ?_
          refine j_iload_n dX3_isCellAlive_57 rfl 3 rfl ?_
          refine jn_iald (v := nI (cu c)) 11 0 rfl rfl (by omega) (by omega) (eI_ne c27) dX3_isCellAlive_58 ?_
          refine jn_icmp_ne (tgt := 66) (a := 0) (b := cu c) (by omega) (by omega) dX3_isCellAlive_59 (by decide) (fun c59 => ?_) (fun c59 => ?_)
          · refine j_iconst (v := nI (0)) dX3_isCellAlive_66 (by decide) ?_
            refine j_st (st' := [.int (bI (false))]) (by rfl) ?_
            exact j_zretB (tys' := []) rfl hR dX3_isCellAlive_67 (⟨by rw [show ica R C S cu c kq = false from by first | exact absurd c6 c27 | exact absurd c27 c6 | (simp [ica, c6]; done) | (simp [ica, c6, c38, c48]; done) | (simp [ica, c6, c38, c59]; done) | (simp [ica, c6, Nat.not_le.mpr c38]; done) | (simp [ica, c6, c38, Nat.not_le.mpr c48, c59]; done)], rfl⟩)
          · refine j_iconst (v := nI (1)) dX3_isCellAlive_62 (by decide) ?_
            refine j_goto (tgt := 67) dX3_isCellAlive_63 (by decide) ?_
            refine j_st (st' := [.int (bI (true))]) (by rfl) ?_
            exact j_zretB (tys' := []) rfl hR dX3_isCellAlive_67 (⟨by rw [show ica R C S cu c kq = true from by first | exact absurd c6 c27 | exact absurd c27 c6 | (simp [ica, c6]; done) | (simp [ica, c6, c38, c48]; done) | (simp [ica, c6, c38, c59]; done) | (simp [ica, c6, Nat.not_le.mpr c38]; done) | (simp [ica, c6, c38, Nat.not_le.mpr c48, c59]; done)], rfl⟩)

set_option maxHeartbeats 4000000 in
set_option maxRecDepth 100000 in
theorem c_isAlive (l : Launch) (hfl : l.flags = flags0) (D : va_G) (cI cJ cZ : ClassId) (q : Nat → Nat) (R C : Nat) (hG : GS R C) (th : Nat) (kn me : Bool) (ns he nx dr nl : Nat) (lp cu so wi us ho nh : Nat → Nat) (ke : Nat → Int64) (ta de : Nat → Nat) (se : Nat → Bool) (hJ : MJ R C de se) (hcu : CU R C cu) (S kq : Nat) (hS : S < 2 ^ 31) (hk : kq < 100) : Ct l yX3_isAlive cX3_isAlive 6 (Option.some FieldType.boolean) ({ frames := 3, cells := 0, slots := 0, locals := 70 } : Room) D (tys3 cI cJ cZ) (tys3 cI cJ cZ) (wM cI cJ cZ q R C th kn me ns he nx dr nl lp cu so wi us ho nh ke ta de se) [.ref (q 0), .int (nI (S)), .int (nI (kq))] (fun r u => r = some (.int (bI (alv R C S kq cu))) ∧ ∃ se2 : Nat → Bool, MJ R C (deg R C S) se2 ∧ u = wM cI cJ cZ q R C th kn me ns he nx dr nl lp cu so wi us ho nh ke ta (deg R C S) se2) 0 0 := by
  refine Ct.of hfl (by decide) (Nat.le_of_ble_eq_true rfl) ?_
  intro k hR _
  have hR4 := hG.2.1
  have hC3 := hG.2.2.2
  have hR1 := hG.1
  have hC1 := hG.2.2.1
  have hE := hG.E
  have hRC := hG.RC
  have hE4 := hG.E4
  have hP := hG.P
  show V k l D (tys3 cI cJ cZ) ({ frames := 3, cells := 0, slots := 0, locals := 70 } : Room) cX3_isAlive 6 RX3 (wM cI cJ cZ q R C th kn me ns he nx dr nl lp cu so wi us ho nh ke ta de se) 0 0 0 [(0, .ref (q 0)), (1, .int (nI (S))), (2, .int (nI (kq)))] []
  refine j_aload_n dX3_isAlive_0 rfl 0 rfl ?_
  refine j_iload_n dX3_isAlive_1 rfl 1 rfl ?_
  refine j_vW (av := [.int (nI (S))]) (c_measure l hfl D cI cJ cZ q R C hG th kn me ns he nx dr nl lp cu so wi us ho nh ke ta de se (hJ) (S) (by omega)) 0 rfl rfl mw2_216 mw2_218 msel15 mw1_4 mw2_219 rfl hd_X3_measure rfl ⟨rfl, rfl⟩ ⟨Nat.le_of_ble_eq_true rfl, Nat.le_of_ble_eq_true rfl⟩ ⟨Nat.zero_le _, Nat.zero_le _⟩ (Nat.le_of_ble_eq_true rfl) rfl dX3_isAlive_2 ?_
  rintro _ _ ⟨rfl, rfl⟩
  refine j_st (st' := []) rfl ?_
  refine j_aload_n dX3_isAlive_5 rfl 0 rfl ?_
  refine j_vW (av := []) (c_isThin l hfl D cI cJ cZ q R C hG th kn me ns he nx dr nl lp cu so wi us ho nh ke ta (deg R C S) no0  ((fun p _ => deg_lt hG))) 0 rfl rfl mw2_231 mw2_233 msel18 mw1_4 mw2_234 rfl hd_X3_isThin rfl ⟨rfl, rfl⟩ ⟨Nat.le_of_ble_eq_true rfl, Nat.le_of_ble_eq_true rfl⟩ ⟨Nat.zero_le _, Nat.zero_le _⟩ (Nat.le_of_ble_eq_true rfl) rfl dX3_isAlive_6 ?_
  rintro _ _ ⟨rfl, rfl⟩
  refine j_st (st' := [.int (bI ((thA (deg R C S) (nP R C))))]) rfl ?_
  refine jb_if_eq (tgt := 24) (b := (thA (deg R C S) (nP R C))) dX3_isAlive_9 (by decide) (fun c9 => ?_) (fun c9 => ?_)
  · refine j_iconst (v := nI (0)) dX3_isAlive_24 (by decide) ?_
    refine j_st (st' := [.int (bI (false))]) (by rfl) ?_
    exact j_zretB (tys' := []) rfl hR dX3_isAlive_25 (⟨by rw [show alv R C S kq cu = false from by first | (simp [alv, c9, c17, c21]; done) | (simp [alv, c9]; done) | (simp [alv, c123, hjR]; done) | (simp only [alv, c123, Bool.and_false, Bool.false_and]; done)], _, MJ_of hG (fun _ _ => rfl), rfl⟩)
  · refine j_iload_n dX3_isAlive_12 rfl 2 rfl ?_
    refine j_aload_n dX3_isAlive_13 rfl 0 rfl ?_
    refine gf_X3_93 0 rfl (rfl) dX3_isAlive_14 ?_
    refine jn_icmp_ne (tgt := 26) (a := kq) (b := nE R C) (by omega) (by omega) dX3_isAlive_17 (by decide) (fun c17 => ?_) (fun c17 => ?_)
    · refine j_iconst (v := nI (1)) dX3_isAlive_26 (by decide) ?_
      refine j_istore_n [(3, .int (nI (1))), (0, .ref (q 0)), (1, .int (nI (S))), (2, .int (nI (kq)))] dX3_isAlive_27 rfl (by decide) rfl ?_
      refine j_iconst (v := nI (0)) dX3_isAlive_28 (by decide) ?_
      refine j_istore [(4, .int (nI (0))), (3, .int (nI (1))), (0, .ref (q 0)), (1, .int (nI (S))), (2, .int (nI (kq)))] dX3_isAlive_29 (by decide) rfl ?_
      refine j_lv (lv' := [(4, .int (nI (0))), (3, .int (bI ((laA R C (deg R C S) kq 0)))), (0, .ref (q 0)), (1, .int (nI (S))), (2, .int (nI (kq)))]) (by rfl) ?_
      refine j_sub [2, 3, 4, 1, 0] [(0, .ref (q 0)), (1, .int (nI (S))), (2, .int (nI (kq))), (3, .int (bI ((laA R C (deg R C S) kq 0)))), (4, .int (nI (0)))] rfl ?_
      have loop31 : ∀ (n : Nat) (i : Nat), (nP R C < i + n) → (i ≤ nP R C) → V k l D (tys3 cI cJ cZ) ({ frames := 3, cells := 0, slots := 0, locals := 70 } : Room) cX3_isAlive 6 RX3 (wM cI cJ cZ q R C th kn me ns he nx dr nl lp cu so wi us ho nh ke ta (deg R C S) no0) 0 0 31 [(0, .ref (q 0)), (1, .int (nI (S))), (2, .int (nI (kq))), (3, .int (bI ((laA R C (deg R C S) kq i)))), (4, .int (nI (i)))] [] := by
        intro n
        induction n with
        | zero => intro i hm hi; exfalso; omega
        | succ n ih31 =>
          intro i hm hi
          refine j_iload dX3_isAlive_31 4 rfl ?_
          refine j_aload_n dX3_isAlive_33 rfl 0 rfl ?_
          refine gf_X3_79 0 rfl (rfl) dX3_isAlive_34 ?_
          refine jn_icmp_ge (tgt := 78) (a := i) (b := nP R C) (by omega) (by omega) dX3_isAlive_37 (by decide) (fun c37 => ?_) (fun c37 => ?_)
          · refine j_iconst (v := nI (0)) dX3_isAlive_78 (by decide) ?_
            refine j_istore [(4, .int (nI (0))), (0, .ref (q 0)), (1, .int (nI (S))), (2, .int (nI (kq))), (3, .int (bI ((laA R C (deg R C S) kq i))))] dX3_isAlive_79 (by decide) rfl ?_
            have hiP : i = nP R C := by omega
            refine j_lv (lv' := [(4, .int (nI (0))), (0, .ref (q 0)), (1, .int (nI (S))), (2, .int (nI (kq))), (3, .int (bI ((laA R C (deg R C S) kq (nP R C) && caA R C S kq cu 0))))]) (by rw [hiP]; simp [caA]) ?_
            refine j_sub [1, 2, 3, 4, 0] [(0, .ref (q 0)), (1, .int (nI (S))), (2, .int (nI (kq))), (3, .int (bI ((laA R C (deg R C S) kq (nP R C) && caA R C S kq cu 0)))), (4, .int (nI (0)))] rfl ?_
            have loop81 : ∀ (n : Nat) (j : Nat), (R * C < j + n) → (j ≤ R * C) → V k l D (tys3 cI cJ cZ) ({ frames := 3, cells := 0, slots := 0, locals := 70 } : Room) cX3_isAlive 6 RX3 (wM cI cJ cZ q R C th kn me ns he nx dr nl lp cu so wi us ho nh ke ta (deg R C S) no0) 0 0 81 [(0, .ref (q 0)), (1, .int (nI (S))), (2, .int (nI (kq))), (3, .int (bI ((laA R C (deg R C S) kq (nP R C) && caA R C S kq cu j)))), (4, .int (nI (j)))] [] := by
              intro n
              induction n with
              | zero => intro j hm2 hj; exfalso; omega
              | succ n ih81 =>
                intro j hm2 hj
                refine j_iload dX3_isAlive_81 4 rfl ?_
                refine j_aload_n dX3_isAlive_83 rfl 0 rfl ?_
                refine gf_X3_72 0 rfl (rfl) dX3_isAlive_84 ?_
                refine j_aload_n dX3_isAlive_87 rfl 0 rfl ?_
                refine gf_X3_76 0 rfl (rfl) dX3_isAlive_88 ?_
                refine jn_imul (v := R * C) dX3_isAlive_91 rfl ?_
                refine jn_icmp_ge (tgt := 122) (a := j) (b := R * C) (by omega) (by omega) dX3_isAlive_92 (by decide) (fun c92 => ?_) (fun c92 => ?_)
                · refine j_iload_n dX3_isAlive_122 rfl 3 rfl ?_
                  refine jb_if_ne (tgt := 128) (b := (laA R C (deg R C S) kq (nP R C) && caA R C S kq cu j)) dX3_isAlive_123 (by decide) (fun c123 => ?_) (fun c123 => ?_)
                  · refine j_iconst (v := nI (0)) dX3_isAlive_128 (by decide) ?_
                    refine j_istore [(4, .int (nI (0))), (0, .ref (q 0)), (1, .int (nI (S))), (2, .int (nI (kq))), (3, .int (bI ((laA R C (deg R C S) kq (nP R C) && caA R C S kq cu j))))] dX3_isAlive_129 (by decide) rfl ?_
                    refine j_iconst (v := nI (0)) dX3_isAlive_131 (by decide) ?_
                    refine j_istore [(5, .int (nI (0))), (4, .int (nI (0))), (0, .ref (q 0)), (1, .int (nI (S))), (2, .int (nI (kq))), (3, .int (bI ((laA R C (deg R C S) kq (nP R C) && caA R C S kq cu j))))] dX3_isAlive_132 (by decide) rfl ?_
                    have hjR : j = R * C := by omega
                    rw [hjR] at c123
                    refine j_lv (lv' := [(5, .int (nI (0))), (4, .int (bI ((paA R C S (deg R C S) 0).1))), (0, .ref (q 0)), (1, .int (nI (S))), (2, .int (nI (kq))), (3, .int (bI ((laA R C (deg R C S) kq (nP R C) && caA R C S kq cu j))))]) (by rfl) ?_
                    refine j_sub [2, 3, 4, 5, 1, 0] [(0, .ref (q 0)), (1, .int (nI (S))), (2, .int (nI (kq))), (3, .int (bI ((laA R C (deg R C S) kq (nP R C) && caA R C S kq cu j)))), (4, .int (bI ((paA R C S (deg R C S) 0).1))), (5, .int (nI (0)))] rfl ?_
                    have loop134 : ∀ (n : Nat) (p : Nat), (nP R C < p + n) → (p ≤ nP R C) → V k l D (tys3 cI cJ cZ) ({ frames := 3, cells := 0, slots := 0, locals := 70 } : Room) cX3_isAlive 6 RX3 (wM cI cJ cZ q R C th kn me ns he nx dr nl lp cu so wi us ho nh ke ta (deg R C S) ((paA R C S (deg R C S) p).2)) 0 0 134 [(0, .ref (q 0)), (1, .int (nI (S))), (2, .int (nI (kq))), (3, .int (bI ((laA R C (deg R C S) kq (nP R C) && caA R C S kq cu j)))), (4, .int (bI ((paA R C S (deg R C S) p).1))), (5, .int (nI (p)))] [] := by
                      intro n
                      induction n with
                      | zero => intro p hm3 hp2; exfalso; omega
                      | succ n ih134 =>
                        intro p hm3 hp2
                        refine j_iload dX3_isAlive_134 5 rfl ?_
                        refine j_aload_n dX3_isAlive_136 rfl 0 rfl ?_
                        refine gf_X3_79 0 rfl (rfl) dX3_isAlive_137 ?_
                        refine jn_icmp_ge (tgt := 181) (a := p) (b := nP R C) (by omega) (by omega) dX3_isAlive_140 (by decide) (fun c140 => ?_) (fun c140 => ?_)
                        · refine j_aload_n dX3_isAlive_181 rfl 0 rfl ?_
                          refine j_vW (av := []) (c_unseen l hfl D cI cJ cZ q R C hG th kn me ns he nx dr nl lp cu so wi us ho nh ke ta (deg R C S) ((paA R C S (deg R C S) p).2)  ((fun p _ => deg_lt hG))) 0 rfl rfl mw2_227 mw2_229 msel17 mw1_4 mw2_230 rfl hd_X3_unseen rfl ⟨rfl, rfl⟩ ⟨Nat.le_of_ble_eq_true rfl, Nat.le_of_ble_eq_true rfl⟩ ⟨Nat.zero_le _, Nat.zero_le _⟩ (Nat.le_of_ble_eq_true rfl) rfl dX3_isAlive_182 ?_
                          rintro _ _ ⟨rfl, rfl⟩
                          refine j_st (st' := [.int (eI (uns R C (deg R C S) ((paA R C S (deg R C S) p).2)))]) rfl ?_
                          refine j_istore [(5, .int (eI (uns R C (deg R C S) ((paA R C S (deg R C S) p).2)))), (0, .ref (q 0)), (1, .int (nI (S))), (2, .int (nI (kq))), (3, .int (bI ((laA R C (deg R C S) kq (nP R C) && caA R C S kq cu j)))), (4, .int (bI ((paA R C S (deg R C S) p).1)))] dX3_isAlive_185 (by decide) rfl ?_
                          have hpP : p = nP R C := by omega
                          rw [hpP]
                          have hun := uns_lt R C (deg R C S) (paA R C S (deg R C S) (nP R C)).2
                          refine j_iload dX3_isAlive_187 0 rfl ?_
                          refine je_if_ge (tgt := 194) (x := uns R C (deg R C S) ((paA R C S (deg R C S) (nP R C)).2)) (by omega) dX3_isAlive_189 (by decide) (fun c189 => ?_) (fun c189 => ?_)
                          · refine j_lv (lv' := [(5, .int (nI (uns R C (deg R C S) (paA R C S (deg R C S) (nP R C)).2))), (0, .ref (q 0)), (1, .int (nI (S))), (2, .int (nI (kq))), (3, .int (bI ((laA R C (deg R C S) kq (nP R C) && caA R C S kq cu j)))), (4, .int (bI ((paA R C S (deg R C S) (nP R C)).1)))]) (by rw [eI_ne c189]) ?_
                            refine j_aload_n dX3_isAlive_194 rfl 1 rfl ?_
                            refine j_iload_n dX3_isAlive_195 rfl 2 rfl ?_
                            refine j_iload dX3_isAlive_196 0 rfl ?_
                            refine j_vW (av := [.int (nI (S)), .int (nI (uns R C (deg R C S) (paA R C S (deg R C S) (nP R C)).2))]) (c_walk l hfl D cI cJ cZ q R C hG th kn me ns he nx dr nl lp cu so wi us ho nh ke ta (deg R C S) ((paA R C S (deg R C S) (nP R C)).2) (S) (uns R C (deg R C S) (paA R C S (deg R C S) (nP R C)).2) (by omega) (hun.resolve_left c189)) 0 rfl rfl mw2_239 mw3_1 msel20 mw1_4 mw3_2 rfl hd_X3_walk rfl ⟨rfl, rfl⟩ ⟨Nat.le_of_ble_eq_true rfl, Nat.le_of_ble_eq_true rfl⟩ ⟨Nat.zero_le _, Nat.zero_le _⟩ (Nat.le_of_ble_eq_true rfl) rfl dX3_isAlive_198 ?_
                            rintro _ _ ⟨rfl, rfl⟩
                            refine j_st (st' := [.int (nI ((wlk R C S (uns R C (deg R C S) (paA R C S (deg R C S) (nP R C)).2) ((paA R C S (deg R C S) (nP R C)).2)).1))]) rfl ?_
                            refine j_pop dX3_isAlive_201 rfl ?_
                            refine j_iload dX3_isAlive_202 5 rfl ?_
                            refine jb_if_ne (tgt := 218) (b := (paA R C S (deg R C S) (nP R C)).1) dX3_isAlive_204 (by decide) (fun c204 => ?_) (fun c204 => ?_)
                            · refine j_iconst (v := nI (0)) dX3_isAlive_218 (by decide) ?_
                              refine j_st (st' := [.int (bI (false))]) (by rfl) ?_
                              exact j_zretB (tys' := []) rfl hR dX3_isAlive_219 (⟨by rw [show alv R C S kq cu = false from by simp only [alv]; rw [c9, c123]; simp [rgB, *]], _, MJ_of hG (fun x hx => by rw [wlk_out hG (hun.resolve_left c189) x hx]; exact paA_out hG _ (Nat.le_refl _) x hx), rfl⟩)
                            · refine j_aload_n dX3_isAlive_207 rfl 1 rfl ?_
                              refine j_vW (av := []) (c_unseen l hfl D cI cJ cZ q R C hG th kn me ns he nx dr nl lp cu so wi us ho nh ke ta (deg R C S) ((wlk R C S (uns R C (deg R C S) (paA R C S (deg R C S) (nP R C)).2) ((paA R C S (deg R C S) (nP R C)).2)).2)  ((fun p _ => deg_lt hG))) 0 rfl rfl mw2_227 mw2_229 msel17 mw1_4 mw2_230 rfl hd_X3_unseen rfl ⟨rfl, rfl⟩ ⟨Nat.le_of_ble_eq_true rfl, Nat.le_of_ble_eq_true rfl⟩ ⟨Nat.zero_le _, Nat.zero_le _⟩ (Nat.le_of_ble_eq_true rfl) rfl dX3_isAlive_208 ?_
                              rintro _ _ ⟨rfl, rfl⟩
                              refine j_st (st' := [.int (eI (uns R C (deg R C S) ((wlk R C S (uns R C (deg R C S) (paA R C S (deg R C S) (nP R C)).2) ((paA R C S (deg R C S) (nP R C)).2)).2)))]) rfl ?_
                              refine je_if_ge (tgt := 218) (x := uns R C (deg R C S) ((wlk R C S (uns R C (deg R C S) (paA R C S (deg R C S) (nP R C)).2) ((paA R C S (deg R C S) (nP R C)).2)).2)) (by have := uns_lt R C (deg R C S) (wlk R C S (uns R C (deg R C S) (paA R C S (deg R C S) (nP R C)).2) (paA R C S (deg R C S) (nP R C)).2).2; omega) dX3_isAlive_211 (by decide) (fun c211 => ?_) (fun c211 => ?_)
                              · refine j_iconst (v := nI (0)) dX3_isAlive_218 (by decide) ?_
                                refine j_st (st' := [.int (bI (false))]) (by rfl) ?_
                                exact j_zretB (tys' := []) rfl hR dX3_isAlive_219 (⟨by rw [show alv R C S kq cu = false from by simp only [alv]; rw [c9, c123]; simp [rgB, *]], _, MJ_of hG (fun x hx => by rw [wlk_out hG (hun.resolve_left c189) x hx]; exact paA_out hG _ (Nat.le_refl _) x hx), rfl⟩)
                              · refine j_iconst (v := nI (1)) dX3_isAlive_214 (by decide) ?_
                                refine j_goto (tgt := 219) dX3_isAlive_215 (by decide) ?_
                                refine j_st (st' := [.int (bI (true))]) (by rfl) ?_
                                exact j_zretB (tys' := []) rfl hR dX3_isAlive_219 (⟨by rw [show alv R C S kq cu = true from by simp only [alv]; rw [c9, c123]; simp [rgB, *]], _, MJ_of hG (fun x hx => by rw [wlk_out hG (hun.resolve_left c189) x hx]; exact paA_out hG _ (Nat.le_refl _) x hx), rfl⟩)
                          · refine j_iconst (v := nI (1)) dX3_isAlive_192 (by decide) ?_
                            refine j_st (st' := [.int (bI (true))]) (by rfl) ?_
                            exact j_zretB (tys' := []) rfl hR dX3_isAlive_193 (⟨by rw [show alv R C S kq cu = true from by simp only [alv]; rw [c9, c123]; simp [rgB, *]], _, MJ_of hG (paA_out hG _ (Nat.le_refl _)), rfl⟩)
                        · refine j_aload_n dX3_isAlive_143 rfl 0 rfl ?_
                          refine gf_X3_65 0 rfl (rfl) dX3_isAlive_144 ?_
                          refine j_iload dX3_isAlive_147 5 rfl ?_
                          refine jn_iald (v := nI ((deg R C S) p)) 19 0 rfl rfl (by omega) (by omega) (rfl) dX3_isAlive_149 ?_
                          refine j_iconst (v := nI (1)) dX3_isAlive_150 (by decide) ?_
                          refine jn_icmp_ne (tgt := 175) (a := (deg R C S) p) (b := 1) (deg_lt hG) (by omega) dX3_isAlive_151 (by decide) (fun c151 => ?_) (fun c151 => ?_)
                          · refine j_iinc (n0 := 5) (v := nI (p + 1)) [(5, .int (nI (p + 1))), (0, .ref (q 0)), (1, .int (nI (S))), (2, .int (nI (kq))), (3, .int (bI ((laA R C (deg R C S) kq (nP R C) && caA R C S kq cu j)))), (4, .int (bI ((paA R C S (deg R C S) p).1)))] dX3_isAlive_175 rfl (by exact nI_add (p) 1) (by decide) rfl ?_
                            refine j_goto (tgt := 134) dX3_isAlive_178 (by decide) ?_
                            refine j_sub [1, 2, 3, 4, 5, 0] [(0, .ref (q 0)), (1, .int (nI (S))), (2, .int (nI (kq))), (3, .int (bI ((laA R C (deg R C S) kq (nP R C) && caA R C S kq cu j)))), (4, .int (bI ((paA R C S (deg R C S) p).1))), (5, .int (nI (p + 1)))] rfl ?_
                            refine j_world (w' := wM cI cJ cZ q R C th kn me ns he nx dr nl lp cu so wi us ho nh ke ta (deg R C S) ((paA R C S (deg R C S) (p + 1)).2)) (by rw [show (paA R C S (deg R C S) (p + 1)).2 = (paA R C S (deg R C S) p).2 from by simp [paA, c151]]) ?_
                            refine j_lv (lv' := [(0, .ref (q 0)), (1, .int (nI (S))), (2, .int (nI (kq))), (3, .int (bI ((laA R C (deg R C S) kq (nP R C) && caA R C S kq cu j)))), (4, .int (bI ((paA R C S (deg R C S) (p + 1)).1))), (5, .int (nI (p + 1)))]) (by rw [show (paA R C S (deg R C S) (p + 1)).1 = (paA R C S (deg R C S) p).1 from by simp [paA, c151]]) ?_
                            exact ih134 (p + 1) (by omega) (by omega)
                          · refine j_aload_n dX3_isAlive_154 rfl 0 rfl ?_
                            refine gf_X3_68 0 rfl (rfl) dX3_isAlive_155 ?_
                            refine j_iload dX3_isAlive_158 5 rfl ?_
                            refine jn_zald (v := bI (((paA R C S (deg R C S) p).2) p)) 20 2 rfl rfl (by omega) (by omega) (rfl) dX3_isAlive_160 ?_
                            refine jb_if_ne (tgt := 175) (b := ((paA R C S (deg R C S) p).2) p) dX3_isAlive_161 (by decide) (fun c161 => ?_) (fun c161 => ?_)
                            · refine j_iinc (n0 := 5) (v := nI (p + 1)) [(5, .int (nI (p + 1))), (0, .ref (q 0)), (1, .int (nI (S))), (2, .int (nI (kq))), (3, .int (bI ((laA R C (deg R C S) kq (nP R C) && caA R C S kq cu j)))), (4, .int (bI ((paA R C S (deg R C S) p).1)))] dX3_isAlive_175 rfl (by exact nI_add (p) 1) (by decide) rfl ?_
                              refine j_goto (tgt := 134) dX3_isAlive_178 (by decide) ?_
                              refine j_sub [1, 2, 3, 4, 5, 0] [(0, .ref (q 0)), (1, .int (nI (S))), (2, .int (nI (kq))), (3, .int (bI ((laA R C (deg R C S) kq (nP R C) && caA R C S kq cu j)))), (4, .int (bI ((paA R C S (deg R C S) p).1))), (5, .int (nI (p + 1)))] rfl ?_
                              refine j_world (w' := wM cI cJ cZ q R C th kn me ns he nx dr nl lp cu so wi us ho nh ke ta (deg R C S) ((paA R C S (deg R C S) (p + 1)).2)) (by rw [show (paA R C S (deg R C S) (p + 1)).2 = (paA R C S (deg R C S) p).2 from by simp [paA, c151, c161]]) ?_
                              refine j_lv (lv' := [(0, .ref (q 0)), (1, .int (nI (S))), (2, .int (nI (kq))), (3, .int (bI ((laA R C (deg R C S) kq (nP R C) && caA R C S kq cu j)))), (4, .int (bI ((paA R C S (deg R C S) (p + 1)).1))), (5, .int (nI (p + 1)))]) (by rw [show (paA R C S (deg R C S) (p + 1)).1 = (paA R C S (deg R C S) p).1 from by simp [paA, c151, c161]]) ?_
                              exact ih134 (p + 1) (by omega) (by omega)
                            · refine j_aload_n dX3_isAlive_164 rfl 0 rfl ?_
                              refine j_iload_n dX3_isAlive_165 rfl 1 rfl ?_
                              refine j_iload dX3_isAlive_166 5 rfl ?_
                              refine j_vW (av := [.int (nI (S)), .int (nI (p))]) (c_walk l hfl D cI cJ cZ q R C hG th kn me ns he nx dr nl lp cu so wi us ho nh ke ta (deg R C S) ((paA R C S (deg R C S) p).2) (S) (p) (by omega) (by omega)) 0 rfl rfl mw2_239 mw3_1 msel20 mw1_4 mw3_2 rfl hd_X3_walk rfl ⟨rfl, rfl⟩ ⟨Nat.le_of_ble_eq_true rfl, Nat.le_of_ble_eq_true rfl⟩ ⟨Nat.zero_le _, Nat.zero_le _⟩ (Nat.le_of_ble_eq_true rfl) rfl dX3_isAlive_168 ?_
                              rintro _ _ ⟨rfl, rfl⟩
                              refine j_st (st' := [.int (nI ((wlk R C S p ((paA R C S (deg R C S) p).2)).1))]) rfl ?_
                              refine j_pop dX3_isAlive_171 rfl ?_
                              refine j_iconst (v := nI (1)) dX3_isAlive_172 (by decide) ?_
                              refine j_istore [(4, .int (nI (1))), (0, .ref (q 0)), (1, .int (nI (S))), (2, .int (nI (kq))), (3, .int (bI ((laA R C (deg R C S) kq (nP R C) && caA R C S kq cu j)))), (5, .int (nI (p)))] dX3_isAlive_173 (by decide) rfl ?_
                              refine j_iinc (n0 := 5) (v := nI (p + 1)) [(5, .int (nI (p + 1))), (4, .int (nI (1))), (0, .ref (q 0)), (1, .int (nI (S))), (2, .int (nI (kq))), (3, .int (bI ((laA R C (deg R C S) kq (nP R C) && caA R C S kq cu j))))] dX3_isAlive_175 rfl (by exact nI_add (p) 1) (by decide) rfl ?_
                              refine j_goto (tgt := 134) dX3_isAlive_178 (by decide) ?_
                              refine j_sub [2, 3, 4, 5, 1, 0] [(0, .ref (q 0)), (1, .int (nI (S))), (2, .int (nI (kq))), (3, .int (bI ((laA R C (deg R C S) kq (nP R C) && caA R C S kq cu j)))), (4, .int (nI (1))), (5, .int (nI (p + 1)))] rfl ?_
                              refine j_world (w' := wM cI cJ cZ q R C th kn me ns he nx dr nl lp cu so wi us ho nh ke ta (deg R C S) ((paA R C S (deg R C S) (p + 1)).2)) (by rw [show (paA R C S (deg R C S) (p + 1)).2 = (wlk R C S p ((paA R C S (deg R C S) p).2)).2 from by simp [paA, c151, c161]]) ?_
                              refine j_lv (lv' := [(0, .ref (q 0)), (1, .int (nI (S))), (2, .int (nI (kq))), (3, .int (bI ((laA R C (deg R C S) kq (nP R C) && caA R C S kq cu j)))), (4, .int (bI ((paA R C S (deg R C S) (p + 1)).1))), (5, .int (nI (p + 1)))]) (by rw [show (paA R C S (deg R C S) (p + 1)).1 = true from by simp [paA, c151, c161]]; rfl) ?_
                              exact ih134 (p + 1) (by omega) (by omega)
                    exact loop134 (nP R C + 2) 0 (by omega) (by omega)
                  · rw [show j = R * C by omega] at c123
                    refine j_iconst (v := nI (0)) dX3_isAlive_126 (by decide) ?_
                    refine j_st (st' := [.int (bI (false))]) (by rfl) ?_
                    exact j_zretB (tys' := []) rfl hR dX3_isAlive_127 (⟨by rw [show alv R C S kq cu = false from by first | (simp [alv, c9, c17, c21]; done) | (simp [alv, c9]; done) | (simp [alv, c123, hjR]; done) | (simp only [alv, c123, Bool.and_false, Bool.false_and]; done)], _, MJ_of hG (fun _ _ => rfl), rfl⟩)
                · refine j_iload_n dX3_isAlive_95 rfl 3 rfl ?_
                  refine jb_if_eq (tgt := 114) (b := (laA R C (deg R C S) kq (nP R C) && caA R C S kq cu j)) dX3_isAlive_96 (by decide) (fun c96 => ?_) (fun c96 => ?_)
                  · refine j_iconst (v := nI (0)) dX3_isAlive_114 (by decide) ?_
                    refine j_topi (y := bI ((laA R C (deg R C S) kq (nP R C) && caA R C S kq cu (j + 1)))) (by rw [show (laA R C (deg R C S) kq (nP R C) && caA R C S kq cu (j + 1)) = false from by rw [caA, ← Bool.and_assoc, c96]; rfl]; rfl) ?_
                    refine j_istore_n [(3, .int (bI ((laA R C (deg R C S) kq (nP R C) && caA R C S kq cu (j + 1))))), (0, .ref (q 0)), (1, .int (nI (S))), (2, .int (nI (kq))), (4, .int (nI (j)))] dX3_isAlive_115 rfl (by decide) rfl ?_
                    refine j_iinc (n0 := 4) (v := nI (j + 1)) [(4, .int (nI (j + 1))), (3, .int (bI ((laA R C (deg R C S) kq (nP R C) && caA R C S kq cu (j + 1))))), (0, .ref (q 0)), (1, .int (nI (S))), (2, .int (nI (kq)))] dX3_isAlive_116 rfl (by exact nI_add (j) 1) (by decide) rfl ?_
                    refine j_goto (tgt := 81) dX3_isAlive_119 (by decide) ?_
                    refine j_sub [2, 3, 4, 1, 0] [(0, .ref (q 0)), (1, .int (nI (S))), (2, .int (nI (kq))), (3, .int (bI ((laA R C (deg R C S) kq (nP R C) && caA R C S kq cu (j + 1))))), (4, .int (nI (j + 1)))] rfl ?_
                    exact ih81 (j + 1) (by omega) (by omega)
                  · refine j_aload_n dX3_isAlive_99 rfl 0 rfl ?_
                    refine j_iload_n dX3_isAlive_100 rfl 1 rfl ?_
                    refine j_iload dX3_isAlive_101 4 rfl ?_
                    refine j_iload_n dX3_isAlive_103 rfl 2 rfl ?_
                    refine j_vW (av := [.int (nI (S)), .int (nI (j)), .int (nI (kq))]) (c_isCellAlive l hfl D cI cJ cZ q R C hG th kn me ns he nx dr nl lp cu so wi us ho nh ke ta (deg R C S) no0 hcu (S) (j) (kq) (by omega) (by omega) (by omega)) 0 rfl rfl mw3_169 mw3_171 msel31 mw1_4 mw3_172 rfl hd_X3_isCellAlive rfl ⟨rfl, rfl⟩ ⟨Nat.le_of_ble_eq_true rfl, Nat.le_of_ble_eq_true rfl⟩ ⟨Nat.zero_le _, Nat.zero_le _⟩ (Nat.le_of_ble_eq_true rfl) rfl dX3_isAlive_104 ?_
                    rintro _ _ ⟨rfl, rfl⟩
                    refine j_st (st' := [.int (bI ((ica R C S cu j kq)))]) rfl ?_
                    refine jb_if_eq (tgt := 114) (b := (ica R C S cu j kq)) dX3_isAlive_107 (by decide) (fun c107 => ?_) (fun c107 => ?_)
                    · refine j_iconst (v := nI (0)) dX3_isAlive_114 (by decide) ?_
                      refine j_topi (y := bI ((laA R C (deg R C S) kq (nP R C) && caA R C S kq cu (j + 1)))) (by rw [show (laA R C (deg R C S) kq (nP R C) && caA R C S kq cu (j + 1)) = false from by rw [caA, ← Bool.and_assoc, c96]; rw [c107]; rfl]; rfl) ?_
                      refine j_istore_n [(3, .int (bI ((laA R C (deg R C S) kq (nP R C) && caA R C S kq cu (j + 1))))), (0, .ref (q 0)), (1, .int (nI (S))), (2, .int (nI (kq))), (4, .int (nI (j)))] dX3_isAlive_115 rfl (by decide) rfl ?_
                      refine j_iinc (n0 := 4) (v := nI (j + 1)) [(4, .int (nI (j + 1))), (3, .int (bI ((laA R C (deg R C S) kq (nP R C) && caA R C S kq cu (j + 1))))), (0, .ref (q 0)), (1, .int (nI (S))), (2, .int (nI (kq)))] dX3_isAlive_116 rfl (by exact nI_add (j) 1) (by decide) rfl ?_
                      refine j_goto (tgt := 81) dX3_isAlive_119 (by decide) ?_
                      refine j_sub [2, 3, 4, 1, 0] [(0, .ref (q 0)), (1, .int (nI (S))), (2, .int (nI (kq))), (3, .int (bI ((laA R C (deg R C S) kq (nP R C) && caA R C S kq cu (j + 1))))), (4, .int (nI (j + 1)))] rfl ?_
                      exact ih81 (j + 1) (by omega) (by omega)
                    · refine j_iconst (v := nI (1)) dX3_isAlive_110 (by decide) ?_
                      refine j_goto (tgt := 115) dX3_isAlive_111 (by decide) ?_
                      refine j_topi (y := bI ((laA R C (deg R C S) kq (nP R C) && caA R C S kq cu (j + 1)))) (by rw [show (laA R C (deg R C S) kq (nP R C) && caA R C S kq cu (j + 1)) = true from by rw [caA, ← Bool.and_assoc, c96]; rw [c107]; rfl]; rfl) ?_
                      refine j_istore_n [(3, .int (bI ((laA R C (deg R C S) kq (nP R C) && caA R C S kq cu (j + 1))))), (0, .ref (q 0)), (1, .int (nI (S))), (2, .int (nI (kq))), (4, .int (nI (j)))] dX3_isAlive_115 rfl (by decide) rfl ?_
                      refine j_iinc (n0 := 4) (v := nI (j + 1)) [(4, .int (nI (j + 1))), (3, .int (bI ((laA R C (deg R C S) kq (nP R C) && caA R C S kq cu (j + 1))))), (0, .ref (q 0)), (1, .int (nI (S))), (2, .int (nI (kq)))] dX3_isAlive_116 rfl (by exact nI_add (j) 1) (by decide) rfl ?_
                      refine j_goto (tgt := 81) dX3_isAlive_119 (by decide) ?_
                      refine j_sub [2, 3, 4, 1, 0] [(0, .ref (q 0)), (1, .int (nI (S))), (2, .int (nI (kq))), (3, .int (bI ((laA R C (deg R C S) kq (nP R C) && caA R C S kq cu (j + 1))))), (4, .int (nI (j + 1)))] rfl ?_
                      exact ih81 (j + 1) (by omega) (by omega)
            exact loop81 (R * C + 2) 0 (by omega) (by omega)
          · refine j_iload_n dX3_isAlive_40 rfl 3 rfl ?_
            refine jb_if_eq (tgt := 70) (b := (laA R C (deg R C S) kq i)) dX3_isAlive_41 (by decide) (fun c41 => ?_) (fun c41 => ?_)
            · refine j_iconst (v := nI (0)) dX3_isAlive_70 (by decide) ?_
              refine j_topi (y := bI ((laA R C (deg R C S) kq (i + 1)))) (by rw [show laA R C (deg R C S) kq (i + 1) = false from by first | (simp [laA, c41]; done) | (simp [laA, c41, c52]; done) | (simp [laA, c41, c63]; done) | (simp [laA, c41, Nat.not_le.mpr c52, c63]; done)]; rfl) ?_
              refine j_istore_n [(3, .int (bI ((laA R C (deg R C S) kq (i + 1))))), (0, .ref (q 0)), (1, .int (nI (S))), (2, .int (nI (kq))), (4, .int (nI (i)))] dX3_isAlive_71 rfl (by decide) rfl ?_
              refine j_iinc (n0 := 4) (v := nI (i + 1)) [(4, .int (nI (i + 1))), (3, .int (bI ((laA R C (deg R C S) kq (i + 1))))), (0, .ref (q 0)), (1, .int (nI (S))), (2, .int (nI (kq)))] dX3_isAlive_72 rfl (by exact nI_add (i) 1) (by decide) rfl ?_
              refine j_goto (tgt := 31) dX3_isAlive_75 (by decide) ?_
              refine j_sub [2, 3, 4, 1, 0] [(0, .ref (q 0)), (1, .int (nI (S))), (2, .int (nI (kq))), (3, .int (bI ((laA R C (deg R C S) kq (i + 1))))), (4, .int (nI (i + 1)))] rfl ?_
              exact ih31 (i + 1) (by omega) (by omega)
            · refine j_aload_n dX3_isAlive_44 rfl 0 rfl ?_
              refine gf_X3_28 0 rfl (rfl) dX3_isAlive_45 ?_
              refine j_iload dX3_isAlive_48 4 rfl ?_
              refine jn_iald (v := nI (mLast R C i)) 7 0 rfl rfl (by omega) (by omega) (rfl) dX3_isAlive_50 ?_
              refine j_iload_n dX3_isAlive_51 rfl 2 rfl ?_
              refine jn_icmp_ge (tgt := 66) (a := mLast R C i) (b := kq) (by have := (hG.fl (show i < nP R C by omega)).2; omega) (by omega) dX3_isAlive_52 (by decide) (fun c52 => ?_) (fun c52 => ?_)
              · refine j_iconst (v := nI (1)) dX3_isAlive_66 (by decide) ?_
                refine j_goto (tgt := 71) dX3_isAlive_67 (by decide) ?_
                refine j_topi (y := bI ((laA R C (deg R C S) kq (i + 1)))) (by rw [show laA R C (deg R C S) kq (i + 1) = true from by first | (simp [laA, c41]; done) | (simp [laA, c41, c52]; done) | (simp [laA, c41, c63]; done) | (simp [laA, c41, Nat.not_le.mpr c52, c63]; done)]; rfl) ?_
                refine j_istore_n [(3, .int (bI ((laA R C (deg R C S) kq (i + 1))))), (0, .ref (q 0)), (1, .int (nI (S))), (2, .int (nI (kq))), (4, .int (nI (i)))] dX3_isAlive_71 rfl (by decide) rfl ?_
                refine j_iinc (n0 := 4) (v := nI (i + 1)) [(4, .int (nI (i + 1))), (3, .int (bI ((laA R C (deg R C S) kq (i + 1))))), (0, .ref (q 0)), (1, .int (nI (S))), (2, .int (nI (kq)))] dX3_isAlive_72 rfl (by exact nI_add (i) 1) (by decide) rfl ?_
                refine j_goto (tgt := 31) dX3_isAlive_75 (by decide) ?_
                refine j_sub [2, 3, 4, 1, 0] [(0, .ref (q 0)), (1, .int (nI (S))), (2, .int (nI (kq))), (3, .int (bI ((laA R C (deg R C S) kq (i + 1))))), (4, .int (nI (i + 1)))] rfl ?_
                exact ih31 (i + 1) (by omega) (by omega)
              · refine j_aload_n dX3_isAlive_55 rfl 0 rfl ?_
                refine gf_X3_65 0 rfl (rfl) dX3_isAlive_56 ?_
                refine j_iload dX3_isAlive_59 4 rfl ?_
                refine jn_iald (v := nI ((deg R C S) i)) 19 0 rfl rfl (by omega) (by omega) (rfl) dX3_isAlive_61 ?_
                refine j_iconst (v := nI (1)) dX3_isAlive_62 (by decide) ?_
                refine jn_icmp_eq (tgt := 70) (a := (deg R C S) i) (b := 1) (deg_lt hG) (by omega) dX3_isAlive_63 (by decide) (fun c63 => ?_) (fun c63 => ?_)
                · refine j_iconst (v := nI (0)) dX3_isAlive_70 (by decide) ?_
                  refine j_topi (y := bI ((laA R C (deg R C S) kq (i + 1)))) (by rw [show laA R C (deg R C S) kq (i + 1) = false from by first | (simp [laA, c41]; done) | (simp [laA, c41, c52]; done) | (simp [laA, c41, c63]; done) | (simp [laA, c41, Nat.not_le.mpr c52, c63]; done)]; rfl) ?_
                  refine j_istore_n [(3, .int (bI ((laA R C (deg R C S) kq (i + 1))))), (0, .ref (q 0)), (1, .int (nI (S))), (2, .int (nI (kq))), (4, .int (nI (i)))] dX3_isAlive_71 rfl (by decide) rfl ?_
                  refine j_iinc (n0 := 4) (v := nI (i + 1)) [(4, .int (nI (i + 1))), (3, .int (bI ((laA R C (deg R C S) kq (i + 1))))), (0, .ref (q 0)), (1, .int (nI (S))), (2, .int (nI (kq)))] dX3_isAlive_72 rfl (by exact nI_add (i) 1) (by decide) rfl ?_
                  refine j_goto (tgt := 31) dX3_isAlive_75 (by decide) ?_
                  refine j_sub [2, 3, 4, 1, 0] [(0, .ref (q 0)), (1, .int (nI (S))), (2, .int (nI (kq))), (3, .int (bI ((laA R C (deg R C S) kq (i + 1))))), (4, .int (nI (i + 1)))] rfl ?_
                  exact ih31 (i + 1) (by omega) (by omega)
                · refine j_iconst (v := nI (1)) dX3_isAlive_66 (by decide) ?_
                  refine j_goto (tgt := 71) dX3_isAlive_67 (by decide) ?_
                  refine j_topi (y := bI ((laA R C (deg R C S) kq (i + 1)))) (by rw [show laA R C (deg R C S) kq (i + 1) = true from by first | (simp [laA, c41]; done) | (simp [laA, c41, c52]; done) | (simp [laA, c41, c63]; done) | (simp [laA, c41, Nat.not_le.mpr c52, c63]; done)]; rfl) ?_
                  refine j_istore_n [(3, .int (bI ((laA R C (deg R C S) kq (i + 1))))), (0, .ref (q 0)), (1, .int (nI (S))), (2, .int (nI (kq))), (4, .int (nI (i)))] dX3_isAlive_71 rfl (by decide) rfl ?_
                  refine j_iinc (n0 := 4) (v := nI (i + 1)) [(4, .int (nI (i + 1))), (3, .int (bI ((laA R C (deg R C S) kq (i + 1))))), (0, .ref (q 0)), (1, .int (nI (S))), (2, .int (nI (kq)))] dX3_isAlive_72 rfl (by exact nI_add (i) 1) (by decide) rfl ?_
                  refine j_goto (tgt := 31) dX3_isAlive_75 (by decide) ?_
                  refine j_sub [2, 3, 4, 1, 0] [(0, .ref (q 0)), (1, .int (nI (S))), (2, .int (nI (kq))), (3, .int (bI ((laA R C (deg R C S) kq (i + 1))))), (4, .int (nI (i + 1)))] rfl ?_
                  exact ih31 (i + 1) (by omega) (by omega)
      exact loop31 (nP R C + 2) 0 (by omega) (by omega)
    · refine j_iload_n dX3_isAlive_20 rfl 1 rfl ?_
      refine jn_if_ne (tgt := 26) (a := S) (hS) dX3_isAlive_21 (by decide) (fun c21 => ?_) (fun c21 => ?_)
      · refine j_iconst (v := nI (1)) dX3_isAlive_26 (by decide) ?_
        refine j_istore_n [(3, .int (nI (1))), (0, .ref (q 0)), (1, .int (nI (S))), (2, .int (nI (kq)))] dX3_isAlive_27 rfl (by decide) rfl ?_
        refine j_iconst (v := nI (0)) dX3_isAlive_28 (by decide) ?_
        refine j_istore [(4, .int (nI (0))), (3, .int (nI (1))), (0, .ref (q 0)), (1, .int (nI (S))), (2, .int (nI (kq)))] dX3_isAlive_29 (by decide) rfl ?_
        refine j_lv (lv' := [(4, .int (nI (0))), (3, .int (bI ((laA R C (deg R C S) kq 0)))), (0, .ref (q 0)), (1, .int (nI (S))), (2, .int (nI (kq)))]) (by rfl) ?_
        refine j_sub [2, 3, 4, 1, 0] [(0, .ref (q 0)), (1, .int (nI (S))), (2, .int (nI (kq))), (3, .int (bI ((laA R C (deg R C S) kq 0)))), (4, .int (nI (0)))] rfl ?_
        have loop31 : ∀ (n : Nat) (i : Nat), (nP R C < i + n) → (i ≤ nP R C) → V k l D (tys3 cI cJ cZ) ({ frames := 3, cells := 0, slots := 0, locals := 70 } : Room) cX3_isAlive 6 RX3 (wM cI cJ cZ q R C th kn me ns he nx dr nl lp cu so wi us ho nh ke ta (deg R C S) no0) 0 0 31 [(0, .ref (q 0)), (1, .int (nI (S))), (2, .int (nI (kq))), (3, .int (bI ((laA R C (deg R C S) kq i)))), (4, .int (nI (i)))] [] := by
          intro n
          induction n with
          | zero => intro i hm hi; exfalso; omega
          | succ n ih31 =>
            intro i hm hi
            refine j_iload dX3_isAlive_31 4 rfl ?_
            refine j_aload_n dX3_isAlive_33 rfl 0 rfl ?_
            refine gf_X3_79 0 rfl (rfl) dX3_isAlive_34 ?_
            refine jn_icmp_ge (tgt := 78) (a := i) (b := nP R C) (by omega) (by omega) dX3_isAlive_37 (by decide) (fun c37 => ?_) (fun c37 => ?_)
            · refine j_iconst (v := nI (0)) dX3_isAlive_78 (by decide) ?_
              refine j_istore [(4, .int (nI (0))), (0, .ref (q 0)), (1, .int (nI (S))), (2, .int (nI (kq))), (3, .int (bI ((laA R C (deg R C S) kq i))))] dX3_isAlive_79 (by decide) rfl ?_
              have hiP : i = nP R C := by omega
              refine j_lv (lv' := [(4, .int (nI (0))), (0, .ref (q 0)), (1, .int (nI (S))), (2, .int (nI (kq))), (3, .int (bI ((laA R C (deg R C S) kq (nP R C) && caA R C S kq cu 0))))]) (by rw [hiP]; simp [caA]) ?_
              refine j_sub [1, 2, 3, 4, 0] [(0, .ref (q 0)), (1, .int (nI (S))), (2, .int (nI (kq))), (3, .int (bI ((laA R C (deg R C S) kq (nP R C) && caA R C S kq cu 0)))), (4, .int (nI (0)))] rfl ?_
              have loop81 : ∀ (n : Nat) (j : Nat), (R * C < j + n) → (j ≤ R * C) → V k l D (tys3 cI cJ cZ) ({ frames := 3, cells := 0, slots := 0, locals := 70 } : Room) cX3_isAlive 6 RX3 (wM cI cJ cZ q R C th kn me ns he nx dr nl lp cu so wi us ho nh ke ta (deg R C S) no0) 0 0 81 [(0, .ref (q 0)), (1, .int (nI (S))), (2, .int (nI (kq))), (3, .int (bI ((laA R C (deg R C S) kq (nP R C) && caA R C S kq cu j)))), (4, .int (nI (j)))] [] := by
                intro n
                induction n with
                | zero => intro j hm2 hj; exfalso; omega
                | succ n ih81 =>
                  intro j hm2 hj
                  refine j_iload dX3_isAlive_81 4 rfl ?_
                  refine j_aload_n dX3_isAlive_83 rfl 0 rfl ?_
                  refine gf_X3_72 0 rfl (rfl) dX3_isAlive_84 ?_
                  refine j_aload_n dX3_isAlive_87 rfl 0 rfl ?_
                  refine gf_X3_76 0 rfl (rfl) dX3_isAlive_88 ?_
                  refine jn_imul (v := R * C) dX3_isAlive_91 rfl ?_
                  refine jn_icmp_ge (tgt := 122) (a := j) (b := R * C) (by omega) (by omega) dX3_isAlive_92 (by decide) (fun c92 => ?_) (fun c92 => ?_)
                  · refine j_iload_n dX3_isAlive_122 rfl 3 rfl ?_
                    refine jb_if_ne (tgt := 128) (b := (laA R C (deg R C S) kq (nP R C) && caA R C S kq cu j)) dX3_isAlive_123 (by decide) (fun c123 => ?_) (fun c123 => ?_)
                    · refine j_iconst (v := nI (0)) dX3_isAlive_128 (by decide) ?_
                      refine j_istore [(4, .int (nI (0))), (0, .ref (q 0)), (1, .int (nI (S))), (2, .int (nI (kq))), (3, .int (bI ((laA R C (deg R C S) kq (nP R C) && caA R C S kq cu j))))] dX3_isAlive_129 (by decide) rfl ?_
                      refine j_iconst (v := nI (0)) dX3_isAlive_131 (by decide) ?_
                      refine j_istore [(5, .int (nI (0))), (4, .int (nI (0))), (0, .ref (q 0)), (1, .int (nI (S))), (2, .int (nI (kq))), (3, .int (bI ((laA R C (deg R C S) kq (nP R C) && caA R C S kq cu j))))] dX3_isAlive_132 (by decide) rfl ?_
                      have hjR : j = R * C := by omega
                      rw [hjR] at c123
                      refine j_lv (lv' := [(5, .int (nI (0))), (4, .int (bI ((paA R C S (deg R C S) 0).1))), (0, .ref (q 0)), (1, .int (nI (S))), (2, .int (nI (kq))), (3, .int (bI ((laA R C (deg R C S) kq (nP R C) && caA R C S kq cu j))))]) (by rfl) ?_
                      refine j_sub [2, 3, 4, 5, 1, 0] [(0, .ref (q 0)), (1, .int (nI (S))), (2, .int (nI (kq))), (3, .int (bI ((laA R C (deg R C S) kq (nP R C) && caA R C S kq cu j)))), (4, .int (bI ((paA R C S (deg R C S) 0).1))), (5, .int (nI (0)))] rfl ?_
                      have loop134 : ∀ (n : Nat) (p : Nat), (nP R C < p + n) → (p ≤ nP R C) → V k l D (tys3 cI cJ cZ) ({ frames := 3, cells := 0, slots := 0, locals := 70 } : Room) cX3_isAlive 6 RX3 (wM cI cJ cZ q R C th kn me ns he nx dr nl lp cu so wi us ho nh ke ta (deg R C S) ((paA R C S (deg R C S) p).2)) 0 0 134 [(0, .ref (q 0)), (1, .int (nI (S))), (2, .int (nI (kq))), (3, .int (bI ((laA R C (deg R C S) kq (nP R C) && caA R C S kq cu j)))), (4, .int (bI ((paA R C S (deg R C S) p).1))), (5, .int (nI (p)))] [] := by
                        intro n
                        induction n with
                        | zero => intro p hm3 hp2; exfalso; omega
                        | succ n ih134 =>
                          intro p hm3 hp2
                          refine j_iload dX3_isAlive_134 5 rfl ?_
                          refine j_aload_n dX3_isAlive_136 rfl 0 rfl ?_
                          refine gf_X3_79 0 rfl (rfl) dX3_isAlive_137 ?_
                          refine jn_icmp_ge (tgt := 181) (a := p) (b := nP R C) (by omega) (by omega) dX3_isAlive_140 (by decide) (fun c140 => ?_) (fun c140 => ?_)
                          · refine j_aload_n dX3_isAlive_181 rfl 0 rfl ?_
                            refine j_vW (av := []) (c_unseen l hfl D cI cJ cZ q R C hG th kn me ns he nx dr nl lp cu so wi us ho nh ke ta (deg R C S) ((paA R C S (deg R C S) p).2)  ((fun p _ => deg_lt hG))) 0 rfl rfl mw2_227 mw2_229 msel17 mw1_4 mw2_230 rfl hd_X3_unseen rfl ⟨rfl, rfl⟩ ⟨Nat.le_of_ble_eq_true rfl, Nat.le_of_ble_eq_true rfl⟩ ⟨Nat.zero_le _, Nat.zero_le _⟩ (Nat.le_of_ble_eq_true rfl) rfl dX3_isAlive_182 ?_
                            rintro _ _ ⟨rfl, rfl⟩
                            refine j_st (st' := [.int (eI (uns R C (deg R C S) ((paA R C S (deg R C S) p).2)))]) rfl ?_
                            refine j_istore [(5, .int (eI (uns R C (deg R C S) ((paA R C S (deg R C S) p).2)))), (0, .ref (q 0)), (1, .int (nI (S))), (2, .int (nI (kq))), (3, .int (bI ((laA R C (deg R C S) kq (nP R C) && caA R C S kq cu j)))), (4, .int (bI ((paA R C S (deg R C S) p).1)))] dX3_isAlive_185 (by decide) rfl ?_
                            have hpP : p = nP R C := by omega
                            rw [hpP]
                            have hun := uns_lt R C (deg R C S) (paA R C S (deg R C S) (nP R C)).2
                            refine j_iload dX3_isAlive_187 0 rfl ?_
                            refine je_if_ge (tgt := 194) (x := uns R C (deg R C S) ((paA R C S (deg R C S) (nP R C)).2)) (by omega) dX3_isAlive_189 (by decide) (fun c189 => ?_) (fun c189 => ?_)
                            · refine j_lv (lv' := [(5, .int (nI (uns R C (deg R C S) (paA R C S (deg R C S) (nP R C)).2))), (0, .ref (q 0)), (1, .int (nI (S))), (2, .int (nI (kq))), (3, .int (bI ((laA R C (deg R C S) kq (nP R C) && caA R C S kq cu j)))), (4, .int (bI ((paA R C S (deg R C S) (nP R C)).1)))]) (by rw [eI_ne c189]) ?_
                              refine j_aload_n dX3_isAlive_194 rfl 1 rfl ?_
                              refine j_iload_n dX3_isAlive_195 rfl 2 rfl ?_
                              refine j_iload dX3_isAlive_196 0 rfl ?_
                              refine j_vW (av := [.int (nI (S)), .int (nI (uns R C (deg R C S) (paA R C S (deg R C S) (nP R C)).2))]) (c_walk l hfl D cI cJ cZ q R C hG th kn me ns he nx dr nl lp cu so wi us ho nh ke ta (deg R C S) ((paA R C S (deg R C S) (nP R C)).2) (S) (uns R C (deg R C S) (paA R C S (deg R C S) (nP R C)).2) (by omega) (hun.resolve_left c189)) 0 rfl rfl mw2_239 mw3_1 msel20 mw1_4 mw3_2 rfl hd_X3_walk rfl ⟨rfl, rfl⟩ ⟨Nat.le_of_ble_eq_true rfl, Nat.le_of_ble_eq_true rfl⟩ ⟨Nat.zero_le _, Nat.zero_le _⟩ (Nat.le_of_ble_eq_true rfl) rfl dX3_isAlive_198 ?_
                              rintro _ _ ⟨rfl, rfl⟩
                              refine j_st (st' := [.int (nI ((wlk R C S (uns R C (deg R C S) (paA R C S (deg R C S) (nP R C)).2) ((paA R C S (deg R C S) (nP R C)).2)).1))]) rfl ?_
                              refine j_pop dX3_isAlive_201 rfl ?_
                              refine j_iload dX3_isAlive_202 5 rfl ?_
                              refine jb_if_ne (tgt := 218) (b := (paA R C S (deg R C S) (nP R C)).1) dX3_isAlive_204 (by decide) (fun c204 => ?_) (fun c204 => ?_)
                              · refine j_iconst (v := nI (0)) dX3_isAlive_218 (by decide) ?_
                                refine j_st (st' := [.int (bI (false))]) (by rfl) ?_
                                exact j_zretB (tys' := []) rfl hR dX3_isAlive_219 (⟨by rw [show alv R C S kq cu = false from by simp only [alv]; rw [c9, c123]; simp [rgB, *]], _, MJ_of hG (fun x hx => by rw [wlk_out hG (hun.resolve_left c189) x hx]; exact paA_out hG _ (Nat.le_refl _) x hx), rfl⟩)
                              · refine j_aload_n dX3_isAlive_207 rfl 1 rfl ?_
                                refine j_vW (av := []) (c_unseen l hfl D cI cJ cZ q R C hG th kn me ns he nx dr nl lp cu so wi us ho nh ke ta (deg R C S) ((wlk R C S (uns R C (deg R C S) (paA R C S (deg R C S) (nP R C)).2) ((paA R C S (deg R C S) (nP R C)).2)).2)  ((fun p _ => deg_lt hG))) 0 rfl rfl mw2_227 mw2_229 msel17 mw1_4 mw2_230 rfl hd_X3_unseen rfl ⟨rfl, rfl⟩ ⟨Nat.le_of_ble_eq_true rfl, Nat.le_of_ble_eq_true rfl⟩ ⟨Nat.zero_le _, Nat.zero_le _⟩ (Nat.le_of_ble_eq_true rfl) rfl dX3_isAlive_208 ?_
                                rintro _ _ ⟨rfl, rfl⟩
                                refine j_st (st' := [.int (eI (uns R C (deg R C S) ((wlk R C S (uns R C (deg R C S) (paA R C S (deg R C S) (nP R C)).2) ((paA R C S (deg R C S) (nP R C)).2)).2)))]) rfl ?_
                                refine je_if_ge (tgt := 218) (x := uns R C (deg R C S) ((wlk R C S (uns R C (deg R C S) (paA R C S (deg R C S) (nP R C)).2) ((paA R C S (deg R C S) (nP R C)).2)).2)) (by have := uns_lt R C (deg R C S) (wlk R C S (uns R C (deg R C S) (paA R C S (deg R C S) (nP R C)).2) (paA R C S (deg R C S) (nP R C)).2).2; omega) dX3_isAlive_211 (by decide) (fun c211 => ?_) (fun c211 => ?_)
                                · refine j_iconst (v := nI (0)) dX3_isAlive_218 (by decide) ?_
                                  refine j_st (st' := [.int (bI (false))]) (by rfl) ?_
                                  exact j_zretB (tys' := []) rfl hR dX3_isAlive_219 (⟨by rw [show alv R C S kq cu = false from by simp only [alv]; rw [c9, c123]; simp [rgB, *]], _, MJ_of hG (fun x hx => by rw [wlk_out hG (hun.resolve_left c189) x hx]; exact paA_out hG _ (Nat.le_refl _) x hx), rfl⟩)
                                · refine j_iconst (v := nI (1)) dX3_isAlive_214 (by decide) ?_
                                  refine j_goto (tgt := 219) dX3_isAlive_215 (by decide) ?_
                                  refine j_st (st' := [.int (bI (true))]) (by rfl) ?_
                                  exact j_zretB (tys' := []) rfl hR dX3_isAlive_219 (⟨by rw [show alv R C S kq cu = true from by simp only [alv]; rw [c9, c123]; simp [rgB, *]], _, MJ_of hG (fun x hx => by rw [wlk_out hG (hun.resolve_left c189) x hx]; exact paA_out hG _ (Nat.le_refl _) x hx), rfl⟩)
                            · refine j_iconst (v := nI (1)) dX3_isAlive_192 (by decide) ?_
                              refine j_st (st' := [.int (bI (true))]) (by rfl) ?_
                              exact j_zretB (tys' := []) rfl hR dX3_isAlive_193 (⟨by rw [show alv R C S kq cu = true from by simp only [alv]; rw [c9, c123]; simp [rgB, *]], _, MJ_of hG (paA_out hG _ (Nat.le_refl _)), rfl⟩)
                          · refine j_aload_n dX3_isAlive_143 rfl 0 rfl ?_
                            refine gf_X3_65 0 rfl (rfl) dX3_isAlive_144 ?_
                            refine j_iload dX3_isAlive_147 5 rfl ?_
                            refine jn_iald (v := nI ((deg R C S) p)) 19 0 rfl rfl (by omega) (by omega) (rfl) dX3_isAlive_149 ?_
                            refine j_iconst (v := nI (1)) dX3_isAlive_150 (by decide) ?_
                            refine jn_icmp_ne (tgt := 175) (a := (deg R C S) p) (b := 1) (deg_lt hG) (by omega) dX3_isAlive_151 (by decide) (fun c151 => ?_) (fun c151 => ?_)
                            · refine j_iinc (n0 := 5) (v := nI (p + 1)) [(5, .int (nI (p + 1))), (0, .ref (q 0)), (1, .int (nI (S))), (2, .int (nI (kq))), (3, .int (bI ((laA R C (deg R C S) kq (nP R C) && caA R C S kq cu j)))), (4, .int (bI ((paA R C S (deg R C S) p).1)))] dX3_isAlive_175 rfl (by exact nI_add (p) 1) (by decide) rfl ?_
                              refine j_goto (tgt := 134) dX3_isAlive_178 (by decide) ?_
                              refine j_sub [1, 2, 3, 4, 5, 0] [(0, .ref (q 0)), (1, .int (nI (S))), (2, .int (nI (kq))), (3, .int (bI ((laA R C (deg R C S) kq (nP R C) && caA R C S kq cu j)))), (4, .int (bI ((paA R C S (deg R C S) p).1))), (5, .int (nI (p + 1)))] rfl ?_
                              refine j_world (w' := wM cI cJ cZ q R C th kn me ns he nx dr nl lp cu so wi us ho nh ke ta (deg R C S) ((paA R C S (deg R C S) (p + 1)).2)) (by rw [show (paA R C S (deg R C S) (p + 1)).2 = (paA R C S (deg R C S) p).2 from by simp [paA, c151]]) ?_
                              refine j_lv (lv' := [(0, .ref (q 0)), (1, .int (nI (S))), (2, .int (nI (kq))), (3, .int (bI ((laA R C (deg R C S) kq (nP R C) && caA R C S kq cu j)))), (4, .int (bI ((paA R C S (deg R C S) (p + 1)).1))), (5, .int (nI (p + 1)))]) (by rw [show (paA R C S (deg R C S) (p + 1)).1 = (paA R C S (deg R C S) p).1 from by simp [paA, c151]]) ?_
                              exact ih134 (p + 1) (by omega) (by omega)
                            · refine j_aload_n dX3_isAlive_154 rfl 0 rfl ?_
                              refine gf_X3_68 0 rfl (rfl) dX3_isAlive_155 ?_
                              refine j_iload dX3_isAlive_158 5 rfl ?_
                              refine jn_zald (v := bI (((paA R C S (deg R C S) p).2) p)) 20 2 rfl rfl (by omega) (by omega) (rfl) dX3_isAlive_160 ?_
                              refine jb_if_ne (tgt := 175) (b := ((paA R C S (deg R C S) p).2) p) dX3_isAlive_161 (by decide) (fun c161 => ?_) (fun c161 => ?_)
                              · refine j_iinc (n0 := 5) (v := nI (p + 1)) [(5, .int (nI (p + 1))), (0, .ref (q 0)), (1, .int (nI (S))), (2, .int (nI (kq))), (3, .int (bI ((laA R C (deg R C S) kq (nP R C) && caA R C S kq cu j)))), (4, .int (bI ((paA R C S (deg R C S) p).1)))] dX3_isAlive_175 rfl (by exact nI_add (p) 1) (by decide) rfl ?_
                                refine j_goto (tgt := 134) dX3_isAlive_178 (by decide) ?_
                                refine j_sub [1, 2, 3, 4, 5, 0] [(0, .ref (q 0)), (1, .int (nI (S))), (2, .int (nI (kq))), (3, .int (bI ((laA R C (deg R C S) kq (nP R C) && caA R C S kq cu j)))), (4, .int (bI ((paA R C S (deg R C S) p).1))), (5, .int (nI (p + 1)))] rfl ?_
                                refine j_world (w' := wM cI cJ cZ q R C th kn me ns he nx dr nl lp cu so wi us ho nh ke ta (deg R C S) ((paA R C S (deg R C S) (p + 1)).2)) (by rw [show (paA R C S (deg R C S) (p + 1)).2 = (paA R C S (deg R C S) p).2 from by simp [paA, c151, c161]]) ?_
                                refine j_lv (lv' := [(0, .ref (q 0)), (1, .int (nI (S))), (2, .int (nI (kq))), (3, .int (bI ((laA R C (deg R C S) kq (nP R C) && caA R C S kq cu j)))), (4, .int (bI ((paA R C S (deg R C S) (p + 1)).1))), (5, .int (nI (p + 1)))]) (by rw [show (paA R C S (deg R C S) (p + 1)).1 = (paA R C S (deg R C S) p).1 from by simp [paA, c151, c161]]) ?_
                                exact ih134 (p + 1) (by omega) (by omega)
                              · refine j_aload_n dX3_isAlive_164 rfl 0 rfl ?_
                                refine j_iload_n dX3_isAlive_165 rfl 1 rfl ?_
                                refine j_iload dX3_isAlive_166 5 rfl ?_
                                refine j_vW (av := [.int (nI (S)), .int (nI (p))]) (c_walk l hfl D cI cJ cZ q R C hG th kn me ns he nx dr nl lp cu so wi us ho nh ke ta (deg R C S) ((paA R C S (deg R C S) p).2) (S) (p) (by omega) (by omega)) 0 rfl rfl mw2_239 mw3_1 msel20 mw1_4 mw3_2 rfl hd_X3_walk rfl ⟨rfl, rfl⟩ ⟨Nat.le_of_ble_eq_true rfl, Nat.le_of_ble_eq_true rfl⟩ ⟨Nat.zero_le _, Nat.zero_le _⟩ (Nat.le_of_ble_eq_true rfl) rfl dX3_isAlive_168 ?_
                                rintro _ _ ⟨rfl, rfl⟩
                                refine j_st (st' := [.int (nI ((wlk R C S p ((paA R C S (deg R C S) p).2)).1))]) rfl ?_
                                refine j_pop dX3_isAlive_171 rfl ?_
                                refine j_iconst (v := nI (1)) dX3_isAlive_172 (by decide) ?_
                                refine j_istore [(4, .int (nI (1))), (0, .ref (q 0)), (1, .int (nI (S))), (2, .int (nI (kq))), (3, .int (bI ((laA R C (deg R C S) kq (nP R C) && caA R C S kq cu j)))), (5, .int (nI (p)))] dX3_isAlive_173 (by decide) rfl ?_
                                refine j_iinc (n0 := 5) (v := nI (p + 1)) [(5, .int (nI (p + 1))), (4, .int (nI (1))), (0, .ref (q 0)), (1, .int (nI (S))), (2, .int (nI (kq))), (3, .int (bI ((laA R C (deg R C S) kq (nP R C) && caA R C S kq cu j))))] dX3_isAlive_175 rfl (by exact nI_add (p) 1) (by decide) rfl ?_
                                refine j_goto (tgt := 134) dX3_isAlive_178 (by decide) ?_
                                refine j_sub [2, 3, 4, 5, 1, 0] [(0, .ref (q 0)), (1, .int (nI (S))), (2, .int (nI (kq))), (3, .int (bI ((laA R C (deg R C S) kq (nP R C) && caA R C S kq cu j)))), (4, .int (nI (1))), (5, .int (nI (p + 1)))] rfl ?_
                                refine j_world (w' := wM cI cJ cZ q R C th kn me ns he nx dr nl lp cu so wi us ho nh ke ta (deg R C S) ((paA R C S (deg R C S) (p + 1)).2)) (by rw [show (paA R C S (deg R C S) (p + 1)).2 = (wlk R C S p ((paA R C S (deg R C S) p).2)).2 from by simp [paA, c151, c161]]) ?_
                                refine j_lv (lv' := [(0, .ref (q 0)), (1, .int (nI (S))), (2, .int (nI (kq))), (3, .int (bI ((laA R C (deg R C S) kq (nP R C) && caA R C S kq cu j)))), (4, .int (bI ((paA R C S (deg R C S) (p + 1)).1))), (5, .int (nI (p + 1)))]) (by rw [show (paA R C S (deg R C S) (p + 1)).1 = true from by simp [paA, c151, c161]]; rfl) ?_
                                exact ih134 (p + 1) (by omega) (by omega)
                      exact loop134 (nP R C + 2) 0 (by omega) (by omega)
                    · rw [show j = R * C by omega] at c123
                      refine j_iconst (v := nI (0)) dX3_isAlive_126 (by decide) ?_
                      refine j_st (st' := [.int (bI (false))]) (by rfl) ?_
                      exact j_zretB (tys' := []) rfl hR dX3_isAlive_127 (⟨by rw [show alv R C S kq cu = false from by first | (simp [alv, c9, c17, c21]; done) | (simp [alv, c9]; done) | (simp [alv, c123, hjR]; done) | (simp only [alv, c123, Bool.and_false, Bool.false_and]; done)], _, MJ_of hG (fun _ _ => rfl), rfl⟩)
                  · refine j_iload_n dX3_isAlive_95 rfl 3 rfl ?_
                    refine jb_if_eq (tgt := 114) (b := (laA R C (deg R C S) kq (nP R C) && caA R C S kq cu j)) dX3_isAlive_96 (by decide) (fun c96 => ?_) (fun c96 => ?_)
                    · refine j_iconst (v := nI (0)) dX3_isAlive_114 (by decide) ?_
                      refine j_topi (y := bI ((laA R C (deg R C S) kq (nP R C) && caA R C S kq cu (j + 1)))) (by rw [show (laA R C (deg R C S) kq (nP R C) && caA R C S kq cu (j + 1)) = false from by rw [caA, ← Bool.and_assoc, c96]; rfl]; rfl) ?_
                      refine j_istore_n [(3, .int (bI ((laA R C (deg R C S) kq (nP R C) && caA R C S kq cu (j + 1))))), (0, .ref (q 0)), (1, .int (nI (S))), (2, .int (nI (kq))), (4, .int (nI (j)))] dX3_isAlive_115 rfl (by decide) rfl ?_
                      refine j_iinc (n0 := 4) (v := nI (j + 1)) [(4, .int (nI (j + 1))), (3, .int (bI ((laA R C (deg R C S) kq (nP R C) && caA R C S kq cu (j + 1))))), (0, .ref (q 0)), (1, .int (nI (S))), (2, .int (nI (kq)))] dX3_isAlive_116 rfl (by exact nI_add (j) 1) (by decide) rfl ?_
                      refine j_goto (tgt := 81) dX3_isAlive_119 (by decide) ?_
                      refine j_sub [2, 3, 4, 1, 0] [(0, .ref (q 0)), (1, .int (nI (S))), (2, .int (nI (kq))), (3, .int (bI ((laA R C (deg R C S) kq (nP R C) && caA R C S kq cu (j + 1))))), (4, .int (nI (j + 1)))] rfl ?_
                      exact ih81 (j + 1) (by omega) (by omega)
                    · refine j_aload_n dX3_isAlive_99 rfl 0 rfl ?_
                      refine j_iload_n dX3_isAlive_100 rfl 1 rfl ?_
                      refine j_iload dX3_isAlive_101 4 rfl ?_
                      refine j_iload_n dX3_isAlive_103 rfl 2 rfl ?_
                      refine j_vW (av := [.int (nI (S)), .int (nI (j)), .int (nI (kq))]) (c_isCellAlive l hfl D cI cJ cZ q R C hG th kn me ns he nx dr nl lp cu so wi us ho nh ke ta (deg R C S) no0 hcu (S) (j) (kq) (by omega) (by omega) (by omega)) 0 rfl rfl mw3_169 mw3_171 msel31 mw1_4 mw3_172 rfl hd_X3_isCellAlive rfl ⟨rfl, rfl⟩ ⟨Nat.le_of_ble_eq_true rfl, Nat.le_of_ble_eq_true rfl⟩ ⟨Nat.zero_le _, Nat.zero_le _⟩ (Nat.le_of_ble_eq_true rfl) rfl dX3_isAlive_104 ?_
                      rintro _ _ ⟨rfl, rfl⟩
                      refine j_st (st' := [.int (bI ((ica R C S cu j kq)))]) rfl ?_
                      refine jb_if_eq (tgt := 114) (b := (ica R C S cu j kq)) dX3_isAlive_107 (by decide) (fun c107 => ?_) (fun c107 => ?_)
                      · refine j_iconst (v := nI (0)) dX3_isAlive_114 (by decide) ?_
                        refine j_topi (y := bI ((laA R C (deg R C S) kq (nP R C) && caA R C S kq cu (j + 1)))) (by rw [show (laA R C (deg R C S) kq (nP R C) && caA R C S kq cu (j + 1)) = false from by rw [caA, ← Bool.and_assoc, c96]; rw [c107]; rfl]; rfl) ?_
                        refine j_istore_n [(3, .int (bI ((laA R C (deg R C S) kq (nP R C) && caA R C S kq cu (j + 1))))), (0, .ref (q 0)), (1, .int (nI (S))), (2, .int (nI (kq))), (4, .int (nI (j)))] dX3_isAlive_115 rfl (by decide) rfl ?_
                        refine j_iinc (n0 := 4) (v := nI (j + 1)) [(4, .int (nI (j + 1))), (3, .int (bI ((laA R C (deg R C S) kq (nP R C) && caA R C S kq cu (j + 1))))), (0, .ref (q 0)), (1, .int (nI (S))), (2, .int (nI (kq)))] dX3_isAlive_116 rfl (by exact nI_add (j) 1) (by decide) rfl ?_
                        refine j_goto (tgt := 81) dX3_isAlive_119 (by decide) ?_
                        refine j_sub [2, 3, 4, 1, 0] [(0, .ref (q 0)), (1, .int (nI (S))), (2, .int (nI (kq))), (3, .int (bI ((laA R C (deg R C S) kq (nP R C) && caA R C S kq cu (j + 1))))), (4, .int (nI (j + 1)))] rfl ?_
                        exact ih81 (j + 1) (by omega) (by omega)
                      · refine j_iconst (v := nI (1)) dX3_isAlive_110 (by decide) ?_
                        refine j_goto (tgt := 115) dX3_isAlive_111 (by decide) ?_
                        refine j_topi (y := bI ((laA R C (deg R C S) kq (nP R C) && caA R C S kq cu (j + 1)))) (by rw [show (laA R C (deg R C S) kq (nP R C) && caA R C S kq cu (j + 1)) = true from by rw [caA, ← Bool.and_assoc, c96]; rw [c107]; rfl]; rfl) ?_
                        refine j_istore_n [(3, .int (bI ((laA R C (deg R C S) kq (nP R C) && caA R C S kq cu (j + 1))))), (0, .ref (q 0)), (1, .int (nI (S))), (2, .int (nI (kq))), (4, .int (nI (j)))] dX3_isAlive_115 rfl (by decide) rfl ?_
                        refine j_iinc (n0 := 4) (v := nI (j + 1)) [(4, .int (nI (j + 1))), (3, .int (bI ((laA R C (deg R C S) kq (nP R C) && caA R C S kq cu (j + 1))))), (0, .ref (q 0)), (1, .int (nI (S))), (2, .int (nI (kq)))] dX3_isAlive_116 rfl (by exact nI_add (j) 1) (by decide) rfl ?_
                        refine j_goto (tgt := 81) dX3_isAlive_119 (by decide) ?_
                        refine j_sub [2, 3, 4, 1, 0] [(0, .ref (q 0)), (1, .int (nI (S))), (2, .int (nI (kq))), (3, .int (bI ((laA R C (deg R C S) kq (nP R C) && caA R C S kq cu (j + 1))))), (4, .int (nI (j + 1)))] rfl ?_
                        exact ih81 (j + 1) (by omega) (by omega)
              exact loop81 (R * C + 2) 0 (by omega) (by omega)
            · refine j_iload_n dX3_isAlive_40 rfl 3 rfl ?_
              refine jb_if_eq (tgt := 70) (b := (laA R C (deg R C S) kq i)) dX3_isAlive_41 (by decide) (fun c41 => ?_) (fun c41 => ?_)
              · refine j_iconst (v := nI (0)) dX3_isAlive_70 (by decide) ?_
                refine j_topi (y := bI ((laA R C (deg R C S) kq (i + 1)))) (by rw [show laA R C (deg R C S) kq (i + 1) = false from by first | (simp [laA, c41]; done) | (simp [laA, c41, c52]; done) | (simp [laA, c41, c63]; done) | (simp [laA, c41, Nat.not_le.mpr c52, c63]; done)]; rfl) ?_
                refine j_istore_n [(3, .int (bI ((laA R C (deg R C S) kq (i + 1))))), (0, .ref (q 0)), (1, .int (nI (S))), (2, .int (nI (kq))), (4, .int (nI (i)))] dX3_isAlive_71 rfl (by decide) rfl ?_
                refine j_iinc (n0 := 4) (v := nI (i + 1)) [(4, .int (nI (i + 1))), (3, .int (bI ((laA R C (deg R C S) kq (i + 1))))), (0, .ref (q 0)), (1, .int (nI (S))), (2, .int (nI (kq)))] dX3_isAlive_72 rfl (by exact nI_add (i) 1) (by decide) rfl ?_
                refine j_goto (tgt := 31) dX3_isAlive_75 (by decide) ?_
                refine j_sub [2, 3, 4, 1, 0] [(0, .ref (q 0)), (1, .int (nI (S))), (2, .int (nI (kq))), (3, .int (bI ((laA R C (deg R C S) kq (i + 1))))), (4, .int (nI (i + 1)))] rfl ?_
                exact ih31 (i + 1) (by omega) (by omega)
              · refine j_aload_n dX3_isAlive_44 rfl 0 rfl ?_
                refine gf_X3_28 0 rfl (rfl) dX3_isAlive_45 ?_
                refine j_iload dX3_isAlive_48 4 rfl ?_
                refine jn_iald (v := nI (mLast R C i)) 7 0 rfl rfl (by omega) (by omega) (rfl) dX3_isAlive_50 ?_
                refine j_iload_n dX3_isAlive_51 rfl 2 rfl ?_
                refine jn_icmp_ge (tgt := 66) (a := mLast R C i) (b := kq) (by have := (hG.fl (show i < nP R C by omega)).2; omega) (by omega) dX3_isAlive_52 (by decide) (fun c52 => ?_) (fun c52 => ?_)
                · refine j_iconst (v := nI (1)) dX3_isAlive_66 (by decide) ?_
                  refine j_goto (tgt := 71) dX3_isAlive_67 (by decide) ?_
                  refine j_topi (y := bI ((laA R C (deg R C S) kq (i + 1)))) (by rw [show laA R C (deg R C S) kq (i + 1) = true from by first | (simp [laA, c41]; done) | (simp [laA, c41, c52]; done) | (simp [laA, c41, c63]; done) | (simp [laA, c41, Nat.not_le.mpr c52, c63]; done)]; rfl) ?_
                  refine j_istore_n [(3, .int (bI ((laA R C (deg R C S) kq (i + 1))))), (0, .ref (q 0)), (1, .int (nI (S))), (2, .int (nI (kq))), (4, .int (nI (i)))] dX3_isAlive_71 rfl (by decide) rfl ?_
                  refine j_iinc (n0 := 4) (v := nI (i + 1)) [(4, .int (nI (i + 1))), (3, .int (bI ((laA R C (deg R C S) kq (i + 1))))), (0, .ref (q 0)), (1, .int (nI (S))), (2, .int (nI (kq)))] dX3_isAlive_72 rfl (by exact nI_add (i) 1) (by decide) rfl ?_
                  refine j_goto (tgt := 31) dX3_isAlive_75 (by decide) ?_
                  refine j_sub [2, 3, 4, 1, 0] [(0, .ref (q 0)), (1, .int (nI (S))), (2, .int (nI (kq))), (3, .int (bI ((laA R C (deg R C S) kq (i + 1))))), (4, .int (nI (i + 1)))] rfl ?_
                  exact ih31 (i + 1) (by omega) (by omega)
                · refine j_aload_n dX3_isAlive_55 rfl 0 rfl ?_
                  refine gf_X3_65 0 rfl (rfl) dX3_isAlive_56 ?_
                  refine j_iload dX3_isAlive_59 4 rfl ?_
                  refine jn_iald (v := nI ((deg R C S) i)) 19 0 rfl rfl (by omega) (by omega) (rfl) dX3_isAlive_61 ?_
                  refine j_iconst (v := nI (1)) dX3_isAlive_62 (by decide) ?_
                  refine jn_icmp_eq (tgt := 70) (a := (deg R C S) i) (b := 1) (deg_lt hG) (by omega) dX3_isAlive_63 (by decide) (fun c63 => ?_) (fun c63 => ?_)
                  · refine j_iconst (v := nI (0)) dX3_isAlive_70 (by decide) ?_
                    refine j_topi (y := bI ((laA R C (deg R C S) kq (i + 1)))) (by rw [show laA R C (deg R C S) kq (i + 1) = false from by first | (simp [laA, c41]; done) | (simp [laA, c41, c52]; done) | (simp [laA, c41, c63]; done) | (simp [laA, c41, Nat.not_le.mpr c52, c63]; done)]; rfl) ?_
                    refine j_istore_n [(3, .int (bI ((laA R C (deg R C S) kq (i + 1))))), (0, .ref (q 0)), (1, .int (nI (S))), (2, .int (nI (kq))), (4, .int (nI (i)))] dX3_isAlive_71 rfl (by decide) rfl ?_
                    refine j_iinc (n0 := 4) (v := nI (i + 1)) [(4, .int (nI (i + 1))), (3, .int (bI ((laA R C (deg R C S) kq (i + 1))))), (0, .ref (q 0)), (1, .int (nI (S))), (2, .int (nI (kq)))] dX3_isAlive_72 rfl (by exact nI_add (i) 1) (by decide) rfl ?_
                    refine j_goto (tgt := 31) dX3_isAlive_75 (by decide) ?_
                    refine j_sub [2, 3, 4, 1, 0] [(0, .ref (q 0)), (1, .int (nI (S))), (2, .int (nI (kq))), (3, .int (bI ((laA R C (deg R C S) kq (i + 1))))), (4, .int (nI (i + 1)))] rfl ?_
                    exact ih31 (i + 1) (by omega) (by omega)
                  · refine j_iconst (v := nI (1)) dX3_isAlive_66 (by decide) ?_
                    refine j_goto (tgt := 71) dX3_isAlive_67 (by decide) ?_
                    refine j_topi (y := bI ((laA R C (deg R C S) kq (i + 1)))) (by rw [show laA R C (deg R C S) kq (i + 1) = true from by first | (simp [laA, c41]; done) | (simp [laA, c41, c52]; done) | (simp [laA, c41, c63]; done) | (simp [laA, c41, Nat.not_le.mpr c52, c63]; done)]; rfl) ?_
                    refine j_istore_n [(3, .int (bI ((laA R C (deg R C S) kq (i + 1))))), (0, .ref (q 0)), (1, .int (nI (S))), (2, .int (nI (kq))), (4, .int (nI (i)))] dX3_isAlive_71 rfl (by decide) rfl ?_
                    refine j_iinc (n0 := 4) (v := nI (i + 1)) [(4, .int (nI (i + 1))), (3, .int (bI ((laA R C (deg R C S) kq (i + 1))))), (0, .ref (q 0)), (1, .int (nI (S))), (2, .int (nI (kq)))] dX3_isAlive_72 rfl (by exact nI_add (i) 1) (by decide) rfl ?_
                    refine j_goto (tgt := 31) dX3_isAlive_75 (by decide) ?_
                    refine j_sub [2, 3, 4, 1, 0] [(0, .ref (q 0)), (1, .int (nI (S))), (2, .int (nI (kq))), (3, .int (bI ((laA R C (deg R C S) kq (i + 1))))), (4, .int (nI (i + 1)))] rfl ?_
                    exact ih31 (i + 1) (by omega) (by omega)
        exact loop31 (nP R C + 2) 0 (by omega) (by omega)
      · refine j_iconst (v := nI (0)) dX3_isAlive_24 (by decide) ?_
        refine j_st (st' := [.int (bI (false))]) (by rfl) ?_
        exact j_zretB (tys' := []) rfl hR dX3_isAlive_25 (⟨by rw [show alv R C S kq cu = false from by first | (simp [alv, c9, c17, c21]; done) | (simp [alv, c9]; done) | (simp [alv, c123, hjR]; done) | (simp only [alv, c123, Bool.and_false, Bool.false_and]; done)], _, MJ_of hG (fun _ _ => rfl), rfl⟩)

