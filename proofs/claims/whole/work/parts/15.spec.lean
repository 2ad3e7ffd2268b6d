/-! the diagram in mathematics: levels, nodes, ways -/
def stepF (R C : Nat) (cu : Nat → Nat) (s e : Nat) (t : Bool) : Option Nat := match pointsF R C s e t with | none => none | some p => cluesF R C cu p e t
theorem cluesF_lt {R C : Nat} {cu : Nat → Nat} (hC : C ≤ 3) (hcu : CU R C cu) {s e : Nat} {t : Bool} (hs : s < 8 ^ 8) {z : Nat} (h : cluesF R C cu s e t = some z) : z < 8 ^ 8 := by
  unfold cluesF at h
  split at h
  · exact sideF_lt hC hcu (fun y hy => sideF_lt hC hcu (fun w hw => by cases hw; exact hs) hy) h
  · exact sideF_lt hC hcu (fun y hy => sideF_lt hC hcu (fun w hw => by cases hw; exact hs) hy) h
theorem stepF_lt {R C : Nat} {cu : Nat → Nat} (hG : GS R C) (hcu : CU R C cu) {s e : Nat} {t : Bool} (hs : s < 8 ^ 8) (he : e < nE R C) {z : Nat} (h : stepF R C cu s e t = some z) : z < 8 ^ 8 := by
  unfold stepF at h
  split at h
  · cases h
  · rename_i p hp
    exact cluesF_lt hG.2.2.2 hcu (pointsF_lt hG hs he hp) h
def ins (acc : List Nat) (x : Option Nat) : List Nat := match x with | none => acc | some t => if t ∈ acc then acc else acc ++ [t]
def exA (R C : Nat) (cu : Nat → Nat) (k : Nat) (acc l : List Nat) : List Nat := l.foldl (fun a s => ins (ins a (stepF R C cu s k false)) (stepF R C cu s k true)) acc
def LvS (R C : Nat) (cu : Nat → Nat) : Nat → List Nat
  | 0 => [1672]
  | k + 1 => exA R C cu k [] (LvS R C cu k)
def off (R C : Nat) (cu : Nat → Nat) : Nat → Nat
  | 0 => 0
  | k + 1 => off R C cu k + (LvS R C cu k).length
def oW (f : Nat → Nat) (x : Option Nat) : Nat := match x with | none => 0 | some t => f t
/-- in how many ways a state goes on to the end, with every wanted edge still to come -/
def WS (R C : Nat) (cu : Nat → Nat) (wn : Nat) : Nat → Nat → Nat → Nat
  | 0, _, _ => 1
  | n + 1, k, s => (if wn.testBit k then 0 else oW (WS R C cu wn n (k + 1)) (stepF R C cu s k false)) + oW (WS R C cu wn n (k + 1)) (stepF R C cu s k true)
def chOK (R C : Nat) (cu : Nat → Nat) (k : Nat) (x o : Option Nat) : Prop := match o with
  | none => x = none
  | some t => ∃ j, x = some (off R C cu (k + 1) + j) ∧ (LvS R C cu (k + 1))[j]? = some t
/-- the nodes stand -/
def Gr (R C : Nat) (cu : Nat → Nat) (sz : Nat) (fi st : Nat → Nat) (lo hi : Nat → Option Nat) : Prop :=
  sz = off R C cu (nE R C + 1) ∧ (∀ j, j ≤ nE R C + 1 → fi j = off R C cu j) ∧ (∀ k i s, k ≤ nE R C → (LvS R C cu k)[i]? = some s → st (off R C cu k + i) = s) ∧
  (∀ k i s, k < nE R C → (LvS R C cu k)[i]? = some s → chOK R C cu k (lo (off R C cu k + i)) (stepF R C cu s k false) ∧ chOK R C cu k (hi (off R C cu k + i)) (stepF R C cu s k true))
/-- the ways stand -/
def Wy (R C : Nat) (cu : Nat → Nat) (wn : Nat) (m : Nat) (f : Nat → Nat) : Prop := ∀ k i s, m ≤ k → k ≤ nE R C → (LvS R C cu k)[i]? = some s → f (off R C cu k + i) = WS R C cu wn (nE R C - k) k s
/-- what the counts of the grid keep to -/
def XOK (R C : Nat) (cu : Nat → Nat) : Prop := CU R C cu ∧ off R C cu (nE R C + 1) ≤ 1014 ∧ ∀ k, k ≤ nE R C → ∀ s, s ∈ LvS R C cu k → ∀ wn, WS R C cu wn (nE R C - k) k s < 2 ^ 31
theorem off_mono {R C : Nat} {cu : Nat → Nat} {j : Nat} : ∀ {k : Nat}, j ≤ k → off R C cu j ≤ off R C cu k
  | 0, h => by rw [Nat.le_zero.mp h]; exact Nat.le_refl _
  | k + 1, h => by
    rcases Nat.lt_or_ge j (k + 1) with q | q
    · exact Nat.le_trans (off_mono (Nat.le_of_lt_succ q)) (Nat.le_add_right _ _)
    · rw [Nat.le_antisymm h q]; exact Nat.le_refl _
theorem ins_pre (acc : List Nat) (x : Option Nat) : acc <+: ins acc x := by
  unfold ins
  split
  · exact List.prefix_refl _
  · split
    · exact List.prefix_refl _
    · exact List.prefix_append _ _
theorem exA_pre (R C : Nat) (cu : Nat → Nat) (k : Nat) : ∀ (l acc : List Nat), acc <+: exA R C cu k acc l
  | [], acc => List.prefix_refl _
  | s :: l, acc => ((ins_pre acc _).trans (ins_pre _ _)).trans (exA_pre R C cu k l _)
theorem exA_app (R C : Nat) (cu : Nat → Nat) (k : Nat) (acc a b : List Nat) : exA R C cu k acc (a ++ b) = exA R C cu k (exA R C cu k acc a) b := by
  unfold exA; rw [List.foldl_append]
theorem pre_get {a b : List Nat} (h : a <+: b) {j x : Nat} (hj : a[j]? = some x) : b[j]? = some x := by
  obtain ⟨r, rfl⟩ := h
  rw [List.getElem?_append_left (List.getElem?_eq_some_iff.mp hj).1]
  exact hj
theorem take_get {l : List Nat} {i x : Nat} (h : l[i]? = some x) : l.take (i + 1) = l.take i ++ [x] := by
  obtain ⟨h1, h2⟩ := List.getElem?_eq_some_iff.mp h
  rw [List.take_succ, h]
  rfl
/-- so far as i nodes of level k are through -/
def accA (R C : Nat) (cu : Nat → Nat) (k i : Nat) : List Nat := exA R C cu k [] ((LvS R C cu k).take i)
theorem accA_0 (R C : Nat) (cu : Nat → Nat) (k : Nat) : accA R C cu k 0 = [] := by simp [accA, exA]
theorem accA_s {R C : Nat} {cu : Nat → Nat} {k i s : Nat} (h : (LvS R C cu k)[i]? = some s) : accA R C cu k (i + 1) = ins (ins (accA R C cu k i) (stepF R C cu s k false)) (stepF R C cu s k true) := by
  unfold accA
  rw [take_get h, exA_app]
  rfl
theorem accA_e {R C : Nat} {cu : Nat → Nat} {k : Nat} : accA R C cu k (LvS R C cu k).length = LvS R C cu (k + 1) := by
  unfold accA
  rw [List.take_length]
  rfl
theorem accA_pre (R C : Nat) (cu : Nat → Nat) (k i : Nat) : accA R C cu k i <+: LvS R C cu (k + 1) := by
  have h : exA R C cu k [] ((LvS R C cu k).take i) <+: exA R C cu k [] ((LvS R C cu k).take i ++ (LvS R C cu k).drop i) := by
    rw [exA_app]
    exact exA_pre R C cu k _ _
  rw [List.take_append_drop] at h
  exact h
/-- the half way: the low child of node i is there, too -/
theorem accH_pre {R C : Nat} {cu : Nat → Nat} {k i s : Nat} (h : (LvS R C cu k)[i]? = some s) : ins (accA R C cu k i) (stepF R C cu s k false) <+: LvS R C cu (k + 1) :=
  ((ins_pre _ _).trans (by rw [← accA_s h]; exact List.prefix_refl _)).trans (accA_pre R C cu k (i + 1))
theorem pre_len {a b : List Nat} (h : a <+: b) : a.length ≤ b.length := h.length_le
theorem LvS_lt {R C : Nat} {cu : Nat → Nat} (hG : GS R C) (hcu : CU R C cu) : ∀ {k : Nat}, k ≤ nE R C → ∀ s ∈ LvS R C cu k, s < 8 ^ 8
  | 0, _, s, h => by
    simp only [LvS, List.mem_singleton] at h
    omega
  | k + 1, hk, s, h => by
    have key : ∀ (l acc : List Nat), (∀ x ∈ acc, x < 8 ^ 8) → (∀ x ∈ l, x < 8 ^ 8) → ∀ x ∈ exA R C cu k acc l, x < 8 ^ 8 := by
      intro l
      induction l with
      | nil => intro acc h1 _ x hx; exact h1 x hx
      | cons y l ih =>
        intro acc h1 h2 x hx
        refine ih _ ?_ (fun z hz => h2 z (List.mem_cons_of_mem _ hz)) x hx
        have hi : ∀ (acc : List Nat) (o : Option Nat), (∀ x ∈ acc, x < 8 ^ 8) → (∀ t, o = some t → t < 8 ^ 8) → ∀ x ∈ ins acc o, x < 8 ^ 8 := by
          intro acc o h1 h2 x hx
          unfold ins at hx
          cases o with
          | none => exact h1 x hx
          | some t =>
            simp only at hx
            split at hx
            · exact h1 x hx
            · rcases List.mem_append.mp hx with h | h
              · exact h1 x h
              · rw [List.mem_singleton.mp h]; exact h2 t rfl
        exact hi _ _ (hi _ _ h1 (fun t ht => stepF_lt hG hcu (h2 y List.mem_cons_self) (by omega) ht)) (fun t ht => stepF_lt hG hcu (h2 y List.mem_cons_self) (by omega) ht)
    exact key _ [] (fun x hx => absurd hx List.not_mem_nil) (fun x hx => LvS_lt hG hcu (by omega) x hx) s h
theorem ch_oW {R C : Nat} {cu : Nat → Nat} {k : Nat} {x o : Option Nat} {f g : Nat → Nat} (h : chOK R C cu k x o) (hf : ∀ i s, (LvS R C cu (k + 1))[i]? = some s → f (off R C cu (k + 1) + i) = g s) : oW f x = oW g o := by
  cases o with
  | none => rw [show x = none from h]; rfl
  | some t =>
    obtain ⟨j, rfl, hj⟩ := h
    exact hf j t hj
theorem ch_lt {R C : Nat} {cu : Nat → Nat} {k : Nat} {x o : Option Nat} (h : chOK R C cu k x o) (hk : k < nE R C) {i : Nat} (hi : x = some i) : i < off R C cu (nE R C + 1) := by
  cases o with
  | none => rw [show x = none from h] at hi; cases hi
  | some t =>
    obtain ⟨j, rfl, hj⟩ := h
    cases hi
    have h1 := (List.getElem?_eq_some_iff.mp hj).1
    have h2 : off R C cu (k + 2) ≤ off R C cu (nE R C + 1) := off_mono (by omega)
    have h3 : off R C cu (k + 2) = off R C cu (k + 1) + (LvS R C cu (k + 1)).length := rfl
    omega
/-- a node's number tells its place in its level -/
theorem nd_at {R C : Nat} {cu : Nat → Nat} {k nd : Nat} (h1 : off R C cu k ≤ nd) (h2 : nd < off R C cu (k + 1)) : ∃ i s, nd = off R C cu k + i ∧ (LvS R C cu k)[i]? = some s := by
  have h3 : off R C cu (k + 1) = off R C cu k + (LvS R C cu k).length := rfl
  refine ⟨nd - off R C cu k, (LvS R C cu k)[nd - off R C cu k]'(by omega), by omega, ?_⟩
  exact List.getElem?_eq_getElem (by omega)
theorem nd_lt {R C : Nat} {cu : Nat → Nat} {k i s : Nat} (h : (LvS R C cu k)[i]? = some s) : off R C cu k + i < off R C cu (k + 1) := by
  have h1 := (List.getElem?_eq_some_iff.mp h).1
  have h3 : off R C cu (k + 1) = off R C cu k + (LvS R C cu k).length := rfl
  omega
def solA (R C : Nat) (cu : Nat → Nat) : Nat → Nat → Nat → Nat → Nat → Nat
  | 0, _, _, _, acc => acc
  | n + 1, e, s, left, acc =>
    if left < oW (WS R C cu 0 n (e + 1)) (stepF R C cu s e false) then oW (fun t => solA R C cu n (e + 1) t left acc) (stepF R C cu s e false)
    else oW (fun t => solA R C cu n (e + 1) t (left - oW (WS R C cu 0 n (e + 1)) (stepF R C cu s e false)) (acc ||| 2 ^ e)) (stepF R C cu s e true)
def rkA (R C : Nat) (cu : Nat → Nat) (set : Nat) : Nat → Nat → Nat → Nat → Option Nat
  | 0, _, _, acc => some acc
  | n + 1, e, s, acc => (stepF R C cu s e (set.testBit e)).bind fun t => rkA R C cu set n (e + 1) t (if set.testBit e then acc + oW (WS R C cu 0 n (e + 1)) (stepF R C cu s e false) else acc)
def alA (R C : Nat) (cu : Nat → Nat) (set : Nat) : Nat → Nat → Nat → Nat
  | 0, e, _ => e
  | n + 1, e, s => match stepF R C cu s e (set.testBit e) with | none => e | some t => alA R C cu set n (e + 1) t
theorem pd_s {m : Nat} (h : m < 99) : eI (pd (m + 1)) = nI m := by
  unfold pd
  rw [if_neg (by omega), Nat.add_sub_cancel, eI_ne (by omega)]
theorem eI_dec {m : Nat} (h : m < 100) : nI m + Int32.ofInt (-1) = eI (pd m) := by
  cases m with
  | zero => decide
  | succ j => rw [pd_s (by omega)]; exact pk_m1 j
theorem pd_neg {m : Nat} (h : m < 99) (h2 : eI (pd m) < 0) : m = 0 := by
  cases m with
  | zero => rfl
  | succ j => rw [pd_s (by omega)] at h2; exact absurd h2 (nI_pos (by omega))
theorem pd_nn {m : Nat} (h2 : ¬ eI (pd m) < 0) : ∃ j, m = j + 1 := by
  cases m with
  | zero => exact absurd (by decide) h2
  | succ j => exact ⟨j, rfl⟩
theorem Wy_put {R C : Nat} {cu : Nat → Nat} {wn m1 i3 v : Nat} {f3 : Nat → Nat} (hf3 : Wy R C cu wn (m1 + 1) f3) (h : i3 < off R C cu (m1 + 1)) : Wy R C cu wn (m1 + 1) (va_up f3 i3 v) := fun k i4 s4 h5 h6 h7 => by
  have h8 : off R C cu (m1 + 1) ≤ off R C cu k := off_mono h5
  rw [va_up_ne _ _ (by omega)]
  exact hf3 k i4 s4 h5 h6 h7
theorem Wy_down {R C : Nat} {cu : Nat → Nat} {wn m1 : Nat} {f3 : Nat → Nat} (hf3 : Wy R C cu wn (m1 + 1) f3) (hp3 : ∀ j s, (LvS R C cu m1)[j]? = some s → off R C cu m1 + j < off R C cu (m1 + 1) → f3 (off R C cu m1 + j) = WS R C cu wn (nE R C - m1) m1 s) : Wy R C cu wn m1 f3 := fun k i4 s4 h5 h6 h7 => by
  rcases Nat.lt_or_ge m1 k with h8 | h8
  · exact hf3 k i4 s4 h8 h6 h7
  · have h9 : k = m1 := by omega
    subst h9
    exact hp3 i4 s4 h7 (nd_lt h7)
/-- how many of the first i nodes of level k go on to the end -/
def usA (R C : Nat) (cu : Nat → Nat) (k i : Nat) : Nat := ((LvS R C cu k).take i).countP (fun s => decide (0 < WS R C cu 0 (nE R C - k) k s))
theorem usA_0 (R C : Nat) (cu : Nat → Nat) (k : Nat) : usA R C cu k 0 = 0 := by simp [usA]
theorem usA_s {R C : Nat} {cu : Nat → Nat} {k i s : Nat} (h : (LvS R C cu k)[i]? = some s) : usA R C cu k (i + 1) = usA R C cu k i + (if 0 < WS R C cu 0 (nE R C - k) k s then 1 else 0) := by
  unfold usA
  rw [take_get h, List.countP_append]
  simp [List.countP_cons]
theorem lv0 (R C : Nat) (cu : Nat → Nat) : (LvS R C cu 0)[0]? = some 1672 := rfl
theorem mem_of_get {l : List Nat} {i s : Nat} (h : l[i]? = some s) : s ∈ l := List.mem_of_getElem? h
theorem oI_some {x : Option Nat} {t : Nat} (h : x = some t) : oI x = nI t := by rw [h]; rfl
theorem ch_some {R C : Nat} {cu : Nat → Nat} {k : Nat} {x o : Option Nat} (h : chOK R C cu k x o) {t : Nat} (ho : o = some t) : ∃ j, x = some (off R C cu (k + 1) + j) ∧ (LvS R C cu (k + 1))[j]? = some t := by
  subst ho
  exact h
theorem ch_none {R C : Nat} {cu : Nat → Nat} {k : Nat} {x o : Option Nat} (h : chOK R C cu k x o) (ho : o = none) : x = none := by
  subst ho
  exact h
theorem oW_pos {f : Nat → Nat} {o : Option Nat} {x : Nat} (h : x < oW f o) : ∃ t, o = some t ∧ x < f t := by
  cases o with
  | none => exact absurd h (Nat.not_lt_zero _)
  | some t => exact ⟨t, rfl, h⟩
theorem or_bit {a e : Nat} (he : e < 31) : nI a ||| (nI 1 <<< (nI e &&& 31)) = nI (a ||| 2 ^ e) := by
  have h : 1 * 2 ^ e < 2 ^ 32 := by
    have := Nat.pow_lt_pow_right (a := 2) (by decide) (show e < 32 by omega)
    omega
  rw [nb_shl h (by omega), nb_or, Nat.one_mul]
