/-! the bounds: how many states, how many loops -/
theorem nod_len : ∀ {A B : List Nat}, A.Nodup → (∀ x ∈ A, x ∈ B) → A.length ≤ B.length
  | [], _, _, _ => Nat.zero_le _
  | a :: A, B, h1, h2 => by
    obtain ⟨n1, n2⟩ := List.nodup_cons.mp h1
    have hb := h2 a List.mem_cons_self
    have ih := nod_len (B := B.erase a) n2 fun x hx => (List.mem_erase_of_ne (fun e => n1 (by rw [← e]; exact hx))).mpr (h2 x (List.mem_cons_of_mem _ hx))
    have h3 := List.length_erase_of_mem hb
    have h4 : 0 < B.length := List.length_pos_of_mem hb
    rw [List.length_cons]
    omega
theorem ins_nd {a : List Nat} (h : a.Nodup) (x : Option Nat) : (ins a x).Nodup := by
  cases x with
  | none => exact h
  | some t =>
    simp only [ins]
    split
    · exact h
    · rename_i q
      refine List.nodup_append.mpr ⟨h, by simp, fun y hy z hz => ?_⟩
      rw [List.mem_singleton.mp hz]
      exact fun e => q (by rw [← e]; exact hy)
theorem exA_nd {R C : Nat} {cu : Nat → Nat} {k : Nat} : ∀ (l a : List Nat), a.Nodup → (exA R C cu k a l).Nodup
  | [], _, h => h
  | s :: l, a, h => exA_nd l _ (ins_nd (ins_nd h _) _)
theorem LvS_nd {R C : Nat} {cu : Nat → Nat} : ∀ k, (LvS R C cu k).Nodup
  | 0 => by simp [LvS]
  | k + 1 => exA_nd _ _ List.nodup_nil
def fv (R C x m c : Nat) : Nat := match opc R C m c with | none => 0 | some i => cnt R C x i m
def fw (R C x m : Nat) : Nat := fv R C x m 0 + (32 * fv R C x m 1 + 1024 * fv R C x m 2)
def fs (R C m : Nat) (t : Bool) (v c : Nat) : Nat := match opc R C (m + 1) c with
  | none => 0
  | some i => (match opc R C m c with | none => 0 | some i2 => if i2 = i then v else 0) + (if adj R C i m then b2 t else 0)
theorem fv_s {R C x m c : Nat} (hG : GS R C) (hm : m < nE R C) : fv R C x (m + 1) c = fs R C m (x.testBit m) (fv R C x m c) c := by
  have hE := hG.E
  unfold fs
  unfold fv
  cases ho : opc R C (m + 1) c with
  | none => rfl
  | some i =>
    obtain ⟨o1, o2, o3, o4⟩ := opc_in ho
    simp only
    rw [cnt_s (by omega)]
    congr 1
    by_cases q : mCF R C i < m
    · have h1 := of_decide_eq_true (allB_get (allB_get (allB_get (allB_get opc_c R hG.lt5.1) C hG.lt5.2) m (by omega)) i o1) ⟨q, by omega⟩
      rw [o2] at h1
      rw [h1]
      simp
    · rw [cnt_0 hG o1 m (by omega) (by omega)]
      cases h1 : opc R C m c with
      | none => rfl
      | some i2 =>
        simp only
        by_cases e : i2 = i
        · rw [if_pos e, e, cnt_0 hG o1 m (by omega) (by omega)]
        · rw [if_neg e]
def FS (R C m : Nat) (t : Bool) (z : Nat) : Option Nat := match pointsF R C (z / 32768) m t with
  | none => none
  | some p => some (p * 32768 + (fs R C m t (z % 32) 0 + (32 * fs R C m t (z / 32 % 32) 1 + 1024 * fs R C m t (z / 1024 % 32) 2)))
def frc (t : Nat) (g : Nat → List Nat) : List Nat := match t with | 0 => g 0 | n + 1 => g (n + 1)
theorem frc_eq (t : Nat) (g : Nat → List Nat) : frc t g = g t := by cases t <;> rfl
def elF (t : Nat) : List Nat → Bool | [] => false | a :: l => Nat.beq t a || elF t l
theorem elF_iff {t : Nat} : ∀ {l : List Nat}, elF t l = true ↔ t ∈ l
  | [] => by simp [elF]
  | a :: l => by simp only [elF, Bool.or_eq_true, beq_iff, List.mem_cons, elF_iff (l := l)]
def inF (a : List Nat) (x : Option Nat) : List Nat := match x with | none => a | some t => frc t fun t => bif elF t a then a else t :: a
theorem inF_mem {a : List Nat} {x : Option Nat} {u : Nat} : u ∈ inF a x ↔ (u ∈ a ∨ x = some u) := by
  cases x with
  | none => simp [inF]
  | some t =>
    simp only [inF, frc_eq]
    cases h : elF t a with
    | true =>
      have := elF_iff.mp h
      simp only [cond_true, Option.some.injEq]
      exact ⟨Or.inl, fun h => h.elim id (fun e => by rw [← e]; exact this)⟩
    | false =>
      simp only [cond_false, List.mem_cons, Option.some.injEq]
      exact ⟨fun h => h.elim (fun e => Or.inr e.symm) Or.inl, fun h => h.elim Or.inr (fun e => Or.inl e.symm)⟩
def nxF (R C m : Nat) : List Nat → List Nat → List Nat | [], a => a | z :: l, a => nxF R C m l (inF (inF a (FS R C m false z)) (FS R C m true z))
def FL (R C : Nat) : Nat → List Nat | 0 => [1672 * 32768] | m + 1 => nxF R C m (FL R C m) []
def FB (R C : Nat) : Nat → Nat → List Nat → Nat → Nat | 0, _, _, s => s | n + 1, k, L, s => FB R C n (k + 1) (nxF R C k L []) (s + L.length)
theorem nxF_mem {R C m u : Nat} : ∀ {l a : List Nat}, (u ∈ a ∨ ∃ z ∈ l, FS R C m false z = some u ∨ FS R C m true z = some u) → u ∈ nxF R C m l a
  | [], a, h => h.elim id (fun ⟨z, hz, _⟩ => absurd hz List.not_mem_nil)
  | z :: l, a, h => by
    simp only [nxF]
    refine nxF_mem ?_
    rcases h with h | ⟨y, hy, h⟩
    · exact Or.inl (inF_mem.mpr (Or.inl (inF_mem.mpr (Or.inl h))))
    · rcases List.mem_cons.mp hy with e | hy
      · subst e
        rcases h with h | h
        · exact Or.inl (inF_mem.mpr (Or.inl (inF_mem.mpr (Or.inr h))))
        · exact Or.inl (inF_mem.mpr (Or.inr h))
      · exact Or.inr ⟨y, hy, h⟩
theorem fv_lt {R C x m c : Nat} (hm : m < 32) : fv R C x m c < 32 := by
  unfold fv
  split
  · omega
  · have := sdA_le R C (rv x) (by assumption) m
    unfold cnt
    omega
theorem FL_mem {R C x : Nat} (hG : GS R C) : ∀ m p, m ≤ nE R C → rnP R C x m 0 1672 = some p → p * 32768 + fw R C x m ∈ FL R C m
  | 0, p, _, h => by
    cases h
    have : fw R C x 0 = 0 := by
      have key : ∀ c, fv R C x 0 c = 0 := fun c => by
        unfold fv
        split
        · rfl
        · rfl
      unfold fw
      rw [key, key, key]
    rw [this]
    exact List.mem_singleton.mpr rfl
  | m + 1, p, hm, h => by
    have hE := hG.E
    rw [rnP_sn, Nat.zero_add] at h
    cases hq : rnP R C x m 0 1672 with
    | none => rw [hq] at h; cases h
    | some p0 =>
      rw [hq] at h
      have ih := FL_mem hG m p0 (by omega) hq
      have hp : pointsF R C p0 m (x.testBit m) = some p := h
      have h0 := fv_lt (R := R) (C := C) (x := x) (m := m) (c := 0) (by omega)
      have h1 := fv_lt (R := R) (C := C) (x := x) (m := m) (c := 1) (by omega)
      have h2 := fv_lt (R := R) (C := C) (x := x) (m := m) (c := 2) (by omega)
      have e : FS R C m (x.testBit m) (p0 * 32768 + fw R C x m) = some (p * 32768 + fw R C x (m + 1)) := by
        have e1 : (p0 * 32768 + fw R C x m) / 32768 = p0 := by unfold fw; omega
        have e2 : (p0 * 32768 + fw R C x m) % 32 = fv R C x m 0 := by unfold fw; omega
        have e3 : (p0 * 32768 + fw R C x m) / 32 % 32 = fv R C x m 1 := by unfold fw; omega
        have e4 : (p0 * 32768 + fw R C x m) / 1024 % 32 = fv R C x m 2 := by unfold fw; omega
        unfold FS
        rw [e1, e2, e3, e4, hp, ← fv_s hG (by omega), ← fv_s hG (by omega), ← fv_s hG (by omega)]
        rfl
      refine nxF_mem (Or.inr ⟨_, ih, ?_⟩)
      cases hb : x.testBit m with
      | false => rw [hb] at e; exact Or.inl e
      | true => rw [hb] at e; exact Or.inr e
theorem lv_FL {R C : Nat} {cu : Nat → Nat} (hG : GS R C) (hcu : CU R C cu) {k : Nat} (hk : k ≤ nE R C) : (LvS R C cu k).length ≤ (FL R C k).length := by
  obtain ⟨X, h1, _, h3⟩ := rel_lv hG hcu k hk
  have hE := hG.E
  have hC3 := hG.2.2.2
  have hl := congrArg List.length h3
  rw [List.length_map, List.length_map] at hl
  have hs : ∀ x ∈ X, ∃ s, rnS R C cu x k 0 1672 = some s := fun y hy => by
    have : rnS R C cu y k 0 1672 ∈ X.map (fun x => rnS R C cu x k 0 1672) := List.mem_map.mpr ⟨y, hy, rfl⟩
    rw [h3] at this
    obtain ⟨s, _, e⟩ := List.mem_map.mp this
    exact ⟨s, e.symm⟩
  have hn : (X.map (fun x => rnS R C cu x k 0 1672)).Nodup := by
    rw [h3]
    exact List.pairwise_map.mpr (List.Pairwise.imp (fun h e => h (Option.some.inj e)) (LvS_nd k))
  have hn2 : (X.map (fun x => (rnP R C x k 0 1672).getD 0 * 32768 + fw R C x k)).Nodup := by
    refine List.pairwise_map.mpr (List.Pairwise.imp_of_mem (fun {x y} hx hy hxy e => hxy ?_) (List.pairwise_map.mp hn))
    obtain ⟨s, ex⟩ := hs x hx
    obtain ⟨s2, ey⟩ := hs y hy
    rcases run_sp (d := x) hG hcu k hk with ⟨e1, _⟩ | ⟨s', p, q, e1, e2, e3, e4⟩
    · rw [ex] at e1; cases e1
    rcases run_sp (d := y) hG hcu k hk with ⟨f1, _⟩ | ⟨s2', p2, q2, f1, f2, f3, f4⟩
    · rw [ey] at f1; cases f1
    rcases clue_run hG hcu x k hk with ⟨g1, _⟩ | ⟨q', g1, g2, g3⟩
    · rw [g1] at e3; cases e3
    rw [g1] at e3; cases e3
    rcases clue_run hG hcu y k hk with ⟨k1, _⟩ | ⟨q2', k1, k2, k3⟩
    · rw [k1] at f3; cases f3
    rw [k1] at f3; cases f3
    rw [e2, f2] at e
    simp only [Option.getD_some] at e
    have hx0 := fv_lt (R := R) (C := C) (x := x) (m := k) (c := 0) (by omega)
    have hx1 := fv_lt (R := R) (C := C) (x := x) (m := k) (c := 1) (by omega)
    have hx2 := fv_lt (R := R) (C := C) (x := x) (m := k) (c := 2) (by omega)
    have hy0 := fv_lt (R := R) (C := C) (x := y) (m := k) (c := 0) (by omega)
    have hy1 := fv_lt (R := R) (C := C) (x := y) (m := k) (c := 1) (by omega)
    have hy2 := fv_lt (R := R) (C := C) (x := y) (m := k) (c := 2) (by omega)
    unfold fw at e
    have hpp : p = p2 := by omega
    have d0 : fv R C x k 0 = fv R C y k 0 := by omega
    have d1 : fv R C x k 1 = fv R C y k 1 := by omega
    have d2 : fv R C x k 2 = fv R C y k 2 := by omega
    have dc : ∀ c, c < C → fv R C x k c = fv R C y k c := fun c hc => by
      have : c = 0 ∨ c = 1 ∨ c = 2 := by omega
      rcases this with rfl | rfl | rfl
      · exact d0
      · exact d1
      · exact d2
    subst hpp
    have hqq : q = q2 := sl_ext g3.1 k3.1 fun j hj => by
      rw [g3.2 j hj, k3.2 j hj]
      unfold Fq
      by_cases h4 : 4 ≤ j ∧ j < 4 + C
      · rw [if_pos h4, if_pos h4]
        have h5 := dc (j - 4) (by omega)
        unfold fv at h5
        cases ho : opc R C k (j - 4) with
        | none => rfl
        | some i =>
          rw [ho] at h5
          simp only at h5 ⊢
          rw [h5]
      · rw [if_neg h4, if_neg h4]
    subst hqq
    rw [e1, f1, e4.det f4]
  have h5 := nod_len hn2 (B := FL R C k) fun u hu => by
    obtain ⟨x, hx, e⟩ := List.mem_map.mp hu
    obtain ⟨s, ex⟩ := hs x hx
    rcases run_sp (d := x) hG hcu k hk with ⟨e1, _⟩ | ⟨s', p, q, e1, e2, e3, e4⟩
    · rw [ex] at e1; cases e1
    rw [← e, e2]
    exact FL_mem hG k p hk e2
  rw [List.length_map] at h5
  omega
theorem off_FB {R C : Nat} {cu : Nat → Nat} (hG : GS R C) (hcu : CU R C cu) : ∀ n k s, k + n ≤ nE R C + 1 → off R C cu k ≤ s → off R C cu (k + n) ≤ FB R C n k (FL R C k) s
  | 0, _, _, _, h => h
  | n + 1, k, s, hk, h => by
    have h1 := lv_FL (cu := cu) hG hcu (show k ≤ nE R C by omega)
    have := off_FB hG hcu n (k + 1) (s + (FL R C k).length) (by omega) (by show off R C cu k + (LvS R C cu k).length ≤ _; omega)
    rw [show k + (n + 1) = k + 1 + n by omega]
    exact this
theorem FB_c : (allB 5 fun R => allB 4 fun C => Nat.ble (FB R C (nE R C + 1) 0 [1672 * 32768] 0) 1014) = true := by decide +kernel
theorem off_le {R C : Nat} {cu : Nat → Nat} (hG : GS R C) (hcu : CU R C cu) : off R C cu (nE R C + 1) ≤ 1014 := by
  have h1 := off_FB (cu := cu) hG hcu (nE R C + 1) 0 0 (by omega) (Nat.le_refl _)
  rw [Nat.zero_add] at h1
  exact Nat.le_trans h1 (Nat.le_of_ble_eq_true (allB_get (allB_get FB_c R hG.lt5.1) C hG.lt5.2))
