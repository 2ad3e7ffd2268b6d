/-! the growing of the diagram -/
def NA (st : Nat → Nat) (sz f1 : Nat) (o x : Option Nat) (st2 : Nat → Nat) (sz2 : Nat) : Prop :=
  (o = none ∧ x = none ∧ st2 = st ∧ sz2 = sz) ∨ (∃ t j, o = some t ∧ x = some j ∧ f1 ≤ j ∧ j < sz ∧ st j = t ∧ st2 = st ∧ sz2 = sz) ∨
  (∃ t, o = some t ∧ (∀ j, f1 ≤ j → j < sz → st j ≠ t) ∧ x = some sz ∧ st2 = va_up st sz t ∧ sz2 = sz + 1)
theorem na_step {R C : Nat} {cu : Nat → Nat} {e sz sz2 : Nat} {st st2 : Nat → Nat} {o x : Option Nat} {acc : List Nat} (h : NA st sz (off R C cu (e + 1)) o x st2 sz2) (hsz : sz = off R C cu (e + 1) + acc.length) (hac : ∀ j y, acc[j]? = some y → st (off R C cu (e + 1) + j) = y) (hp : ins acc o <+: LvS R C cu (e + 1)) :
    sz2 = off R C cu (e + 1) + (ins acc o).length ∧ (∀ j y, (ins acc o)[j]? = some y → st2 (off R C cu (e + 1) + j) = y) ∧ (∀ j, j < off R C cu (e + 1) → st2 j = st j) ∧ chOK R C cu e x o := by
  rcases h with ⟨rfl, rfl, rfl, rfl⟩ | ⟨t, j, rfl, rfl, h1, h2, h3, rfl, rfl⟩ | ⟨t, rfl, h1, rfl, rfl, rfl⟩
  · exact ⟨hsz, hac, fun _ _ => rfl, rfl⟩
  · obtain ⟨j2, rfl⟩ : ∃ j2, j = off R C cu (e + 1) + j2 := ⟨j - off R C cu (e + 1), by omega⟩
    have h4 : j2 < acc.length := by omega
    have h5 : acc[j2]? = some t := by
      rw [List.getElem?_eq_getElem h4, ← hac j2 _ (List.getElem?_eq_getElem h4), h3]
    have h6 : t ∈ acc := List.mem_of_getElem? h5
    have h7 : ins acc (some t) = acc := by simp [ins, h6]
    rw [h7] at hp ⊢
    exact ⟨hsz, hac, fun _ _ => rfl, j2, rfl, pre_get hp h5⟩
  · have h6 : t ∉ acc := fun hm => by
      obtain ⟨j, hj⟩ := List.getElem?_of_mem hm
      have := (List.getElem?_eq_some_iff.mp hj).1
      exact h1 (off R C cu (e + 1) + j) (by omega) (by omega) (hac j t hj)
    have h7 : ins acc (some t) = acc ++ [t] := by simp [ins, h6]
    rw [h7] at hp ⊢
    refine ⟨by rw [List.length_append, List.length_singleton]; omega, fun j y hj => ?_, fun j hj => va_up_ne _ _ (by omega), acc.length, by rw [hsz], pre_get hp (by simp)⟩
    by_cases h8 : j < acc.length
    · rw [List.getElem?_append_left h8] at hj
      rw [va_up_ne _ _ (by omega)]
      exact hac j y hj
    · have h9 := (List.getElem?_eq_some_iff.mp hj).1
      rw [List.length_append, List.length_singleton] at h9
      have h10 : j = acc.length := by omega
      subst h10
      simp at hj
      rw [← hj, ← hsz, va_up_self]
theorem na_room {R C : Nat} {cu : Nat → Nat} {e sz : Nat} {st : Nat → Nat} {o : Option Nat} {acc : List Nat} (he : e < nE R C) (hcap : off R C cu (nE R C + 1) ≤ 1014) (hsz : sz = off R C cu (e + 1) + acc.length) (hac : ∀ j y, acc[j]? = some y → st (off R C cu (e + 1) + j) = y) (hp : ins acc o <+: LvS R C cu (e + 1)) (t : Nat) (ho : o = some t) (hn : ∀ j, off R C cu (e + 1) ≤ j → j < sz → st j ≠ t) : sz < 1014 := by
  subst ho
  have h6 : t ∉ acc := fun hm => by
    obtain ⟨j, hj⟩ := List.getElem?_of_mem hm
    have := (List.getElem?_eq_some_iff.mp hj).1
    exact hn (off R C cu (e + 1) + j) (by omega) (by omega) (hac j t hj)
  have h7 : ins acc (some t) = acc ++ [t] := by simp [ins, h6]
  rw [h7] at hp
  have h8 := pre_len hp
  rw [List.length_append, List.length_singleton] at h8
  have h9 : off R C cu (e + 1 + 1) = off R C cu (e + 1) + (LvS R C cu (e + 1)).length := rfl
  have h10 : off R C cu (e + 1 + 1) ≤ off R C cu (nE R C + 1) := off_mono (by omega)
  omega
theorem off_lev {R C : Nat} {cu : Nat → Nat} {j : Nat} : ∀ {m : Nat}, j < off R C cu m → ∃ k i s, k < m ∧ j = off R C cu k + i ∧ (LvS R C cu k)[i]? = some s
  | 0, h => absurd h (Nat.not_lt_zero _)
  | m + 1, h => by
    rcases Nat.lt_or_ge j (off R C cu m) with q | q
    · obtain ⟨k, i, s, h1, h2, h3⟩ := off_lev q
      exact ⟨k, i, s, by omega, h2, h3⟩
    · obtain ⟨i, s, h1, h2⟩ := nd_at q h
      exact ⟨m, i, s, by omega, h1, h2⟩
def StL (R C : Nat) (cu : Nat → Nat) (m : Nat) (st : Nat → Nat) : Prop := ∀ k i s, k < m → (LvS R C cu k)[i]? = some s → st (off R C cu k + i) = s
def ChL (R C : Nat) (cu : Nat → Nat) (m : Nat) (lo hi : Nat → Option Nat) : Prop := ∀ k i s, k < m → (LvS R C cu k)[i]? = some s → chOK R C cu k (lo (off R C cu k + i)) (stepF R C cu s k false) ∧ chOK R C cu k (hi (off R C cu k + i)) (stepF R C cu s k true)
def ChI (R C : Nat) (cu : Nat → Nat) (e i : Nat) (lo hi : Nat → Option Nat) : Prop := ∀ j s, j < i → (LvS R C cu e)[j]? = some s → chOK R C cu e (lo (off R C cu e + j)) (stepF R C cu s e false) ∧ chOK R C cu e (hi (off R C cu e + j)) (stepF R C cu s e true)
def AcI (R C : Nat) (cu : Nat → Nat) (e : Nat) (acc : List Nat) (sz : Nat) (st : Nat → Nat) : Prop := sz = off R C cu (e + 1) + acc.length ∧ ∀ j y, acc[j]? = some y → st (off R C cu (e + 1) + j) = y
theorem st8 {R C : Nat} {cu : Nat → Nat} (hG : GS R C) (hcu : CU R C cu) {e sz : Nat} {st : Nat → Nat} {acc : List Nat} (he : e < nE R C) (hS : StL R C cu (e + 1) st) (hA : AcI R C cu e acc sz st) (hp : acc <+: LvS R C cu (e + 1)) (j : Nat) (hj : j < sz) : st j < 8 ^ 8 := by
  rcases Nat.lt_or_ge j (off R C cu (e + 1)) with q | q
  · obtain ⟨k, i, s, h1, h2, h3⟩ := off_lev q
    rw [h2, hS k i s h1 h3]
    exact LvS_lt hG hcu (by omega) s (List.mem_of_getElem? h3)
  · obtain ⟨h1, h2⟩ := hA
    have h3 : j - off R C cu (e + 1) < acc.length := by omega
    have h4 := h2 _ _ (List.getElem?_eq_getElem h3)
    rw [show off R C cu (e + 1) + (j - off R C cu (e + 1)) = j by omega] at h4
    rw [h4]
    exact LvS_lt hG hcu (by omega) _ (List.mem_of_getElem? (pre_get hp (List.getElem?_eq_getElem h3)))
theorem StL_mv {R C : Nat} {cu : Nat → Nat} {m : Nat} {st st2 : Nat → Nat} (h : StL R C cu m st) (h2 : ∀ j, j < off R C cu m → st2 j = st j) : StL R C cu m st2 := fun k i s hk hs => by
  have h3 := nd_lt hs
  have h4 : off R C cu (k + 1) ≤ off R C cu m := off_mono hk
  rw [h2 _ (by omega)]
  exact h k i s hk hs
theorem ChL_mv {R C : Nat} {cu : Nat → Nat} {m : Nat} {lo hi lo2 hi2 : Nat → Option Nat} (h : ChL R C cu m lo hi) (h2 : ∀ j, j < off R C cu m → lo2 j = lo j ∧ hi2 j = hi j) : ChL R C cu m lo2 hi2 := fun k i s hk hs => by
  have h3 := nd_lt hs
  have h4 : off R C cu (k + 1) ≤ off R C cu m := off_mono hk
  obtain ⟨h5, h6⟩ := h2 (off R C cu k + i) (by omega)
  rw [h5, h6]
  exact h k i s hk hs
theorem ChI_st {R C : Nat} {cu : Nat → Nat} {e i s : Nat} {lo hi : Nat → Option Nat} {x y : Option Nat} (h : ChI R C cu e i lo hi) (hs : (LvS R C cu e)[i]? = some s) (hx : chOK R C cu e x (stepF R C cu s e false)) (hy : chOK R C cu e y (stepF R C cu s e true)) : ChI R C cu e (i + 1) (va_up lo (off R C cu e + i) x) (va_up hi (off R C cu e + i) y) := fun j s2 hj hs2 => by
  by_cases h1 : j = i
  · subst h1
    cases hs.symm.trans hs2
    rw [va_up_self, va_up_self]
    exact ⟨hx, hy⟩
  · rw [va_up_ne _ _ (by omega), va_up_ne _ _ (by omega)]
    exact h j s2 (by omega) hs2

set_option maxHeartbeats 4000000 in
set_option maxRecDepth 100000 in
theorem c_nodeAfter (l : Launch) (hfl : l.flags = flags0) (D : va_G) (cI cJ cZ : ClassId) (q : Nat → Nat) (R C : Nat) (hG : GS R C) (dr sz : Nat) (sa : Bool) (cu fi st : Nat → Nat) (lo hi : Nat → Option Nat) (wa sw : Nat → Nat) (hcu : CU R C cu) (nd e : Nat) (t : Bool) (hnd : nd < sz) (hsz : sz ≤ 1014) (he : e < nE R C) (hst8 : ∀ j, j < sz → st j < 8 ^ 8) (hf : fi (e + 1) ≤ sz) (hroom : ∀ t0, stepF R C cu (st nd) e t = some t0 → (∀ j, fi (e + 1) ≤ j → j < sz → st j ≠ t0) → sz < 1014) : Ct l yX0_nodeAfter cX0_nodeAfter 6 (Option.some FieldType.int) ({ frames := 3, cells := 0, slots := 0, locals := 74 } : Room) D (tys3 cI cJ cZ) (tys3 cI cJ cZ) (wX cI cZ q R C dr sz sa cu fi st lo hi wa sw) [.ref (q 2), .int (nI (nd)), .int (nI (e)), .int (bI (t))] (fun r u => ∃ (x : Option Nat) (st2 : Nat → Nat) (sz2 : Nat), r = some (.int (oI x)) ∧ NA st sz (fi (e + 1)) (stepF R C cu (st nd) e t) x st2 sz2 ∧ u = wX cI cZ q R C dr sz2 sa cu fi st2 lo hi wa sw) 0 0 := by
  refine Ct.of hfl (by decide) (Nat.le_of_ble_eq_true rfl) ?_
  intro k hR _
  have hR4 := hG.2.1
  have hC3 := hG.2.2.2
  have hR1 := hG.1
  have hC1 := hG.2.2.1
  have hE := hG.E
  have hRC := hG.RC
  have hE4 := hG.E4
  show V k l D (tys3 cI cJ cZ) ({ frames := 3, cells := 0, slots := 0, locals := 74 } : Room) cX0_nodeAfter 6 RX0 (wX cI cZ q R C dr sz sa cu fi st lo hi wa sw) 0 0 0 [(0, .ref (q 2)), (1, .int (nI (nd))), (2, .int (nI (e))), (3, .int (bI (t)))] []
  refine j_aload_n dX0_nodeAfter_0 rfl 0 rfl ?_
  refine gf_X0_9 2 rfl (rfl) dX0_nodeAfter_1 ?_
  refine j_aload_n dX0_nodeAfter_4 rfl 0 rfl ?_
  refine gf_X0_28 2 rfl (rfl) dX0_nodeAfter_5 ?_
  refine j_iload_n dX0_nodeAfter_8 rfl 1 rfl ?_
  refine jn_iald (v := nI (st nd)) 8 0 rfl rfl (by omega) (by omega) (rfl) dX0_nodeAfter_9 ?_
  refine j_iload_n dX0_nodeAfter_10 rfl 2 rfl ?_
  refine j_iload_n dX0_nodeAfter_11 rfl 3 rfl ?_
  refine j_vW (av := [.int (nI (st nd)), .int (nI (e)), .int (bI (t))]) (c_pointsAfter l hfl D cI cJ cZ q R C hG dr sz sa cu fi st lo hi wa sw (st nd) (e) (hst8 nd hnd) (he) (t)) 1 rfl rfl mw1_126 mw1_127 mw1_128 mw1_2 mw1_129 rfl hd_X1_pointsAfter rfl ⟨rfl, rfl⟩ ⟨Nat.le_of_ble_eq_true rfl, Nat.le_of_ble_eq_true rfl⟩ ⟨Nat.zero_le _, Nat.zero_le _⟩ (Nat.le_of_ble_eq_true rfl) rfl dX0_nodeAfter_12 ?_
  rintro _ _ ⟨rfl, rfl⟩
  refine j_st (st' := [.int (oI (pointsF R C (st nd) e t))]) rfl ?_
  refine j_istore [(4, .int (oI (pointsF R C (st nd) e t))), (0, .ref (q 2)), (1, .int (nI (nd))), (2, .int (nI (e))), (3, .int (bI (t)))] dX0_nodeAfter_15 (by decide) rfl ?_
  refine j_iload dX0_nodeAfter_17 0 rfl ?_
  refine j_iconst (v := (-1)) dX0_nodeAfter_19 (by decide) ?_
  refine j_icmp_eq (tgt := 36) dX0_nodeAfter_20 (by decide) (fun c20 => ?_) (fun c20 => ?_)
  · have e20 := (oI_m1 (fun w hw => Nat.lt_of_lt_of_le (pointsF_lt hG (hst8 nd hnd) he hw) (by decide))).mp c20
    refine j_lv (lv' := [(4, .int (oI (stepF R C cu (st nd) e t))), (0, .ref (q 2)), (1, .int (nI (nd))), (2, .int (nI (e))), (3, .int (bI (t)))]) (by rw [show stepF R C cu (st nd) e t = none from by simp [stepF, e20]]; rw [e20]) ?_
    refine j_iload dX0_nodeAfter_36 0 rfl ?_
    refine j_iconst (v := (-1)) dX0_nodeAfter_38 (by decide) ?_
    refine j_icmp_ne (tgt := 44) dX0_nodeAfter_39 (by decide) (fun c39 => ?_) (fun c39 => ?_)
    · obtain ⟨t0, ht0⟩ : ∃ t0, stepF R C cu (st nd) e t = some t0 := by
        cases h9 : stepF R C cu (st nd) e t with
        | none => exact absurd (by rw [h9]; rfl) c39
        | some z => exact ⟨z, rfl⟩
      have ht8 : t0 < 8 ^ 8 := stepF_lt hG hcu (hst8 nd hnd) he ht0
      refine j_lv (lv' := [(4, .int (nI (t0))), (0, .ref (q 2)), (1, .int (nI (nd))), (2, .int (nI (e))), (3, .int (bI (t)))]) (by rw [ht0]; rfl) ?_
      refine j_aload_n dX0_nodeAfter_44 rfl 1 rfl ?_
      refine gf_X0_21 2 rfl (rfl) dX0_nodeAfter_45 ?_
      refine j_iload_n dX0_nodeAfter_48 rfl 3 rfl ?_
      refine j_iconst (v := nI (1)) dX0_nodeAfter_49 (by decide) ?_
      refine jn_iadd (v := e + 1) dX0_nodeAfter_50 rfl ?_
      refine jn_iald (v := nI (fi (e + 1))) 7 0 rfl rfl (by omega) (by omega) (rfl) dX0_nodeAfter_51 ?_
      refine j_istore [(5, .int (nI (fi (e + 1)))), (4, .int (nI (t0))), (0, .ref (q 2)), (1, .int (nI (nd))), (2, .int (nI (e))), (3, .int (bI (t)))] dX0_nodeAfter_52 (by decide) rfl ?_
      refine j_sub [2, 3, 4, 5, 1, 0] [(0, .ref (q 2)), (1, .int (nI (nd))), (2, .int (nI (e))), (3, .int (bI (t))), (4, .int (nI (t0))), (5, .int (nI (fi (e + 1))))] rfl ?_
      have loop54 : ∀ (n : Nat) (j : Nat), (sz < j + n) → (fi (e + 1) ≤ j) → (j ≤ sz) → (∀ i, fi (e + 1) ≤ i → i < j → st i ≠ t0) → V k l D (tys3 cI cJ cZ) ({ frames := 3, cells := 0, slots := 0, locals := 74 } : Room) cX0_nodeAfter 6 RX0 (wX cI cZ q R C dr sz sa cu fi st lo hi wa sw) 0 0 54 [(0, .ref (q 2)), (1, .int (nI (nd))), (2, .int (nI (e))), (3, .int (bI (t))), (4, .int (nI (t0))), (5, .int (nI (j)))] [] := by
        intro n
        induction n with
        | zero => intro j hm hj1 hj2 hno; exfalso; omega
        | succ n ih54 =>
          intro j hm hj1 hj2 hno
          refine j_iload dX0_nodeAfter_54 5 rfl ?_
          refine j_aload_n dX0_nodeAfter_56 rfl 0 rfl ?_
          refine gf_X0_25 2 rfl (rfl) dX0_nodeAfter_57 ?_
          refine jn_icmp_ge (tgt := 84) (a := j) (b := sz) (by omega) (by omega) dX0_nodeAfter_60 (by decide) (fun c60 => ?_) (fun c60 => ?_)
          · refine j_aload_n dX0_nodeAfter_84 rfl 0 rfl ?_
            refine gf_X0_25 2 rfl (rfl) dX0_nodeAfter_85 ?_
            refine j_sipush (v := nI (1014)) dX0_nodeAfter_88 (by decide) ?_
            refine jn_icmp_lt (tgt := 96) (a := sz) (b := 1014) (by omega) (by omega) dX0_nodeAfter_91 (by decide) (fun c91 => ?_) (fun c91 => ?_)
            · refine j_aload_n dX0_nodeAfter_96 rfl 0 rfl ?_
              refine gf_X0_28 2 rfl (rfl) dX0_nodeAfter_97 ?_
              refine j_aload_n dX0_nodeAfter_100 rfl 0 rfl ?_
              refine gf_X0_25 2 rfl (rfl) dX0_nodeAfter_101 ?_
              refine j_iload dX0_nodeAfter_104 4 rfl ?_
              refine jn_iastN (wX cI cZ q R C dr sz sa cu fi (va_up st sz t0) lo hi wa sw) 8 0 rfl rfl (by have := hroom t0 ht0 (fun i h1 h2 => hno i h1 (by omega)); omega) (by omega) rfl dX0_nodeAfter_106 ?_
              refine j_aload_n dX0_nodeAfter_107 rfl 0 rfl ?_
              refine j_dup dX0_nodeAfter_108 rfl ?_
              refine gf_X0_25 2 rfl (rfl) dX0_nodeAfter_109 ?_
              refine j_iconst (v := nI (1)) dX0_nodeAfter_112 (by decide) ?_
              refine jn_iadd (v := sz + 1) dX0_nodeAfter_113 rfl ?_
              refine pf_X0_25 (wX cI cZ q R C dr (sz + 1) sa cu fi (va_up st sz t0) lo hi wa sw) 2 rfl (Nat.le_of_ble_eq_true rfl) rfl dX0_nodeAfter_114 ?_
              refine j_aload_n dX0_nodeAfter_117 rfl 0 rfl ?_
              refine gf_X0_25 2 rfl (rfl) dX0_nodeAfter_118 ?_
              refine j_iconst (v := nI (1)) dX0_nodeAfter_121 (by decide) ?_
              refine jn_isub dX0_nodeAfter_122 (by omega) rfl ?_
              exact j_iret (tys' := []) rfl hR dX0_nodeAfter_123 (⟨some sz, va_up st sz t0, sz + 1, by rw [Nat.add_sub_cancel]; rfl, Or.inr (Or.inr ⟨t0, ht0, fun i h1 h2 => hno i h1 (by omega), rfl, rfl, rfl⟩), rfl⟩)
            · exact absurd (hroom t0 ht0 (fun i h1 h2 => hno i h1 (by omega))) (by omega)
          · refine j_aload_n dX0_nodeAfter_63 rfl 0 rfl ?_
            refine gf_X0_28 2 rfl (rfl) dX0_nodeAfter_64 ?_
            refine j_iload dX0_nodeAfter_67 5 rfl ?_
            refine jn_iald (v := nI (st j)) 8 0 rfl rfl (by omega) (by omega) (rfl) dX0_nodeAfter_69 ?_
            refine j_iload dX0_nodeAfter_70 4 rfl ?_
            refine jn_icmp_ne (tgt := 78) (a := st j) (b := t0) (by have := hst8 j (by omega); omega) (by omega) dX0_nodeAfter_72 (by decide) (fun c72 => ?_) (fun c72 => ?_)
            · refine j_iinc (n0 := 5) (v := nI (j + 1)) [(5, .int (nI (j + 1))), (0, .ref (q 2)), (1, .int (nI (nd))), (2, .int (nI (e))), (3, .int (bI (t))), (4, .int (nI (t0)))] dX0_nodeAfter_78 rfl (by exact nI_add (j) 1) (by decide) rfl ?_
              refine j_goto (tgt := 54) dX0_nodeAfter_81 (by decide) ?_
              refine j_sub [1, 2, 3, 4, 5, 0] [(0, .ref (q 2)), (1, .int (nI (nd))), (2, .int (nI (e))), (3, .int (bI (t))), (4, .int (nI (t0))), (5, .int (nI (j + 1)))] rfl ?_
              exact ih54 (j + 1) (by omega) (by omega) (by omega) (fun i h1 h2 => if h3 : i = j then by rw [h3]; exact c72 else hno i h1 (by omega))
            · refine j_iload dX0_nodeAfter_75 5 rfl ?_
              exact j_iret (tys' := []) rfl hR dX0_nodeAfter_77 (⟨some j, st, sz, rfl, Or.inr (Or.inl ⟨t0, j, ht0, rfl, hj1, by omega, c72, rfl, rfl⟩), rfl⟩)
      exact loop54 (sz + 2) (fi (e + 1)) (by omega) (by omega) (by omega) (fun i h1 h2 => absurd h2 (by omega))
    · refine j_iconst (v := (-1)) dX0_nodeAfter_42 (by decide) ?_
      exact j_iret (tys' := []) rfl hR dX0_nodeAfter_43 (⟨none, st, sz, rfl, Or.inl ⟨(oI_m1 (fun w hw => Nat.lt_of_lt_of_le (stepF_lt hG hcu (hst8 nd hnd) he hw) (by decide))).mp c39, rfl, rfl, rfl⟩, rfl⟩)
  · obtain ⟨z, hz⟩ : ∃ z, pointsF R C (st nd) e t = some z := by
      cases h9 : pointsF R C (st nd) e t with
      | none => exact absurd (by rw [h9]; rfl) c20
      | some z => exact ⟨z, rfl⟩
    have hz8 : z < 8 ^ 8 := pointsF_lt hG (hst8 nd hnd) he hz
    refine j_lv (lv' := [(4, .int (nI (z))), (0, .ref (q 2)), (1, .int (nI (nd))), (2, .int (nI (e))), (3, .int (bI (t)))]) (by rw [hz]; rfl) ?_
    refine j_aload_n dX0_nodeAfter_23 rfl 1 rfl ?_
    refine gf_X0_9 2 rfl (rfl) dX0_nodeAfter_24 ?_
    refine j_iload dX0_nodeAfter_27 0 rfl ?_
    refine j_iload_n dX0_nodeAfter_29 rfl 3 rfl ?_
    refine j_iload_n dX0_nodeAfter_30 rfl 4 rfl ?_
    refine j_vW (av := [.int (nI (z)), .int (nI (e)), .int (bI (t))]) (c_cluesAfter l hfl D cI cJ cZ q R C hG dr sz sa cu fi st lo hi wa sw hcu (z) (e) (hz8) (he) (t)) 1 rfl rfl mw1_148 mw1_149 mw1_150 mw1_2 mw1_151 rfl hd_X1_cluesAfter rfl ⟨rfl, rfl⟩ ⟨Nat.le_of_ble_eq_true rfl, Nat.le_of_ble_eq_true rfl⟩ ⟨Nat.zero_le _, Nat.zero_le _⟩ (Nat.le_of_ble_eq_true rfl) rfl dX0_nodeAfter_31 ?_
    rintro _ _ ⟨rfl, rfl⟩
    refine j_st (st' := [.int (oI (cluesF R C cu z e t))]) rfl ?_
    refine j_istore [(4, .int (oI (cluesF R C cu z e t))), (0, .ref (q 2)), (1, .int (nI (nd))), (2, .int (nI (e))), (3, .int (bI (t)))] dX0_nodeAfter_34 (by decide) rfl ?_
    refine j_lv (lv' := [(4, .int (oI (stepF R C cu (st nd) e t))), (0, .ref (q 2)), (1, .int (nI (nd))), (2, .int (nI (e))), (3, .int (bI (t)))]) (by rw [show stepF R C cu (st nd) e t = cluesF R C cu z e t from by simp [stepF, hz]]) ?_
    refine j_iload dX0_nodeAfter_36 0 rfl ?_
    refine j_iconst (v := (-1)) dX0_nodeAfter_38 (by decide) ?_
    refine j_icmp_ne (tgt := 44) dX0_nodeAfter_39 (by decide) (fun c39 => ?_) (fun c39 => ?_)
    · obtain ⟨t0, ht0⟩ : ∃ t0, stepF R C cu (st nd) e t = some t0 := by
        cases h9 : stepF R C cu (st nd) e t with
        | none => exact absurd (by rw [h9]; rfl) c39
        | some z => exact ⟨z, rfl⟩
      have ht8 : t0 < 8 ^ 8 := stepF_lt hG hcu (hst8 nd hnd) he ht0
      refine j_lv (lv' := [(4, .int (nI (t0))), (0, .ref (q 2)), (1, .int (nI (nd))), (2, .int (nI (e))), (3, .int (bI (t)))]) (by rw [ht0]; rfl) ?_
      refine j_aload_n dX0_nodeAfter_44 rfl 1 rfl ?_
      refine gf_X0_21 2 rfl (rfl) dX0_nodeAfter_45 ?_
      refine j_iload_n dX0_nodeAfter_48 rfl 3 rfl ?_
      refine j_iconst (v := nI (1)) dX0_nodeAfter_49 (by decide) ?_
      refine jn_iadd (v := e + 1) dX0_nodeAfter_50 rfl ?_
      refine jn_iald (v := nI (fi (e + 1))) 7 0 rfl rfl (by omega) (by omega) (rfl) dX0_nodeAfter_51 ?_
      refine j_istore [(5, .int (nI (fi (e + 1)))), (4, .int (nI (t0))), (0, .ref (q 2)), (1, .int (nI (nd))), (2, .int (nI (e))), (3, .int (bI (t)))] dX0_nodeAfter_52 (by decide) rfl ?_
      refine j_sub [2, 3, 4, 5, 1, 0] [(0, .ref (q 2)), (1, .int (nI (nd))), (2, .int (nI (e))), (3, .int (bI (t))), (4, .int (nI (t0))), (5, .int (nI (fi (e + 1))))] rfl ?_
      have loop54 : ∀ (n : Nat) (j : Nat), (sz < j + n) → (fi (e + 1) ≤ j) → (j ≤ sz) → (∀ i, fi (e + 1) ≤ i → i < j → st i ≠ t0) → V k l D (tys3 cI cJ cZ) ({ frames := 3, cells := 0, slots := 0, locals := 74 } : Room) cX0_nodeAfter 6 RX0 (wX cI cZ q R C dr sz sa cu fi st lo hi wa sw) 0 0 54 [(0, .ref (q 2)), (1, .int (nI (nd))), (2, .int (nI (e))), (3, .int (bI (t))), (4, .int (nI (t0))), (5, .int (nI (j)))] [] := by
        intro n
        induction n with
        | zero => intro j hm hj1 hj2 hno; exfalso; omega
        | succ n ih54 =>
          intro j hm hj1 hj2 hno
          refine j_iload dX0_nodeAfter_54 5 rfl ?_
          refine j_aload_n dX0_nodeAfter_56 rfl 0 rfl ?_
          refine gf_X0_25 2 rfl (rfl) dX0_nodeAfter_57 ?_
          refine jn_icmp_ge (tgt := 84) (a := j) (b := sz) (by omega) (by omega) dX0_nodeAfter_60 (by decide) (fun c60 => ?_) (fun c60 => ?_)
          · refine j_aload_n dX0_nodeAfter_84 rfl 0 rfl ?_
            refine gf_X0_25 2 rfl (rfl) dX0_nodeAfter_85 ?_
            refine j_sipush (v := nI (1014)) dX0_nodeAfter_88 (by decide) ?_
            refine jn_icmp_lt (tgt := 96) (a := sz) (b := 1014) (by omega) (by omega) dX0_nodeAfter_91 (by decide) (fun c91 => ?_) (fun c91 => ?_)
            · refine j_aload_n dX0_nodeAfter_96 rfl 0 rfl ?_
              refine gf_X0_28 2 rfl (rfl) dX0_nodeAfter_97 ?_
              refine j_aload_n dX0_nodeAfter_100 rfl 0 rfl ?_
              refine gf_X0_25 2 rfl (rfl) dX0_nodeAfter_101 ?_
              refine j_iload dX0_nodeAfter_104 4 rfl ?_
              refine jn_iastN (wX cI cZ q R C dr sz sa cu fi (va_up st sz t0) lo hi wa sw) 8 0 rfl rfl (by have := hroom t0 ht0 (fun i h1 h2 => hno i h1 (by omega)); omega) (by omega) rfl dX0_nodeAfter_106 ?_
              refine j_aload_n dX0_nodeAfter_107 rfl 0 rfl ?_
              refine j_dup dX0_nodeAfter_108 rfl ?_
              refine gf_X0_25 2 rfl (rfl) dX0_nodeAfter_109 ?_
              refine j_iconst (v := nI (1)) dX0_nodeAfter_112 (by decide) ?_
              refine jn_iadd (v := sz + 1) dX0_nodeAfter_113 rfl ?_
              refine pf_X0_25 (wX cI cZ q R C dr (sz + 1) sa cu fi (va_up st sz t0) lo hi wa sw) 2 rfl (Nat.le_of_ble_eq_true rfl) rfl dX0_nodeAfter_114 ?_
              refine j_aload_n dX0_nodeAfter_117 rfl 0 rfl ?_
              refine gf_X0_25 2 rfl (rfl) dX0_nodeAfter_118 ?_
              refine j_iconst (v := nI (1)) dX0_nodeAfter_121 (by decide) ?_
              refine jn_isub dX0_nodeAfter_122 (by omega) rfl ?_
              exact j_iret (tys' := []) rfl hR dX0_nodeAfter_123 (⟨some sz, va_up st sz t0, sz + 1, by rw [Nat.add_sub_cancel]; rfl, Or.inr (Or.inr ⟨t0, ht0, fun i h1 h2 => hno i h1 (by omega), rfl, rfl, rfl⟩), rfl⟩)
            · exact absurd (hroom t0 ht0 (fun i h1 h2 => hno i h1 (by omega))) (by omega)
          · refine j_aload_n dX0_nodeAfter_63 rfl 0 rfl ?_
            refine gf_X0_28 2 rfl (rfl) dX0_nodeAfter_64 ?_
            refine j_iload dX0_nodeAfter_67 5 rfl ?_
            refine jn_iald (v := nI (st j)) 8 0 rfl rfl (by omega) (by omega) (rfl) dX0_nodeAfter_69 ?_
            refine j_iload dX0_nodeAfter_70 4 rfl ?_
            refine jn_icmp_ne (tgt := 78) (a := st j) (b := t0) (by have := hst8 j (by omega); omega) (by omega) dX0_nodeAfter_72 (by decide) (fun c72 => ?_) (fun c72 => ?_)
            · refine j_iinc (n0 := 5) (v := nI (j + 1)) [(5, .int (nI (j + 1))), (0, .ref (q 2)), (1, .int (nI (nd))), (2, .int (nI (e))), (3, .int (bI (t))), (4, .int (nI (t0)))] dX0_nodeAfter_78 rfl (by exact nI_add (j) 1) (by decide) rfl ?_
              refine j_goto (tgt := 54) dX0_nodeAfter_81 (by decide) ?_
              refine j_sub [1, 2, 3, 4, 5, 0] [(0, .ref (q 2)), (1, .int (nI (nd))), (2, .int (nI (e))), (3, .int (bI (t))), (4, .int (nI (t0))), (5, .int (nI (j + 1)))] rfl ?_
              exact ih54 (j + 1) (by omega) (by omega) (by omega) (fun i h1 h2 => if h3 : i = j then by rw [h3]; exact c72 else hno i h1 (by omega))
            · refine j_iload dX0_nodeAfter_75 5 rfl ?_
              exact j_iret (tys' := []) rfl hR dX0_nodeAfter_77 (⟨some j, st, sz, rfl, Or.inr (Or.inl ⟨t0, j, ht0, rfl, hj1, by omega, c72, rfl, rfl⟩), rfl⟩)
      exact loop54 (sz + 2) (fi (e + 1)) (by omega) (by omega) (by omega) (fun i h1 h2 => absurd h2 (by omega))
    · refine j_iconst (v := (-1)) dX0_nodeAfter_42 (by decide) ?_
      exact j_iret (tys' := []) rfl hR dX0_nodeAfter_43 (⟨none, st, sz, rfl, Or.inl ⟨(oI_m1 (fun w hw => Nat.lt_of_lt_of_le (stepF_lt hG hcu (hst8 nd hnd) he hw) (by decide))).mp c39, rfl, rfl, rfl⟩, rfl⟩)

set_option maxHeartbeats 4000000 in
set_option maxRecDepth 100000 in
theorem c_grow (l : Launch) (hfl : l.flags = flags0) (D : va_G) (cI cJ cZ : ClassId) (q : Nat → Nat) (R C : Nat) (hG : GS R C) (dr sz : Nat) (sa : Bool) (cu fi st : Nat → Nat) (lo hi : Nat → Option Nat) (wa sw : Nat → Nat) (hx : XOK R C cu) : Ct l yX0_grow cX0_grow 3 none ({ frames := 4, cells := 0, slots := 0, locals := 99 } : Room) D (tys3 cI cJ cZ) (tys3 cI cJ cZ) (wX cI cZ q R C dr sz sa cu fi st lo hi wa sw) [.ref (q 2)] (fun r u => r = none ∧ ∃ (sz2 : Nat) (fi2 st2 : Nat → Nat) (lo2 hi2 : Nat → Option Nat) (wa2 : Nat → Nat), Gr R C cu sz2 fi2 st2 lo2 hi2 ∧ Wy R C cu 0 0 wa2 ∧ u = wX cI cZ q R C dr sz2 sa cu fi2 st2 lo2 hi2 wa2 sw) 0 0 := by
  refine Ct.of hfl (by decide) (Nat.le_of_ble_eq_true rfl) ?_
  intro k hR _
  have hR4 := hG.2.1
  have hC3 := hG.2.2.2
  have hR1 := hG.1
  have hC1 := hG.2.2.1
  have hE := hG.E
  have hRC := hG.RC
  have hE4 := hG.E4
  obtain ⟨hcu, hcap, hWb⟩ := id hx
  show V k l D (tys3 cI cJ cZ) ({ frames := 4, cells := 0, slots := 0, locals := 99 } : Room) cX0_grow 3 RX0 (wX cI cZ q R C dr sz sa cu fi st lo hi wa sw) 0 0 0 [(0, .ref (q 2))] []
  refine j_aload_n dX0_grow_0 rfl 0 rfl ?_
  refine gf_X0_21 2 rfl (rfl) dX0_grow_1 ?_
  refine j_iconst (v := nI (0)) dX0_grow_4 (by decide) ?_
  refine j_iconst (v := nI (0)) dX0_grow_5 (by decide) ?_
  refine jn_iastN (wX cI cZ q R C dr sz sa cu (va_up fi 0 0) st lo hi wa sw) 7 0 rfl rfl (by omega) (by omega) rfl dX0_grow_6 ?_
  refine j_aload_n dX0_grow_7 rfl 0 rfl ?_
  refine gf_X0_28 2 rfl (rfl) dX0_grow_8 ?_
  refine j_iconst (v := nI (0)) dX0_grow_11 (by decide) ?_
  refine j_sipush (v := nI (1672)) dX0_grow_12 (by decide) ?_
  refine jn_iastN (wX cI cZ q R C dr sz sa cu (va_up fi 0 0) (va_up st 0 1672) lo hi wa sw) 8 0 rfl rfl (by omega) (by omega) rfl dX0_grow_15 ?_
  refine j_aload_n dX0_grow_16 rfl 0 rfl ?_
  refine j_iconst (v := nI (1)) dX0_grow_17 (by decide) ?_
  refine pf_X0_25 (wX cI cZ q R C dr 1 sa cu (va_up fi 0 0) (va_up st 0 1672) lo hi wa sw) 2 rfl (Nat.le_of_ble_eq_true rfl) rfl dX0_grow_18 ?_
  refine j_iconst (v := nI (0)) dX0_grow_21 (by decide) ?_
  refine j_istore_n [(1, .int (nI (0))), (0, .ref (q 2))] dX0_grow_22 rfl (by decide) rfl ?_
  have hS0 : StL R C cu 1 (va_up st 0 1672) := fun k i s hk hs => by
    have : k = 0 := by omega
    subst this
    have h1 := (List.getElem?_eq_some_iff.mp hs).1
    have h2 : i = 0 := by simp [LvS] at h1; exact h1
    subst h2
    cases (lv0 R C cu).symm.trans hs
    rfl
  refine j_sub [1, 0] [(0, .ref (q 2)), (1, .int (nI (0)))] rfl ?_
  have loop23 : ∀ (n : Nat) (e sz1 : Nat) (fi1 st1 : Nat → Nat) (lo1 hi1 : Nat → Option Nat), (nE R C < e + n) → (e ≤ nE R C) → (sz1 = off R C cu (e + 1)) → (∀ j, j ≤ e → fi1 j = off R C cu j) → (StL R C cu (e + 1) st1) → (ChL R C cu e lo1 hi1) → V k l D (tys3 cI cJ cZ) ({ frames := 4, cells := 0, slots := 0, locals := 99 } : Room) cX0_grow 3 RX0 (wX cI cZ q R C dr sz1 sa cu fi1 st1 lo1 hi1 wa sw) 0 0 23 [(0, .ref (q 2)), (1, .int (nI (e)))] [] := by
    intro n
    induction n with
    | zero => intro e sz1 fi1 st1 lo1 hi1 hm he hz1 hf1 hS1 hC1; exfalso; omega
    | succ n ih23 =>
      intro e sz1 fi1 st1 lo1 hi1 hm he hz1 hf1 hS1 hC1
      refine j_iload_n dX0_grow_23 rfl 1 rfl ?_
      refine j_aload_n dX0_grow_24 rfl 0 rfl ?_
      refine gf_X0_9 2 rfl (rfl) dX0_grow_25 ?_
      refine gf_X0_15 1 rfl (rfl) dX0_grow_28 ?_
      refine jn_icmp_ge (tgt := 103) (a := e) (b := nE R C) (by omega) (by omega) dX0_grow_31 (by decide) (fun c31 => ?_) (fun c31 => ?_)
      · refine j_aload_n dX0_grow_103 rfl 0 rfl ?_
        refine gf_X0_21 2 rfl (rfl) dX0_grow_104 ?_
        refine j_aload_n dX0_grow_107 rfl 0 rfl ?_
        refine gf_X0_9 2 rfl (rfl) dX0_grow_108 ?_
        refine gf_X0_15 1 rfl (rfl) dX0_grow_111 ?_
        refine j_iconst (v := nI (1)) dX0_grow_114 (by decide) ?_
        refine jn_iadd (v := (nE R C) + 1) dX0_grow_115 rfl ?_
        refine j_aload_n dX0_grow_116 rfl 0 rfl ?_
        refine gf_X0_25 2 rfl (rfl) dX0_grow_117 ?_
        refine jn_iastN (wX cI cZ q R C dr sz1 sa cu (va_up fi1 ((nE R C) + 1) sz1) st1 lo1 hi1 wa sw) 7 0 rfl rfl (by omega) (by omega) rfl dX0_grow_120 ?_
        have hee : e = nE R C := by omega
        subst hee
        have hg2 : Gr R C cu sz1 (va_up fi1 ((nE R C) + 1) sz1) st1 lo1 hi1 := ⟨hz1, fun j hj => if h : j = nE R C + 1 then by rw [h, va_up_self, hz1] else by rw [va_up_ne _ _ h]; exact hf1 j (by omega), fun k i s hk hs => hS1 k i s (by omega) hs, fun k i s hk hs => hC1 k i s hk hs⟩
        refine j_aload_n dX0_grow_121 rfl 0 rfl ?_
        refine j_aload_n dX0_grow_122 rfl 0 rfl ?_
        refine gf_X0_37 2 rfl (rfl) dX0_grow_123 ?_
        refine j_iconst (v := nI (0)) dX0_grow_126 (by decide) ?_
        refine j_vW (av := [.ref (q 11), .int (nI (0))]) (c_fillW l hfl D cI cJ cZ q R C hG dr sz1 sa cu (va_up fi1 ((nE R C) + 1) sz1) st1 lo1 hi1 wa sw hx hg2 (0) (by decide)) 2 rfl rfl mw1_156 mw1_158 msel3 mw1_3 mw1_159 rfl hd_X0_fillWays rfl ⟨rfl, rfl⟩ ⟨Nat.le_of_ble_eq_true rfl, Nat.le_of_ble_eq_true rfl⟩ ⟨Nat.zero_le _, Nat.zero_le _⟩ (Nat.le_of_ble_eq_true rfl) rfl dX0_grow_127 ?_
        rintro _ _ ⟨rfl, f, hWf, rfl⟩
        refine j_st (st' := []) rfl ?_
        exact j_vret (tys' := []) rfl hR dX0_grow_130 (⟨rfl, sz1, (va_up fi1 ((nE R C) + 1) sz1), st1, lo1, hi1, f, hg2, hWf, rfl⟩)
      · refine j_aload_n dX0_grow_34 rfl 0 rfl ?_
        refine gf_X0_21 2 rfl (rfl) dX0_grow_35 ?_
        refine j_iload_n dX0_grow_38 rfl 1 rfl ?_
        refine j_iconst (v := nI (1)) dX0_grow_39 (by decide) ?_
        refine jn_iadd (v := e + 1) dX0_grow_40 rfl ?_
        refine j_aload_n dX0_grow_41 rfl 0 rfl ?_
        refine gf_X0_25 2 rfl (rfl) dX0_grow_42 ?_
        refine jn_iastN (wX cI cZ q R C dr sz1 sa cu (va_up fi1 (e + 1) sz1) st1 lo1 hi1 wa sw) 7 0 rfl rfl (by omega) (by omega) rfl dX0_grow_45 ?_
        refine j_aload_n dX0_grow_46 rfl 0 rfl ?_
        refine gf_X0_21 2 rfl (rfl) dX0_grow_47 ?_
        refine j_iload_n dX0_grow_50 rfl 1 rfl ?_
        refine jn_iald (v := nI ((va_up fi1 (e + 1) sz1) e)) 7 0 rfl rfl (by omega) (by omega) (rfl) dX0_grow_51 ?_
        refine j_istore_n [(2, .int (nI ((va_up fi1 (e + 1) sz1) e))), (0, .ref (q 2)), (1, .int (nI (e)))] dX0_grow_52 rfl (by decide) rfl ?_
        refine j_lv (lv' := [(2, .int (nI (off R C cu e + 0))), (0, .ref (q 2)), (1, .int (nI (e)))]) (by rw [va_up_ne _ _ (by omega), hf1 e (by omega)]; rfl) ?_
        have fe1 : (va_up fi1 (e + 1) sz1) (e + 1) = off R C cu (e + 1) := by rw [va_up_self, hz1]
        have hA0 : AcI R C cu e (accA R C cu e 0) sz1 st1 := by rw [accA_0]; exact ⟨hz1, fun j y h => by simp at h⟩
        have om1 : off R C cu (e + 1) ≤ off R C cu (nE R C + 1) := off_mono (by omega)
        have om2 : off R C cu (e + 1 + 1) ≤ off R C cu (nE R C + 1) := off_mono (by omega)
        have ok1 : off R C cu (e + 1) = off R C cu e + (LvS R C cu e).length := rfl
        have ok2 : off R C cu (e + 1 + 1) = off R C cu (e + 1) + (LvS R C cu (e + 1)).length := rfl
        refine j_sub [1, 2, 0] [(0, .ref (q 2)), (1, .int (nI (e))), (2, .int (nI (off R C cu e + 0)))] rfl ?_
        have loop53 : ∀ (n : Nat) (i sz2 : Nat) (st2 : Nat → Nat) (lo2 hi2 : Nat → Option Nat), ((LvS R C cu e).length < i + n) → (i ≤ (LvS R C cu e).length) → (AcI R C cu e (accA R C cu e i) sz2 st2) → (StL R C cu (e + 1) st2) → (ChL R C cu e lo2 hi2) → (ChI R C cu e i lo2 hi2) → V k l D (tys3 cI cJ cZ) ({ frames := 4, cells := 0, slots := 0, locals := 99 } : Room) cX0_grow 3 RX0 (wX cI cZ q R C dr sz2 sa cu (va_up fi1 (e + 1) sz1) st2 lo2 hi2 wa sw) 0 0 53 [(0, .ref (q 2)), (1, .int (nI (e))), (2, .int (nI (off R C cu e + i)))] [] := by
          intro n
          induction n with
          | zero => intro i sz2 st2 lo2 hi2 hm2 hi2l hA hS2 hC2 hI; exfalso; omega
          | succ n ih53 =>
            intro i sz2 st2 lo2 hi2 hm2 hi2l hA hS2 hC2 hI
            refine j_iload_n dX0_grow_53 rfl 2 rfl ?_
            refine j_aload_n dX0_grow_54 rfl 0 rfl ?_
            refine gf_X0_21 2 rfl (rfl) dX0_grow_55 ?_
            refine j_iload_n dX0_grow_58 rfl 1 rfl ?_
            refine j_iconst (v := nI (1)) dX0_grow_59 (by decide) ?_
            refine jn_iadd (v := e + 1) dX0_grow_60 rfl ?_
            refine jn_iald (v := nI ((va_up fi1 (e + 1) sz1) (e + 1))) 7 0 rfl rfl (by omega) (by omega) (rfl) dX0_grow_61 ?_
            refine jn_icmp_ge (tgt := 97) (a := off R C cu e + i) (b := (va_up fi1 (e + 1) sz1) (e + 1)) (by omega) (by rw [fe1]; omega) dX0_grow_62 (by decide) (fun c62 => ?_) (fun c62 => ?_)
            · rw [fe1] at c62
              have hie : i = (LvS R C cu e).length := by omega
              rw [hie, accA_e] at hA
              rw [hie] at hI
              have hz3 : sz2 = off R C cu (e + 1 + 1) := by rw [hA.1, ok2]
              have hf3 : ∀ j, j ≤ e + 1 → (va_up fi1 (e + 1) sz1) j = off R C cu j := fun j hj => if h : j = e + 1 then by rw [h]; exact fe1 else by rw [va_up_ne _ _ h]; exact hf1 j (by omega)
              have hS3 : StL R C cu (e + 1 + 1) st2 := fun k i2 s hk hs => if h : k = e + 1 then by subst h; exact hA.2 i2 s hs else hS2 k i2 s (by omega) hs
              have hC3 : ChL R C cu (e + 1) lo2 hi2 := fun k i2 s hk hs => if h : k = e then by subst h; exact hI i2 s (List.getElem?_eq_some_iff.mp hs).1 hs else hC2 k i2 s (by omega) hs
              refine j_iinc (n0 := 1) (v := nI (e + 1)) [(1, .int (nI (e + 1))), (0, .ref (q 2)), (2, .int (nI (off R C cu e + i)))] dX0_grow_97 rfl (by exact nI_add (e) 1) (by decide) rfl ?_
              refine j_goto (tgt := 23) dX0_grow_100 (by decide) ?_
              refine j_sub [1, 0] [(0, .ref (q 2)), (1, .int (nI (e + 1)))] rfl ?_
              exact ih23 (e + 1) sz2 (va_up fi1 (e + 1) sz1) st2 lo2 hi2 (by omega) (by omega) hz3 hf3 hS3 hC3
            · rw [fe1] at c62
              obtain ⟨s0, hs0⟩ : ∃ s0, (LvS R C cu e)[i]? = some s0 := ⟨_, List.getElem?_eq_getElem (by omega)⟩
              have hv0 : st2 (off R C cu e + i) = s0 := hS2 e i s0 (by omega) hs0
              have pH := accH_pre hs0
              have pA := accA_pre R C cu e i
              have lA := pre_len pA
              have q1 := hA.1
              have nb := nd_lt hs0
              refine j_aload_n dX0_grow_65 rfl 0 rfl ?_
              refine gf_X0_31 2 rfl (rfl) dX0_grow_66 ?_
              refine j_iload_n dX0_grow_69 rfl 2 rfl ?_
              refine j_aload_n dX0_grow_70 rfl 0 rfl ?_
              refine j_iload_n dX0_grow_71 rfl 2 rfl ?_
              refine j_iload_n dX0_grow_72 rfl 1 rfl ?_
              refine j_iconst (v := nI (0)) dX0_grow_73 (by decide) ?_
              refine j_st (st' := [.int (bI (false)), .int (nI (e)), .int (nI (off R C cu e + i)), .ref (q 2), .int (nI (off R C cu e + i)), .ref (q 9)]) (by rfl) ?_
              refine j_vW (av := [.int (nI (off R C cu e + i)), .int (nI (e)), .int (bI (false))]) (c_nodeAfter l hfl D cI cJ cZ q R C hG dr sz2 sa cu (va_up fi1 (e + 1) sz1) st2 lo2 hi2 wa sw hcu (off R C cu e + i) (e) false (by omega) (by omega) (by omega) (st8 hG hcu (by omega) hS2 hA pA) (by rw [fe1]; omega) (fun t0 h1 h2 => na_room (by omega) hcap hA.1 hA.2 pH t0 (by rw [← hv0]; exact h1) (by rw [fe1] at h2; exact h2))) 2 rfl rfl mw1_122 mw1_124 msel1 mw1_3 mw1_125 rfl hd_X0_nodeAfter rfl ⟨rfl, rfl⟩ ⟨Nat.le_of_ble_eq_true rfl, Nat.le_of_ble_eq_true rfl⟩ ⟨Nat.zero_le _, Nat.zero_le _⟩ (Nat.le_of_ble_eq_true rfl) rfl dX0_grow_74 ?_
              rintro _ _ ⟨x1, st3, sz3, rfl, hN1, rfl⟩
              refine j_st (st' := [.int (oI (x1)), .int (nI (off R C cu e + i)), .ref (q 9)]) rfl ?_
              rw [fe1, hv0] at hN1
              obtain ⟨r1, r2, r3, r4⟩ := na_step hN1 hA.1 hA.2 pH
              have hA4 : AcI R C cu e (ins (accA R C cu e i) (stepF R C cu s0 e false)) sz3 st3 := ⟨r1, r2⟩
              have hS4 : StL R C cu (e + 1) st3 := StL_mv hS2 r3
              have hv4 : st3 (off R C cu e + i) = s0 := hS4 e i s0 (by omega) hs0
              have pF : ins (ins (accA R C cu e i) (stepF R C cu s0 e false)) (stepF R C cu s0 e true) <+: LvS R C cu (e + 1) := by rw [← accA_s hs0]; exact accA_pre R C cu e (i + 1)
              have lH := pre_len pH
              have lF := pre_len pF
              refine jn_iastO (wX cI cZ q R C dr sz3 sa cu (va_up fi1 (e + 1) sz1) st3 (va_up lo2 (off R C cu e + i) x1) hi2 wa sw) 9 0 rfl rfl (by omega) (by omega) rfl dX0_grow_77 ?_
              refine j_aload_n dX0_grow_78 rfl 0 rfl ?_
              refine gf_X0_34 2 rfl (rfl) dX0_grow_79 ?_
              refine j_iload_n dX0_grow_82 rfl 2 rfl ?_
              refine j_aload_n dX0_grow_83 rfl 0 rfl ?_
              refine j_iload_n dX0_grow_84 rfl 2 rfl ?_
              refine j_iload_n dX0_grow_85 rfl 1 rfl ?_
              refine j_iconst (v := nI (1)) dX0_grow_86 (by decide) ?_
              refine j_st (st' := [.int (bI (true)), .int (nI (e)), .int (nI (off R C cu e + i)), .ref (q 2), .int (nI (off R C cu e + i)), .ref (q 10)]) (by rfl) ?_
              refine j_vW (av := [.int (nI (off R C cu e + i)), .int (nI (e)), .int (bI (true))]) (c_nodeAfter l hfl D cI cJ cZ q R C hG dr sz3 sa cu (va_up fi1 (e + 1) sz1) st3 (va_up lo2 (off R C cu e + i) x1) hi2 wa sw hcu (off R C cu e + i) (e) true (by omega) (by omega) (by omega) (st8 hG hcu (by omega) hS4 hA4 pH) (by rw [fe1]; omega) (fun t0 h1 h2 => na_room (by omega) hcap hA4.1 hA4.2 pF t0 (by rw [← hv4]; exact h1) (by rw [fe1] at h2; exact h2))) 2 rfl rfl mw1_122 mw1_124 msel1 mw1_3 mw1_125 rfl hd_X0_nodeAfter rfl ⟨rfl, rfl⟩ ⟨Nat.le_of_ble_eq_true rfl, Nat.le_of_ble_eq_true rfl⟩ ⟨Nat.zero_le _, Nat.zero_le _⟩ (Nat.le_of_ble_eq_true rfl) rfl dX0_grow_87 ?_
              rintro _ _ ⟨x2, st4, sz4, rfl, hN2, rfl⟩
              refine j_st (st' := [.int (oI (x2)), .int (nI (off R C cu e + i)), .ref (q 10)]) rfl ?_
              rw [fe1, hv4] at hN2
              obtain ⟨u1, u2, u3, u4⟩ := na_step hN2 hA4.1 hA4.2 pF
              have hA5 : AcI R C cu e (accA R C cu e (i + 1)) sz4 st4 := by rw [accA_s hs0]; exact ⟨u1, u2⟩
              have hS5 : StL R C cu (e + 1) st4 := StL_mv hS4 u3
              have hC5 : ChL R C cu e (va_up lo2 (off R C cu e + i) x1) (va_up hi2 (off R C cu e + i) x2) := ChL_mv hC2 (fun j hj => ⟨va_up_ne _ _ (by omega), va_up_ne _ _ (by omega)⟩)
              have hI5 : ChI R C cu e (i + 1) (va_up lo2 (off R C cu e + i) x1) (va_up hi2 (off R C cu e + i) x2) := ChI_st hI hs0 r4 u4
              refine jn_iastO (wX cI cZ q R C dr sz4 sa cu (va_up fi1 (e + 1) sz1) st4 (va_up lo2 (off R C cu e + i) x1) (va_up hi2 (off R C cu e + i) x2) wa sw) 10 0 rfl rfl (by omega) (by omega) rfl dX0_grow_90 ?_
              refine j_iinc (n0 := 2) (v := nI (off R C cu e + (i + 1))) [(2, .int (nI (off R C cu e + (i + 1)))), (0, .ref (q 2)), (1, .int (nI (e)))] dX0_grow_91 rfl (by exact nI_add (off R C cu e + i) 1) (by decide) rfl ?_
              refine j_goto (tgt := 53) dX0_grow_94 (by decide) ?_
              refine j_sub [1, 2, 0] [(0, .ref (q 2)), (1, .int (nI (e))), (2, .int (nI (off R C cu e + (i + 1))))] rfl ?_
              exact ih53 (i + 1) sz4 st4 (va_up lo2 (off R C cu e + i) x1) (va_up hi2 (off R C cu e + i) x2) (by omega) (by omega) hA5 hS5 hC5 hI5
        exact loop53 ((LvS R C cu e).length + 2) 0 sz1 st1 lo1 hi1 (by omega) (by omega) hA0 hS1 hC1 (fun j s hj _ => absurd hj (by omega))
  exact loop23 (nE R C + 2) 0 1 (va_up fi 0 0) (va_up st 0 1672) lo hi (by omega) (by omega) rfl (fun j hj => by rw [show j = 0 by omega]; rfl) hS0 (fun k i s hk hs => absurd hk (by omega))

