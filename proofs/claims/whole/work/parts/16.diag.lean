theorem c_waysOf0 (l : Launch) (hfl : l.flags = flags0) (D : va_G) (tys : List (ClassId × FieldType)) (w : va_W) (p aa : Nat) (cI : ClassId) (f : Nat → Nat) (hp : w[p]? = some (aa, .inl (cI, 1014, .inl (fun i => nI (f i))))) (ht : tys[0]? = some (cI, .int))  : Ct l yX0_waysOf cX0_waysOf 2 (Option.some FieldType.int) ({ frames := 0, cells := 0, slots := 0, locals := 0 } : Room) D tys tys w [.ref aa, .int ((-1))] (fun r u => r = some (.int (nI (0))) ∧ u = w) 0 0 := by
  refine Ct.of hfl (by decide) (Nat.le_of_ble_eq_true rfl) ?_
  intro k hR _
  show V k l D tys ({ frames := 0, cells := 0, slots := 0, locals := 0 } : Room) cX0_waysOf 2 RX0 w 0 0 0 [(0, .ref (aa)), (1, .int ((-1)))] []
  refine j_iload_n dX0_waysOf_0 rfl 1 rfl ?_
  refine j_iconst (v := (-1)) dX0_waysOf_1 (by decide) ?_
  refine j_icmp_ne (tgt := 9) dX0_waysOf_2 (by decide) (fun c2 => ?_) (fun c2 => ?_)
  · exact absurd rfl c2
  · refine j_iconst (v := nI (0)) dX0_waysOf_5 (by decide) ?_
    refine j_goto (tgt := 12) dX0_waysOf_6 (by decide) ?_
    exact j_iret (tys' := []) rfl hR dX0_waysOf_12 (⟨rfl, rfl⟩)
theorem c_waysOf1 (l : Launch) (hfl : l.flags = flags0) (D : va_G) (tys : List (ClassId × FieldType)) (w : va_W) (p aa : Nat) (cI : ClassId) (f : Nat → Nat) (hp : w[p]? = some (aa, .inl (cI, 1014, .inl (fun i => nI (f i))))) (ht : tys[0]? = some (cI, .int)) (i : Nat) (hi : i < 1014) : Ct l yX0_waysOf cX0_waysOf 2 (Option.some FieldType.int) ({ frames := 0, cells := 0, slots := 0, locals := 0 } : Room) D tys tys w [.ref aa, .int (nI (i))] (fun r u => r = some (.int (nI (f i))) ∧ u = w) 0 0 := by
  refine Ct.of hfl (by decide) (Nat.le_of_ble_eq_true rfl) ?_
  intro k hR _
  show V k l D tys ({ frames := 0, cells := 0, slots := 0, locals := 0 } : Room) cX0_waysOf 2 RX0 w 0 0 0 [(0, .ref (aa)), (1, .int (nI (i)))] []
  refine j_iload_n dX0_waysOf_0 rfl 1 rfl ?_
  refine j_iconst (v := (-1)) dX0_waysOf_1 (by decide) ?_
  refine j_icmp_ne (tgt := 9) dX0_waysOf_2 (by decide) (fun c2 => ?_) (fun c2 => ?_)
  · refine j_aload_n dX0_waysOf_9 rfl 0 rfl ?_
    refine j_iload_n dX0_waysOf_10 rfl 1 rfl ?_
    refine jn_iald (v := nI (f i)) p 0 hp ht hi (by omega) rfl dX0_waysOf_11 ?_
    exact j_iret (tys' := []) rfl hR dX0_waysOf_12 (⟨rfl, rfl⟩)
  · exact absurd c2 (nI_m1 (by omega))
theorem c_waysOf (l : Launch) (hfl : l.flags = flags0) (D : va_G) (tys : List (ClassId × FieldType)) (w : va_W) (p aa : Nat) (cI : ClassId) (f : Nat → Nat) (hp : w[p]? = some (aa, .inl (cI, 1014, .inl (fun i => nI (f i))))) (ht : tys[0]? = some (cI, .int)) (x : Option Nat) (hx : ∀ i, x = some i → i < 1014) : Ct l yX0_waysOf cX0_waysOf 2 (Option.some FieldType.int) ({ frames := 0, cells := 0, slots := 0, locals := 0 } : Room) D tys tys w [.ref aa, .int (oI x)] (fun r u => r = some (.int (nI (oW f x))) ∧ u = w) 0 0 := by
  cases x with
  | none => exact c_waysOf0 l hfl D tys w p aa cI f hp ht
  | some i => exact c_waysOf1 l hfl D tys w p aa cI f hp ht i (hx i rfl)
set_option maxHeartbeats 4000000 in
set_option maxRecDepth 100000 in
theorem c_fillW (l : Launch) (hfl : l.flags = flags0) (D : va_G) (cI cJ cZ : ClassId) (q : Nat → Nat) (R C : Nat) (hG : GS R C) (dr sz : Nat) (sa : Bool) (cu fi st : Nat → Nat) (lo hi : Nat → Option Nat) (wa sw : Nat → Nat) (hx : XOK R C cu) (hg : Gr R C cu sz fi st lo hi) (wn : Nat) (hw : wn < 2 ^ 31) : Ct l yX0_fillWays cX0_fillWays 6 none ({ frames := 1, cells := 0, slots := 0, locals := 21 } : Room) D (tys3 cI cJ cZ) (tys3 cI cJ cZ) (wX cI cZ q R C dr sz sa cu fi st lo hi wa sw) [.ref (q 2), .ref (q 11), .int (nI (wn))] (fun r u => r = none ∧ ∃ f : Nat → Nat, Wy R C cu wn 0 f ∧ u = wX cI cZ q R C dr sz sa cu fi st lo hi f sw) 0 0 := by
  refine Ct.of hfl (by decide) (Nat.le_of_ble_eq_true rfl) ?_
  intro k hR _
  have hR4 := hG.2.1
  have hC3 := hG.2.2.2
  have hR1 := hG.1
  have hC1 := hG.2.2.1
  have hE := hG.E
  have hRC := hG.RC
  have hE4 := hG.E4
  obtain ⟨hcu, hcap, -⟩ := hx
  obtain ⟨hsz, hfi, hst, hch⟩ := id hg
  have hfE := hfi (nE R C) (by omega)
  have oE1 : off R C cu (nE R C + 1) = off R C cu (nE R C) + (LvS R C cu (nE R C)).length := rfl
  show V k l D (tys3 cI cJ cZ) ({ frames := 1, cells := 0, slots := 0, locals := 21 } : Room) cX0_fillWays 6 RX0 (wX cI cZ q R C dr sz sa cu fi st lo hi wa sw) 0 0 0 [(0, .ref (q 2)), (1, .ref (q 11)), (2, .int (nI (wn)))] []
  refine j_aload_n dX0_fillWays_0 rfl 0 rfl ?_
  refine gf_X0_21 2 rfl (rfl) dX0_fillWays_1 ?_
  refine j_aload_n dX0_fillWays_4 rfl 0 rfl ?_
  refine gf_X0_9 2 rfl (rfl) dX0_fillWays_5 ?_
  refine gf_X0_15 1 rfl (rfl) dX0_fillWays_8 ?_
  refine jn_iald (v := nI (fi (nE R C))) 7 0 rfl rfl (by omega) (by omega) (rfl) dX0_fillWays_11 ?_
  refine j_istore_n [(3, .int (nI (fi (nE R C)))), (0, .ref (q 2)), (1, .ref (q 11)), (2, .int (nI (wn)))] dX0_fillWays_12 rfl (by decide) rfl ?_
  refine j_sub [1, 2, 3, 0] [(0, .ref (q 2)), (1, .ref (q 11)), (2, .int (nI (wn))), (3, .int (nI (fi (nE R C))))] rfl ?_
  have loop13 : ∀ (n : Nat) (i : Nat) (f : Nat → Nat), (sz < i + n) → (off R C cu (nE R C) ≤ i) → (i ≤ sz) → (∀ j, off R C cu (nE R C) ≤ j → j < i → f j = 1) → V k l D (tys3 cI cJ cZ) ({ frames := 1, cells := 0, slots := 0, locals := 21 } : Room) cX0_fillWays 6 RX0 (wX cI cZ q R C dr sz sa cu fi st lo hi f sw) 0 0 13 [(0, .ref (q 2)), (1, .ref (q 11)), (2, .int (nI (wn))), (3, .int (nI (i)))] [] := by
    intro n
    induction n with
    | zero => intro i f hm h1 h2 h3; exfalso; omega
    | succ n ih13 =>
      intro i f hm h1 h2 h3
      refine j_iload_n dX0_fillWays_13 rfl 3 rfl ?_
      refine j_aload_n dX0_fillWays_14 rfl 0 rfl ?_
      refine gf_X0_25 2 rfl (rfl) dX0_fillWays_15 ?_
      refine jn_icmp_ge (tgt := 31) (a := i) (b := sz) (by omega) (by omega) dX0_fillWays_18 (by decide) (fun c18 => ?_) (fun c18 => ?_)
      · refine j_aload_n dX0_fillWays_31 rfl 0 rfl ?_
        refine gf_X0_9 2 rfl (rfl) dX0_fillWays_32 ?_
        refine gf_X0_15 1 rfl (rfl) dX0_fillWays_35 ?_
        refine j_iconst (v := nI (1)) dX0_fillWays_38 (by decide) ?_
        refine jn_isub dX0_fillWays_39 (by omega) rfl ?_
        refine j_istore_n [(3, .int (nI ((nE R C) - 1))), (0, .ref (q 2)), (1, .ref (q 11)), (2, .int (nI (wn)))] dX0_fillWays_40 rfl (by decide) rfl ?_
        have hW0 : Wy R C cu wn (nE R C) f := fun k i2 s hk1 hk2 hs => by
          have : k = nE R C := by omega
          subst this
          have := nd_lt hs
          rw [h3 _ (by omega) (by omega), Nat.sub_self]; rfl
        refine j_lv (lv' := [(3, .int (eI (pd (nE R C)))), (0, .ref (q 2)), (1, .ref (q 11)), (2, .int (nI (wn)))]) (by rw [show eI (pd (nE R C)) = nI (nE R C - 1) from (by unfold pd; rw [if_neg (by omega), eI_ne (by omega)])]) ?_
        refine j_sub [1, 2, 3, 0] [(0, .ref (q 2)), (1, .ref (q 11)), (2, .int (nI (wn))), (3, .int (eI (pd (nE R C))))] rfl ?_
        have loop41 : ∀ (n : Nat) (m : Nat) (f2 : Nat → Nat), (m < n) → (m ≤ nE R C) → (Wy R C cu wn m f2) → V k l D (tys3 cI cJ cZ) ({ frames := 1, cells := 0, slots := 0, locals := 21 } : Room) cX0_fillWays 6 RX0 (wX cI cZ q R C dr sz sa cu fi st lo hi f2 sw) 0 0 41 [(0, .ref (q 2)), (1, .ref (q 11)), (2, .int (nI (wn))), (3, .int (eI (pd m)))] [] := by
          intro n
          induction n with
          | zero => intro m f2 hm2 hmE hf2; exfalso; omega
          | succ n ih41 =>
            intro m f2 hm2 hmE hf2
            refine j_iload_n dX0_fillWays_41 rfl 3 rfl ?_
            refine j_if_lt (tgt := 121) dX0_fillWays_42 (by decide) (fun c42 => ?_) (fun c42 => ?_)
            · have e42 : m = 0 := pd_neg (by omega) c42
              exact j_vret (tys' := []) rfl hR dX0_fillWays_121 (⟨rfl, f2, by subst e42; exact hf2, rfl⟩)
            · obtain ⟨m1, rfl⟩ := pd_nn c42
              refine j_lv (lv' := [(0, .ref (q 2)), (1, .ref (q 11)), (2, .int (nI (wn))), (3, .int (nI (m1)))]) (by rw [pd_s (by omega)]) ?_
              have fm1 := hfi m1 (by omega)
              have fm2 := hfi (m1 + 1) (by omega)
              have om2 : off R C cu (m1 + 1) = off R C cu m1 + (LvS R C cu m1).length := rfl
              have om3 : off R C cu (m1 + 1) ≤ off R C cu (nE R C + 1) := off_mono (by omega)
              refine j_aload_n dX0_fillWays_45 rfl 0 rfl ?_
              refine gf_X0_21 2 rfl (rfl) dX0_fillWays_46 ?_
              refine j_iload_n dX0_fillWays_49 rfl 3 rfl ?_
              refine jn_iald (v := nI (fi m1)) 7 0 rfl rfl (by omega) (by omega) (rfl) dX0_fillWays_50 ?_
              refine j_istore [(4, .int (nI (fi m1))), (0, .ref (q 2)), (1, .ref (q 11)), (2, .int (nI (wn))), (3, .int (nI (m1)))] dX0_fillWays_51 (by decide) rfl ?_
              refine j_sub [1, 2, 3, 4, 0] [(0, .ref (q 2)), (1, .ref (q 11)), (2, .int (nI (wn))), (3, .int (nI (m1))), (4, .int (nI (fi m1)))] rfl ?_
              have loop53 : ∀ (n : Nat) (i3 : Nat) (f3 : Nat → Nat), (off R C cu (m1 + 1) < i3 + n) → (off R C cu m1 ≤ i3) → (i3 ≤ off R C cu (m1 + 1)) → (Wy R C cu wn (m1 + 1) f3) → (∀ j s, (LvS R C cu m1)[j]? = some s → off R C cu m1 + j < i3 → f3 (off R C cu m1 + j) = WS R C cu wn (nE R C - m1) m1 s) → V k l D (tys3 cI cJ cZ) ({ frames := 1, cells := 0, slots := 0, locals := 21 } : Room) cX0_fillWays 6 RX0 (wX cI cZ q R C dr sz sa cu fi st lo hi f3 sw) 0 0 53 [(0, .ref (q 2)), (1, .ref (q 11)), (2, .int (nI (wn))), (3, .int (nI (m1))), (4, .int (nI (i3)))] [] := by
                intro n
                induction n with
                | zero => intro i3 f3 hm3 ha3 hb3 hf3 hp3; exfalso; omega
                | succ n ih53 =>
                  intro i3 f3 hm3 ha3 hb3 hf3 hp3
                  refine j_iload dX0_fillWays_53 4 rfl ?_
                  refine j_aload_n dX0_fillWays_55 rfl 0 rfl ?_
                  refine gf_X0_21 2 rfl (rfl) dX0_fillWays_56 ?_
                  refine j_iload_n dX0_fillWays_59 rfl 3 rfl ?_
                  refine j_iconst (v := nI (1)) dX0_fillWays_60 (by decide) ?_
                  refine jn_iadd (v := m1 + 1) dX0_fillWays_61 rfl ?_
                  refine jn_iald (v := nI (fi (m1 + 1))) 7 0 rfl rfl (by omega) (by omega) (rfl) dX0_fillWays_62 ?_
                  refine jn_icmp_ge (tgt := 115) (a := i3) (b := fi (m1 + 1)) (by omega) (by omega) dX0_fillWays_63 (by decide) (fun c63 => ?_) (fun c63 => ?_)
                  · have hW1 : Wy R C cu wn m1 f3 := Wy_down hf3 (fun j s h h2 => hp3 j s h (by omega))
                    refine j_iinc (n0 := 3) (v := eI (pd m1)) [(3, .int (eI (pd m1))), (0, .ref (q 2)), (1, .ref (q 11)), (2, .int (nI (wn))), (4, .int (nI (i3)))] dX0_fillWays_115 rfl (eI_dec (by omega)) (by decide) rfl ?_
                    refine j_goto (tgt := 41) dX0_fillWays_118 (by decide) ?_
                    refine j_sub [1, 2, 3, 0] [(0, .ref (q 2)), (1, .ref (q 11)), (2, .int (nI (wn))), (3, .int (eI (pd m1)))] rfl ?_
                    exact ih41 m1 (f3) (by omega) (by omega) hW1
                  · obtain ⟨j3, s3, hi3, hs3⟩ := nd_at ha3 (show i3 < off R C cu (m1 + 1) by omega)
                    obtain ⟨hl3, hh3⟩ := hch m1 j3 s3 (by omega) hs3
                    rw [← hi3] at hl3 hh3
                    have hl4 : ∀ i, lo i3 = some i → i < 1014 := fun i e => Nat.lt_of_lt_of_le (ch_lt hl3 (by omega) e) hcap
                    have hh4 : ∀ i, hi i3 = some i → i < 1014 := fun i e => Nat.lt_of_lt_of_le (ch_lt hh3 (by omega) e) hcap
                    refine j_iload_n dX0_fillWays_66 rfl 2 rfl ?_
                    refine j_iload_n dX0_fillWays_67 rfl 3 rfl ?_
                    refine j_sn0 (av := [.int (nI (wn)), .int (nI (m1))]) (r0 := .int (bI ((Nat.testBit wn m1)))) (c_hasBit l hfl D (tys3 cI cJ cZ) (wn) (m1) (by omega) (by omega)) rfl mw1_161 mw1_1 mw1_162 hd_X2_hasBit rfl ⟨rfl, rfl⟩ ⟨Nat.le_of_ble_eq_true rfl, Nat.le_of_ble_eq_true rfl⟩ ⟨Nat.zero_le _, Nat.zero_le _⟩ (Nat.le_of_ble_eq_true rfl) rfl dX0_fillWays_68 ?_
                    refine jb_if_eq (tgt := 78) (b := (Nat.testBit wn m1)) dX0_fillWays_71 (by decide) (fun c71 => ?_) (fun c71 => ?_)
                    · refine j_aload_n dX0_fillWays_78 rfl 1 rfl ?_
                      refine j_aload_n dX0_fillWays_79 rfl 0 rfl ?_
                      refine gf_X0_31 2 rfl (rfl) dX0_fillWays_80 ?_
                      refine j_iload dX0_fillWays_83 4 rfl ?_
                      refine jn_iald (v := oI (lo i3)) 9 0 rfl rfl (by omega) (by omega) (rfl) dX0_fillWays_85 ?_
                      refine j_sW (av := [.ref (q 11), .int (oI (lo i3))]) (c_waysOf l hfl D (tys3 cI cJ cZ) (wX cI cZ q R C dr sz sa cu fi st lo hi f3 sw) 11 (q 11) cI f3 rfl rfl (lo i3) (hl4)) mw1_163 mw1_164 mw1_3 mw1_165 hd_X0_waysOf rfl ⟨rfl, rfl⟩ ⟨Nat.le_of_ble_eq_true rfl, Nat.le_of_ble_eq_true rfl⟩ ⟨Nat.zero_le _, Nat.zero_le _⟩ (Nat.le_of_ble_eq_true rfl) rfl dX0_fillWays_86 ?_
                      rintro _ _ ⟨rfl, rfl⟩
                      refine j_st (st' := [.int (nI (oW f3 (lo i3)))]) rfl ?_
                      refine j_istore [(5, .int (nI (oW f3 (lo i3)))), (0, .ref (q 2)), (1, .ref (q 11)), (2, .int (nI (wn))), (3, .int (nI (m1))), (4, .int (nI (i3)))] dX0_fillWays_89 (by decide) rfl ?_
                      refine j_aload_n dX0_fillWays_91 rfl 2 rfl ?_
                      refine j_iload dX0_fillWays_92 5 rfl ?_
                      refine j_iload dX0_fillWays_94 0 rfl ?_
                      refine j_aload_n dX0_fillWays_96 rfl 2 rfl ?_
                      refine j_aload_n dX0_fillWays_97 rfl 1 rfl ?_
                      refine gf_X0_34 2 rfl (rfl) dX0_fillWays_98 ?_
                      refine j_iload dX0_fillWays_101 5 rfl ?_
                      refine jn_iald (v := oI (hi i3)) 10 0 rfl rfl (by omega) (by omega) (rfl) dX0_fillWays_103 ?_
                      refine j_sW (av := [.ref (q 11), .int (oI (hi i3))]) (c_waysOf l hfl D (tys3 cI cJ cZ) (wX cI cZ q R C dr sz sa cu fi st lo hi f3 sw) 11 (q 11) cI f3 rfl rfl (hi i3) (hh4)) mw1_163 mw1_164 mw1_3 mw1_165 hd_X0_waysOf rfl ⟨rfl, rfl⟩ ⟨Nat.le_of_ble_eq_true rfl, Nat.le_of_ble_eq_true rfl⟩ ⟨Nat.zero_le _, Nat.zero_le _⟩ (Nat.le_of_ble_eq_true rfl) rfl dX0_fillWays_104 ?_
                      rintro _ _ ⟨rfl, rfl⟩
                      refine j_st (st' := [.int (nI (oW f3 (hi i3))), .int (nI (oW f3 (lo i3))), .int (nI (i3)), .ref (q 11)]) rfl ?_
                      refine jn_iadd (v := (oW f3 (lo i3)) + (oW f3 (hi i3))) dX0_fillWays_107 rfl ?_
                      refine jn_iastN (wX cI cZ q R C dr sz sa cu fi st lo hi (va_up f3 i3 ((oW f3 (lo i3)) + (oW f3 (hi i3)))) sw) 11 0 rfl rfl (by omega) (by omega) rfl dX0_fillWays_108 ?_
                      refine j_iinc (n0 := 5) (v := nI (i3 + 1)) [(4, .int (nI (i3 + 1))), (5, .int (nI (oW f3 (lo i3)))), (0, .ref (q 2)), (1, .ref (q 11)), (2, .int (nI (wn))), (3, .int (nI (m1)))] dX0_fillWays_109 rfl (by exact nI_add (i3) 1) (by decide) rfl ?_
                      refine j_goto (tgt := 53) dX0_fillWays_112 (by decide) ?_
                      refine j_sub [2, 3, 4, 5, 0] [(0, .ref (q 2)), (1, .ref (q 11)), (2, .int (nI (wn))), (3, .int (nI (m1))), (4, .int (nI (i3 + 1)))] rfl ?_
                      have hf4 : Wy R C cu wn (m1 + 1) (va_up f3 i3 (((oW f3 (lo i3)) + (oW f3 (hi i3))))) := Wy_put hf3 (by omega)
                      have hp4 : ∀ j s, (LvS R C cu m1)[j]? = some s → off R C cu m1 + j < i3 + 1 → (va_up f3 i3 (((oW f3 (lo i3)) + (oW f3 (hi i3))))) (off R C cu m1 + j) = WS R C cu wn (nE R C - m1) m1 s := fun j s4 h5 h6 => by
                        by_cases h7 : off R C cu m1 + j = i3
                        · rw [h7, va_up_self]
                          have h8 : j = j3 := by omega
                          subst h8
                          cases hs3.symm.trans h5
                          rw [show nE R C - m1 = (nE R C - (m1 + 1)) + 1 by omega]
                          unfold WS
                          rw [← ch_oW hl3 (fun i4 s4 h => hf3 (m1 + 1) i4 s4 (Nat.le_refl _) (by omega) h), ← ch_oW hh3 (fun i4 s4 h => hf3 (m1 + 1) i4 s4 (Nat.le_refl _) (by omega) h)]
                          simp [c71, hi3]
                        · rw [va_up_ne _ _ h7]; exact hp3 j s4 h5 (by omega)
                      exact ih53 (i3 + 1) (va_up f3 i3 ((oW f3 (lo i3)) + (oW f3 (hi i3)))) (by omega) (by omega) (by omega) hf4 hp4
                    · refine j_iconst (v := nI (0)) dX0_fillWays_74 (by decide) ?_
                      refine j_goto (tgt := 89) dX0_fillWays_75 (by decide) ?_
                      refine j_istore [(5, .int (nI (0))), (0, .ref (q 2)), (1, .ref (q 11)), (2, .int (nI (wn))), (3, .int (nI (m1))), (4, .int (nI (i3)))] dX0_fillWays_89 (by decide) rfl ?_
                      refine j_aload_n dX0_fillWays_91 rfl 2 rfl ?_
                      refine j_iload dX0_fillWays_92 5 rfl ?_
                      refine j_iload dX0_fillWays_94 0 rfl ?_
                      refine j_aload_n dX0_fillWays_96 rfl 2 rfl ?_
                      refine j_aload_n dX0_fillWays_97 rfl 1 rfl ?_
                      refine gf_X0_34 2 rfl (rfl) dX0_fillWays_98 ?_
                      refine j_iload dX0_fillWays_101 5 rfl ?_
                      refine jn_iald (v := oI (hi i3)) 10 0 rfl rfl (by omega) (by omega) (rfl) dX0_fillWays_103 ?_
                      refine j_sW (av := [.ref (q 11), .int (oI (hi i3))]) (c_waysOf l hfl D (tys3 cI cJ cZ) (wX cI cZ q R C dr sz sa cu fi st lo hi f3 sw) 11 (q 11) cI f3 rfl rfl (hi i3) (hh4)) mw1_163 mw1_164 mw1_3 mw1_165 hd_X0_waysOf rfl ⟨rfl, rfl⟩ ⟨Nat.le_of_ble_eq_true rfl, Nat.le_of_ble_eq_true rfl⟩ ⟨Nat.zero_le _, Nat.zero_le _⟩ (Nat.le_of_ble_eq_true rfl) rfl dX0_fillWays_104 ?_
                      rintro _ _ ⟨rfl, rfl⟩
                      refine j_st (st' := [.int (nI (oW f3 (hi i3))), .int (nI (0)), .int (nI (i3)), .ref (q 11)]) rfl ?_
                      refine jn_iadd (v := 0 + (oW f3 (hi i3))) dX0_fillWays_107 rfl ?_
                      refine jn_iastN (wX cI cZ q R C dr sz sa cu fi st lo hi (va_up f3 i3 (0 + (oW f3 (hi i3)))) sw) 11 0 rfl rfl (by omega) (by omega) rfl dX0_fillWays_108 ?_
                      refine j_iinc (n0 := 5) (v := nI (i3 + 1)) [(4, .int (nI (i3 + 1))), (5, .int (nI (0))), (0, .ref (q 2)), (1, .ref (q 11)), (2, .int (nI (wn))), (3, .int (nI (m1)))] dX0_fillWays_109 rfl (by exact nI_add (i3) 1) (by decide) rfl ?_
                      refine j_goto (tgt := 53) dX0_fillWays_112 (by decide) ?_
                      refine j_sub [2, 3, 4, 5, 0] [(0, .ref (q 2)), (1, .ref (q 11)), (2, .int (nI (wn))), (3, .int (nI (m1))), (4, .int (nI (i3 + 1)))] rfl ?_
                      have hf4 : Wy R C cu wn (m1 + 1) (va_up f3 i3 ((0 + (oW f3 (hi i3))))) := Wy_put hf3 (by omega)
                      have hp4 : ∀ j s, (LvS R C cu m1)[j]? = some s → off R C cu m1 + j < i3 + 1 → (va_up f3 i3 ((0 + (oW f3 (hi i3))))) (off R C cu m1 + j) = WS R C cu wn (nE R C - m1) m1 s := fun j s4 h5 h6 => by
                        by_cases h7 : off R C cu m1 + j = i3
                        · rw [h7, va_up_self]
                          have h8 : j = j3 := by omega
                          subst h8
                          cases hs3.symm.trans h5
                          rw [show nE R C - m1 = (nE R C - (m1 + 1)) + 1 by omega]
                          unfold WS
                          rw [← ch_oW hl3 (fun i4 s4 h => hf3 (m1 + 1) i4 s4 (Nat.le_refl _) (by omega) h), ← ch_oW hh3 (fun i4 s4 h => hf3 (m1 + 1) i4 s4 (Nat.le_refl _) (by omega) h)]
                          simp [c71, hi3]
                        · rw [va_up_ne _ _ h7]; exact hp3 j s4 h5 (by omega)
                      exact ih53 (i3 + 1) (va_up f3 i3 (0 + (oW f3 (hi i3)))) (by omega) (by omega) (by omega) hf4 hp4
              exact loop53 (off R C cu (m1 + 1) + 2) (fi m1) f2 (by omega) (by omega) (by omega) hf2 (fun j s hj h9 => absurd h9 (by omega))
        exact loop41 (nE R C + 1) (nE R C) f (by omega) (Nat.le_refl _) hW0
      · refine j_aload_n dX0_fillWays_21 rfl 1 rfl ?_
        refine j_iload_n dX0_fillWays_22 rfl 3 rfl ?_
        refine j_iconst (v := nI (1)) dX0_fillWays_23 (by decide) ?_
        refine jn_iastN (wX cI cZ q R C dr sz sa cu fi st lo hi (va_up f i 1) sw) 11 0 rfl rfl (by omega) (by omega) rfl dX0_fillWays_24 ?_
        refine j_iinc (n0 := 3) (v := nI (i + 1)) [(3, .int (nI (i + 1))), (0, .ref (q 2)), (1, .ref (q 11)), (2, .int (nI (wn)))] dX0_fillWays_25 rfl (by exact nI_add (i) 1) (by decide) rfl ?_
        refine j_goto (tgt := 13) dX0_fillWays_28 (by decide) ?_
        refine j_sub [1, 2, 3, 0] [(0, .ref (q 2)), (1, .ref (q 11)), (2, .int (nI (wn))), (3, .int (nI (i + 1)))] rfl ?_
        exact ih13 (i + 1) (va_up f i 1) (by omega) (by omega) (by omega) (fun j h5 h6 => if h7 : j = i then by rw [h7, va_up_self] else by rw [va_up_ne _ _ h7]; exact h3 j h5 (by omega))
  exact loop13 (sz + 2) (fi (nE R C)) wa (by omega) (by omega) (by omega) (fun j h5 h6 => absurd h6 (by omega))

set_option maxHeartbeats 4000000 in
set_option maxRecDepth 100000 in
theorem c_fillS (l : Launch) (hfl : l.flags = flags0) (D : va_G) (cI cJ cZ : ClassId) (q : Nat → Nat) (R C : Nat) (hG : GS R C) (dr sz : Nat) (sa : Bool) (cu fi st : Nat → Nat) (lo hi : Nat → Option Nat) (wa sw : Nat → Nat) (hx : XOK R C cu) (hg : Gr R C cu sz fi st lo hi) (wn : Nat) (hw : wn < 2 ^ 31) : Ct l yX0_fillWays cX0_fillWays 6 none ({ frames := 1, cells := 0, slots := 0, locals := 21 } : Room) D (tys3 cI cJ cZ) (tys3 cI cJ cZ) (wX cI cZ q R C dr sz sa cu fi st lo hi wa sw) [.ref (q 2), .ref (q 12), .int (nI (wn))] (fun r u => r = none ∧ ∃ f : Nat → Nat, Wy R C cu wn 0 f ∧ u = wX cI cZ q R C dr sz sa cu fi st lo hi wa f) 0 0 := by
  refine Ct.of hfl (by decide) (Nat.le_of_ble_eq_true rfl) ?_
  intro k hR _
  have hR4 := hG.2.1
  have hC3 := hG.2.2.2
  have hR1 := hG.1
  have hC1 := hG.2.2.1
  have hE := hG.E
  have hRC := hG.RC
  have hE4 := hG.E4
  obtain ⟨hcu, hcap, -⟩ := hx
  obtain ⟨hsz, hfi, hst, hch⟩ := id hg
  have hfE := hfi (nE R C) (by omega)
  have oE1 : off R C cu (nE R C + 1) = off R C cu (nE R C) + (LvS R C cu (nE R C)).length := rfl
  show V k l D (tys3 cI cJ cZ) ({ frames := 1, cells := 0, slots := 0, locals := 21 } : Room) cX0_fillWays 6 RX0 (wX cI cZ q R C dr sz sa cu fi st lo hi wa sw) 0 0 0 [(0, .ref (q 2)), (1, .ref (q 12)), (2, .int (nI (wn)))] []
  refine j_aload_n dX0_fillWays_0 rfl 0 rfl ?_
  refine gf_X0_21 2 rfl (rfl) dX0_fillWays_1 ?_
  refine j_aload_n dX0_fillWays_4 rfl 0 rfl ?_
  refine gf_X0_9 2 rfl (rfl) dX0_fillWays_5 ?_
  refine gf_X0_15 1 rfl (rfl) dX0_fillWays_8 ?_
  refine jn_iald (v := nI (fi (nE R C))) 7 0 rfl rfl (by omega) (by omega) (rfl) dX0_fillWays_11 ?_
  refine j_istore_n [(3, .int (nI (fi (nE R C)))), (0, .ref (q 2)), (1, .ref (q 12)), (2, .int (nI (wn)))] dX0_fillWays_12 rfl (by decide) rfl ?_
  refine j_sub [1, 2, 3, 0] [(0, .ref (q 2)), (1, .ref (q 12)), (2, .int (nI (wn))), (3, .int (nI (fi (nE R C))))] rfl ?_
  have loop13 : ∀ (n : Nat) (i : Nat) (f : Nat → Nat), (sz < i + n) → (off R C cu (nE R C) ≤ i) → (i ≤ sz) → (∀ j, off R C cu (nE R C) ≤ j → j < i → f j = 1) → V k l D (tys3 cI cJ cZ) ({ frames := 1, cells := 0, slots := 0, locals := 21 } : Room) cX0_fillWays 6 RX0 (wX cI cZ q R C dr sz sa cu fi st lo hi wa f) 0 0 13 [(0, .ref (q 2)), (1, .ref (q 12)), (2, .int (nI (wn))), (3, .int (nI (i)))] [] := by
    intro n
    induction n with
    | zero => intro i f hm h1 h2 h3; exfalso; omega
    | succ n ih13 =>
      intro i f hm h1 h2 h3
      refine j_iload_n dX0_fillWays_13 rfl 3 rfl ?_
      refine j_aload_n dX0_fillWays_14 rfl 0 rfl ?_
      refine gf_X0_25 2 rfl (rfl) dX0_fillWays_15 ?_
      refine jn_icmp_ge (tgt := 31) (a := i) (b := sz) (by omega) (by omega) dX0_fillWays_18 (by decide) (fun c18 => ?_) (fun c18 => ?_)
      · refine j_aload_n dX0_fillWays_31 rfl 0 rfl ?_
        refine gf_X0_9 2 rfl (rfl) dX0_fillWays_32 ?_
        refine gf_X0_15 1 rfl (rfl) dX0_fillWays_35 ?_
        refine j_iconst (v := nI (1)) dX0_fillWays_38 (by decide) ?_
        refine jn_isub dX0_fillWays_39 (by omega) rfl ?_
        refine j_istore_n [(3, .int (nI ((nE R C) - 1))), (0, .ref (q 2)), (1, .ref (q 12)), (2, .int (nI (wn)))] dX0_fillWays_40 rfl (by decide) rfl ?_
        have hW0 : Wy R C cu wn (nE R C) f := fun k i2 s hk1 hk2 hs => by
          have : k = nE R C := by omega
          subst this
          have := nd_lt hs
          rw [h3 _ (by omega) (by omega), Nat.sub_self]; rfl
        refine j_lv (lv' := [(3, .int (eI (pd (nE R C)))), (0, .ref (q 2)), (1, .ref (q 12)), (2, .int (nI (wn)))]) (by rw [show eI (pd (nE R C)) = nI (nE R C - 1) from (by unfold pd; rw [if_neg (by omega), eI_ne (by omega)])]) ?_
        refine j_sub [1, 2, 3, 0] [(0, .ref (q 2)), (1, .ref (q 12)), (2, .int (nI (wn))), (3, .int (eI (pd (nE R C))))] rfl ?_
        have loop41 : ∀ (n : Nat) (m : Nat) (f2 : Nat → Nat), (m < n) → (m ≤ nE R C) → (Wy R C cu wn m f2) → V k l D (tys3 cI cJ cZ) ({ frames := 1, cells := 0, slots := 0, locals := 21 } : Room) cX0_fillWays 6 RX0 (wX cI cZ q R C dr sz sa cu fi st lo hi wa f2) 0 0 41 [(0, .ref (q 2)), (1, .ref (q 12)), (2, .int (nI (wn))), (3, .int (eI (pd m)))] [] := by
          intro n
          induction n with
          | zero => intro m f2 hm2 hmE hf2; exfalso; omega
          | succ n ih41 =>
            intro m f2 hm2 hmE hf2
            refine j_iload_n dX0_fillWays_41 rfl 3 rfl ?_
            refine j_if_lt (tgt := 121) dX0_fillWays_42 (by decide) (fun c42 => ?_) (fun c42 => ?_)
            · have e42 : m = 0 := pd_neg (by omega) c42
              exact j_vret (tys' := []) rfl hR dX0_fillWays_121 (⟨rfl, f2, by subst e42; exact hf2, rfl⟩)
            · obtain ⟨m1, rfl⟩ := pd_nn c42
              refine j_lv (lv' := [(0, .ref (q 2)), (1, .ref (q 12)), (2, .int (nI (wn))), (3, .int (nI (m1)))]) (by rw [pd_s (by omega)]) ?_
              have fm1 := hfi m1 (by omega)
              have fm2 := hfi (m1 + 1) (by omega)
              have om2 : off R C cu (m1 + 1) = off R C cu m1 + (LvS R C cu m1).length := rfl
              have om3 : off R C cu (m1 + 1) ≤ off R C cu (nE R C + 1) := off_mono (by omega)
              refine j_aload_n dX0_fillWays_45 rfl 0 rfl ?_
              refine gf_X0_21 2 rfl (rfl) dX0_fillWays_46 ?_
              refine j_iload_n dX0_fillWays_49 rfl 3 rfl ?_
              refine jn_iald (v := nI (fi m1)) 7 0 rfl rfl (by omega) (by omega) (rfl) dX0_fillWays_50 ?_
              refine j_istore [(4, .int (nI (fi m1))), (0, .ref (q 2)), (1, .ref (q 12)), (2, .int (nI (wn))), (3, .int (nI (m1)))] dX0_fillWays_51 (by decide) rfl ?_
              refine j_sub [1, 2, 3, 4, 0] [(0, .ref (q 2)), (1, .ref (q 12)), (2, .int (nI (wn))), (3, .int (nI (m1))), (4, .int (nI (fi m1)))] rfl ?_
              have loop53 : ∀ (n : Nat) (i3 : Nat) (f3 : Nat → Nat), (off R C cu (m1 + 1) < i3 + n) → (off R C cu m1 ≤ i3) → (i3 ≤ off R C cu (m1 + 1)) → (Wy R C cu wn (m1 + 1) f3) → (∀ j s, (LvS R C cu m1)[j]? = some s → off R C cu m1 + j < i3 → f3 (off R C cu m1 + j) = WS R C cu wn (nE R C - m1) m1 s) → V k l D (tys3 cI cJ cZ) ({ frames := 1, cells := 0, slots := 0, locals := 21 } : Room) cX0_fillWays 6 RX0 (wX cI cZ q R C dr sz sa cu fi st lo hi wa f3) 0 0 53 [(0, .ref (q 2)), (1, .ref (q 12)), (2, .int (nI (wn))), (3, .int (nI (m1))), (4, .int (nI (i3)))] [] := by
                intro n
                induction n with
                | zero => intro i3 f3 hm3 ha3 hb3 hf3 hp3; exfalso; omega
                | succ n ih53 =>
                  intro i3 f3 hm3 ha3 hb3 hf3 hp3
                  refine j_iload dX0_fillWays_53 4 rfl ?_
                  refine j_aload_n dX0_fillWays_55 rfl 0 rfl ?_
                  refine gf_X0_21 2 rfl (rfl) dX0_fillWays_56 ?_
                  refine j_iload_n dX0_fillWays_59 rfl 3 rfl ?_
                  refine j_iconst (v := nI (1)) dX0_fillWays_60 (by decide) ?_
                  refine jn_iadd (v := m1 + 1) dX0_fillWays_61 rfl ?_
                  refine jn_iald (v := nI (fi (m1 + 1))) 7 0 rfl rfl (by omega) (by omega) (rfl) dX0_fillWays_62 ?_
                  refine jn_icmp_ge (tgt := 115) (a := i3) (b := fi (m1 + 1)) (by omega) (by omega) dX0_fillWays_63 (by decide) (fun c63 => ?_) (fun c63 => ?_)
                  · have hW1 : Wy R C cu wn m1 f3 := Wy_down hf3 (fun j s h h2 => hp3 j s h (by omega))
                    refine j_iinc (n0 := 3) (v := eI (pd m1)) [(3, .int (eI (pd m1))), (0, .ref (q 2)), (1, .ref (q 12)), (2, .int (nI (wn))), (4, .int (nI (i3)))] dX0_fillWays_115 rfl (eI_dec (by omega)) (by decide) rfl ?_
                    refine j_goto (tgt := 41) dX0_fillWays_118 (by decide) ?_
                    refine j_sub [1, 2, 3, 0] [(0, .ref (q 2)), (1, .ref (q 12)), (2, .int (nI (wn))), (3, .int (eI (pd m1)))] rfl ?_
                    exact ih41 m1 (f3) (by omega) (by omega) hW1
                  · obtain ⟨j3, s3, hi3, hs3⟩ := nd_at ha3 (show i3 < off R C cu (m1 + 1) by omega)
                    obtain ⟨hl3, hh3⟩ := hch m1 j3 s3 (by omega) hs3
                    rw [← hi3] at hl3 hh3
                    have hl4 : ∀ i, lo i3 = some i → i < 1014 := fun i e => Nat.lt_of_lt_of_le (ch_lt hl3 (by omega) e) hcap
                    have hh4 : ∀ i, hi i3 = some i → i < 1014 := fun i e => Nat.lt_of_lt_of_le (ch_lt hh3 (by omega) e) hcap
                    refine j_iload_n dX0_fillWays_66 rfl 2 rfl ?_
                    refine j_iload_n dX0_fillWays_67 rfl 3 rfl ?_
                    refine j_sn0 (av := [.int (nI (wn)), .int (nI (m1))]) (r0 := .int (bI ((Nat.testBit wn m1)))) (c_hasBit l hfl D (tys3 cI cJ cZ) (wn) (m1) (by omega) (by omega)) rfl mw1_161 mw1_1 mw1_162 hd_X2_hasBit rfl ⟨rfl, rfl⟩ ⟨Nat.le_of_ble_eq_true rfl, Nat.le_of_ble_eq_true rfl⟩ ⟨Nat.zero_le _, Nat.zero_le _⟩ (Nat.le_of_ble_eq_true rfl) rfl dX0_fillWays_68 ?_
                    refine jb_if_eq (tgt := 78) (b := (Nat.testBit wn m1)) dX0_fillWays_71 (by decide) (fun c71 => ?_) (fun c71 => ?_)
                    · refine j_aload_n dX0_fillWays_78 rfl 1 rfl ?_
                      refine j_aload_n dX0_fillWays_79 rfl 0 rfl ?_
                      refine gf_X0_31 2 rfl (rfl) dX0_fillWays_80 ?_
                      refine j_iload dX0_fillWays_83 4 rfl ?_
                      refine jn_iald (v := oI (lo i3)) 9 0 rfl rfl (by omega) (by omega) (rfl) dX0_fillWays_85 ?_
                      refine j_sW (av := [.ref (q 12), .int (oI (lo i3))]) (c_waysOf l hfl D (tys3 cI cJ cZ) (wX cI cZ q R C dr sz sa cu fi st lo hi wa f3) 12 (q 12) cI f3 rfl rfl (lo i3) (hl4)) mw1_163 mw1_164 mw1_3 mw1_165 hd_X0_waysOf rfl ⟨rfl, rfl⟩ ⟨Nat.le_of_ble_eq_true rfl, Nat.le_of_ble_eq_true rfl⟩ ⟨Nat.zero_le _, Nat.zero_le _⟩ (Nat.le_of_ble_eq_true rfl) rfl dX0_fillWays_86 ?_
                      rintro _ _ ⟨rfl, rfl⟩
                      refine j_st (st' := [.int (nI (oW f3 (lo i3)))]) rfl ?_
                      refine j_istore [(5, .int (nI (oW f3 (lo i3)))), (0, .ref (q 2)), (1, .ref (q 12)), (2, .int (nI (wn))), (3, .int (nI (m1))), (4, .int (nI (i3)))] dX0_fillWays_89 (by decide) rfl ?_
                      refine j_aload_n dX0_fillWays_91 rfl 2 rfl ?_
                      refine j_iload dX0_fillWays_92 5 rfl ?_
                      refine j_iload dX0_fillWays_94 0 rfl ?_
                      refine j_aload_n dX0_fillWays_96 rfl 2 rfl ?_
                      refine j_aload_n dX0_fillWays_97 rfl 1 rfl ?_
                      refine gf_X0_34 2 rfl (rfl) dX0_fillWays_98 ?_
                      refine j_iload dX0_fillWays_101 5 rfl ?_
                      refine jn_iald (v := oI (hi i3)) 10 0 rfl rfl (by omega) (by omega) (rfl) dX0_fillWays_103 ?_
                      refine j_sW (av := [.ref (q 12), .int (oI (hi i3))]) (c_waysOf l hfl D (tys3 cI cJ cZ) (wX cI cZ q R C dr sz sa cu fi st lo hi wa f3) 12 (q 12) cI f3 rfl rfl (hi i3) (hh4)) mw1_163 mw1_164 mw1_3 mw1_165 hd_X0_waysOf rfl ⟨rfl, rfl⟩ ⟨Nat.le_of_ble_eq_true rfl, Nat.le_of_ble_eq_true rfl⟩ ⟨Nat.zero_le _, Nat.zero_le _⟩ (Nat.le_of_ble_eq_true rfl) rfl dX0_fillWays_104 ?_
                      rintro _ _ ⟨rfl, rfl⟩
                      refine j_st (st' := [.int (nI (oW f3 (hi i3))), .int (nI (oW f3 (lo i3))), .int (nI (i3)), .ref (q 12)]) rfl ?_
                      refine jn_iadd (v := (oW f3 (lo i3)) + (oW f3 (hi i3))) dX0_fillWays_107 rfl ?_
                      refine jn_iastN (wX cI cZ q R C dr sz sa cu fi st lo hi wa (va_up f3 i3 ((oW f3 (lo i3)) + (oW f3 (hi i3))))) 12 0 rfl rfl (by omega) (by omega) rfl dX0_fillWays_108 ?_
                      refine j_iinc (n0 := 5) (v := nI (i3 + 1)) [(4, .int (nI (i3 + 1))), (5, .int (nI (oW f3 (lo i3)))), (0, .ref (q 2)), (1, .ref (q 12)), (2, .int (nI (wn))), (3, .int (nI (m1)))] dX0_fillWays_109 rfl (by exact nI_add (i3) 1) (by decide) rfl ?_
                      refine j_goto (tgt := 53) dX0_fillWays_112 (by decide) ?_
                      refine j_sub [2, 3, 4, 5, 0] [(0, .ref (q 2)), (1, .ref (q 12)), (2, .int (nI (wn))), (3, .int (nI (m1))), (4, .int (nI (i3 + 1)))] rfl ?_
                      have hf4 : Wy R C cu wn (m1 + 1) (va_up f3 i3 (((oW f3 (lo i3)) + (oW f3 (hi i3))))) := Wy_put hf3 (by omega)
                      have hp4 : ∀ j s, (LvS R C cu m1)[j]? = some s → off R C cu m1 + j < i3 + 1 → (va_up f3 i3 (((oW f3 (lo i3)) + (oW f3 (hi i3))))) (off R C cu m1 + j) = WS R C cu wn (nE R C - m1) m1 s := fun j s4 h5 h6 => by
                        by_cases h7 : off R C cu m1 + j = i3
                        · rw [h7, va_up_self]
                          have h8 : j = j3 := by omega
                          subst h8
                          cases hs3.symm.trans h5
                          rw [show nE R C - m1 = (nE R C - (m1 + 1)) + 1 by omega]
                          unfold WS
                          rw [← ch_oW hl3 (fun i4 s4 h => hf3 (m1 + 1) i4 s4 (Nat.le_refl _) (by omega) h), ← ch_oW hh3 (fun i4 s4 h => hf3 (m1 + 1) i4 s4 (Nat.le_refl _) (by omega) h)]
                          simp [c71, hi3]
                        · rw [va_up_ne _ _ h7]; exact hp3 j s4 h5 (by omega)
                      exact ih53 (i3 + 1) (va_up f3 i3 ((oW f3 (lo i3)) + (oW f3 (hi i3)))) (by omega) (by omega) (by omega) hf4 hp4
                    · refine j_iconst (v := nI (0)) dX0_fillWays_74 (by decide) ?_
                      refine j_goto (tgt := 89) dX0_fillWays_75 (by decide) ?_
                      refine j_istore [(5, .int (nI (0))), (0, .ref (q 2)), (1, .ref (q 12)), (2, .int (nI (wn))), (3, .int (nI (m1))), (4, .int (nI (i3)))] dX0_fillWays_89 (by decide) rfl ?_
                      refine j_aload_n dX0_fillWays_91 rfl 2 rfl ?_
                      refine j_iload dX0_fillWays_92 5 rfl ?_
                      refine j_iload dX0_fillWays_94 0 rfl ?_
                      refine j_aload_n dX0_fillWays_96 rfl 2 rfl ?_
                      refine j_aload_n dX0_fillWays_97 rfl 1 rfl ?_
                      refine gf_X0_34 2 rfl (rfl) dX0_fillWays_98 ?_
                      refine j_iload dX0_fillWays_101 5 rfl ?_
                      refine jn_iald (v := oI (hi i3)) 10 0 rfl rfl (by omega) (by omega) (rfl) dX0_fillWays_103 ?_
                      refine j_sW (av := [.ref (q 12), .int (oI (hi i3))]) (c_waysOf l hfl D (tys3 cI cJ cZ) (wX cI cZ q R C dr sz sa cu fi st lo hi wa f3) 12 (q 12) cI f3 rfl rfl (hi i3) (hh4)) mw1_163 mw1_164 mw1_3 mw1_165 hd_X0_waysOf rfl ⟨rfl, rfl⟩ ⟨Nat.le_of_ble_eq_true rfl, Nat.le_of_ble_eq_true rfl⟩ ⟨Nat.zero_le _, Nat.zero_le _⟩ (Nat.le_of_ble_eq_true rfl) rfl dX0_fillWays_104 ?_
                      rintro _ _ ⟨rfl, rfl⟩
                      refine j_st (st' := [.int (nI (oW f3 (hi i3))), .int (nI (0)), .int (nI (i3)), .ref (q 12)]) rfl ?_
                      refine jn_iadd (v := 0 + (oW f3 (hi i3))) dX0_fillWays_107 rfl ?_
                      refine jn_iastN (wX cI cZ q R C dr sz sa cu fi st lo hi wa (va_up f3 i3 (0 + (oW f3 (hi i3))))) 12 0 rfl rfl (by omega) (by omega) rfl dX0_fillWays_108 ?_
                      refine j_iinc (n0 := 5) (v := nI (i3 + 1)) [(4, .int (nI (i3 + 1))), (5, .int (nI (0))), (0, .ref (q 2)), (1, .ref (q 12)), (2, .int (nI (wn))), (3, .int (nI (m1)))] dX0_fillWays_109 rfl (by exact nI_add (i3) 1) (by decide) rfl ?_
                      refine j_goto (tgt := 53) dX0_fillWays_112 (by decide) ?_
                      refine j_sub [2, 3, 4, 5, 0] [(0, .ref (q 2)), (1, .ref (q 12)), (2, .int (nI (wn))), (3, .int (nI (m1))), (4, .int (nI (i3 + 1)))] rfl ?_
                      have hf4 : Wy R C cu wn (m1 + 1) (va_up f3 i3 ((0 + (oW f3 (hi i3))))) := Wy_put hf3 (by omega)
                      have hp4 : ∀ j s, (LvS R C cu m1)[j]? = some s → off R C cu m1 + j < i3 + 1 → (va_up f3 i3 ((0 + (oW f3 (hi i3))))) (off R C cu m1 + j) = WS R C cu wn (nE R C - m1) m1 s := fun j s4 h5 h6 => by
                        by_cases h7 : off R C cu m1 + j = i3
                        · rw [h7, va_up_self]
                          have h8 : j = j3 := by omega
                          subst h8
                          cases hs3.symm.trans h5
                          rw [show nE R C - m1 = (nE R C - (m1 + 1)) + 1 by omega]
                          unfold WS
                          rw [← ch_oW hl3 (fun i4 s4 h => hf3 (m1 + 1) i4 s4 (Nat.le_refl _) (by omega) h), ← ch_oW hh3 (fun i4 s4 h => hf3 (m1 + 1) i4 s4 (Nat.le_refl _) (by omega) h)]
                          simp [c71, hi3]
                        · rw [va_up_ne _ _ h7]; exact hp3 j s4 h5 (by omega)
                      exact ih53 (i3 + 1) (va_up f3 i3 (0 + (oW f3 (hi i3)))) (by omega) (by omega) (by omega) hf4 hp4
              exact loop53 (off R C cu (m1 + 1) + 2) (fi m1) f2 (by omega) (by omega) (by omega) hf2 (fun j s hj h9 => absurd h9 (by omega))
        exact loop41 (nE R C + 1) (nE R C) f (by omega) (Nat.le_refl _) hW0
      · refine j_aload_n dX0_fillWays_21 rfl 1 rfl ?_
        refine j_iload_n dX0_fillWays_22 rfl 3 rfl ?_
        refine j_iconst (v := nI (1)) dX0_fillWays_23 (by decide) ?_
        refine jn_iastN (wX cI cZ q R C dr sz sa cu fi st lo hi wa (va_up f i 1)) 12 0 rfl rfl (by omega) (by omega) rfl dX0_fillWays_24 ?_
        refine j_iinc (n0 := 3) (v := nI (i + 1)) [(3, .int (nI (i + 1))), (0, .ref (q 2)), (1, .ref (q 12)), (2, .int (nI (wn)))] dX0_fillWays_25 rfl (by exact nI_add (i) 1) (by decide) rfl ?_
        refine j_goto (tgt := 13) dX0_fillWays_28 (by decide) ?_
        refine j_sub [1, 2, 3, 0] [(0, .ref (q 2)), (1, .ref (q 12)), (2, .int (nI (wn))), (3, .int (nI (i + 1)))] rfl ?_
        exact ih13 (i + 1) (va_up f i 1) (by omega) (by omega) (by omega) (fun j h5 h6 => if h7 : j = i then by rw [h7, va_up_self] else by rw [va_up_ne _ _ h7]; exact h3 j h5 (by omega))
  exact loop13 (sz + 2) (fi (nE R C)) sw (by omega) (by omega) (by omega) (fun j h5 h6 => absurd h6 (by omega))

