set_option maxHeartbeats 4000000 in
set_option maxRecDepth 100000 in
theorem c_rankOf (l : Launch) (hfl : l.flags = flags0) (D : va_G) (cI cJ cZ : ClassId) (q : Nat → Nat) (R C : Nat) (hG : GS R C) (dr sz : Nat) (sa : Bool) (cu fi st : Nat → Nat) (lo hi : Nat → Option Nat) (wa sw : Nat → Nat) (hx : XOK R C cu) (hg : Gr R C cu sz fi st lo hi) (hW : Wy R C cu 0 0 wa) (sx : Nat) (hsx : sx < 2 ^ 31) : Ct l yX0_rankOf cX0_rankOf 5 (Option.some FieldType.int) ({ frames := 1, cells := 0, slots := 0, locals := 21 } : Room) D (tys3 cI cJ cZ) (tys3 cI cJ cZ) (wX cI cZ q R C dr sz sa cu fi st lo hi wa sw) [.ref (q 2), .int (nI (sx))] (fun r u => r = some (.int (oI (rkA R C cu sx (nE R C) 0 1672 0))) ∧ u = wX cI cZ q R C dr sz sa cu fi st lo hi wa sw) 0 0 := by
  refine Ct.of hfl (by decide) (Nat.le_of_ble_eq_true rfl) ?_
  intro k hR _
  have hR4 := hG.2.1
  have hC3 := hG.2.2.2
  have hR1 := hG.1
  have hC1 := hG.2.2.1
  have hE := hG.E
  have hRC := hG.RC
  have hE4 := hG.E4
  obtain ⟨hcu, hcap, hWb⟩ := hx
  obtain ⟨hsz, hfi, hst, hch⟩ := id hg
  have w00 : wa 0 = WS R C cu 0 (nE R C) 0 1672 := hW 0 0 1672 (Nat.le_refl _) (Nat.zero_le _) (lv0 R C cu)
  have wb0 := hWb 0 (Nat.zero_le _) 1672 (mem_of_get (lv0 R C cu)) 0
  rw [Nat.sub_zero] at wb0
  show V k l D (tys3 cI cJ cZ) ({ frames := 1, cells := 0, slots := 0, locals := 21 } : Room) cX0_rankOf 5 RX0 (wX cI cZ q R C dr sz sa cu fi st lo hi wa sw) 0 0 0 [(0, .ref (q 2)), (1, .int (nI (sx)))] []
  refine j_iconst (v := nI (0)) dX0_rankOf_0 (by decide) ?_
  refine j_istore_n [(2, .int (nI (0))), (0, .ref (q 2)), (1, .int (nI (sx)))] dX0_rankOf_1 rfl (by decide) rfl ?_
  refine j_iconst (v := nI (0)) dX0_rankOf_2 (by decide) ?_
  refine j_istore_n [(3, .int (nI (0))), (2, .int (nI (0))), (0, .ref (q 2)), (1, .int (nI (sx)))] dX0_rankOf_3 rfl (by decide) rfl ?_
  refine j_iconst (v := nI (0)) dX0_rankOf_4 (by decide) ?_
  refine j_istore [(4, .int (nI (0))), (3, .int (nI (0))), (2, .int (nI (0))), (0, .ref (q 2)), (1, .int (nI (sx)))] dX0_rankOf_5 (by decide) rfl ?_
  refine j_lv (lv' := [(4, .int (nI (0))), (3, .int (oI (some (off R C cu 0 + 0)))), (2, .int (nI (0))), (0, .ref (q 2)), (1, .int (nI (sx)))]) (by rfl) ?_
  refine j_sub [3, 4, 2, 1, 0] [(0, .ref (q 2)), (1, .int (nI (sx))), (2, .int (nI (0))), (3, .int (oI (some (off R C cu 0 + 0)))), (4, .int (nI (0)))] rfl ?_
  have loop7 : ∀ (n : Nat) (e rk : Nat) (no : Option Nat), (nE R C < e + n) → (e ≤ nE R C) → ((no = none ∧ rkA R C cu sx (nE R C) 0 1672 0 = none) ∨ (∃ i s, no = some (off R C cu e + i) ∧ (LvS R C cu e)[i]? = some s ∧ rkA R C cu sx (nE R C - e) e s rk = rkA R C cu sx (nE R C) 0 1672 0)) → V k l D (tys3 cI cJ cZ) ({ frames := 1, cells := 0, slots := 0, locals := 21 } : Room) cX0_rankOf 5 RX0 (wX cI cZ q R C dr sz sa cu fi st lo hi wa sw) 0 0 7 [(0, .ref (q 2)), (1, .int (nI (sx))), (2, .int (nI (rk))), (3, .int (oI (no))), (4, .int (nI (e)))] [] := by
    intro n
    induction n with
    | zero => intro e rk no hm he hs; exfalso; omega
    | succ n ih7 =>
      intro e rk no hm he hs
      refine j_iload dX0_rankOf_7 4 rfl ?_
      refine j_aload_n dX0_rankOf_9 rfl 0 rfl ?_
      refine gf_X0_9 2 rfl (rfl) dX0_rankOf_10 ?_
      refine gf_X0_15 1 rfl (rfl) dX0_rankOf_13 ?_
      refine jn_icmp_ge (tgt := 72) (a := e) (b := nE R C) (by omega) (by omega) dX0_rankOf_16 (by decide) (fun c16 => ?_) (fun c16 => ?_)
      · have hnob : ∀ s2, no = some s2 → s2 < 2 ^ 31 := fun s2 h => by
          rcases hs with ⟨h2, -⟩ | ⟨i, s3, h2, h3, -⟩
          · rw [h2] at h; cases h
          · rw [h2] at h; cases h; have := nd_lt h3; have : off R C cu (e + 1) ≤ off R C cu (nE R C + 1) := off_mono (by omega); omega
        refine j_iload_n dX0_rankOf_72 rfl 3 rfl ?_
        refine j_iconst (v := (-1)) dX0_rankOf_73 (by decide) ?_
        refine j_icmp_ne (tgt := 81) dX0_rankOf_74 (by decide) (fun c74 => ?_) (fun c74 => ?_)
        · have hend : nE R C - e = 0 := by first | omega | exact absurd c21 c74
          have hres : rkA R C cu sx (nE R C) 0 1672 0 = some rk := by
            rcases hs with ⟨h, -⟩ | ⟨i, s, h, hs, hr⟩
            · exact absurd (by rw [h]; rfl) c74
            · rw [← hr, hend]; rfl
          refine j_iload_n dX0_rankOf_81 rfl 2 rfl ?_
          exact j_iret (tys' := []) rfl hR dX0_rankOf_82 (by rw [hres]; exact ⟨rfl, rfl⟩)
        · have hres : rkA R C cu sx (nE R C) 0 1672 0 = none := by
            have hno : no = none := (oI_m1 hnob).mp c74
            rcases hs with ⟨-, h⟩ | ⟨i, s, h, -, -⟩
            · exact h
            · rw [hno] at h; cases h
          refine j_iconst (v := (-1)) dX0_rankOf_77 (by decide) ?_
          refine j_goto (tgt := 82) dX0_rankOf_78 (by decide) ?_
          exact j_iret (tys' := []) rfl hR dX0_rankOf_82 (by rw [hres]; exact ⟨rfl, rfl⟩)
      · refine j_iload_n dX0_rankOf_19 rfl 3 rfl ?_
        refine j_iconst (v := (-1)) dX0_rankOf_20 (by decide) ?_
        refine j_icmp_eq (tgt := 72) dX0_rankOf_21 (by decide) (fun c21 => ?_) (fun c21 => ?_)
        · have hnob : ∀ s2, no = some s2 → s2 < 2 ^ 31 := fun s2 h => by
            rcases hs with ⟨h2, -⟩ | ⟨i, s3, h2, h3, -⟩
            · rw [h2] at h; cases h
            · rw [h2] at h; cases h; have := nd_lt h3; have : off R C cu (e + 1) ≤ off R C cu (nE R C + 1) := off_mono (by omega); omega
          refine j_iload_n dX0_rankOf_72 rfl 3 rfl ?_
          refine j_iconst (v := (-1)) dX0_rankOf_73 (by decide) ?_
          refine j_icmp_ne (tgt := 81) dX0_rankOf_74 (by decide) (fun c74 => ?_) (fun c74 => ?_)
          · have hend : nE R C - e = 0 := by first | omega | exact absurd c21 c74
            have hres : rkA R C cu sx (nE R C) 0 1672 0 = some rk := by
              rcases hs with ⟨h, -⟩ | ⟨i, s, h, hs, hr⟩
              · exact absurd (by rw [h]; rfl) c74
              · rw [← hr, hend]; rfl
            refine j_iload_n dX0_rankOf_81 rfl 2 rfl ?_
            exact j_iret (tys' := []) rfl hR dX0_rankOf_82 (by rw [hres]; exact ⟨rfl, rfl⟩)
          · have hres : rkA R C cu sx (nE R C) 0 1672 0 = none := by
              have hno : no = none := (oI_m1 hnob).mp c74
              rcases hs with ⟨-, h⟩ | ⟨i, s, h, -, -⟩
              · exact h
              · rw [hno] at h; cases h
            refine j_iconst (v := (-1)) dX0_rankOf_77 (by decide) ?_
            refine j_goto (tgt := 82) dX0_rankOf_78 (by decide) ?_
            exact j_iret (tys' := []) rfl hR dX0_rankOf_82 (by rw [hres]; exact ⟨rfl, rfl⟩)
        · have hno : no ≠ none := fun h => c21 (by rw [h]; rfl)
          rcases hs with ⟨h, -⟩ | ⟨i, s, hno2, hs, hr⟩
          · exact absurd h hno
          subst hno2
          refine j_lv (lv' := [(0, .ref (q 2)), (1, .int (nI (sx))), (2, .int (nI (rk))), (3, .int (nI (off R C cu e + i))), (4, .int (nI (e)))]) (by rfl) ?_
          obtain ⟨n1, hn1⟩ : ∃ n1, nE R C - e = n1 + 1 := ⟨nE R C - e - 1, by omega⟩
          have hn2 : nE R C - (e + 1) = n1 := by omega
          obtain ⟨hl, hh⟩ := hch e i s (by omega) hs
          have hlb : ∀ i2, lo (off R C cu e + i) = some i2 → i2 < 1014 := fun i2 h => Nat.lt_of_lt_of_le (ch_lt hl (by omega) h) hcap
          have wl : oW wa (lo (off R C cu e + i)) = oW (WS R C cu 0 n1 (e + 1)) (stepF R C cu s e false) := ch_oW hl (fun i2 s2 h => by rw [hW (e + 1) i2 s2 (Nat.zero_le _) (by omega) h, hn2])
          have nb := nd_lt hs
          have om1 : off R C cu (e + 1) ≤ off R C cu (nE R C + 1) := off_mono (by omega)
          rw [hn1] at hr
          simp only [rkA] at hr
          refine j_iload_n dX0_rankOf_24 rfl 1 rfl ?_
          refine j_iload dX0_rankOf_25 4 rfl ?_
          refine j_sn0 (av := [.int (nI (sx)), .int (nI (e))]) (r0 := .int (bI ((Nat.testBit sx e)))) (c_hasBit l hfl D (tys3 cI cJ cZ) (sx) (e) (by omega) (by omega)) rfl mw1_161 mw1_1 mw1_162 hd_X2_hasBit rfl ⟨rfl, rfl⟩ ⟨Nat.le_of_ble_eq_true rfl, Nat.le_of_ble_eq_true rfl⟩ ⟨Nat.zero_le _, Nat.zero_le _⟩ (Nat.le_of_ble_eq_true rfl) rfl dX0_rankOf_27 ?_
          refine jb_if_eq (tgt := 59) (b := (Nat.testBit sx e)) dX0_rankOf_30 (by decide) (fun c30 => ?_) (fun c30 => ?_)
          · have hs1 : (lo (off R C cu e + i) = none ∧ rkA R C cu sx (nE R C) 0 1672 0 = none) ∨ (∃ i2 s2, lo (off R C cu e + i) = some (off R C cu (e + 1) + i2) ∧ (LvS R C cu (e + 1))[i2]? = some s2 ∧ rkA R C cu sx (nE R C - (e + 1)) (e + 1) s2 (rk) = rkA R C cu sx (nE R C) 0 1672 0) := by
              rw [c30] at hr
              cases hst : stepF R C cu s e false with
              | none =>
                rw [hst] at hr
                exact Or.inl ⟨ch_none hl hst, hr.symm⟩
              | some t =>
                rw [hst] at hr
                obtain ⟨j, hj1, hj2⟩ := ch_some hl hst
                refine Or.inr ⟨j, t, hj1, hj2, ?_⟩
                rw [← hr, hn2]
                first | rfl | simp
            refine j_aload_n dX0_rankOf_59 rfl 0 rfl ?_
            refine gf_X0_31 2 rfl (rfl) dX0_rankOf_60 ?_
            refine j_iload_n dX0_rankOf_63 rfl 3 rfl ?_
            refine jn_iald (v := oI (lo (off R C cu e + i))) 9 0 rfl rfl (by omega) (by omega) (rfl) dX0_rankOf_64 ?_
            refine j_istore_n [(3, .int (oI (lo (off R C cu e + i)))), (0, .ref (q 2)), (1, .int (nI (sx))), (2, .int (nI (rk))), (4, .int (nI (e)))] dX0_rankOf_65 rfl (by decide) rfl ?_
            refine j_iinc (n0 := 4) (v := nI (e + 1)) [(4, .int (nI (e + 1))), (3, .int (oI (lo (off R C cu e + i)))), (0, .ref (q 2)), (1, .int (nI (sx))), (2, .int (nI (rk)))] dX0_rankOf_66 rfl (by exact nI_add (e) 1) (by decide) rfl ?_
            refine j_goto (tgt := 7) dX0_rankOf_69 (by decide) ?_
            refine j_sub [2, 3, 4, 1, 0] [(0, .ref (q 2)), (1, .int (nI (sx))), (2, .int (nI (rk))), (3, .int (oI (lo (off R C cu e + i)))), (4, .int (nI (e + 1)))] rfl ?_
            exact ih7 (e + 1) (rk) (lo (off R C cu e + i)) (by omega) (by omega) hs1
          · refine j_iload_n dX0_rankOf_33 rfl 2 rfl ?_
            refine j_aload_n dX0_rankOf_34 rfl 0 rfl ?_
            refine gf_X0_37 2 rfl (rfl) dX0_rankOf_35 ?_
            refine j_aload_n dX0_rankOf_38 rfl 0 rfl ?_
            refine gf_X0_31 2 rfl (rfl) dX0_rankOf_39 ?_
            refine j_iload_n dX0_rankOf_42 rfl 3 rfl ?_
            refine jn_iald (v := oI (lo (off R C cu e + i))) 9 0 rfl rfl (by omega) (by omega) (rfl) dX0_rankOf_43 ?_
            refine j_sW (av := [.ref (q 11), .int (oI (lo (off R C cu e + i)))]) (c_waysOf l hfl D (tys3 cI cJ cZ) (wX cI cZ q R C dr sz sa cu fi st lo hi wa sw) 11 (q 11) cI wa rfl rfl (lo (off R C cu e + i)) (hlb)) mw1_163 mw1_164 mw1_3 mw1_165 hd_X0_waysOf rfl ⟨rfl, rfl⟩ ⟨Nat.le_of_ble_eq_true rfl, Nat.le_of_ble_eq_true rfl⟩ ⟨Nat.zero_le _, Nat.zero_le _⟩ (Nat.le_of_ble_eq_true rfl) rfl dX0_rankOf_44 ?_
            rintro _ _ ⟨rfl, rfl⟩
            refine j_st (st' := [.int (nI (oW wa (lo (off R C cu e + i)))), .int (nI (rk))]) rfl ?_
            refine jn_iadd (v := rk + (oW wa (lo (off R C cu e + i)))) dX0_rankOf_47 rfl ?_
            refine j_istore_n [(2, .int (nI (rk + (oW wa (lo (off R C cu e + i)))))), (0, .ref (q 2)), (1, .int (nI (sx))), (3, .int (nI (off R C cu e + i))), (4, .int (nI (e)))] dX0_rankOf_48 rfl (by decide) rfl ?_
            have hs1 : (hi (off R C cu e + i) = none ∧ rkA R C cu sx (nE R C) 0 1672 0 = none) ∨ (∃ i2 s2, hi (off R C cu e + i) = some (off R C cu (e + 1) + i2) ∧ (LvS R C cu (e + 1))[i2]? = some s2 ∧ rkA R C cu sx (nE R C - (e + 1)) (e + 1) s2 (rk + oW wa (lo (off R C cu e + i))) = rkA R C cu sx (nE R C) 0 1672 0) := by
              rw [c30] at hr
              cases hst : stepF R C cu s e true with
              | none =>
                rw [hst] at hr
                exact Or.inl ⟨ch_none hh hst, hr.symm⟩
              | some t =>
                rw [hst] at hr
                obtain ⟨j, hj1, hj2⟩ := ch_some hh hst
                refine Or.inr ⟨j, t, hj1, hj2, ?_⟩
                rw [← hr, hn2, wl]
                first | rfl | simp
            refine j_aload_n dX0_rankOf_49 rfl 1 rfl ?_
            refine gf_X0_34 2 rfl (rfl) dX0_rankOf_50 ?_
            refine j_iload_n dX0_rankOf_53 rfl 3 rfl ?_
            refine jn_iald (v := oI (hi (off R C cu e + i))) 10 0 rfl rfl (by omega) (by omega) (rfl) dX0_rankOf_54 ?_
            refine j_istore_n [(3, .int (oI (hi (off R C cu e + i)))), (2, .int (nI (rk + (oW wa (lo (off R C cu e + i)))))), (0, .ref (q 2)), (1, .int (nI (sx))), (4, .int (nI (e)))] dX0_rankOf_55 rfl (by decide) rfl ?_
            refine j_goto (tgt := 66) dX0_rankOf_56 (by decide) ?_
            refine j_iinc (n0 := 4) (v := nI (e + 1)) [(4, .int (nI (e + 1))), (3, .int (oI (hi (off R C cu e + i)))), (2, .int (nI (rk + (oW wa (lo (off R C cu e + i)))))), (0, .ref (q 2)), (1, .int (nI (sx)))] dX0_rankOf_66 rfl (by exact nI_add (e) 1) (by decide) rfl ?_
            refine j_goto (tgt := 7) dX0_rankOf_69 (by decide) ?_
            refine j_sub [3, 4, 2, 1, 0] [(0, .ref (q 2)), (1, .int (nI (sx))), (2, .int (nI (rk + (oW wa (lo (off R C cu e + i)))))), (3, .int (oI (hi (off R C cu e + i)))), (4, .int (nI (e + 1)))] rfl ?_
            exact ih7 (e + 1) (rk + (oW wa (lo (off R C cu e + i)))) (hi (off R C cu e + i)) (by omega) (by omega) hs1
  exact loop7 (nE R C + 2) 0 0 (some (off R C cu 0 + 0)) (by omega) (by omega) (Or.inr ⟨0, 1672, rfl, lv0 R C cu, rfl⟩)

set_option maxHeartbeats 4000000 in
set_option maxRecDepth 100000 in
theorem c_aliveEdges (l : Launch) (hfl : l.flags = flags0) (D : va_G) (cI cJ cZ : ClassId) (q : Nat → Nat) (R C : Nat) (hG : GS R C) (dr sz : Nat) (sa : Bool) (cu fi st : Nat → Nat) (lo hi : Nat → Option Nat) (wa sw : Nat → Nat) (hx : XOK R C cu) (hg : Gr R C cu sz fi st lo hi) (sx : Nat) (hsx : sx < 2 ^ 31) : Ct l yX0_aliveEdges cX0_aliveEdges 4 (Option.some FieldType.int) ({ frames := 1, cells := 0, slots := 0, locals := 21 } : Room) D (tys3 cI cJ cZ) (tys3 cI cJ cZ) (wX cI cZ q R C dr sz sa cu fi st lo hi wa sw) [.ref (q 2), .int (nI (sx))] (fun r u => r = some (.int (nI (alA R C cu sx (nE R C) 0 1672))) ∧ u = wX cI cZ q R C dr sz sa cu fi st lo hi wa sw) 0 0 := by
  refine Ct.of hfl (by decide) (Nat.le_of_ble_eq_true rfl) ?_
  intro k hR _
  have hR4 := hG.2.1
  have hC3 := hG.2.2.2
  have hR1 := hG.1
  have hC1 := hG.2.2.1
  have hE := hG.E
  have hRC := hG.RC
  have hE4 := hG.E4
  obtain ⟨hcu, hcap, hWb⟩ := hx
  obtain ⟨hsz, hfi, hst, hch⟩ := id hg
  show V k l D (tys3 cI cJ cZ) ({ frames := 1, cells := 0, slots := 0, locals := 21 } : Room) cX0_aliveEdges 4 RX0 (wX cI cZ q R C dr sz sa cu fi st lo hi wa sw) 0 0 0 [(0, .ref (q 2)), (1, .int (nI (sx)))] []
  refine j_iconst (v := nI (0)) dX0_aliveEdges_0 (by decide) ?_
  refine j_istore_n [(2, .int (nI (0))), (0, .ref (q 2)), (1, .int (nI (sx)))] dX0_aliveEdges_1 rfl (by decide) rfl ?_
  refine j_iconst (v := nI (0)) dX0_aliveEdges_2 (by decide) ?_
  refine j_istore_n [(3, .int (nI (0))), (2, .int (nI (0))), (0, .ref (q 2)), (1, .int (nI (sx)))] dX0_aliveEdges_3 rfl (by decide) rfl ?_
  refine j_lv (lv' := [(3, .int (nI (0))), (2, .int (nI (off R C cu 0 + 0))), (0, .ref (q 2)), (1, .int (nI (sx)))]) (by rfl) ?_
  refine j_sub [2, 3, 1, 0] [(0, .ref (q 2)), (1, .int (nI (sx))), (2, .int (nI (off R C cu 0 + 0))), (3, .int (nI (0)))] rfl ?_
  have loop4 : ∀ (n : Nat) (e i s : Nat), (nE R C < e + n) → (e ≤ nE R C) → ((LvS R C cu e)[i]? = some s) → (alA R C cu sx (nE R C - e) e s = alA R C cu sx (nE R C) 0 1672) → V k l D (tys3 cI cJ cZ) ({ frames := 1, cells := 0, slots := 0, locals := 21 } : Room) cX0_aliveEdges 4 RX0 (wX cI cZ q R C dr sz sa cu fi st lo hi wa sw) 0 0 4 [(0, .ref (q 2)), (1, .int (nI (sx))), (2, .int (nI (off R C cu e + i))), (3, .int (nI (e)))] [] := by
    intro n
    induction n with
    | zero => intro e i s hm he hs hr; exfalso; omega
    | succ n ih4 =>
      intro e i s hm he hs hr
      refine j_iload_n dX0_aliveEdges_4 rfl 3 rfl ?_
      refine j_aload_n dX0_aliveEdges_5 rfl 0 rfl ?_
      refine gf_X0_9 2 rfl (rfl) dX0_aliveEdges_6 ?_
      refine gf_X0_15 1 rfl (rfl) dX0_aliveEdges_9 ?_
      refine jn_icmp_ge (tgt := 52) (a := e) (b := nE R C) (by omega) (by omega) dX0_aliveEdges_12 (by decide) (fun c12 => ?_) (fun c12 => ?_)
      · refine j_aload_n dX0_aliveEdges_52 rfl 0 rfl ?_
        refine gf_X0_9 2 rfl (rfl) dX0_aliveEdges_53 ?_
        refine gf_X0_15 1 rfl (rfl) dX0_aliveEdges_56 ?_
        exact j_iret (tys' := []) rfl hR dX0_aliveEdges_59 (⟨by rw [← hr, show nE R C - e = 0 by omega]; show _ = some (Value.int (nI e)); rw [show e = nE R C by omega], rfl⟩)
      · obtain ⟨n1, hn1⟩ : ∃ n1, nE R C - e = n1 + 1 := ⟨nE R C - e - 1, by omega⟩
        have hn2 : nE R C - (e + 1) = n1 := by omega
        obtain ⟨hl, hh⟩ := hch e i s (by omega) hs
        have nb := nd_lt hs
        have om1 : off R C cu (e + 1) ≤ off R C cu (nE R C + 1) := off_mono (by omega)
        rw [hn1] at hr
        simp only [alA] at hr
        refine j_iload_n dX0_aliveEdges_15 rfl 1 rfl ?_
        refine j_iload_n dX0_aliveEdges_16 rfl 3 rfl ?_
        refine j_sn0 (av := [.int (nI (sx)), .int (nI (e))]) (r0 := .int (bI ((Nat.testBit sx e)))) (c_hasBit l hfl D (tys3 cI cJ cZ) (sx) (e) (by omega) (by omega)) rfl mw1_161 mw1_1 mw1_162 hd_X2_hasBit rfl ⟨rfl, rfl⟩ ⟨Nat.le_of_ble_eq_true rfl, Nat.le_of_ble_eq_true rfl⟩ ⟨Nat.zero_le _, Nat.zero_le _⟩ (Nat.le_of_ble_eq_true rfl) rfl dX0_aliveEdges_17 ?_
        refine jb_if_eq (tgt := 32) (b := (Nat.testBit sx e)) dX0_aliveEdges_20 (by decide) (fun c20 => ?_) (fun c20 => ?_)
        · refine j_aload_n dX0_aliveEdges_32 rfl 0 rfl ?_
          refine gf_X0_31 2 rfl (rfl) dX0_aliveEdges_33 ?_
          refine j_iload_n dX0_aliveEdges_36 rfl 2 rfl ?_
          refine jn_iald (v := oI (lo (off R C cu e + i))) 9 0 rfl rfl (by omega) (by omega) (rfl) dX0_aliveEdges_37 ?_
          refine j_istore_n [(2, .int (oI (lo (off R C cu e + i)))), (0, .ref (q 2)), (1, .int (nI (sx))), (3, .int (nI (e)))] dX0_aliveEdges_38 rfl (by decide) rfl ?_
          refine j_iload_n dX0_aliveEdges_39 rfl 0 rfl ?_
          refine j_iconst (v := (-1)) dX0_aliveEdges_40 (by decide) ?_
          refine j_icmp_ne (tgt := 46) dX0_aliveEdges_41 (by decide) (fun c41 => ?_) (fun c41 => ?_)
          · obtain ⟨t, ht⟩ : ∃ t, stepF R C cu s e false = some t := by
              cases hst : stepF R C cu s e false with
              | none => exact absurd (by rw [ch_none hl hst]; rfl) c41
              | some t => exact ⟨t, rfl⟩
            obtain ⟨j, hj1, hj2⟩ := ch_some hl ht
            have hs1 : alA R C cu sx (nE R C - (e + 1)) (e + 1) t = alA R C cu sx (nE R C) 0 1672 := by rw [← hr, c20, ht, hn2]
            refine j_lv (lv' := [(2, .int (nI (off R C cu (e + 1) + j))), (0, .ref (q 2)), (1, .int (nI (sx))), (3, .int (nI (e)))]) (by rw [hj1]; rfl) ?_
            refine j_iinc (n0 := 3) (v := nI (e + 1)) [(3, .int (nI (e + 1))), (2, .int (nI (off R C cu (e + 1) + j))), (0, .ref (q 2)), (1, .int (nI (sx)))] dX0_aliveEdges_46 rfl (by exact nI_add (e) 1) (by decide) rfl ?_
            refine j_goto (tgt := 4) dX0_aliveEdges_49 (by decide) ?_
            refine j_sub [2, 3, 1, 0] [(0, .ref (q 2)), (1, .int (nI (sx))), (2, .int (nI (off R C cu (e + 1) + j))), (3, .int (nI (e + 1)))] rfl ?_
            exact ih4 (e + 1) j t (by omega) (by omega) hj2 hs1
          · have hc1 : lo (off R C cu e + i) = none := by
              cases hst : stepF R C cu s e false with
              | none => exact ch_none hl hst
              | some t =>
                obtain ⟨j, hj1, hj2⟩ := ch_some hl hst
                have := nd_lt hj2
                have : off R C cu (e + 1 + 1) ≤ off R C cu (nE R C + 1) := off_mono (by omega)
                rw [hj1] at c41
                exact absurd c41 (nI_m1 (by show off R C cu (e + 1) + j < 2 ^ 31; omega))
            have hres : alA R C cu sx (nE R C) 0 1672 = e := by
              rw [← hr, c20]
              cases hst : stepF R C cu s e false with
              | none => rfl
              | some t =>
                obtain ⟨j, hj1, -⟩ := ch_some hl hst
                rw [hj1] at hc1; cases hc1
            refine j_iload_n dX0_aliveEdges_44 rfl 3 rfl ?_
            exact j_iret (tys' := []) rfl hR dX0_aliveEdges_45 (⟨by rw [hres], rfl⟩)
        · refine j_aload_n dX0_aliveEdges_23 rfl 0 rfl ?_
          refine gf_X0_34 2 rfl (rfl) dX0_aliveEdges_24 ?_
          refine j_iload_n dX0_aliveEdges_27 rfl 2 rfl ?_
          refine jn_iald (v := oI (hi (off R C cu e + i))) 10 0 rfl rfl (by omega) (by omega) (rfl) dX0_aliveEdges_28 ?_
          refine j_goto (tgt := 38) dX0_aliveEdges_29 (by decide) ?_
          refine j_istore_n [(2, .int (oI (hi (off R C cu e + i)))), (0, .ref (q 2)), (1, .int (nI (sx))), (3, .int (nI (e)))] dX0_aliveEdges_38 rfl (by decide) rfl ?_
          refine j_iload_n dX0_aliveEdges_39 rfl 0 rfl ?_
          refine j_iconst (v := (-1)) dX0_aliveEdges_40 (by decide) ?_
          refine j_icmp_ne (tgt := 46) dX0_aliveEdges_41 (by decide) (fun c41 => ?_) (fun c41 => ?_)
          · obtain ⟨t, ht⟩ : ∃ t, stepF R C cu s e true = some t := by
              cases hst : stepF R C cu s e true with
              | none => exact absurd (by rw [ch_none hh hst]; rfl) c41
              | some t => exact ⟨t, rfl⟩
            obtain ⟨j, hj1, hj2⟩ := ch_some hh ht
            have hs1 : alA R C cu sx (nE R C - (e + 1)) (e + 1) t = alA R C cu sx (nE R C) 0 1672 := by rw [← hr, c20, ht, hn2]
            refine j_lv (lv' := [(2, .int (nI (off R C cu (e + 1) + j))), (0, .ref (q 2)), (1, .int (nI (sx))), (3, .int (nI (e)))]) (by rw [hj1]; rfl) ?_
            refine j_iinc (n0 := 3) (v := nI (e + 1)) [(3, .int (nI (e + 1))), (2, .int (nI (off R C cu (e + 1) + j))), (0, .ref (q 2)), (1, .int (nI (sx)))] dX0_aliveEdges_46 rfl (by exact nI_add (e) 1) (by decide) rfl ?_
            refine j_goto (tgt := 4) dX0_aliveEdges_49 (by decide) ?_
            refine j_sub [2, 3, 1, 0] [(0, .ref (q 2)), (1, .int (nI (sx))), (2, .int (nI (off R C cu (e + 1) + j))), (3, .int (nI (e + 1)))] rfl ?_
            exact ih4 (e + 1) j t (by omega) (by omega) hj2 hs1
          · have hc1 : hi (off R C cu e + i) = none := by
              cases hst : stepF R C cu s e true with
              | none => exact ch_none hh hst
              | some t =>
                obtain ⟨j, hj1, hj2⟩ := ch_some hh hst
                have := nd_lt hj2
                have : off R C cu (e + 1 + 1) ≤ off R C cu (nE R C + 1) := off_mono (by omega)
                rw [hj1] at c41
                exact absurd c41 (nI_m1 (by show off R C cu (e + 1) + j < 2 ^ 31; omega))
            have hres : alA R C cu sx (nE R C) 0 1672 = e := by
              rw [← hr, c20]
              cases hst : stepF R C cu s e true with
              | none => rfl
              | some t =>
                obtain ⟨j, hj1, -⟩ := ch_some hh hst
                rw [hj1] at hc1; cases hc1
            refine j_iload_n dX0_aliveEdges_44 rfl 3 rfl ?_
            exact j_iret (tys' := []) rfl hR dX0_aliveEdges_45 (⟨by rw [hres], rfl⟩)
  exact loop4 (nE R C + 2) 0 0 1672 (by omega) (by omega) (lv0 R C cu) rfl

