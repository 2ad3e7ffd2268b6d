set_option maxHeartbeats 4000000 in
set_option maxRecDepth 100000 in
theorem c_usefulAt (l : Launch) (hfl : l.flags = flags0) (D : va_G) (cI cJ cZ : ClassId) (q : Nat → Nat) (R C : Nat) (hG : GS R C) (dr sz : Nat) (sa : Bool) (cu fi st : Nat → Nat) (lo hi : Nat → Option Nat) (wa sw : Nat → Nat) (hx : XOK R C cu) (hg : Gr R C cu sz fi st lo hi) (hW : Wy R C cu 0 0 wa) (k0 : Nat) (hk0 : k0 ≤ nE R C) : Ct l yX0_usefulAt cX0_usefulAt 4 (Option.some FieldType.int) ({ frames := 0, cells := 0, slots := 0, locals := 0 } : Room) D (tys3 cI cJ cZ) (tys3 cI cJ cZ) (wX cI cZ q R C dr sz sa cu fi st lo hi wa sw) [.ref (q 2), .int (nI (k0))] (fun r u => r = some (.int (nI (usA R C cu k0 (LvS R C cu k0).length))) ∧ u = wX cI cZ q R C dr sz sa cu fi st lo hi wa sw) 0 0 := by
  refine Ct.of hfl (by decide) (Nat.le_of_ble_eq_true rfl) ?_
  intro k hR _
  have hR4 := hG.2.1
  have hC3 := hG.2.2.2
  have hR1 := hG.1
  have hC1 := hG.2.2.1
  have hE := hG.E
  have hRC := hG.RC
  have hE4 := hG.E4
  obtain ⟨hcu, hcap, hWb⟩ := hx
  obtain ⟨hsz, hfi, hst, hch⟩ := id hg
  have fk1 := hfi k0 (by omega)
  have fk2 := hfi (k0 + 1) (by omega)
  have ok1 : off R C cu (k0 + 1) = off R C cu k0 + (LvS R C cu k0).length := rfl
  have om1 : off R C cu (k0 + 1) ≤ off R C cu (nE R C + 1) := off_mono (by omega)
  show V k l D (tys3 cI cJ cZ) ({ frames := 0, cells := 0, slots := 0, locals := 0 } : Room) cX0_usefulAt 4 RX0 (wX cI cZ q R C dr sz sa cu fi st lo hi wa sw) 0 0 0 [(0, .ref (q 2)), (1, .int (nI (k0)))] []
  refine j_iconst (v := nI (0)) dX0_usefulAt_0 (by decide) ?_
  refine j_istore_n [(2, .int (nI (0))), (0, .ref (q 2)), (1, .int (nI (k0)))] dX0_usefulAt_1 rfl (by decide) rfl ?_
  refine j_aload_n dX0_usefulAt_2 rfl 1 rfl ?_
  refine gf_X0_21 2 rfl (rfl) dX0_usefulAt_3 ?_
  refine j_iload_n dX0_usefulAt_6 rfl 2 rfl ?_
  refine jn_iald (v := nI (fi k0)) 7 0 rfl rfl (by omega) (by omega) (rfl) dX0_usefulAt_7 ?_
  refine j_istore_n [(3, .int (nI (fi k0))), (2, .int (nI (0))), (0, .ref (q 2)), (1, .int (nI (k0)))] dX0_usefulAt_8 rfl (by decide) rfl ?_
  refine j_lv (lv' := [(3, .int (nI (off R C cu k0))), (2, .int (nI (0))), (0, .ref (q 2)), (1, .int (nI (k0)))]) (by rw [fk1]) ?_
  refine j_lv (lv' := [(3, .int (nI (off R C cu k0))), (2, .int (nI (usA R C cu k0 (off R C cu k0 - off R C cu k0)))), (0, .ref (q 2)), (1, .int (nI (k0)))]) (by rw [Nat.sub_self, usA_0]) ?_
  refine j_sub [2, 3, 1, 0] [(0, .ref (q 2)), (1, .int (nI (k0))), (2, .int (nI (usA R C cu k0 (off R C cu k0 - off R C cu k0)))), (3, .int (nI (off R C cu k0)))] rfl ?_
  have loop9 : ∀ (n : Nat) (i : Nat), (off R C cu (k0 + 1) < i + n) → (off R C cu k0 ≤ i) → (i ≤ off R C cu (k0 + 1)) → V k l D (tys3 cI cJ cZ) ({ frames := 0, cells := 0, slots := 0, locals := 0 } : Room) cX0_usefulAt 4 RX0 (wX cI cZ q R C dr sz sa cu fi st lo hi wa sw) 0 0 9 [(0, .ref (q 2)), (1, .int (nI (k0))), (2, .int (nI (usA R C cu k0 (i - off R C cu k0)))), (3, .int (nI (i)))] [] := by
    intro n
    induction n with
    | zero => intro i hm h1 h2; exfalso; omega
    | succ n ih9 =>
      intro i hm h1 h2
      refine j_iload_n dX0_usefulAt_9 rfl 3 rfl ?_
      refine j_aload_n dX0_usefulAt_10 rfl 0 rfl ?_
      refine gf_X0_21 2 rfl (rfl) dX0_usefulAt_11 ?_
      refine j_iload_n dX0_usefulAt_14 rfl 1 rfl ?_
      refine j_iconst (v := nI (1)) dX0_usefulAt_15 (by decide) ?_
      refine jn_iadd (v := k0 + 1) dX0_usefulAt_16 rfl ?_
      refine jn_iald (v := nI (fi (k0 + 1))) 7 0 rfl rfl (by omega) (by omega) (rfl) dX0_usefulAt_17 ?_
      refine jn_icmp_ge (tgt := 39) (a := i) (b := fi (k0 + 1)) (by omega) (by omega) dX0_usefulAt_18 (by decide) (fun c18 => ?_) (fun c18 => ?_)
      · refine j_iload_n dX0_usefulAt_39 rfl 2 rfl ?_
        exact j_iret (tys' := []) rfl hR dX0_usefulAt_40 (⟨by rw [show i = off R C cu (k0 + 1) by omega, show off R C cu (k0 + 1) - off R C cu k0 = (LvS R C cu k0).length from by rw [ok1, Nat.add_sub_cancel_left]], rfl⟩)
      · obtain ⟨j, s0, hi0, hs0⟩ := nd_at h1 (show i < off R C cu (k0 + 1) by omega)
        have w0 : wa i = WS R C cu 0 (nE R C - k0) k0 s0 := by rw [hi0]; exact hW k0 j s0 (Nat.zero_le _) hk0 hs0
        have w1 := hWb k0 hk0 s0 (mem_of_get hs0) 0
        have us := usA_s hs0
        have ij : i + 1 - off R C cu k0 = j + 1 := by omega
        have ij2 : i - off R C cu k0 = j := by omega
        refine j_aload_n dX0_usefulAt_21 rfl 0 rfl ?_
        refine gf_X0_37 2 rfl (rfl) dX0_usefulAt_22 ?_
        refine j_iload_n dX0_usefulAt_25 rfl 3 rfl ?_
        refine jn_iald (v := nI (wa i)) 11 0 rfl rfl (by omega) (by omega) (rfl) dX0_usefulAt_26 ?_
        refine jn_if_le (tgt := 33) (a := wa i) (by omega) dX0_usefulAt_27 (by decide) (fun c27 => ?_) (fun c27 => ?_)
        · refine j_lv (lv' := [(0, .ref (q 2)), (1, .int (nI (k0))), (2, .int (nI (usA R C cu k0 (i + 1 - off R C cu k0)))), (3, .int (nI (i)))]) (by rw [ij, ij2, us, if_neg (by omega), Nat.add_zero]) ?_
          refine j_iinc (n0 := 3) (v := nI (i + 1)) [(3, .int (nI (i + 1))), (0, .ref (q 2)), (1, .int (nI (k0))), (2, .int (nI (usA R C cu k0 (i + 1 - off R C cu k0))))] dX0_usefulAt_33 rfl (by exact nI_add (i) 1) (by decide) rfl ?_
          refine j_goto (tgt := 9) dX0_usefulAt_36 (by decide) ?_
          refine j_sub [1, 2, 3, 0] [(0, .ref (q 2)), (1, .int (nI (k0))), (2, .int (nI (usA R C cu k0 (i + 1 - off R C cu k0)))), (3, .int (nI (i + 1)))] rfl ?_
          exact ih9 (i + 1) (by omega) (by omega) (by omega)
        · refine j_iinc (n0 := 2) (v := nI (usA R C cu k0 (i - off R C cu k0) + 1)) [(2, .int (nI (usA R C cu k0 (i - off R C cu k0) + 1))), (0, .ref (q 2)), (1, .int (nI (k0))), (3, .int (nI (i)))] dX0_usefulAt_30 rfl (by exact nI_add (usA R C cu k0 (i - off R C cu k0)) 1) (by decide) rfl ?_
          refine j_lv (lv' := [(2, .int (nI (usA R C cu k0 (i + 1 - off R C cu k0)))), (0, .ref (q 2)), (1, .int (nI (k0))), (3, .int (nI (i)))]) (by rw [ij, ij2, us, if_pos (by omega)]) ?_
          refine j_iinc (n0 := 3) (v := nI (i + 1)) [(3, .int (nI (i + 1))), (2, .int (nI (usA R C cu k0 (i + 1 - off R C cu k0)))), (0, .ref (q 2)), (1, .int (nI (k0)))] dX0_usefulAt_33 rfl (by exact nI_add (i) 1) (by decide) rfl ?_
          refine j_goto (tgt := 9) dX0_usefulAt_36 (by decide) ?_
          refine j_sub [2, 3, 1, 0] [(0, .ref (q 2)), (1, .int (nI (k0))), (2, .int (nI (usA R C cu k0 (i + 1 - off R C cu k0)))), (3, .int (nI (i + 1)))] rfl ?_
          exact ih9 (i + 1) (by omega) (by omega) (by omega)
  exact loop9 (off R C cu (k0 + 1) + 2) (off R C cu k0) (by omega) (by omega) (by omega)

set_option maxHeartbeats 4000000 in
set_option maxRecDepth 100000 in
theorem c_solutionsWith (l : Launch) (hfl : l.flags = flags0) (D : va_G) (cI cJ cZ : ClassId) (q : Nat → Nat) (R C : Nat) (hG : GS R C) (dr sz : Nat) (sa : Bool) (cu fi st : Nat → Nat) (lo hi : Nat → Option Nat) (wa sw : Nat → Nat) (hx : XOK R C cu) (hg : Gr R C cu sz fi st lo hi) (wn : Nat) (hw : wn < 2 ^ 31) : Ct l yX0_solutionsWith cX0_solutionsWith 2 (Option.some FieldType.int) ({ frames := 2, cells := 0, slots := 0, locals := 46 } : Room) D (tys3 cI cJ cZ) (tys3 cI cJ cZ) (wX cI cZ q R C dr sz sa cu fi st lo hi wa sw) [.ref (q 2), .int (nI (wn))] (fun r u => r = some (.int (nI (WS R C cu wn (nE R C) 0 1672))) ∧ ∃ f : Nat → Nat, u = wX cI cZ q R C dr sz sa cu fi st lo hi wa f) 0 0 := by
  refine Ct.of hfl (by decide) (Nat.le_of_ble_eq_true rfl) ?_
  intro k hR _
  have hR4 := hG.2.1
  have hC3 := hG.2.2.2
  have hR1 := hG.1
  have hC1 := hG.2.2.1
  have hE := hG.E
  have hRC := hG.RC
  have hE4 := hG.E4
  show V k l D (tys3 cI cJ cZ) ({ frames := 2, cells := 0, slots := 0, locals := 46 } : Room) cX0_solutionsWith 2 RX0 (wX cI cZ q R C dr sz sa cu fi st lo hi wa sw) 0 0 0 [(0, .ref (q 2)), (1, .int (nI (wn)))] []
  refine j_aload_n dX0_solutionsWith_0 rfl 0 rfl ?_
  refine j_aload_n dX0_solutionsWith_1 rfl 0 rfl ?_
  refine gf_X0_40 2 rfl (rfl) dX0_solutionsWith_2 ?_
  refine j_iload_n dX0_solutionsWith_5 rfl 1 rfl ?_
  refine j_vW (av := [.ref (q 12), .int (nI (wn))]) (c_fillS l hfl D cI cJ cZ q R C hG dr sz sa cu fi st lo hi wa sw hx hg (wn) (hw)) 2 rfl rfl mw1_156 mw1_158 msel3 mw1_3 mw1_159 rfl hd_X0_fillWays rfl ⟨rfl, rfl⟩ ⟨Nat.le_of_ble_eq_true rfl, Nat.le_of_ble_eq_true rfl⟩ ⟨Nat.zero_le _, Nat.zero_le _⟩ (Nat.le_of_ble_eq_true rfl) rfl dX0_solutionsWith_6 ?_
  rintro _ _ ⟨rfl, f, hWf, rfl⟩
  refine j_st (st' := []) rfl ?_
  refine j_aload_n dX0_solutionsWith_9 rfl 0 rfl ?_
  refine gf_X0_40 2 rfl (rfl) dX0_solutionsWith_10 ?_
  refine j_iconst (v := nI (0)) dX0_solutionsWith_13 (by decide) ?_
  refine jn_iald (v := nI (f 0)) 12 0 rfl rfl (by omega) (by omega) (rfl) dX0_solutionsWith_14 ?_
  exact j_iret (tys' := []) rfl hR dX0_solutionsWith_15 (⟨by rw [show f 0 = WS R C cu wn (nE R C) 0 1672 from hWf 0 0 1672 (Nat.le_refl _) (Nat.zero_le _) (lv0 R C cu)], f, rfl⟩)

set_option maxHeartbeats 4000000 in
set_option maxRecDepth 100000 in
theorem c_solution0 (l : Launch) (hfl : l.flags = flags0) (D : va_G) (cI cJ cZ : ClassId) (q : Nat → Nat) (R C : Nat) (hG : GS R C) (dr sz : Nat) (sa : Bool) (cu fi st : Nat → Nat) (lo hi : Nat → Option Nat) (wa sw : Nat → Nat) (hx : XOK R C cu) (hg : Gr R C cu sz fi st lo hi) (hW : Wy R C cu 0 0 wa) (x : Int32) (hx0 : x < 0) : Ct l yX0_solution cX0_solution 7 (Option.some FieldType.int) ({ frames := 1, cells := 0, slots := 0, locals := 21 } : Room) D (tys3 cI cJ cZ) (tys3 cI cJ cZ) (wX cI cZ q R C dr sz sa cu fi st lo hi wa sw) [.ref (q 2), .int (x)] (fun r u => r = some (.int (nI (0))) ∧ u = wX cI cZ q R C dr sz sa cu fi st lo hi wa sw) 0 0 := by
  refine Ct.of hfl (by decide) (Nat.le_of_ble_eq_true rfl) ?_
  intro k hR _
  show V k l D (tys3 cI cJ cZ) ({ frames := 1, cells := 0, slots := 0, locals := 21 } : Room) cX0_solution 7 RX0 (wX cI cZ q R C dr sz sa cu fi st lo hi wa sw) 0 0 0 [(0, .ref (q 2)), (1, .int (x))] []
  refine j_iload_n dX0_solution_0 rfl 1 rfl ?_
  refine j_if_lt (tgt := 14) dX0_solution_1 (by decide) (fun c1 => ?_) (fun c1 => ?_)
  · refine j_iconst (v := nI (0)) dX0_solution_14 (by decide) ?_
    exact j_iret (tys' := []) rfl hR dX0_solution_15 (⟨rfl, rfl⟩)
  · exact absurd hx0 c1

set_option maxHeartbeats 4000000 in
set_option maxRecDepth 100000 in
theorem c_solution1 (l : Launch) (hfl : l.flags = flags0) (D : va_G) (cI cJ cZ : ClassId) (q : Nat → Nat) (R C : Nat) (hG : GS R C) (dr sz : Nat) (sa : Bool) (cu fi st : Nat → Nat) (lo hi : Nat → Option Nat) (wa sw : Nat → Nat) (hx : XOK R C cu) (hg : Gr R C cu sz fi st lo hi) (hW : Wy R C cu 0 0 wa) (x : Nat) (hx0 : x < 2 ^ 31) : Ct l yX0_solution cX0_solution 7 (Option.some FieldType.int) ({ frames := 1, cells := 0, slots := 0, locals := 21 } : Room) D (tys3 cI cJ cZ) (tys3 cI cJ cZ) (wX cI cZ q R C dr sz sa cu fi st lo hi wa sw) [.ref (q 2), .int (nI (x))] (fun r u => r = some (.int (nI (if x < WS R C cu 0 (nE R C) 0 1672 then solA R C cu (nE R C) 0 1672 x 0 else 0))) ∧ u = wX cI cZ q R C dr sz sa cu fi st lo hi wa sw) 0 0 := by
  refine Ct.of hfl (by decide) (Nat.le_of_ble_eq_true rfl) ?_
  intro k hR _
  have hR4 := hG.2.1
  have hC3 := hG.2.2.2
  have hR1 := hG.1
  have hC1 := hG.2.2.1
  have hE := hG.E
  have hRC := hG.RC
  have hE4 := hG.E4
  obtain ⟨hcu, hcap, hWb⟩ := hx
  obtain ⟨hsz, hfi, hst, hch⟩ := id hg
  have w00 : wa 0 = WS R C cu 0 (nE R C) 0 1672 := hW 0 0 1672 (Nat.le_refl _) (Nat.zero_le _) (lv0 R C cu)
  have wb0 := hWb 0 (Nat.zero_le _) 1672 (mem_of_get (lv0 R C cu)) 0
  rw [Nat.sub_zero] at wb0
  show V k l D (tys3 cI cJ cZ) ({ frames := 1, cells := 0, slots := 0, locals := 21 } : Room) cX0_solution 7 RX0 (wX cI cZ q R C dr sz sa cu fi st lo hi wa sw) 0 0 0 [(0, .ref (q 2)), (1, .int (nI (x)))] []
  refine j_iload_n dX0_solution_0 rfl 1 rfl ?_
  refine jn_if_lt (tgt := 14) (a := x) (by omega) dX0_solution_1 (by decide) (fun c1 => ?_) (fun c1 => ?_)
  · exact absurd c1 (by simp)
  · refine j_iload_n dX0_solution_4 rfl 1 rfl ?_
    refine j_aload_n dX0_solution_5 rfl 0 rfl ?_
    refine gf_X0_37 2 rfl (rfl) dX0_solution_6 ?_
    refine j_iconst (v := nI (0)) dX0_solution_9 (by decide) ?_
    refine jn_iald (v := nI (wa 0)) 11 0 rfl rfl (by omega) (by omega) (rfl) dX0_solution_10 ?_
    refine jn_icmp_lt (tgt := 16) (a := x) (b := wa 0) (by omega) (by omega) dX0_solution_11 (by decide) (fun c11 => ?_) (fun c11 => ?_)
    · refine j_iconst (v := nI (0)) dX0_solution_16 (by decide) ?_
      refine j_istore_n [(2, .int (nI (0))), (0, .ref (q 2)), (1, .int (nI (x)))] dX0_solution_17 rfl (by decide) rfl ?_
      refine j_iload_n dX0_solution_18 rfl 2 rfl ?_
      refine j_istore_n [(3, .int (nI (x))), (2, .int (nI (0))), (0, .ref (q 2)), (1, .int (nI (x)))] dX0_solution_19 rfl (by decide) rfl ?_
      refine j_iconst (v := nI (0)) dX0_solution_20 (by decide) ?_
      refine j_istore [(4, .int (nI (0))), (3, .int (nI (x))), (2, .int (nI (0))), (0, .ref (q 2)), (1, .int (nI (x)))] dX0_solution_21 (by decide) rfl ?_
      refine j_iconst (v := nI (0)) dX0_solution_23 (by decide) ?_
      refine j_istore [(5, .int (nI (0))), (4, .int (nI (0))), (3, .int (nI (x))), (2, .int (nI (0))), (0, .ref (q 2)), (1, .int (nI (x)))] dX0_solution_24 (by decide) rfl ?_
      refine j_lv (lv' := [(5, .int (nI (0))), (4, .int (nI (off R C cu 0 + 0))), (3, .int (nI (x))), (2, .int (nI (0))), (0, .ref (q 2)), (1, .int (nI (x)))]) (by rfl) ?_
      have hlt0 : x < WS R C cu 0 (nE R C) 0 1672 := by omega
      refine j_sub [4, 5, 3, 2, 1, 0] [(0, .ref (q 2)), (1, .int (nI (x))), (2, .int (nI (0))), (3, .int (nI (x))), (4, .int (nI (off R C cu 0 + 0))), (5, .int (nI (0)))] rfl ?_
      have loop26 : ∀ (n : Nat) (e i s le ac : Nat), (nE R C < e + n) → (e ≤ nE R C) → ((LvS R C cu e)[i]? = some s) → (le < WS R C cu 0 (nE R C - e) e s) → (solA R C cu (nE R C - e) e s le ac = solA R C cu (nE R C) 0 1672 x 0) → V k l D (tys3 cI cJ cZ) ({ frames := 1, cells := 0, slots := 0, locals := 21 } : Room) cX0_solution 7 RX0 (wX cI cZ q R C dr sz sa cu fi st lo hi wa sw) 0 0 26 [(0, .ref (q 2)), (1, .int (nI (x))), (2, .int (nI (ac))), (3, .int (nI (le))), (4, .int (nI (off R C cu e + i))), (5, .int (nI (e)))] [] := by
        intro n
        induction n with
        | zero => intro e i s le ac hm he hs hle hso; exfalso; omega
        | succ n ih26 =>
          intro e i s le ac hm he hs hle hso
          refine j_iload dX0_solution_26 5 rfl ?_
          refine j_aload_n dX0_solution_28 rfl 0 rfl ?_
          refine gf_X0_9 2 rfl (rfl) dX0_solution_29 ?_
          refine gf_X0_15 1 rfl (rfl) dX0_solution_32 ?_
          refine jn_icmp_ge (tgt := 105) (a := e) (b := nE R C) (by omega) (by omega) dX0_solution_35 (by decide) (fun c35 => ?_) (fun c35 => ?_)
          · refine j_iload_n dX0_solution_105 rfl 2 rfl ?_
            exact j_iret (tys' := []) rfl hR dX0_solution_106 (⟨by rw [if_pos hlt0, ← hso, show nE R C - e = 0 by omega]; rfl, rfl⟩)
          · have nb := nd_lt hs
            have om1 : off R C cu (e + 1) ≤ off R C cu (nE R C + 1) := off_mono (by omega)
            refine j_iload dX0_solution_38 4 rfl ?_
            refine j_iconst (v := (-1)) dX0_solution_40 (by decide) ?_
            refine j_icmp_eq (tgt := 105) dX0_solution_41 (by decide) (fun c41 => ?_) (fun c41 => ?_)
            · exact absurd c41 (nI_m1 (by omega))
            · obtain ⟨n1, hn1⟩ : ∃ n1, nE R C - e = n1 + 1 := ⟨nE R C - e - 1, by omega⟩
              have hn2 : nE R C - (e + 1) = n1 := by omega
              obtain ⟨hl, hh⟩ := hch e i s (by omega) hs
              have hlb : ∀ i2, lo (off R C cu e + i) = some i2 → i2 < 1014 := fun i2 h => Nat.lt_of_lt_of_le (ch_lt hl (by omega) h) hcap
              have wl : oW wa (lo (off R C cu e + i)) = oW (WS R C cu 0 n1 (e + 1)) (stepF R C cu s e false) := ch_oW hl (fun i2 s2 h => by rw [hW (e + 1) i2 s2 (Nat.zero_le _) (by omega) h, hn2])
              have wb1 := hWb e (by omega) s (mem_of_get hs) 0
              rw [hn1] at hle hso wb1
              simp only [WS, Nat.zero_testBit, Bool.false_eq_true, if_false] at hle wb1
              refine j_aload_n dX0_solution_44 rfl 0 rfl ?_
              refine gf_X0_37 2 rfl (rfl) dX0_solution_45 ?_
              refine j_aload_n dX0_solution_48 rfl 0 rfl ?_
              refine gf_X0_31 2 rfl (rfl) dX0_solution_49 ?_
              refine j_iload dX0_solution_52 4 rfl ?_
              refine jn_iald (v := oI (lo (off R C cu e + i))) 9 0 rfl rfl (by omega) (by omega) (rfl) dX0_solution_54 ?_
              refine j_sW (av := [.ref (q 11), .int (oI (lo (off R C cu e + i)))]) (c_waysOf l hfl D (tys3 cI cJ cZ) (wX cI cZ q R C dr sz sa cu fi st lo hi wa sw) 11 (q 11) cI wa rfl rfl (lo (off R C cu e + i)) (hlb)) mw1_163 mw1_164 mw1_3 mw1_165 hd_X0_waysOf rfl ⟨rfl, rfl⟩ ⟨Nat.le_of_ble_eq_true rfl, Nat.le_of_ble_eq_true rfl⟩ ⟨Nat.zero_le _, Nat.zero_le _⟩ (Nat.le_of_ble_eq_true rfl) rfl dX0_solution_55 ?_
              rintro _ _ ⟨rfl, rfl⟩
              refine j_st (st' := [.int (nI (oW wa (lo (off R C cu e + i))))]) rfl ?_
              refine j_topi (y := nI (oW wa (lo (off R C cu e + i)))) (rfl) ?_
              refine j_istore [(6, .int (nI (oW wa (lo (off R C cu e + i))))), (0, .ref (q 2)), (1, .int (nI (x))), (2, .int (nI (ac))), (3, .int (nI (le))), (4, .int (nI (off R C cu e + i))), (5, .int (nI (e)))] dX0_solution_58 (by decide) rfl ?_
              refine j_iload_n dX0_solution_60 rfl 4 rfl ?_
              refine j_iload dX0_solution_61 0 rfl ?_
              refine jn_icmp_ge (tgt := 78) (a := le) (b := oW wa (lo (off R C cu e + i))) (by omega) (by omega) dX0_solution_63 (by decide) (fun c63 => ?_) (fun c63 => ?_)
              · rw [wl] at c63
                have hlt0 : le - oW (WS R C cu 0 n1 (e + 1)) (stepF R C cu s e false) < oW (WS R C cu 0 n1 (e + 1)) (stepF R C cu s e true) := by omega
                obtain ⟨t, ht, hlt⟩ := oW_pos hlt0
                obtain ⟨j, hj1, hj2⟩ := ch_some hh ht
                have hs1 : solA R C cu n1 (e + 1) t (le - oW (WS R C cu 0 n1 (e + 1)) (stepF R C cu s e false)) (ac ||| 2 ^ e) = solA R C cu (nE R C) 0 1672 x 0 := by rw [← hso]; simp only [solA]; rw [if_neg (by omega), ht]; rfl
                refine j_iload_n dX0_solution_78 rfl 4 rfl ?_
                refine j_iload dX0_solution_79 0 rfl ?_
                refine jn_isub dX0_solution_81 (by rw [wl]; omega) rfl ?_
                refine j_topi (y := nI (le - oW (WS R C cu 0 n1 (e + 1)) (stepF R C cu s e false))) (by rw [wl]) ?_
                refine j_istore_n [(3, .int (nI (le - oW (WS R C cu 0 n1 (e + 1)) (stepF R C cu s e false)))), (6, .int (nI (oW wa (lo (off R C cu e + i))))), (0, .ref (q 2)), (1, .int (nI (x))), (2, .int (nI (ac))), (4, .int (nI (off R C cu e + i))), (5, .int (nI (e)))] dX0_solution_82 rfl (by decide) rfl ?_
                refine j_iload_n dX0_solution_83 rfl 4 rfl ?_
                refine j_iconst (v := nI (1)) dX0_solution_84 (by decide) ?_
                refine j_iload dX0_solution_85 6 rfl ?_
                refine j_ishl dX0_solution_87 rfl ?_
                refine j_ior dX0_solution_88 rfl ?_
                refine j_topi (y := nI (ac ||| 2 ^ e)) (or_bit (by omega)) ?_
                refine j_istore_n [(2, .int (nI (ac ||| 2 ^ e))), (3, .int (nI (le - oW (WS R C cu 0 n1 (e + 1)) (stepF R C cu s e false)))), (6, .int (nI (oW wa (lo (off R C cu e + i))))), (0, .ref (q 2)), (1, .int (nI (x))), (4, .int (nI (off R C cu e + i))), (5, .int (nI (e)))] dX0_solution_89 rfl (by decide) rfl ?_
                refine j_aload_n dX0_solution_90 rfl 3 rfl ?_
                refine gf_X0_34 2 rfl (rfl) dX0_solution_91 ?_
                refine j_iload dX0_solution_94 5 rfl ?_
                refine jn_iald (v := oI (hi (off R C cu e + i))) 10 0 rfl rfl (by omega) (by omega) (rfl) dX0_solution_96 ?_
                refine j_topi (y := nI (off R C cu (e + 1) + j)) (oI_some hj1) ?_
                refine j_istore [(4, .int (nI (off R C cu (e + 1) + j))), (2, .int (nI (ac ||| 2 ^ e))), (3, .int (nI (le - oW (WS R C cu 0 n1 (e + 1)) (stepF R C cu s e false)))), (6, .int (nI (oW wa (lo (off R C cu e + i))))), (0, .ref (q 2)), (1, .int (nI (x))), (5, .int (nI (e)))] dX0_solution_97 (by decide) rfl ?_
                refine j_iinc (n0 := 6) (v := nI (e + 1)) [(5, .int (nI (e + 1))), (4, .int (nI (off R C cu (e + 1) + j))), (2, .int (nI (ac ||| 2 ^ e))), (3, .int (nI (le - oW (WS R C cu 0 n1 (e + 1)) (stepF R C cu s e false)))), (6, .int (nI (oW wa (lo (off R C cu e + i))))), (0, .ref (q 2)), (1, .int (nI (x)))] dX0_solution_99 rfl (by exact nI_add (e) 1) (by decide) rfl ?_
                refine j_goto (tgt := 26) dX0_solution_102 (by decide) ?_
                refine j_sub [5, 6, 2, 3, 1, 0] [(0, .ref (q 2)), (1, .int (nI (x))), (2, .int (nI (ac ||| 2 ^ e))), (3, .int (nI (le - oW (WS R C cu 0 n1 (e + 1)) (stepF R C cu s e false)))), (4, .int (nI (off R C cu (e + 1) + j))), (5, .int (nI (e + 1)))] rfl ?_
                exact ih26 (e + 1) j t (le - oW (WS R C cu 0 n1 (e + 1)) (stepF R C cu s e false)) (ac ||| 2 ^ e) (by omega) (by omega) hj2 (by rw [hn2]; exact hlt) (by rw [hn2]; exact hs1)
              · rw [wl] at c63
                obtain ⟨t, ht, hlt⟩ := oW_pos c63
                obtain ⟨j, hj1, hj2⟩ := ch_some hl ht
                have hs1 : solA R C cu n1 (e + 1) t le ac = solA R C cu (nE R C) 0 1672 x 0 := by rw [← hso]; simp only [solA]; rw [if_pos c63, ht]; rfl
                refine j_aload_n dX0_solution_66 rfl 1 rfl ?_
                refine gf_X0_31 2 rfl (rfl) dX0_solution_67 ?_
                refine j_iload dX0_solution_70 5 rfl ?_
                refine jn_iald (v := oI (lo (off R C cu e + i))) 9 0 rfl rfl (by omega) (by omega) (rfl) dX0_solution_72 ?_
                refine j_topi (y := nI (off R C cu (e + 1) + j)) (oI_some hj1) ?_
                refine j_istore [(4, .int (nI (off R C cu (e + 1) + j))), (6, .int (nI (oW wa (lo (off R C cu e + i))))), (0, .ref (q 2)), (1, .int (nI (x))), (2, .int (nI (ac))), (3, .int (nI (le))), (5, .int (nI (e)))] dX0_solution_73 (by decide) rfl ?_
                refine j_goto (tgt := 99) dX0_solution_75 (by decide) ?_
                refine j_iinc (n0 := 6) (v := nI (e + 1)) [(5, .int (nI (e + 1))), (4, .int (nI (off R C cu (e + 1) + j))), (6, .int (nI (oW wa (lo (off R C cu e + i))))), (0, .ref (q 2)), (1, .int (nI (x))), (2, .int (nI (ac))), (3, .int (nI (le)))] dX0_solution_99 rfl (by exact nI_add (e) 1) (by decide) rfl ?_
                refine j_goto (tgt := 26) dX0_solution_102 (by decide) ?_
                refine j_sub [3, 4, 5, 6, 1, 0] [(0, .ref (q 2)), (1, .int (nI (x))), (2, .int (nI (ac))), (3, .int (nI (le))), (4, .int (nI (off R C cu (e + 1) + j))), (5, .int (nI (e + 1)))] rfl ?_
                exact ih26 (e + 1) j t (le) (ac) (by omega) (by omega) hj2 (by rw [hn2]; exact hlt) (by rw [hn2]; exact hs1)
      exact loop26 (nE R C + 2) 0 0 1672 x 0 (by omega) (by omega) (lv0 R C cu) hlt0 rfl
    · refine j_iconst (v := nI (0)) dX0_solution_14 (by decide) ?_
      exact j_iret (tys' := []) rfl hR dX0_solution_15 (⟨by rw [if_neg (by omega)], rfl⟩)

def solI (R C : Nat) (cu : Nat → Nat) (x : Int32) : Nat := if x < 0 then 0 else if x.toNatClampNeg < WS R C cu 0 (nE R C) 0 1672 then solA R C cu (nE R C) 0 1672 x.toNatClampNeg 0 else 0
theorem c_solution (l : Launch) (hfl : l.flags = flags0) (D : va_G) (cI cJ cZ : ClassId) (q : Nat → Nat) (R C : Nat) (hG : GS R C) (dr sz : Nat) (sa : Bool) (cu fi st : Nat → Nat) (lo hi : Nat → Option Nat) (wa sw : Nat → Nat) (hx : XOK R C cu) (hg : Gr R C cu sz fi st lo hi) (hW : Wy R C cu 0 0 wa) (x : Int32) : Ct l yX0_solution cX0_solution 7 (Option.some FieldType.int) ({ frames := 1, cells := 0, slots := 0, locals := 21 } : Room) D (tys3 cI cJ cZ) (tys3 cI cJ cZ) (wX cI cZ q R C dr sz sa cu fi st lo hi wa sw) [.ref (q 2), .int x] (fun r u => r = some (.int (nI (solI R C cu x))) ∧ u = wX cI cZ q R C dr sz sa cu fi st lo hi wa sw) 0 0 := by
  by_cases h : x < 0
  · have e : solI R C cu x = 0 := if_pos h
    rw [e]
    exact c_solution0 l hfl D cI cJ cZ q R C hG dr sz sa cu fi st lo hi wa sw hx hg hW x h
  · obtain ⟨n, hn, rfl⟩ := nI_of h
    have e : solI R C cu (nI n) = if n < WS R C cu 0 (nE R C) 0 1672 then solA R C cu (nE R C) 0 1672 n 0 else 0 := by
      unfold solI; rw [if_neg h, nI_clamp hn]
    rw [e]
    exact c_solution1 l hfl D cI cJ cZ q R C hG dr sz sa cu fi st lo hi wa sw hx hg hW n hn
